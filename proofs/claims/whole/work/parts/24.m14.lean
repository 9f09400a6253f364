/-! ChestnutSticks$Tree.ballCount()I -/
def md_E_ballCount : md_T := (yX9_ballCount, cX9_ballCount, 3, (some .int), 2, 42)
set_option maxRecDepth 100000 in
theorem ok_E_ballCount : m_ok md_E_ballCount := ⟨List.mem_of_getElem? (i := 842) (by decide +kernel), by decide +kernel, List.mem_of_getElem? (i := 54) (by decide +kernel), by decide +kernel⟩
theorem mv_E_ballCount : Cond.instanceMethod (m_y md_E_ballCount) ∈ lw_tbl ∧ Cond.selects (m_y md_E_ballCount).cls (m_y md_E_ballCount) (m_y md_E_ballCount) ∈ lw_tbl := ⟨List.mem_of_getElem? (i := 840) (by decide +kernel), List.mem_of_getElem? (i := 841) (by decide +kernel)⟩
def f_E_ballCount_4 (N : Nat) (a : aT) : Nat → Int32 → Int32 → Option Int32
  | 0 => fun _ _ => none
  | n + 1 => fun x1 x2 =>
    if 48 ≤ x2 then
      some x1
    else
      (f_E_hasBall x2 a).bind fun q1 =>
        if q1 = 0 then
          f_E_ballCount_4 N a n (x1 + 0) (x2 + 1)
        else
          f_E_ballCount_4 N a n (x1 + 1) (x2 + 1)
def f_E_ballCount (N : Nat) (a : aT) : Option Int32 :=
  f_E_ballCount_4 N a N 0 0
set_option maxHeartbeats 4000000 in
set_option maxRecDepth 100000 in
theorem x_E_ballCount_4 (E : eT) (N : Nat) (a : aT) : ∀ (n : Nat) (x1 : Int32) (x2 : Int32), XP qI E md_E_ballCount 4 [.ref 1, .int x1, .int x2] [] a (f_E_ballCount_4 N a n x1 x2)
  | 0, _, _ => XP_no rfl
  | n + 1, x1, x2 => by
    refine XP_br (c := 48 ≤ x2) (t := 32) (e := 10) (ls' := [.ref 1, .int x1, .int x2]) (st' := []) (a' := a) [(.iload_n 2, 1, 2, .null), (.bipush 48, 2, 0, .int 48), (.if_icmp .ge 25, 3, 32, .null)] (by decide +kernel) rfl ?_ ?_
    · refine XP_go (pc' := 33) (ls' := [.ref 1, .int x1, .int x2]) (st' := [.int x1]) (a' := a) [(.iload_n 1, 1, 1, .null)] (by decide +kernel) rfl ?_
      exact XP_retI (by decide +kernel)
    · refine XP_go (pc' := 13) (ls' := [.ref 1, .int x1, .int x2]) (st' := [.int x2, .ref 1, .int x1]) (a' := a) [(.iload_n 1, 1, 1, .null), (.aload_n 0, 1, 0, .null), (.iload_n 2, 1, 2, .null)] (by decide +kernel) rfl ?_
      refine XP_VP (As := [.int x2]) (rest := [.int x1]) (b := 1) (idx := 45) (by decide +kernel) ok_E_hasBall mv_E_hasBall (n := 1) ⟨lk_E_45, by decide +kernel⟩ rfl rfl rfl rfl (Nat.le_of_ble_eq_true rfl) (Nat.le_of_ble_eq_true rfl) (qZ_h rfl) (x_E_hasBall E x2 a) (fun q1 => ?_)
      refine XP_br (c := q1 = 0) (t := 23) (e := 19) (ls' := [.ref 1, .int x1, .int x2]) (st' := [.int x1]) (a' := a) [(.ifCond .eq 7, 3, 23, .null)] (by decide +kernel) rfl ?_ ?_
      · refine XP_go (pc' := 4) (ls' := [.ref 1, .int (x1 + 0), .int (x2 + 1)]) (st' := []) (a' := a) [(.iconst 0, 1, 0, .int 0), (.iadd, 1, 0, .null), (.istore_n 1, 1, 1, .null), (.iinc 2 1, 3, 2, .int 1), (.goto (-25), 3, 4, .null)] (by decide +kernel) rfl ?_
        refine XP_fg [true, true, true] ?_
        exact x_E_ballCount_4 E N a n (x1 + 0) (x2 + 1)
      · refine XP_go (pc' := 4) (ls' := [.ref 1, .int (x1 + 1), .int (x2 + 1)]) (st' := []) (a' := a) [(.iconst 1, 1, 0, .int 1), (.goto 4, 3, 24, .null), (.iadd, 1, 0, .null), (.istore_n 1, 1, 1, .null), (.iinc 2 1, 3, 2, .int 1), (.goto (-25), 3, 4, .null)] (by decide +kernel) rfl ?_
        refine XP_fg [true, true, true] ?_
        exact x_E_ballCount_4 E N a n (x1 + 1) (x2 + 1)
set_option maxHeartbeats 4000000 in
set_option maxRecDepth 100000 in
theorem x_E_ballCount (E : eT) (N : Nat) (a : aT) : XP qI E md_E_ballCount 0 [.ref 1, .null, .null] [] a (f_E_ballCount N a) := by
  refine XP_go (pc' := 4) (ls' := [.ref 1, .int 0, .int 0]) (st' := []) (a' := a) [(.iconst 0, 1, 0, .int 0), (.istore_n 1, 1, 1, .null), (.iconst 0, 1, 0, .int 0), (.istore_n 2, 1, 2, .null)] (by decide +kernel) rfl ?_
  refine XP_fg [true, true, true] ?_
  exact x_E_ballCount_4 E N a N 0 0
/-! ChestnutSticks$Tree.textLength()I -/
def md_E_textLength : md_T := (yX9_textLength, cX9_textLength, 1, (some .int), 0, 0)
set_option maxRecDepth 100000 in
theorem ok_E_textLength : m_ok md_E_textLength := ⟨List.mem_of_getElem? (i := 846) (by decide +kernel), by decide +kernel, List.mem_of_getElem? (i := 54) (by decide +kernel), by decide +kernel⟩
theorem mv_E_textLength : Cond.instanceMethod (m_y md_E_textLength) ∈ lw_tbl ∧ Cond.selects (m_y md_E_textLength).cls (m_y md_E_textLength) (m_y md_E_textLength) ∈ lw_tbl := ⟨List.mem_of_getElem? (i := 844) (by decide +kernel), List.mem_of_getElem? (i := 845) (by decide +kernel)⟩
def f_E_textLength (a : aT) : Int32 :=
  (a 1 2)
set_option maxHeartbeats 4000000 in
set_option maxRecDepth 100000 in
theorem x_E_textLength (E : eT) (a : aT) : XT qI E md_E_textLength 0 [.ref 1] [] a (f_E_textLength a) := by
  refine XT_go (pc' := 4) (ls' := [.ref 1]) (st' := [.int (a 1 2)]) (a' := a) [(.aload_n 0, 1, 0, .null), (.getfield 18, 3, 902, .null)] (by decide +kernel) rfl ?_
  exact XT_retI (by decide +kernel)
/-! ChestnutSticks$Play.doneCount()I -/
def md_P_doneCount : md_T := (yX1_doneCount, cX1_doneCount, 1, (some .int), 0, 0)
set_option maxRecDepth 100000 in
theorem ok_P_doneCount : m_ok md_P_doneCount := ⟨List.mem_of_getElem? (i := 850) (by decide +kernel), by decide +kernel, List.mem_of_getElem? (i := 59) (by decide +kernel), by decide +kernel⟩
theorem mv_P_doneCount : Cond.instanceMethod (m_y md_P_doneCount) ∈ lw_tbl ∧ Cond.selects (m_y md_P_doneCount).cls (m_y md_P_doneCount) (m_y md_P_doneCount) ∈ lw_tbl := ⟨List.mem_of_getElem? (i := 848) (by decide +kernel), List.mem_of_getElem? (i := 849) (by decide +kernel)⟩
def f_P_doneCount (a : aT) : Int32 :=
  (a 14 12)
set_option maxHeartbeats 4000000 in
set_option maxRecDepth 100000 in
theorem x_P_doneCount (E : eT) (a : aT) : XT qI E md_P_doneCount 0 [.ref 14] [] a (f_P_doneCount a) := by
  refine XT_go (pc' := 4) (ls' := [.ref 14]) (st' := [.int (a 14 12)]) (a' := a) [(.aload_n 0, 1, 0, .null), (.getfield 34, 3, 112, .null)] (by decide +kernel) rfl ?_
  exact XT_retI (by decide +kernel)
/-! ChestnutSticks$Throwers.size()I -/
def md_W_size : md_T := (yX7_size, cX7_size, 1, (some .int), 0, 0)
set_option maxRecDepth 100000 in
theorem ok_W_size : m_ok md_W_size := ⟨List.mem_of_getElem? (i := 854) (by decide +kernel), by decide +kernel, List.mem_of_getElem? (i := 61) (by decide +kernel), by decide +kernel⟩
theorem mv_W_size : Cond.instanceMethod (m_y md_W_size) ∈ lw_tbl ∧ Cond.selects (m_y md_W_size).cls (m_y md_W_size) (m_y md_W_size) ∈ lw_tbl := ⟨List.mem_of_getElem? (i := 852) (by decide +kernel), List.mem_of_getElem? (i := 853) (by decide +kernel)⟩
def f_W_size (a : aT) : Int32 :=
  (a 21 2)
set_option maxHeartbeats 4000000 in
set_option maxRecDepth 100000 in
theorem x_W_size (E : eT) (a : aT) : XT qI E md_W_size 0 [.ref 21] [] a (f_W_size a) := by
  refine XT_go (pc' := 4) (ls' := [.ref 21]) (st' := [.int (a 21 2)]) (a' := a) [(.aload_n 0, 1, 0, .null), (.getfield 18, 3, 702, .null)] (by decide +kernel) rfl ?_
  exact XT_retI (by decide +kernel)
/-! ChestnutSticks$Sightings.size()I -/
def md_G_size : md_T := (yX5_size, cX5_size, 1, (some .int), 0, 0)
set_option maxRecDepth 100000 in
theorem ok_G_size : m_ok md_G_size := ⟨List.mem_of_getElem? (i := 858) (by decide +kernel), by decide +kernel, List.mem_of_getElem? (i := 62) (by decide +kernel), by decide +kernel⟩
theorem mv_G_size : Cond.instanceMethod (m_y md_G_size) ∈ lw_tbl ∧ Cond.selects (m_y md_G_size).cls (m_y md_G_size) (m_y md_G_size) ∈ lw_tbl := ⟨List.mem_of_getElem? (i := 856) (by decide +kernel), List.mem_of_getElem? (i := 857) (by decide +kernel)⟩
def f_G_size (a : aT) : Int32 :=
  (a 24 2)
set_option maxHeartbeats 4000000 in
set_option maxRecDepth 100000 in
theorem x_G_size (E : eT) (a : aT) : XT qI E md_G_size 0 [.ref 24] [] a (f_G_size a) := by
  refine XT_go (pc' := 4) (ls' := [.ref 24]) (st' := [.int (a 24 2)]) (a' := a) [(.aload_n 0, 1, 0, .null), (.getfield 18, 3, 502, .null)] (by decide +kernel) rfl ?_
  exact XT_retI (by decide +kernel)
/-! ChestnutSticks$Sheets.latestFinding()I -/
def md_H_latestFinding : md_T := (yX4_latestFinding, cX4_latestFinding, 1, (some .int), 0, 0)
set_option maxRecDepth 100000 in
theorem ok_H_latestFinding : m_ok md_H_latestFinding := ⟨List.mem_of_getElem? (i := 862) (by decide +kernel), by decide +kernel, List.mem_of_getElem? (i := 63) (by decide +kernel), by decide +kernel⟩
theorem mv_H_latestFinding : Cond.instanceMethod (m_y md_H_latestFinding) ∈ lw_tbl ∧ Cond.selects (m_y md_H_latestFinding).cls (m_y md_H_latestFinding) (m_y md_H_latestFinding) ∈ lw_tbl := ⟨List.mem_of_getElem? (i := 860) (by decide +kernel), List.mem_of_getElem? (i := 861) (by decide +kernel)⟩
def f_H_latestFinding (a : aT) : Int32 :=
  (a 27 3)
set_option maxHeartbeats 4000000 in
set_option maxRecDepth 100000 in
theorem x_H_latestFinding (E : eT) (a : aT) : XT qI E md_H_latestFinding 0 [.ref 27] [] a (f_H_latestFinding a) := by
  refine XT_go (pc' := 4) (ls' := [.ref 27]) (st' := [.int (a 27 3)]) (a' := a) [(.aload_n 0, 1, 0, .null), (.getfield 21, 3, 403, .null)] (by decide +kernel) rfl ?_
  exact XT_retI (by decide +kernel)
/-! ChestnutSticks.count(I)I -/
def md_C_count : md_T := (yX10_count, cX10_count, 2, (some .int), 6, 142)
set_option maxRecDepth 100000 in
theorem ok_C_count : m_ok md_C_count := ⟨List.mem_of_getElem? (i := 833) (by decide +kernel), by decide +kernel, List.mem_of_getElem? (i := 53) (by decide +kernel), by decide +kernel⟩
theorem mv_C_count : Cond.instanceMethod (m_y md_C_count) ∈ lw_tbl ∧ Cond.selects (m_y md_C_count).cls (m_y md_C_count) (m_y md_C_count) ∈ lw_tbl := ⟨List.mem_of_getElem? (i := 831) (by decide +kernel), List.mem_of_getElem? (i := 832) (by decide +kernel)⟩
def f_C_count (N : Nat) (p1 : Int32) (a : aT) : Option (Int32 × aT) :=
  if p1 = 0 then
    (f_E_cellCount N a).bind fun q1 =>
      some (q1, a)
  else if p1 = 1 then
    (f_E_ballCount N a).bind fun q2 =>
      some (q2, a)
  else if p1 = 2 then
    some ((f_E_textLength a), a)
  else if p1 = 3 then
    some ((f_O_size a), a)
  else if p1 = 4 then
    (f_P_replayAll N a).bind fun q5 =>
      some ((f_P_doneCount q5.2), q5.2)
  else if p1 = 5 then
    some ((f_W_size a), a)
  else if p1 = 6 then
    some ((f_G_size a), a)
  else if p1 = 7 then
    (f_R_now 1 a).bind fun q9 =>
      some (q9, a)
  else if p1 = 8 then
    some ((f_H_latestFinding a), a)
  else 
    some ((-2), a)
set_option maxHeartbeats 4000000 in
set_option maxRecDepth 100000 in
theorem x_C_count (E : eT) (N : Nat) (p1 : Int32) (a : aT) : XI qI E md_C_count 0 [.ref 0, .int p1] [] a (f_C_count N p1 a) := by
  refine XI_go (pc' := 1) (ls' := [.ref 0, .int p1]) (st' := [.int p1]) (a' := a) [(.iload_n 1, 1, 1, .null)] (by decide +kernel) rfl ?_
  refine XI_if (c := p1 = 0) (fun w0 => ?_) (fun w0 => ?_)
  · refine XI_tabIn (dflt := 131) (lo := 0) (hi := 8) (offs := #[51, 59, 67, 75, 83, 98, 106, 114, 123]) (len := 51) (off := 51) (tgt := 52) (x0 := 0) w0 (by decide +kernel) (by decide +kernel) (by decide +kernel) (by decide +kernel) (by decide) ?_
    refine XI_go (pc' := 56) (ls' := [.ref 0, .int p1]) (st' := [.ref 1]) (a' := a) [(.aload_n 0, 1, 0, .null), (.getfield 10, 3, 1000, .null)] (by decide +kernel) rfl ?_
    refine XI_VP (As := []) (rest := []) (b := 1) (idx := 263) (by decide +kernel) ok_E_cellCount mv_E_cellCount (n := 0) ⟨lk_C_263, by decide +kernel⟩ rfl rfl rfl rfl (Nat.le_of_ble_eq_true rfl) (Nat.le_of_ble_eq_true rfl) (qI_h rfl) (x_E_cellCount E N a) (fun q1 => ?_)
    exact XI_retI (by decide +kernel)
  refine XI_if (c := p1 = 1) (fun w1 => ?_) (fun w1 => ?_)
  · refine XI_tabIn (dflt := 131) (lo := 0) (hi := 8) (offs := #[51, 59, 67, 75, 83, 98, 106, 114, 123]) (len := 51) (off := 59) (tgt := 60) (x0 := 1) w1 (by decide +kernel) (by decide +kernel) (by decide +kernel) (by decide +kernel) (by decide) ?_
    refine XI_go (pc' := 64) (ls' := [.ref 0, .int p1]) (st' := [.ref 1]) (a' := a) [(.aload_n 0, 1, 0, .null), (.getfield 10, 3, 1000, .null)] (by decide +kernel) rfl ?_
    refine XI_VP (As := []) (rest := []) (b := 1) (idx := 266) (by decide +kernel) ok_E_ballCount mv_E_ballCount (n := 0) ⟨lk_C_266, by decide +kernel⟩ rfl rfl rfl rfl (Nat.le_of_ble_eq_true rfl) (Nat.le_of_ble_eq_true rfl) (qI_h rfl) (x_E_ballCount E N a) (fun q2 => ?_)
    exact XI_retI (by decide +kernel)
  refine XI_if (c := p1 = 2) (fun w2 => ?_) (fun w2 => ?_)
  · refine XI_tabIn (dflt := 131) (lo := 0) (hi := 8) (offs := #[51, 59, 67, 75, 83, 98, 106, 114, 123]) (len := 51) (off := 67) (tgt := 68) (x0 := 2) w2 (by decide +kernel) (by decide +kernel) (by decide +kernel) (by decide +kernel) (by decide) ?_
    refine XI_go (pc' := 72) (ls' := [.ref 0, .int p1]) (st' := [.ref 1]) (a' := a) [(.aload_n 0, 1, 0, .null), (.getfield 10, 3, 1000, .null)] (by decide +kernel) rfl ?_
    refine XI_VT (As := []) (rest := []) (b := 1) (idx := 269) (by decide +kernel) ok_E_textLength mv_E_textLength (n := 0) ⟨lk_C_269, by decide +kernel⟩ rfl rfl rfl rfl (Nat.le_of_ble_eq_true rfl) (Nat.le_of_ble_eq_true rfl) (qI_h rfl) (x_E_textLength E a) ?_
    exact XI_retI (by decide +kernel)
  refine XI_if (c := p1 = 3) (fun w3 => ?_) (fun w3 => ?_)
  · refine XI_tabIn (dflt := 131) (lo := 0) (hi := 8) (offs := #[51, 59, 67, 75, 83, 98, 106, 114, 123]) (len := 51) (off := 75) (tgt := 76) (x0 := 3) w3 (by decide +kernel) (by decide +kernel) (by decide +kernel) (by decide +kernel) (by decide) ?_
    refine XI_go (pc' := 80) (ls' := [.ref 0, .int p1]) (st' := [.ref 10]) (a' := a) [(.aload_n 0, 1, 0, .null), (.getfield 40, 3, 1004, .null)] (by decide +kernel) rfl ?_
    refine XI_VT (As := []) (rest := []) (b := 10) (idx := 141) (by decide +kernel) ok_O_size mv_O_size (n := 0) ⟨lk_C_141, by decide +kernel⟩ rfl rfl rfl rfl (Nat.le_of_ble_eq_true rfl) (Nat.le_of_ble_eq_true rfl) (qI_h rfl) (x_O_size E a) ?_
    exact XI_retI (by decide +kernel)
  refine XI_if (c := p1 = 4) (fun w4 => ?_) (fun w4 => ?_)
  · refine XI_tabIn (dflt := 131) (lo := 0) (hi := 8) (offs := #[51, 59, 67, 75, 83, 98, 106, 114, 123]) (len := 51) (off := 83) (tgt := 84) (x0 := 4) w4 (by decide +kernel) (by decide +kernel) (by decide +kernel) (by decide +kernel) (by decide) ?_
    refine XI_go (pc' := 88) (ls' := [.ref 0, .int p1]) (st' := [.ref 14]) (a' := a) [(.aload_n 0, 1, 0, .null), (.getfield 49, 3, 1005, .null)] (by decide +kernel) rfl ?_
    refine XI_VI (As := []) (rest := []) (b := 14) (idx := 135) (by decide +kernel) ok_P_replayAll mv_P_replayAll (n := 0) ⟨lk_C_135, by decide +kernel⟩ rfl rfl rfl rfl (Nat.le_of_ble_eq_true rfl) (Nat.le_of_ble_eq_true rfl) (qV_h rfl) (x_P_replayAll E N a) (fun q5 => ?_)
    refine XI_go (pc' := 95) (ls' := [.ref 0, .int p1]) (st' := [.ref 14]) (a' := q5.2) [(.aload_n 0, 1, 0, .null), (.getfield 49, 3, 1005, .null)] (by decide +kernel) rfl ?_
    refine XI_VT (As := []) (rest := []) (b := 14) (idx := 272) (by decide +kernel) ok_P_doneCount mv_P_doneCount (n := 0) ⟨lk_C_272, by decide +kernel⟩ rfl rfl rfl rfl (Nat.le_of_ble_eq_true rfl) (Nat.le_of_ble_eq_true rfl) (qI_h rfl) (x_P_doneCount E q5.2) ?_
    exact XI_retI (by decide +kernel)
  refine XI_if (c := p1 = 5) (fun w5 => ?_) (fun w5 => ?_)
  · refine XI_tabIn (dflt := 131) (lo := 0) (hi := 8) (offs := #[51, 59, 67, 75, 83, 98, 106, 114, 123]) (len := 51) (off := 98) (tgt := 99) (x0 := 5) w5 (by decide +kernel) (by decide +kernel) (by decide +kernel) (by decide +kernel) (by decide) ?_
    refine XI_go (pc' := 103) (ls' := [.ref 0, .int p1]) (st' := [.ref 21]) (a' := a) [(.aload_n 0, 1, 0, .null), (.getfield 65, 3, 1007, .null)] (by decide +kernel) rfl ?_
    refine XI_VT (As := []) (rest := []) (b := 21) (idx := 275) (by decide +kernel) ok_W_size mv_W_size (n := 0) ⟨lk_C_275, by decide +kernel⟩ rfl rfl rfl rfl (Nat.le_of_ble_eq_true rfl) (Nat.le_of_ble_eq_true rfl) (qI_h rfl) (x_W_size E a) ?_
    exact XI_retI (by decide +kernel)
  refine XI_if (c := p1 = 6) (fun w6 => ?_) (fun w6 => ?_)
  · refine XI_tabIn (dflt := 131) (lo := 0) (hi := 8) (offs := #[51, 59, 67, 75, 83, 98, 106, 114, 123]) (len := 51) (off := 106) (tgt := 107) (x0 := 6) w6 (by decide +kernel) (by decide +kernel) (by decide +kernel) (by decide +kernel) (by decide) ?_
    refine XI_go (pc' := 111) (ls' := [.ref 0, .int p1]) (st' := [.ref 24]) (a' := a) [(.aload_n 0, 1, 0, .null), (.getfield 72, 3, 1008, .null)] (by decide +kernel) rfl ?_
    refine XI_VT (As := []) (rest := []) (b := 24) (idx := 276) (by decide +kernel) ok_G_size mv_G_size (n := 0) ⟨lk_C_276, by decide +kernel⟩ rfl rfl rfl rfl (Nat.le_of_ble_eq_true rfl) (Nat.le_of_ble_eq_true rfl) (qI_h rfl) (x_G_size E a) ?_
    exact XI_retI (by decide +kernel)
  refine XI_if (c := p1 = 7) (fun w7 => ?_) (fun w7 => ?_)
  · refine XI_tabIn (dflt := 131) (lo := 0) (hi := 8) (offs := #[51, 59, 67, 75, 83, 98, 106, 114, 123]) (len := 51) (off := 114) (tgt := 115) (x0 := 7) w7 (by decide +kernel) (by decide +kernel) (by decide +kernel) (by decide +kernel) (by decide) ?_
    refine XI_go (pc' := 120) (ls' := [.ref 0, .int p1]) (st' := [.int 1, .ref 6]) (a' := a) [(.aload_n 0, 1, 0, .null), (.getfield 26, 3, 1002, .null), (.iconst 1, 1, 0, .int 1)] (by decide +kernel) rfl ?_
    refine XI_VP (As := [.int 1]) (rest := []) (b := 6) (idx := 200) (by decide +kernel) ok_R_now mv_R_now (n := 1) ⟨lk_C_200, by decide +kernel⟩ rfl rfl rfl rfl (Nat.le_of_ble_eq_true rfl) (Nat.le_of_ble_eq_true rfl) (qI_h rfl) (x_R_now E 1 a) (fun q9 => ?_)
    exact XI_retI (by decide +kernel)
  refine XI_if (c := p1 = 8) (fun w8 => ?_) (fun w8 => ?_)
  · refine XI_tabIn (dflt := 131) (lo := 0) (hi := 8) (offs := #[51, 59, 67, 75, 83, 98, 106, 114, 123]) (len := 51) (off := 123) (tgt := 124) (x0 := 8) w8 (by decide +kernel) (by decide +kernel) (by decide +kernel) (by decide +kernel) (by decide) ?_
    refine XI_go (pc' := 128) (ls' := [.ref 0, .int p1]) (st' := [.ref 27]) (a' := a) [(.aload_n 0, 1, 0, .null), (.getfield 79, 3, 1009, .null)] (by decide +kernel) rfl ?_
    refine XI_VT (As := []) (rest := []) (b := 27) (idx := 277) (by decide +kernel) ok_H_latestFinding mv_H_latestFinding (n := 0) ⟨lk_C_277, by decide +kernel⟩ rfl rfl rfl rfl (Nat.le_of_ble_eq_true rfl) (Nat.le_of_ble_eq_true rfl) (qI_h rfl) (x_H_latestFinding E a) ?_
    exact XI_retI (by decide +kernel)
  refine XI_tabOut (dflt := 131) (lo := 0) (hi := 8) (offs := #[51, 59, 67, 75, 83, 98, 106, 114, 123]) (len := 51) (tgt := 132) (n := 9) (by decide +kernel) (fun i hi => match i, hi with | 0, _ => w0 | 1, _ => w1 | 2, _ => w2 | 3, _ => w3 | 4, _ => w4 | 5, _ => w5 | 6, _ => w6 | 7, _ => w7 | 8, _ => w8 | i + 9, hi => absurd hi (by omega)) (by decide +kernel) (by decide) ?_
  refine XI_go (pc' := 134) (ls' := [.ref 0, .int p1]) (st' := [.int (-2)]) (a' := a) [(.bipush (-2), 2, 0, .int (-2))] (by decide +kernel) rfl ?_
  exact XI_retI (by decide +kernel)
/-! ChestnutSticksModel.count(I)I -/
def md_M_count : md_T := (yX11_count, cX11_count, 4, (some .int), 7, 158)
set_option maxRecDepth 100000 in
theorem ok_M_count : m_ok md_M_count := ⟨List.mem_of_getElem? (i := 1335) (by decide +kernel), by decide +kernel, List.mem_of_getElem? (i := 64) (by decide +kernel), by decide +kernel⟩
theorem mv_M_count : Cond.instanceMethod (m_y md_M_count) ∈ lw_tbl ∧ Cond.selects (m_y md_M_count).cls (m_y md_M_count) (m_y md_M_count) ∈ lw_tbl := ⟨List.mem_of_getElem? (i := 1333) (by decide +kernel), List.mem_of_getElem? (i := 1334) (by decide +kernel)⟩
def f_M_count_68 (N : Nat) : Nat → Int32 → Int32 → aT → Option (Int32 × aT)
  | 0 => fun _ _ _ => none
  | n + 1 => fun x2 x3 a =>
    if 48 ≤ x3 then
      some (x2, a)
    else
      if inb x3 48 then
        if (a 38 (ix x3)) = (-1) then
          f_M_count_68 N n (x2 + 0) (x3 + 1) a
        else
          f_M_count_68 N n (x2 + 1) (x3 + 1) a
      else none
def f_M_count (N : Nat) (p1 : Int32) (a : aT) : Option (Int32 × aT) :=
  (f_M_find N a).bind fun q1 =>
    if p1 = 0 then
      some (((q1.2 31 10) * (q1.2 31 11)), q1.2)
    else if p1 = 1 then
      f_M_count_68 N N 0 0 q1.2
    else if p1 = 2 then
      some ((q1.2 31 6), q1.2)
    else if p1 = 3 then
      some ((q1.2 31 18), q1.2)
    else if p1 = 4 then
      some ((q1.2 31 27), q1.2)
    else if p1 = 5 then
      some ((q1.2 31 29), q1.2)
    else if p1 = 6 then
      some ((q1.2 31 31), q1.2)
    else if p1 = 7 then
      some ((q1.2 42 1), q1.2)
    else if p1 = 8 then
      some ((q1.2 31 4), q1.2)
    else 
      some ((-2), q1.2)
set_option maxHeartbeats 4000000 in
set_option maxRecDepth 100000 in
theorem x_M_count_68 (E : eT) (N : Nat) : ∀ (n : Nat) (x2 : Int32) (x3 : Int32) (a : aT), XI qI E md_M_count 68 [.ref 31, .null, .int x2, .int x3] [] a (f_M_count_68 N n x2 x3 a)
  | 0, _, _, _ => XI_no rfl
  | n + 1, x2, x3, a => by
    refine XI_br (c := 48 ≤ x3) (t := 98) (e := 74) (ls' := [.ref 31, .null, .int x2, .int x3]) (st' := []) (a' := a) [(.iload_n 3, 1, 3, .null), (.bipush 48, 2, 0, .int 48), (.if_icmp .ge 27, 3, 98, .null)] (by decide +kernel) rfl ?_ ?_
    · refine XI_go (pc' := 99) (ls' := [.ref 31, .null, .int x2, .int x3]) (st' := [.int x2]) (a' := a) [(.iload_n 2, 1, 2, .null)] (by decide +kernel) rfl ?_
      exact XI_retI (by decide +kernel)
    · refine XI_ck (c := inb x3 48) (pc' := 81) (ls' := [.ref 31, .null, .int x2, .int x3]) (st' := [.int (a 38 (ix x3)), .int x2]) (a' := a) [(.iload_n 2, 1, 2, .null), (.aload_n 0, 1, 0, .null), (.getfield 29, 3, 1109, .null), (.iload_n 3, 1, 3, .null), (.iaload, 1, 0, .null)] (by decide +kernel) rfl ?_
      refine XI_br (c := (a 38 (ix x3)) = (-1)) (t := 85) (e := 89) (ls' := [.ref 31, .null, .int x2, .int x3]) (st' := [.int x2]) (a' := a) [(.iconst (-1), 1, 0, .int (-1)), (.if_icmp .ne 7, 3, 89, .null)] (by decide +kernel) rfl ?_ ?_
      · refine XI_go (pc' := 68) (ls' := [.ref 31, .null, .int (x2 + 0), .int (x3 + 1)]) (st' := []) (a' := a) [(.iconst 0, 1, 0, .int 0), (.goto 4, 3, 90, .null), (.iadd, 1, 0, .null), (.istore_n 2, 1, 2, .null), (.iinc 3 1, 3, 3, .int 1), (.goto (-27), 3, 68, .null)] (by decide +kernel) rfl ?_
        refine XI_fg [true, false, true, true] ?_
        exact x_M_count_68 E N n (x2 + 0) (x3 + 1) a
      · refine XI_go (pc' := 68) (ls' := [.ref 31, .null, .int (x2 + 1), .int (x3 + 1)]) (st' := []) (a' := a) [(.iconst 1, 1, 0, .int 1), (.iadd, 1, 0, .null), (.istore_n 2, 1, 2, .null), (.iinc 3 1, 3, 3, .int 1), (.goto (-27), 3, 68, .null)] (by decide +kernel) rfl ?_
        refine XI_fg [true, false, true, true] ?_
        exact x_M_count_68 E N n (x2 + 1) (x3 + 1) a
set_option maxHeartbeats 4000000 in
set_option maxRecDepth 100000 in
theorem x_M_count (E : eT) (N : Nat) (p1 : Int32) (a : aT) : XI qI E md_M_count 0 [.ref 31, .int p1, .null, .null] [] a (f_M_count N p1 a) := by
  refine XI_go (pc' := 3) (ls' := [.ref 31, .int p1, .int 0, .null]) (st' := [.ref 31]) (a' := a) [(.iconst 0, 1, 0, .int 0), (.istore_n 2, 1, 2, .null), (.aload_n 0, 1, 0, .null)] (by decide +kernel) rfl ?_
  refine XI_VI (As := []) (rest := []) (b := 31) (idx := 204) (by decide +kernel) ok_M_find mv_M_find (n := 0) ⟨lk_M_204, by decide +kernel⟩ rfl rfl rfl rfl (Nat.le_of_ble_eq_true rfl) (Nat.le_of_ble_eq_true rfl) (qV_h rfl) (x_M_find E N a) (fun q1 => ?_)
  refine XI_go (pc' := 7) (ls' := [.ref 31, .int p1, .int 0, .null]) (st' := [.int p1]) (a' := q1.2) [(.iload_n 1, 1, 1, .null)] (by decide +kernel) rfl ?_
  refine XI_if (c := p1 = 0) (fun w0 => ?_) (fun w0 => ?_)
  · refine XI_tabIn (dflt := 130) (lo := 0) (hi := 8) (offs := #[49, 59, 93, 98, 103, 108, 113, 118, 125]) (len := 49) (off := 49) (tgt := 56) (x0 := 0) w0 (by decide +kernel) (by decide +kernel) (by decide +kernel) (by decide +kernel) (by decide) ?_
    refine XI_go (pc' := 65) (ls' := [.ref 31, .int p1, .int 0, .null]) (st' := [.int ((q1.2 31 10) * (q1.2 31 11))]) (a' := q1.2) [(.aload_n 0, 1, 0, .null), (.getfield 107, 3, 1110, .null), (.aload_n 0, 1, 0, .null), (.getfield 110, 3, 1111, .null), (.imul, 1, 0, .null)] (by decide +kernel) rfl ?_
    exact XI_retI (by decide +kernel)
  refine XI_if (c := p1 = 1) (fun w1 => ?_) (fun w1 => ?_)
  · refine XI_tabIn (dflt := 130) (lo := 0) (hi := 8) (offs := #[49, 59, 93, 98, 103, 108, 113, 118, 125]) (len := 49) (off := 59) (tgt := 66) (x0 := 1) w1 (by decide +kernel) (by decide +kernel) (by decide +kernel) (by decide +kernel) (by decide) ?_
    refine XI_go (pc' := 68) (ls' := [.ref 31, .int p1, .int 0, .int 0]) (st' := []) (a' := q1.2) [(.iconst 0, 1, 0, .int 0), (.istore_n 3, 1, 3, .null)] (by decide +kernel) rfl ?_
    refine XI_fg [true, false, true, true] ?_
    exact x_M_count_68 E N N 0 0 q1.2
  refine XI_if (c := p1 = 2) (fun w2 => ?_) (fun w2 => ?_)
  · refine XI_tabIn (dflt := 130) (lo := 0) (hi := 8) (offs := #[49, 59, 93, 98, 103, 108, 113, 118, 125]) (len := 49) (off := 93) (tgt := 100) (x0 := 2) w2 (by decide +kernel) (by decide +kernel) (by decide +kernel) (by decide +kernel) (by decide) ?_
    refine XI_go (pc' := 104) (ls' := [.ref 31, .int p1, .int 0, .null]) (st' := [.int (q1.2 31 6)]) (a' := q1.2) [(.aload_n 0, 1, 0, .null), (.getfield 104, 3, 1106, .null)] (by decide +kernel) rfl ?_
    exact XI_retI (by decide +kernel)
  refine XI_if (c := p1 = 3) (fun w3 => ?_) (fun w3 => ?_)
  · refine XI_tabIn (dflt := 130) (lo := 0) (hi := 8) (offs := #[49, 59, 93, 98, 103, 108, 113, 118, 125]) (len := 49) (off := 98) (tgt := 105) (x0 := 3) w3 (by decide +kernel) (by decide +kernel) (by decide +kernel) (by decide +kernel) (by decide) ?_
    refine XI_go (pc' := 109) (ls' := [.ref 31, .int p1, .int 0, .null]) (st' := [.int (q1.2 31 18)]) (a' := q1.2) [(.aload_n 0, 1, 0, .null), (.getfield 150, 3, 1118, .null)] (by decide +kernel) rfl ?_
    exact XI_retI (by decide +kernel)
  refine XI_if (c := p1 = 4) (fun w4 => ?_) (fun w4 => ?_)
  · refine XI_tabIn (dflt := 130) (lo := 0) (hi := 8) (offs := #[49, 59, 93, 98, 103, 108, 113, 118, 125]) (len := 49) (off := 103) (tgt := 110) (x0 := 4) w4 (by decide +kernel) (by decide +kernel) (by decide +kernel) (by decide +kernel) (by decide) ?_
    refine XI_go (pc' := 114) (ls' := [.ref 31, .int p1, .int 0, .null]) (st' := [.int (q1.2 31 27)]) (a' := q1.2) [(.aload_n 0, 1, 0, .null), (.getfield 189, 3, 1127, .null)] (by decide +kernel) rfl ?_
    exact XI_retI (by decide +kernel)
  refine XI_if (c := p1 = 5) (fun w5 => ?_) (fun w5 => ?_)
  · refine XI_tabIn (dflt := 130) (lo := 0) (hi := 8) (offs := #[49, 59, 93, 98, 103, 108, 113, 118, 125]) (len := 49) (off := 108) (tgt := 115) (x0 := 5) w5 (by decide +kernel) (by decide +kernel) (by decide +kernel) (by decide +kernel) (by decide) ?_
    refine XI_go (pc' := 119) (ls' := [.ref 31, .int p1, .int 0, .null]) (st' := [.int (q1.2 31 29)]) (a' := q1.2) [(.aload_n 0, 1, 0, .null), (.getfield 278, 3, 1129, .null)] (by decide +kernel) rfl ?_
    exact XI_retI (by decide +kernel)
  refine XI_if (c := p1 = 6) (fun w6 => ?_) (fun w6 => ?_)
  · refine XI_tabIn (dflt := 130) (lo := 0) (hi := 8) (offs := #[49, 59, 93, 98, 103, 108, 113, 118, 125]) (len := 49) (off := 113) (tgt := 120) (x0 := 6) w6 (by decide +kernel) (by decide +kernel) (by decide +kernel) (by decide +kernel) (by decide) ?_
    refine XI_go (pc' := 124) (ls' := [.ref 31, .int p1, .int 0, .null]) (st' := [.int (q1.2 31 31)]) (a' := q1.2) [(.aload_n 0, 1, 0, .null), (.getfield 297, 3, 1131, .null)] (by decide +kernel) rfl ?_
    exact XI_retI (by decide +kernel)
  refine XI_if (c := p1 = 7) (fun w7 => ?_) (fun w7 => ?_)
  · refine XI_tabIn (dflt := 130) (lo := 0) (hi := 8) (offs := #[49, 59, 93, 98, 103, 108, 113, 118, 125]) (len := 49) (off := 118) (tgt := 125) (x0 := 7) w7 (by decide +kernel) (by decide +kernel) (by decide +kernel) (by decide +kernel) (by decide) ?_
    refine XI_go (pc' := 131) (ls' := [.ref 31, .int p1, .int 0, .null]) (st' := [.int (q1.2 42 1)]) (a' := q1.2) [(.aload_n 0, 1, 0, .null), (.getfield 41, 3, 1115, .null), (.iconst 1, 1, 0, .int 1), (.iaload, 1, 0, .null)] (by decide +kernel) rfl ?_
    exact XI_retI (by decide +kernel)
  refine XI_if (c := p1 = 8) (fun w8 => ?_) (fun w8 => ?_)
  · refine XI_tabIn (dflt := 130) (lo := 0) (hi := 8) (offs := #[49, 59, 93, 98, 103, 108, 113, 118, 125]) (len := 49) (off := 125) (tgt := 132) (x0 := 8) w8 (by decide +kernel) (by decide +kernel) (by decide +kernel) (by decide +kernel) (by decide) ?_
    refine XI_go (pc' := 136) (ls' := [.ref 31, .int p1, .int 0, .null]) (st' := [.int (q1.2 31 4)]) (a' := q1.2) [(.aload_n 0, 1, 0, .null), (.getfield 78, 3, 1104, .null)] (by decide +kernel) rfl ?_
    exact XI_retI (by decide +kernel)
  refine XI_tabOut (dflt := 130) (lo := 0) (hi := 8) (offs := #[49, 59, 93, 98, 103, 108, 113, 118, 125]) (len := 49) (tgt := 137) (n := 9) (by decide +kernel) (fun i hi => match i, hi with | 0, _ => w0 | 1, _ => w1 | 2, _ => w2 | 3, _ => w3 | 4, _ => w4 | 5, _ => w5 | 6, _ => w6 | 7, _ => w7 | 8, _ => w8 | i + 9, hi => absurd hi (by omega)) (by decide +kernel) (by decide) ?_
  refine XI_go (pc' := 139) (ls' := [.ref 31, .int p1, .int 0, .null]) (st' := [.int (-2)]) (a' := q1.2) [(.bipush (-2), 2, 0, .int (-2))] (by decide +kernel) rfl ?_
  exact XI_retI (by decide +kernel)
/-! ChestnutSticks.digest()J -/
def md_C_digest : md_T := (yX10_digest, cX10_digest, 5, (some .long), 7, 172)
set_option maxRecDepth 100000 in
theorem ok_C_digest : m_ok md_C_digest := ⟨List.mem_of_getElem? (i := 866) (by decide +kernel), by decide +kernel, List.mem_of_getElem? (i := 53) (by decide +kernel), by decide +kernel⟩
theorem mv_C_digest : Cond.instanceMethod (m_y md_C_digest) ∈ lw_tbl ∧ Cond.selects (m_y md_C_digest).cls (m_y md_C_digest) (m_y md_C_digest) ∈ lw_tbl := ⟨List.mem_of_getElem? (i := 864) (by decide +kernel), List.mem_of_getElem? (i := 865) (by decide +kernel)⟩
def f_C_digest_124 (N : Nat) (k116 : Int64 → Int32 → aT → Option (Int64 × aT)) : Nat → Int64 → Int32 → Int32 → aT → Option (Int64 × aT)
  | 0 => fun _ _ _ _ => none
  | n + 1 => fun x1 x3 x4 a =>
    if 4 ≤ x4 then
      (f_C_worth N x3 9 a).bind fun q20 =>
        (f_C_where N x3 q20.2).bind fun q21 =>
          k116 ((31 * ((31 * x1) + q20.1.toInt64)) + q21.1.toInt64) (x3 + 1) q21.2
    else
      (f_C_brings N x3 9 x4 a).bind fun q22 =>
        f_C_digest_124 N k116 n ((31 * x1) + q22.1) x3 (x4 + 1) q22.2
def f_C_digest_116 (N : Nat) : Nat → Int64 → Int32 → aT → Option (Int64 × aT)
  | 0 => fun _ _ _ => none
  | n + 1 => fun x1 x3 a =>
    if 4 ≤ x3 then
      (f_C_which N a).bind fun q7 =>
        (f_C_frees N 0 9 1 q7.2).bind fun q8 =>
          (f_C_lie N 6 0 q8.2).bind fun q9 =>
            (f_C_lie N 6 1 q8.2).bind fun q10 =>
              (f_C_ripe N 0 q8.2).bind fun q11 =>
                (f_C_ripe N 29 q8.2).bind fun q12 =>
                  (f_C_rests N 3 q8.2).bind fun q13 =>
                    (f_C_ends N 3 0 q13.2).bind fun q14 =>
                      (f_C_ends N 3 1 q14.2).bind fun q15 =>
                        (f_C_run N 5 3 q15.2).bind fun q16 =>
                          (f_C_hit N 3 0 q15.2).bind fun q17 =>
                            (f_C_hit N 3 1 q15.2).bind fun q18 =>
                              (f_C_seeds N q15.2).bind fun q19 =>
                                some (((31 * ((31 * ((31 * ((31 * ((31 * ((31 * ((31 * ((31 * ((31 * ((31 * ((31 * ((31 * ((31 * x1) + q7.1.toInt64)) + q8.1.toInt64)) + q9)) + q10)) + q11.toInt64)) + q12.toInt64)) + q13.1.toInt64)) + q14.1.toInt64)) + q15.1.toInt64)) + q16.toInt64)) + q17.toInt64)) + q18.toInt64)) + q19.1.toInt64), q19.2)
    else
      f_C_digest_124 N (f_C_digest_116 N n) N x1 x3 0 a
def f_C_digest_90 (N : Nat) : Nat → Int64 → Int32 → aT → Option (Int64 × aT)
  | 0 => fun _ _ _ => none
  | n + 1 => fun x1 x3 a =>
    if 4 ≤ x3 then
      f_C_digest_116 N N x1 0 a
    else
      (f_C_has N x3 a).bind fun q6 =>
        f_C_digest_90 N n ((31 * x1) + q6.1.toInt64) (x3 + 1) q6.2
def f_C_digest_57 (N : Nat) : Nat → Int64 → Int32 → aT → Option (Int64 × aT)
  | 0 => fun _ _ _ => none
  | n + 1 => fun x1 x3 a =>
    if 5 ≤ x3 then
      f_C_digest_90 N N x1 0 a
    else
      (f_C_state N (f_O_size a) x3 a).bind fun q5 =>
        f_C_digest_57 N n ((31 * x1) + q5.1.toInt64) (x3 + 1) q5.2
def f_C_digest_6 (N : Nat) : Nat → Int64 → Int32 → aT → Option (Int64 × aT)
  | 0 => fun _ _ _ => none
  | n + 1 => fun x1 x3 a =>
    if 8 ≤ x3 then
      (f_C_judged N a).bind fun q2 =>
        f_C_digest_57 N N ((31 * ((31 * x1) + (f_C_fault a).toInt64)) + q2.1.toInt64) 0 q2.2
    else
      (f_C_count N x3 a).bind fun q3 =>
        f_C_digest_6 N n ((31 * x1) + q3.1.toInt64) (x3 + 1) q3.2
def f_C_digest (N : Nat) (a : aT) : Option (Int64 × aT) :=
  f_C_digest_6 N N 17 0 a
set_option maxHeartbeats 4000000 in
set_option maxRecDepth 100000 in
theorem x_C_digest_124 (E : eT) (N : Nat) (k116 : Int64 → Int32 → aT → Option (Int64 × aT)) (h116 : ∀ (x1 : Int64) (x3 : Int32) (a : aT), XI qL E md_C_digest 116 [.ref 0, .long x1, .null, .int x3, .null] [] a (k116 x1 x3 a)) : ∀ (n : Nat) (x1 : Int64) (x3 : Int32) (x4 : Int32) (a : aT), XI qL E md_C_digest 124 [.ref 0, .long x1, .null, .int x3, .int x4] [] a (f_C_digest_124 N k116 n x1 x3 x4 a)
  | 0, _, _, _, _ => XI_no rfl
  | n + 1, x1, x3, x4, a => by
    refine XI_br (c := 4 ≤ x4) (t := 152) (e := 130) (ls' := [.ref 0, .long x1, .null, .int x3, .int x4]) (st' := []) (a' := a) [(.iload 4, 2, 4, .null), (.iconst 4, 1, 0, .int 4), (.if_icmp .ge 25, 3, 152, .null)] (by decide +kernel) rfl ?_ ?_
    · refine XI_go (pc' := 161) (ls' := [.ref 0, .long x1, .null, .int x3, .int x4]) (st' := [.int 9, .int x3, .ref 0, .long (31 * x1)]) (a' := a) [(.ldc2_w 282, 3, 0, .long 31), (.lload_n 1, 1, 1, .null), (.lmul, 1, 0, .null), (.aload_n 0, 1, 0, .null), (.iload_n 3, 1, 3, .null), (.bipush 9, 2, 0, .int 9)] (by decide +kernel) rfl ?_
      refine XI_VI (As := [.int x3, .int 9]) (rest := [.long (31 * x1)]) (b := 0) (idx := 302) (by decide +kernel) ok_C_worth mv_C_worth (n := 2) ⟨lk_C_302, by decide +kernel⟩ rfl rfl rfl rfl (Nat.le_of_ble_eq_true rfl) (Nat.le_of_ble_eq_true rfl) (qI_h rfl) (x_C_worth E N x3 9 a) (fun q20 => ?_)
      refine XI_go (pc' := 174) (ls' := [.ref 0, .long ((31 * x1) + q20.1.toInt64), .null, .int x3, .int x4]) (st' := [.int x3, .ref 0, .long (31 * ((31 * x1) + q20.1.toInt64))]) (a' := q20.2) [(.i2l, 1, 0, .null), (.ladd, 1, 0, .null), (.lstore_n 1, 1, 1, .null), (.ldc2_w 282, 3, 0, .long 31), (.lload_n 1, 1, 1, .null), (.lmul, 1, 0, .null), (.aload_n 0, 1, 0, .null), (.iload_n 3, 1, 3, .null)] (by decide +kernel) rfl ?_
      refine XI_VI (As := [.int x3]) (rest := [.long (31 * ((31 * x1) + q20.1.toInt64))]) (b := 0) (idx := 305) (by decide +kernel) ok_C_where mv_C_where (n := 1) ⟨lk_C_305, by decide +kernel⟩ rfl rfl rfl rfl (Nat.le_of_ble_eq_true rfl) (Nat.le_of_ble_eq_true rfl) (qI_h rfl) (x_C_where E N x3 q20.2) (fun q21 => ?_)
      refine XI_go (pc' := 116) (ls' := [.ref 0, .long ((31 * ((31 * x1) + q20.1.toInt64)) + q21.1.toInt64), .null, .int (x3 + 1), .int x4]) (st' := []) (a' := q21.2) [(.i2l, 1, 0, .null), (.ladd, 1, 0, .null), (.lstore_n 1, 1, 1, .null), (.iinc 3 1, 3, 3, .int 1), (.goto (-67), 3, 116, .null)] (by decide +kernel) rfl ?_
      refine XI_fg [true, true, false, true, false] ?_
      exact h116 ((31 * ((31 * x1) + q20.1.toInt64)) + q21.1.toInt64) (x3 + 1) q21.2
    · refine XI_go (pc' := 141) (ls' := [.ref 0, .long x1, .null, .int x3, .int x4]) (st' := [.int x4, .int 9, .int x3, .ref 0, .long (31 * x1)]) (a' := a) [(.ldc2_w 282, 3, 0, .long 31), (.lload_n 1, 1, 1, .null), (.lmul, 1, 0, .null), (.aload_n 0, 1, 0, .null), (.iload_n 3, 1, 3, .null), (.bipush 9, 2, 0, .int 9), (.iload 4, 2, 4, .null)] (by decide +kernel) rfl ?_
      refine XI_VI (As := [.int x3, .int 9, .int x4]) (rest := [.long (31 * x1)]) (b := 0) (idx := 299) (by decide +kernel) ok_C_brings mv_C_brings (n := 3) ⟨lk_C_299, by decide +kernel⟩ rfl rfl rfl rfl (Nat.le_of_ble_eq_true rfl) (Nat.le_of_ble_eq_true rfl) (qL_h rfl) (x_C_brings E N x3 9 x4 a) (fun q22 => ?_)
      refine XI_go (pc' := 124) (ls' := [.ref 0, .long ((31 * x1) + q22.1), .null, .int x3, .int (x4 + 1)]) (st' := []) (a' := q22.2) [(.ladd, 1, 0, .null), (.lstore_n 1, 1, 1, .null), (.iinc 4 1, 3, 4, .int 1), (.goto (-25), 3, 124, .null)] (by decide +kernel) rfl ?_
      refine XI_fg [true, true, false, true, true] ?_
      exact x_C_digest_124 E N k116 h116 n ((31 * x1) + q22.1) x3 (x4 + 1) q22.2
set_option maxHeartbeats 4000000 in
set_option maxRecDepth 100000 in
theorem x_C_digest_116 (E : eT) (N : Nat) : ∀ (n : Nat) (x1 : Int64) (x3 : Int32) (a : aT), XI qL E md_C_digest 116 [.ref 0, .long x1, .null, .int x3, .null] [] a (f_C_digest_116 N n x1 x3 a)
  | 0, _, _, _ => XI_no rfl
  | n + 1, x1, x3, a => by
    refine XI_br (c := 4 ≤ x3) (t := 186) (e := 121) (ls' := [.ref 0, .long x1, .null, .int x3, .null]) (st' := []) (a' := a) [(.iload_n 3, 1, 3, .null), (.iconst 4, 1, 0, .int 4), (.if_icmp .ge 68, 3, 186, .null)] (by decide +kernel) rfl ?_ ?_
    · refine XI_go (pc' := 192) (ls' := [.ref 0, .long x1, .null, .int x3, .null]) (st' := [.ref 0, .long (31 * x1)]) (a' := a) [(.ldc2_w 282, 3, 0, .long 31), (.lload_n 1, 1, 1, .null), (.lmul, 1, 0, .null), (.aload_n 0, 1, 0, .null)] (by decide +kernel) rfl ?_
      refine XI_VI (As := []) (rest := [.long (31 * x1)]) (b := 0) (idx := 308) (by decide +kernel) ok_C_which mv_C_which (n := 0) ⟨lk_C_308, by decide +kernel⟩ rfl rfl rfl rfl (Nat.le_of_ble_eq_true rfl) (Nat.le_of_ble_eq_true rfl) (qI_h rfl) (x_C_which E N a) (fun q7 => ?_)
      refine XI_go (pc' := 208) (ls' := [.ref 0, .long ((31 * x1) + q7.1.toInt64), .null, .int x3, .null]) (st' := [.int 1, .int 9, .int 0, .ref 0, .long (31 * ((31 * x1) + q7.1.toInt64))]) (a' := q7.2) [(.i2l, 1, 0, .null), (.ladd, 1, 0, .null), (.lstore_n 1, 1, 1, .null), (.ldc2_w 282, 3, 0, .long 31), (.lload_n 1, 1, 1, .null), (.lmul, 1, 0, .null), (.aload_n 0, 1, 0, .null), (.iconst 0, 1, 0, .int 0), (.bipush 9, 2, 0, .int 9), (.iconst 1, 1, 0, .int 1)] (by decide +kernel) rfl ?_
      refine XI_VI (As := [.int 0, .int 9, .int 1]) (rest := [.long (31 * ((31 * x1) + q7.1.toInt64))]) (b := 0) (idx := 311) (by decide +kernel) ok_C_frees mv_C_frees (n := 3) ⟨lk_C_311, by decide +kernel⟩ rfl rfl rfl rfl (Nat.le_of_ble_eq_true rfl) (Nat.le_of_ble_eq_true rfl) (qI_h rfl) (x_C_frees E N 0 9 1 q7.2) (fun q8 => ?_)
      refine XI_go (pc' := 223) (ls' := [.ref 0, .long ((31 * ((31 * x1) + q7.1.toInt64)) + q8.1.toInt64), .null, .int x3, .null]) (st' := [.int 0, .int 6, .ref 0, .long (31 * ((31 * ((31 * x1) + q7.1.toInt64)) + q8.1.toInt64))]) (a' := q8.2) [(.i2l, 1, 0, .null), (.ladd, 1, 0, .null), (.lstore_n 1, 1, 1, .null), (.ldc2_w 282, 3, 0, .long 31), (.lload_n 1, 1, 1, .null), (.lmul, 1, 0, .null), (.aload_n 0, 1, 0, .null), (.bipush 6, 2, 0, .int 6), (.iconst 0, 1, 0, .int 0)] (by decide +kernel) rfl ?_
      refine XI_VP (As := [.int 6, .int 0]) (rest := [.long (31 * ((31 * ((31 * x1) + q7.1.toInt64)) + q8.1.toInt64))]) (b := 0) (idx := 314) (by decide +kernel) ok_C_lie mv_C_lie (n := 2) ⟨lk_C_314, by decide +kernel⟩ rfl rfl rfl rfl (Nat.le_of_ble_eq_true rfl) (Nat.le_of_ble_eq_true rfl) (qL_h rfl) (x_C_lie E N 6 0 q8.2) (fun q9 => ?_)
      refine XI_go (pc' := 237) (ls' := [.ref 0, .long ((31 * ((31 * ((31 * x1) + q7.1.toInt64)) + q8.1.toInt64)) + q9), .null, .int x3, .null]) (st' := [.int 1, .int 6, .ref 0, .long (31 * ((31 * ((31 * ((31 * x1) + q7.1.toInt64)) + q8.1.toInt64)) + q9))]) (a' := q8.2) [(.ladd, 1, 0, .null), (.lstore_n 1, 1, 1, .null), (.ldc2_w 282, 3, 0, .long 31), (.lload_n 1, 1, 1, .null), (.lmul, 1, 0, .null), (.aload_n 0, 1, 0, .null), (.bipush 6, 2, 0, .int 6), (.iconst 1, 1, 0, .int 1)] (by decide +kernel) rfl ?_
      refine XI_VP (As := [.int 6, .int 1]) (rest := [.long (31 * ((31 * ((31 * ((31 * x1) + q7.1.toInt64)) + q8.1.toInt64)) + q9))]) (b := 0) (idx := 314) (by decide +kernel) ok_C_lie mv_C_lie (n := 2) ⟨lk_C_314, by decide +kernel⟩ rfl rfl rfl rfl (Nat.le_of_ble_eq_true rfl) (Nat.le_of_ble_eq_true rfl) (qL_h rfl) (x_C_lie E N 6 1 q8.2) (fun q10 => ?_)
      refine XI_go (pc' := 249) (ls' := [.ref 0, .long ((31 * ((31 * ((31 * ((31 * x1) + q7.1.toInt64)) + q8.1.toInt64)) + q9)) + q10), .null, .int x3, .null]) (st' := [.int 0, .ref 0, .long (31 * ((31 * ((31 * ((31 * ((31 * x1) + q7.1.toInt64)) + q8.1.toInt64)) + q9)) + q10))]) (a' := q8.2) [(.ladd, 1, 0, .null), (.lstore_n 1, 1, 1, .null), (.ldc2_w 282, 3, 0, .long 31), (.lload_n 1, 1, 1, .null), (.lmul, 1, 0, .null), (.aload_n 0, 1, 0, .null), (.iconst 0, 1, 0, .int 0)] (by decide +kernel) rfl ?_
      refine XI_VP (As := [.int 0]) (rest := [.long (31 * ((31 * ((31 * ((31 * ((31 * x1) + q7.1.toInt64)) + q8.1.toInt64)) + q9)) + q10))]) (b := 0) (idx := 318) (by decide +kernel) ok_C_ripe mv_C_ripe (n := 1) ⟨lk_C_318, by decide +kernel⟩ rfl rfl rfl rfl (Nat.le_of_ble_eq_true rfl) (Nat.le_of_ble_eq_true rfl) (qI_h rfl) (x_C_ripe E N 0 q8.2) (fun q11 => ?_)
      refine XI_go (pc' := 263) (ls' := [.ref 0, .long ((31 * ((31 * ((31 * ((31 * ((31 * x1) + q7.1.toInt64)) + q8.1.toInt64)) + q9)) + q10)) + q11.toInt64), .null, .int x3, .null]) (st' := [.int 29, .ref 0, .long (31 * ((31 * ((31 * ((31 * ((31 * ((31 * x1) + q7.1.toInt64)) + q8.1.toInt64)) + q9)) + q10)) + q11.toInt64))]) (a' := q8.2) [(.i2l, 1, 0, .null), (.ladd, 1, 0, .null), (.lstore_n 1, 1, 1, .null), (.ldc2_w 282, 3, 0, .long 31), (.lload_n 1, 1, 1, .null), (.lmul, 1, 0, .null), (.aload_n 0, 1, 0, .null), (.bipush 29, 2, 0, .int 29)] (by decide +kernel) rfl ?_
      refine XI_VP (As := [.int 29]) (rest := [.long (31 * ((31 * ((31 * ((31 * ((31 * ((31 * x1) + q7.1.toInt64)) + q8.1.toInt64)) + q9)) + q10)) + q11.toInt64))]) (b := 0) (idx := 318) (by decide +kernel) ok_C_ripe mv_C_ripe (n := 1) ⟨lk_C_318, by decide +kernel⟩ rfl rfl rfl rfl (Nat.le_of_ble_eq_true rfl) (Nat.le_of_ble_eq_true rfl) (qI_h rfl) (x_C_ripe E N 29 q8.2) (fun q12 => ?_)
      refine XI_go (pc' := 276) (ls' := [.ref 0, .long ((31 * ((31 * ((31 * ((31 * ((31 * ((31 * x1) + q7.1.toInt64)) + q8.1.toInt64)) + q9)) + q10)) + q11.toInt64)) + q12.toInt64), .null, .int x3, .null]) (st' := [.int 3, .ref 0, .long (31 * ((31 * ((31 * ((31 * ((31 * ((31 * ((31 * x1) + q7.1.toInt64)) + q8.1.toInt64)) + q9)) + q10)) + q11.toInt64)) + q12.toInt64))]) (a' := q8.2) [(.i2l, 1, 0, .null), (.ladd, 1, 0, .null), (.lstore_n 1, 1, 1, .null), (.ldc2_w 282, 3, 0, .long 31), (.lload_n 1, 1, 1, .null), (.lmul, 1, 0, .null), (.aload_n 0, 1, 0, .null), (.iconst 3, 1, 0, .int 3)] (by decide +kernel) rfl ?_
      refine XI_VI (As := [.int 3]) (rest := [.long (31 * ((31 * ((31 * ((31 * ((31 * ((31 * ((31 * x1) + q7.1.toInt64)) + q8.1.toInt64)) + q9)) + q10)) + q11.toInt64)) + q12.toInt64))]) (b := 0) (idx := 321) (by decide +kernel) ok_C_rests mv_C_rests (n := 1) ⟨lk_C_321, by decide +kernel⟩ rfl rfl rfl rfl (Nat.le_of_ble_eq_true rfl) (Nat.le_of_ble_eq_true rfl) (qI_h rfl) (x_C_rests E N 3 q8.2) (fun q13 => ?_)
      refine XI_go (pc' := 290) (ls' := [.ref 0, .long ((31 * ((31 * ((31 * ((31 * ((31 * ((31 * ((31 * x1) + q7.1.toInt64)) + q8.1.toInt64)) + q9)) + q10)) + q11.toInt64)) + q12.toInt64)) + q13.1.toInt64), .null, .int x3, .null]) (st' := [.int 0, .int 3, .ref 0, .long (31 * ((31 * ((31 * ((31 * ((31 * ((31 * ((31 * ((31 * x1) + q7.1.toInt64)) + q8.1.toInt64)) + q9)) + q10)) + q11.toInt64)) + q12.toInt64)) + q13.1.toInt64))]) (a' := q13.2) [(.i2l, 1, 0, .null), (.ladd, 1, 0, .null), (.lstore_n 1, 1, 1, .null), (.ldc2_w 282, 3, 0, .long 31), (.lload_n 1, 1, 1, .null), (.lmul, 1, 0, .null), (.aload_n 0, 1, 0, .null), (.iconst 3, 1, 0, .int 3), (.iconst 0, 1, 0, .int 0)] (by decide +kernel) rfl ?_
      refine XI_VI (As := [.int 3, .int 0]) (rest := [.long (31 * ((31 * ((31 * ((31 * ((31 * ((31 * ((31 * ((31 * x1) + q7.1.toInt64)) + q8.1.toInt64)) + q9)) + q10)) + q11.toInt64)) + q12.toInt64)) + q13.1.toInt64))]) (b := 0) (idx := 324) (by decide +kernel) ok_C_ends mv_C_ends (n := 2) ⟨lk_C_324, by decide +kernel⟩ rfl rfl rfl rfl (Nat.le_of_ble_eq_true rfl) (Nat.le_of_ble_eq_true rfl) (qI_h rfl) (x_C_ends E N 3 0 q13.2) (fun q14 => ?_)
      refine XI_go (pc' := 304) (ls' := [.ref 0, .long ((31 * ((31 * ((31 * ((31 * ((31 * ((31 * ((31 * ((31 * x1) + q7.1.toInt64)) + q8.1.toInt64)) + q9)) + q10)) + q11.toInt64)) + q12.toInt64)) + q13.1.toInt64)) + q14.1.toInt64), .null, .int x3, .null]) (st' := [.int 1, .int 3, .ref 0, .long (31 * ((31 * ((31 * ((31 * ((31 * ((31 * ((31 * ((31 * ((31 * x1) + q7.1.toInt64)) + q8.1.toInt64)) + q9)) + q10)) + q11.toInt64)) + q12.toInt64)) + q13.1.toInt64)) + q14.1.toInt64))]) (a' := q14.2) [(.i2l, 1, 0, .null), (.ladd, 1, 0, .null), (.lstore_n 1, 1, 1, .null), (.ldc2_w 282, 3, 0, .long 31), (.lload_n 1, 1, 1, .null), (.lmul, 1, 0, .null), (.aload_n 0, 1, 0, .null), (.iconst 3, 1, 0, .int 3), (.iconst 1, 1, 0, .int 1)] (by decide +kernel) rfl ?_
      refine XI_VI (As := [.int 3, .int 1]) (rest := [.long (31 * ((31 * ((31 * ((31 * ((31 * ((31 * ((31 * ((31 * ((31 * x1) + q7.1.toInt64)) + q8.1.toInt64)) + q9)) + q10)) + q11.toInt64)) + q12.toInt64)) + q13.1.toInt64)) + q14.1.toInt64))]) (b := 0) (idx := 324) (by decide +kernel) ok_C_ends mv_C_ends (n := 2) ⟨lk_C_324, by decide +kernel⟩ rfl rfl rfl rfl (Nat.le_of_ble_eq_true rfl) (Nat.le_of_ble_eq_true rfl) (qI_h rfl) (x_C_ends E N 3 1 q14.2) (fun q15 => ?_)
      refine XI_go (pc' := 318) (ls' := [.ref 0, .long ((31 * ((31 * ((31 * ((31 * ((31 * ((31 * ((31 * ((31 * ((31 * x1) + q7.1.toInt64)) + q8.1.toInt64)) + q9)) + q10)) + q11.toInt64)) + q12.toInt64)) + q13.1.toInt64)) + q14.1.toInt64)) + q15.1.toInt64), .null, .int x3, .null]) (st' := [.int 3, .int 5, .ref 0, .long (31 * ((31 * ((31 * ((31 * ((31 * ((31 * ((31 * ((31 * ((31 * ((31 * x1) + q7.1.toInt64)) + q8.1.toInt64)) + q9)) + q10)) + q11.toInt64)) + q12.toInt64)) + q13.1.toInt64)) + q14.1.toInt64)) + q15.1.toInt64))]) (a' := q15.2) [(.i2l, 1, 0, .null), (.ladd, 1, 0, .null), (.lstore_n 1, 1, 1, .null), (.ldc2_w 282, 3, 0, .long 31), (.lload_n 1, 1, 1, .null), (.lmul, 1, 0, .null), (.aload_n 0, 1, 0, .null), (.iconst 5, 1, 0, .int 5), (.iconst 3, 1, 0, .int 3)] (by decide +kernel) rfl ?_
      refine XI_VP (As := [.int 5, .int 3]) (rest := [.long (31 * ((31 * ((31 * ((31 * ((31 * ((31 * ((31 * ((31 * ((31 * ((31 * x1) + q7.1.toInt64)) + q8.1.toInt64)) + q9)) + q10)) + q11.toInt64)) + q12.toInt64)) + q13.1.toInt64)) + q14.1.toInt64)) + q15.1.toInt64))]) (b := 0) (idx := 327) (by decide +kernel) ok_C_run mv_C_run (n := 2) ⟨lk_C_327, by decide +kernel⟩ rfl rfl rfl rfl (Nat.le_of_ble_eq_true rfl) (Nat.le_of_ble_eq_true rfl) (qI_h rfl) (x_C_run E N 5 3 q15.2) (fun q16 => ?_)
      refine XI_go (pc' := 332) (ls' := [.ref 0, .long ((31 * ((31 * ((31 * ((31 * ((31 * ((31 * ((31 * ((31 * ((31 * ((31 * x1) + q7.1.toInt64)) + q8.1.toInt64)) + q9)) + q10)) + q11.toInt64)) + q12.toInt64)) + q13.1.toInt64)) + q14.1.toInt64)) + q15.1.toInt64)) + q16.toInt64), .null, .int x3, .null]) (st' := [.int 0, .int 3, .ref 0, .long (31 * ((31 * ((31 * ((31 * ((31 * ((31 * ((31 * ((31 * ((31 * ((31 * ((31 * x1) + q7.1.toInt64)) + q8.1.toInt64)) + q9)) + q10)) + q11.toInt64)) + q12.toInt64)) + q13.1.toInt64)) + q14.1.toInt64)) + q15.1.toInt64)) + q16.toInt64))]) (a' := q15.2) [(.i2l, 1, 0, .null), (.ladd, 1, 0, .null), (.lstore_n 1, 1, 1, .null), (.ldc2_w 282, 3, 0, .long 31), (.lload_n 1, 1, 1, .null), (.lmul, 1, 0, .null), (.aload_n 0, 1, 0, .null), (.iconst 3, 1, 0, .int 3), (.iconst 0, 1, 0, .int 0)] (by decide +kernel) rfl ?_
      refine XI_VP (As := [.int 3, .int 0]) (rest := [.long (31 * ((31 * ((31 * ((31 * ((31 * ((31 * ((31 * ((31 * ((31 * ((31 * ((31 * x1) + q7.1.toInt64)) + q8.1.toInt64)) + q9)) + q10)) + q11.toInt64)) + q12.toInt64)) + q13.1.toInt64)) + q14.1.toInt64)) + q15.1.toInt64)) + q16.toInt64))]) (b := 0) (idx := 330) (by decide +kernel) ok_C_hit mv_C_hit (n := 2) ⟨lk_C_330, by decide +kernel⟩ rfl rfl rfl rfl (Nat.le_of_ble_eq_true rfl) (Nat.le_of_ble_eq_true rfl) (qI_h rfl) (x_C_hit E N 3 0 q15.2) (fun q17 => ?_)
      refine XI_go (pc' := 346) (ls' := [.ref 0, .long ((31 * ((31 * ((31 * ((31 * ((31 * ((31 * ((31 * ((31 * ((31 * ((31 * ((31 * x1) + q7.1.toInt64)) + q8.1.toInt64)) + q9)) + q10)) + q11.toInt64)) + q12.toInt64)) + q13.1.toInt64)) + q14.1.toInt64)) + q15.1.toInt64)) + q16.toInt64)) + q17.toInt64), .null, .int x3, .null]) (st' := [.int 1, .int 3, .ref 0, .long (31 * ((31 * ((31 * ((31 * ((31 * ((31 * ((31 * ((31 * ((31 * ((31 * ((31 * ((31 * x1) + q7.1.toInt64)) + q8.1.toInt64)) + q9)) + q10)) + q11.toInt64)) + q12.toInt64)) + q13.1.toInt64)) + q14.1.toInt64)) + q15.1.toInt64)) + q16.toInt64)) + q17.toInt64))]) (a' := q15.2) [(.i2l, 1, 0, .null), (.ladd, 1, 0, .null), (.lstore_n 1, 1, 1, .null), (.ldc2_w 282, 3, 0, .long 31), (.lload_n 1, 1, 1, .null), (.lmul, 1, 0, .null), (.aload_n 0, 1, 0, .null), (.iconst 3, 1, 0, .int 3), (.iconst 1, 1, 0, .int 1)] (by decide +kernel) rfl ?_
      refine XI_VP (As := [.int 3, .int 1]) (rest := [.long (31 * ((31 * ((31 * ((31 * ((31 * ((31 * ((31 * ((31 * ((31 * ((31 * ((31 * ((31 * x1) + q7.1.toInt64)) + q8.1.toInt64)) + q9)) + q10)) + q11.toInt64)) + q12.toInt64)) + q13.1.toInt64)) + q14.1.toInt64)) + q15.1.toInt64)) + q16.toInt64)) + q17.toInt64))]) (b := 0) (idx := 330) (by decide +kernel) ok_C_hit mv_C_hit (n := 2) ⟨lk_C_330, by decide +kernel⟩ rfl rfl rfl rfl (Nat.le_of_ble_eq_true rfl) (Nat.le_of_ble_eq_true rfl) (qI_h rfl) (x_C_hit E N 3 1 q15.2) (fun q18 => ?_)
      refine XI_go (pc' := 358) (ls' := [.ref 0, .long ((31 * ((31 * ((31 * ((31 * ((31 * ((31 * ((31 * ((31 * ((31 * ((31 * ((31 * ((31 * x1) + q7.1.toInt64)) + q8.1.toInt64)) + q9)) + q10)) + q11.toInt64)) + q12.toInt64)) + q13.1.toInt64)) + q14.1.toInt64)) + q15.1.toInt64)) + q16.toInt64)) + q17.toInt64)) + q18.toInt64), .null, .int x3, .null]) (st' := [.ref 0, .long (31 * ((31 * ((31 * ((31 * ((31 * ((31 * ((31 * ((31 * ((31 * ((31 * ((31 * ((31 * ((31 * x1) + q7.1.toInt64)) + q8.1.toInt64)) + q9)) + q10)) + q11.toInt64)) + q12.toInt64)) + q13.1.toInt64)) + q14.1.toInt64)) + q15.1.toInt64)) + q16.toInt64)) + q17.toInt64)) + q18.toInt64))]) (a' := q15.2) [(.i2l, 1, 0, .null), (.ladd, 1, 0, .null), (.lstore_n 1, 1, 1, .null), (.ldc2_w 282, 3, 0, .long 31), (.lload_n 1, 1, 1, .null), (.lmul, 1, 0, .null), (.aload_n 0, 1, 0, .null)] (by decide +kernel) rfl ?_
      refine XI_VI (As := []) (rest := [.long (31 * ((31 * ((31 * ((31 * ((31 * ((31 * ((31 * ((31 * ((31 * ((31 * ((31 * ((31 * ((31 * x1) + q7.1.toInt64)) + q8.1.toInt64)) + q9)) + q10)) + q11.toInt64)) + q12.toInt64)) + q13.1.toInt64)) + q14.1.toInt64)) + q15.1.toInt64)) + q16.toInt64)) + q17.toInt64)) + q18.toInt64))]) (b := 0) (idx := 333) (by decide +kernel) ok_C_seeds mv_C_seeds (n := 0) ⟨lk_C_333, by decide +kernel⟩ rfl rfl rfl rfl (Nat.le_of_ble_eq_true rfl) (Nat.le_of_ble_eq_true rfl) (qI_h rfl) (x_C_seeds E N q15.2) (fun q19 => ?_)
      refine XI_go (pc' := 363) (ls' := [.ref 0, .long ((31 * ((31 * ((31 * ((31 * ((31 * ((31 * ((31 * ((31 * ((31 * ((31 * ((31 * ((31 * x1) + q7.1.toInt64)) + q8.1.toInt64)) + q9)) + q10)) + q11.toInt64)) + q12.toInt64)) + q13.1.toInt64)) + q14.1.toInt64)) + q15.1.toInt64)) + q16.toInt64)) + q17.toInt64)) + q18.toInt64), .null, .int x3, .null]) (st' := [.long ((31 * ((31 * ((31 * ((31 * ((31 * ((31 * ((31 * ((31 * ((31 * ((31 * ((31 * ((31 * ((31 * x1) + q7.1.toInt64)) + q8.1.toInt64)) + q9)) + q10)) + q11.toInt64)) + q12.toInt64)) + q13.1.toInt64)) + q14.1.toInt64)) + q15.1.toInt64)) + q16.toInt64)) + q17.toInt64)) + q18.toInt64)) + q19.1.toInt64)]) (a' := q19.2) [(.i2l, 1, 0, .null), (.ladd, 1, 0, .null)] (by decide +kernel) rfl ?_
      exact XI_retJ (by decide +kernel)
    · refine XI_go (pc' := 124) (ls' := [.ref 0, .long x1, .null, .int x3, .int 0]) (st' := []) (a' := a) [(.iconst 0, 1, 0, .int 0), (.istore 4, 2, 4, .null)] (by decide +kernel) rfl ?_
      refine XI_fg [true, true, false, true, true] ?_
      exact x_C_digest_124 E N (f_C_digest_116 N n) (x_C_digest_116 E N n) N x1 x3 0 a
set_option maxHeartbeats 4000000 in
set_option maxRecDepth 100000 in
theorem x_C_digest_90 (E : eT) (N : Nat) : ∀ (n : Nat) (x1 : Int64) (x3 : Int32) (a : aT), XI qL E md_C_digest 90 [.ref 0, .long x1, .null, .int x3, .null] [] a (f_C_digest_90 N n x1 x3 a)
  | 0, _, _, _ => XI_no rfl
  | n + 1, x1, x3, a => by
    refine XI_br (c := 4 ≤ x3) (t := 114) (e := 95) (ls' := [.ref 0, .long x1, .null, .int x3, .null]) (st' := []) (a' := a) [(.iload_n 3, 1, 3, .null), (.iconst 4, 1, 0, .int 4), (.if_icmp .ge 22, 3, 114, .null)] (by decide +kernel) rfl ?_ ?_
    · refine XI_go (pc' := 116) (ls' := [.ref 0, .long x1, .null, .int 0, .null]) (st' := []) (a' := a) [(.iconst 0, 1, 0, .int 0), (.istore_n 3, 1, 3, .null)] (by decide +kernel) rfl ?_
      refine XI_fg [true, true, false, true, false] ?_
      exact x_C_digest_116 E N N x1 0 a
    · refine XI_go (pc' := 102) (ls' := [.ref 0, .long x1, .null, .int x3, .null]) (st' := [.int x3, .ref 0, .long (31 * x1)]) (a' := a) [(.ldc2_w 282, 3, 0, .long 31), (.lload_n 1, 1, 1, .null), (.lmul, 1, 0, .null), (.aload_n 0, 1, 0, .null), (.iload_n 3, 1, 3, .null)] (by decide +kernel) rfl ?_
      refine XI_VI (As := [.int x3]) (rest := [.long (31 * x1)]) (b := 0) (idx := 296) (by decide +kernel) ok_C_has mv_C_has (n := 1) ⟨lk_C_296, by decide +kernel⟩ rfl rfl rfl rfl (Nat.le_of_ble_eq_true rfl) (Nat.le_of_ble_eq_true rfl) (qI_h rfl) (x_C_has E N x3 a) (fun q6 => ?_)
      refine XI_go (pc' := 90) (ls' := [.ref 0, .long ((31 * x1) + q6.1.toInt64), .null, .int (x3 + 1), .null]) (st' := []) (a' := q6.2) [(.i2l, 1, 0, .null), (.ladd, 1, 0, .null), (.lstore_n 1, 1, 1, .null), (.iinc 3 1, 3, 3, .int 1), (.goto (-21), 3, 90, .null)] (by decide +kernel) rfl ?_
      refine XI_fg [true, true, false, true, false] ?_
      exact x_C_digest_90 E N n ((31 * x1) + q6.1.toInt64) (x3 + 1) q6.2
set_option maxHeartbeats 4000000 in
set_option maxRecDepth 100000 in
theorem x_C_digest_57 (E : eT) (N : Nat) : ∀ (n : Nat) (x1 : Int64) (x3 : Int32) (a : aT), XI qL E md_C_digest 57 [.ref 0, .long x1, .null, .int x3, .null] [] a (f_C_digest_57 N n x1 x3 a)
  | 0, _, _, _ => XI_no rfl
  | n + 1, x1, x3, a => by
    refine XI_br (c := 5 ≤ x3) (t := 88) (e := 62) (ls' := [.ref 0, .long x1, .null, .int x3, .null]) (st' := []) (a' := a) [(.iload_n 3, 1, 3, .null), (.iconst 5, 1, 0, .int 5), (.if_icmp .ge 29, 3, 88, .null)] (by decide +kernel) rfl ?_ ?_
    · refine XI_go (pc' := 90) (ls' := [.ref 0, .long x1, .null, .int 0, .null]) (st' := []) (a' := a) [(.iconst 0, 1, 0, .int 0), (.istore_n 3, 1, 3, .null)] (by decide +kernel) rfl ?_
      refine XI_fg [true, true, false, true, false] ?_
      exact x_C_digest_90 E N N x1 0 a
    · refine XI_go (pc' := 72) (ls' := [.ref 0, .long x1, .null, .int x3, .null]) (st' := [.ref 10, .ref 0, .long (31 * x1)]) (a' := a) [(.ldc2_w 282, 3, 0, .long 31), (.lload_n 1, 1, 1, .null), (.lmul, 1, 0, .null), (.aload_n 0, 1, 0, .null), (.aload_n 0, 1, 0, .null), (.getfield 40, 3, 1004, .null)] (by decide +kernel) rfl ?_
      refine XI_VT (As := []) (rest := [.ref 0, .long (31 * x1)]) (b := 10) (idx := 141) (by decide +kernel) ok_O_size mv_O_size (n := 0) ⟨lk_C_141, by decide +kernel⟩ rfl rfl rfl rfl (Nat.le_of_ble_eq_true rfl) (Nat.le_of_ble_eq_true rfl) (qI_h rfl) (x_O_size E a) ?_
      refine XI_go (pc' := 76) (ls' := [.ref 0, .long x1, .null, .int x3, .null]) (st' := [.int x3, .int (f_O_size a), .ref 0, .long (31 * x1)]) (a' := a) [(.iload_n 3, 1, 3, .null)] (by decide +kernel) rfl ?_
      refine XI_VI (As := [.int (f_O_size a), .int x3]) (rest := [.long (31 * x1)]) (b := 0) (idx := 293) (by decide +kernel) ok_C_state mv_C_state (n := 2) ⟨lk_C_293, by decide +kernel⟩ rfl rfl rfl rfl (Nat.le_of_ble_eq_true rfl) (Nat.le_of_ble_eq_true rfl) (qI_h rfl) (x_C_state E N (f_O_size a) x3 a) (fun q5 => ?_)
      refine XI_go (pc' := 57) (ls' := [.ref 0, .long ((31 * x1) + q5.1.toInt64), .null, .int (x3 + 1), .null]) (st' := []) (a' := q5.2) [(.i2l, 1, 0, .null), (.ladd, 1, 0, .null), (.lstore_n 1, 1, 1, .null), (.iinc 3 1, 3, 3, .int 1), (.goto (-28), 3, 57, .null)] (by decide +kernel) rfl ?_
      refine XI_fg [true, true, false, true, false] ?_
      exact x_C_digest_57 E N n ((31 * x1) + q5.1.toInt64) (x3 + 1) q5.2
set_option maxHeartbeats 4000000 in
set_option maxRecDepth 100000 in
theorem x_C_digest_6 (E : eT) (N : Nat) : ∀ (n : Nat) (x1 : Int64) (x3 : Int32) (a : aT), XI qL E md_C_digest 6 [.ref 0, .long x1, .null, .int x3, .null] [] a (f_C_digest_6 N n x1 x3 a)
  | 0, _, _, _ => XI_no rfl
  | n + 1, x1, x3, a => by
    refine XI_br (c := 8 ≤ x3) (t := 31) (e := 12) (ls' := [.ref 0, .long x1, .null, .int x3, .null]) (st' := []) (a' := a) [(.iload_n 3, 1, 3, .null), (.bipush 8, 2, 0, .int 8), (.if_icmp .ge 22, 3, 31, .null)] (by decide +kernel) rfl ?_ ?_
    · refine XI_go (pc' := 37) (ls' := [.ref 0, .long x1, .null, .int x3, .null]) (st' := [.ref 0, .long (31 * x1)]) (a' := a) [(.ldc2_w 282, 3, 0, .long 31), (.lload_n 1, 1, 1, .null), (.lmul, 1, 0, .null), (.aload_n 0, 1, 0, .null)] (by decide +kernel) rfl ?_
      refine XI_VT (As := []) (rest := [.long (31 * x1)]) (b := 0) (idx := 287) (by decide +kernel) ok_C_fault mv_C_fault (n := 0) ⟨lk_C_287, by decide +kernel⟩ rfl rfl rfl rfl (Nat.le_of_ble_eq_true rfl) (Nat.le_of_ble_eq_true rfl) (qI_h rfl) (x_C_fault E a) ?_
      refine XI_go (pc' := 49) (ls' := [.ref 0, .long ((31 * x1) + (f_C_fault a).toInt64), .null, .int x3, .null]) (st' := [.ref 0, .long (31 * ((31 * x1) + (f_C_fault a).toInt64))]) (a' := a) [(.i2l, 1, 0, .null), (.ladd, 1, 0, .null), (.lstore_n 1, 1, 1, .null), (.ldc2_w 282, 3, 0, .long 31), (.lload_n 1, 1, 1, .null), (.lmul, 1, 0, .null), (.aload_n 0, 1, 0, .null)] (by decide +kernel) rfl ?_
      refine XI_VI (As := []) (rest := [.long (31 * ((31 * x1) + (f_C_fault a).toInt64))]) (b := 0) (idx := 290) (by decide +kernel) ok_C_judged mv_C_judged (n := 0) ⟨lk_C_290, by decide +kernel⟩ rfl rfl rfl rfl (Nat.le_of_ble_eq_true rfl) (Nat.le_of_ble_eq_true rfl) (qI_h rfl) (x_C_judged E N a) (fun q2 => ?_)
      refine XI_go (pc' := 57) (ls' := [.ref 0, .long ((31 * ((31 * x1) + (f_C_fault a).toInt64)) + q2.1.toInt64), .null, .int 0, .null]) (st' := []) (a' := q2.2) [(.i2l, 1, 0, .null), (.ladd, 1, 0, .null), (.lstore_n 1, 1, 1, .null), (.iconst 0, 1, 0, .int 0), (.istore_n 3, 1, 3, .null)] (by decide +kernel) rfl ?_
      refine XI_fg [true, true, false, true, false] ?_
      exact x_C_digest_57 E N N ((31 * ((31 * x1) + (f_C_fault a).toInt64)) + q2.1.toInt64) 0 q2.2
    · refine XI_go (pc' := 19) (ls' := [.ref 0, .long x1, .null, .int x3, .null]) (st' := [.int x3, .ref 0, .long (31 * x1)]) (a' := a) [(.ldc2_w 282, 3, 0, .long 31), (.lload_n 1, 1, 1, .null), (.lmul, 1, 0, .null), (.aload_n 0, 1, 0, .null), (.iload_n 3, 1, 3, .null)] (by decide +kernel) rfl ?_
      refine XI_VI (As := [.int x3]) (rest := [.long (31 * x1)]) (b := 0) (idx := 284) (by decide +kernel) ok_C_count mv_C_count (n := 1) ⟨lk_C_284, by decide +kernel⟩ rfl rfl rfl rfl (Nat.le_of_ble_eq_true rfl) (Nat.le_of_ble_eq_true rfl) (qI_h rfl) (x_C_count E N x3 a) (fun q3 => ?_)
      refine XI_go (pc' := 6) (ls' := [.ref 0, .long ((31 * x1) + q3.1.toInt64), .null, .int (x3 + 1), .null]) (st' := []) (a' := q3.2) [(.i2l, 1, 0, .null), (.ladd, 1, 0, .null), (.lstore_n 1, 1, 1, .null), (.iinc 3 1, 3, 3, .int 1), (.goto (-22), 3, 6, .null)] (by decide +kernel) rfl ?_
      refine XI_fg [true, true, false, true, false] ?_
      exact x_C_digest_6 E N n ((31 * x1) + q3.1.toInt64) (x3 + 1) q3.2
set_option maxHeartbeats 4000000 in
set_option maxRecDepth 100000 in
theorem x_C_digest (E : eT) (N : Nat) (a : aT) : XI qL E md_C_digest 0 [.ref 0, .null, .null, .null, .null] [] a (f_C_digest N a) := by
  refine XI_go (pc' := 6) (ls' := [.ref 0, .long 17, .null, .int 0, .null]) (st' := []) (a' := a) [(.ldc2_w 280, 3, 0, .long 17), (.lstore_n 1, 1, 1, .null), (.iconst 0, 1, 0, .int 0), (.istore_n 3, 1, 3, .null)] (by decide +kernel) rfl ?_
  refine XI_fg [true, true, false, true, false] ?_
  exact x_C_digest_6 E N N 17 0 a
/-! ChestnutSticksModel.digest()J -/
def md_M_digest : md_T := (yX11_digest, cX11_digest, 5, (some .long), 8, 191)
set_option maxRecDepth 100000 in
theorem ok_M_digest : m_ok md_M_digest := ⟨List.mem_of_getElem? (i := 1339) (by decide +kernel), by decide +kernel, List.mem_of_getElem? (i := 64) (by decide +kernel), by decide +kernel⟩
theorem mv_M_digest : Cond.instanceMethod (m_y md_M_digest) ∈ lw_tbl ∧ Cond.selects (m_y md_M_digest).cls (m_y md_M_digest) (m_y md_M_digest) ∈ lw_tbl := ⟨List.mem_of_getElem? (i := 1337) (by decide +kernel), List.mem_of_getElem? (i := 1338) (by decide +kernel)⟩
def f_M_digest_122 (N : Nat) (k114 : Int64 → Int32 → aT → Option (Int64 × aT)) : Nat → Int64 → Int32 → Int32 → aT → Option (Int64 × aT)
  | 0 => fun _ _ _ _ => none
  | n + 1 => fun x1 x3 x4 a =>
    if 4 ≤ x4 then
      (f_M_worth N x3 9 a).bind fun q17 =>
        (f_M_whereOf N x3 q17.2).bind fun q18 =>
          k114 ((31 * ((31 * x1) + q17.1.toInt64)) + q18.toInt64) (x3 + 1) q17.2
    else
      (f_M_brings N x3 9 x4 a).bind fun q19 =>
        f_M_digest_122 N k114 n ((31 * x1) + q19.1) x3 (x4 + 1) q19.2
def f_M_digest_214 (N : Nat) : Nat → Int64 → Int32 → aT → Option (Int64 × aT)
  | 0 => fun _ _ _ => none
  | n + 1 => fun x1 x3 a =>
    if 2 ≤ x3 then
      (f_M_ripeOf N 0 a).bind fun q7 =>
        (f_M_ripeOf N 29 a).bind fun q8 =>
          (f_M_restsOf N 3 a).bind fun q9 =>
            (f_M_endsOf N 3 0 a).bind fun q10 =>
              (f_M_endsOf N 3 1 a).bind fun q11 =>
                (f_M_runOf N 5 3 a).bind fun q12 =>
                  (f_M_hitOf N 3 0 a).bind fun q13 =>
                    (f_M_hitOf N 3 1 a).bind fun q14 =>
                      (f_M_seedsNow N a).bind fun q15 =>
                        some (((31 * ((31 * ((31 * ((31 * ((31 * ((31 * ((31 * ((31 * ((31 * x1) + q7.toInt64)) + q8.toInt64)) + q9.toInt64)) + q10.toInt64)) + q11.toInt64)) + q12.toInt64)) + q13.toInt64)) + q14.toInt64)) + q15.1.toInt64), q15.2)
    else
      (f_M_lieOf N 6 x3 a).bind fun q16 =>
        f_M_digest_214 N n ((31 * x1) + q16) (x3 + 1) a
def f_M_digest_114 (N : Nat) : Nat → Int64 → Int32 → aT → Option (Int64 × aT)
  | 0 => fun _ _ _ => none
  | n + 1 => fun x1 x3 a =>
    if 4 ≤ x3 then
      (f_M_whichNow N a).bind fun q5 =>
        (f_M_frees N 0 9 1 a).bind fun q6 =>
          f_M_digest_214 N N ((31 * ((31 * x1) + q5.toInt64)) + q6.1.toInt64) 0 q6.2
    else
      f_M_digest_122 N (f_M_digest_114 N n) N x1 x3 0 a
def f_M_digest_87 (N : Nat) : Nat → Int64 → Int32 → aT → Option (Int64 × aT)
  | 0 => fun _ _ _ => none
  | n + 1 => fun x1 x3 a =>
    if 4 ≤ x3 then
      f_M_digest_114 N N x1 0 a
    else
      if inb x3 4 then
        f_M_digest_87 N n ((31 * x1) + (a 47 (ix x3)).toInt64) (x3 + 1) a
      else none
def f_M_digest_57 (N : Nat) : Nat → Int64 → Int32 → aT → Option (Int64 × aT)
  | 0 => fun _ _ _ => none
  | n + 1 => fun x1 x3 a =>
    if 5 ≤ x3 then
      f_M_digest_87 N N x1 0 a
    else
      (f_M_stateOf N (a 31 18) x3 a).bind fun q4 =>
        f_M_digest_57 N n ((31 * x1) + q4.1.toInt64) (x3 + 1) q4.2
def f_M_digest_6 (N : Nat) : Nat → Int64 → Int32 → aT → Option (Int64 × aT)
  | 0 => fun _ _ _ => none
  | n + 1 => fun x1 x3 a =>
    if 8 ≤ x3 then
      (f_M_reads N a).bind fun q1 =>
        (f_M_judged N q1.2).bind fun q2 =>
          f_M_digest_57 N N ((31 * ((31 * x1) + q1.1.toInt64)) + q2.1.toInt64) 0 q2.2
    else
      (f_M_count N x3 a).bind fun q3 =>
        f_M_digest_6 N n ((31 * x1) + q3.1.toInt64) (x3 + 1) q3.2
def f_M_digest (N : Nat) (a : aT) : Option (Int64 × aT) :=
  f_M_digest_6 N N 17 0 a
set_option maxHeartbeats 4000000 in
set_option maxRecDepth 100000 in
theorem x_M_digest_122 (E : eT) (N : Nat) (k114 : Int64 → Int32 → aT → Option (Int64 × aT)) (h114 : ∀ (x1 : Int64) (x3 : Int32) (a : aT), XI qL E md_M_digest 114 [.ref 31, .long x1, .null, .int x3, .null] [] a (k114 x1 x3 a)) : ∀ (n : Nat) (x1 : Int64) (x3 : Int32) (x4 : Int32) (a : aT), XI qL E md_M_digest 122 [.ref 31, .long x1, .null, .int x3, .int x4] [] a (f_M_digest_122 N k114 n x1 x3 x4 a)
  | 0, _, _, _, _ => XI_no rfl
  | n + 1, x1, x3, x4, a => by
    refine XI_br (c := 4 ≤ x4) (t := 150) (e := 128) (ls' := [.ref 31, .long x1, .null, .int x3, .int x4]) (st' := []) (a' := a) [(.iload 4, 2, 4, .null), (.iconst 4, 1, 0, .int 4), (.if_icmp .ge 25, 3, 150, .null)] (by decide +kernel) rfl ?_ ?_
    · refine XI_go (pc' := 159) (ls' := [.ref 31, .long x1, .null, .int x3, .int x4]) (st' := [.int 9, .int x3, .ref 31, .long (31 * x1)]) (a' := a) [(.ldc2_w 305, 3, 0, .long 31), (.lload_n 1, 1, 1, .null), (.lmul, 1, 0, .null), (.aload_n 0, 1, 0, .null), (.iload_n 3, 1, 3, .null), (.bipush 9, 2, 0, .int 9)] (by decide +kernel) rfl ?_
      refine XI_VI (As := [.int x3, .int 9]) (rest := [.long (31 * x1)]) (b := 31) (idx := 317) (by decide +kernel) ok_M_worth mv_M_worth (n := 2) ⟨lk_M_317, by decide +kernel⟩ rfl rfl rfl rfl (Nat.le_of_ble_eq_true rfl) (Nat.le_of_ble_eq_true rfl) (qI_h rfl) (x_M_worth E N x3 9 a) (fun q17 => ?_)
      refine XI_go (pc' := 172) (ls' := [.ref 31, .long ((31 * x1) + q17.1.toInt64), .null, .int x3, .int x4]) (st' := [.int x3, .ref 31, .long (31 * ((31 * x1) + q17.1.toInt64))]) (a' := q17.2) [(.i2l, 1, 0, .null), (.ladd, 1, 0, .null), (.lstore_n 1, 1, 1, .null), (.ldc2_w 305, 3, 0, .long 31), (.lload_n 1, 1, 1, .null), (.lmul, 1, 0, .null), (.aload_n 0, 1, 0, .null), (.iload_n 3, 1, 3, .null)] (by decide +kernel) rfl ?_
      refine XI_VP (As := [.int x3]) (rest := [.long (31 * ((31 * x1) + q17.1.toInt64))]) (b := 31) (idx := 238) (by decide +kernel) ok_M_whereOf mv_M_whereOf (n := 1) ⟨lk_M_238, by decide +kernel⟩ rfl rfl rfl rfl (Nat.le_of_ble_eq_true rfl) (Nat.le_of_ble_eq_true rfl) (qI_h rfl) (x_M_whereOf E N x3 q17.2) (fun q18 => ?_)
      refine XI_go (pc' := 114) (ls' := [.ref 31, .long ((31 * ((31 * x1) + q17.1.toInt64)) + q18.toInt64), .null, .int (x3 + 1), .int x4]) (st' := []) (a' := q17.2) [(.i2l, 1, 0, .null), (.ladd, 1, 0, .null), (.lstore_n 1, 1, 1, .null), (.iinc 3 1, 3, 3, .int 1), (.goto (-67), 3, 114, .null)] (by decide +kernel) rfl ?_
      refine XI_fg [true, true, false, true, false] ?_
      exact h114 ((31 * ((31 * x1) + q17.1.toInt64)) + q18.toInt64) (x3 + 1) q17.2
    · refine XI_go (pc' := 139) (ls' := [.ref 31, .long x1, .null, .int x3, .int x4]) (st' := [.int x4, .int 9, .int x3, .ref 31, .long (31 * x1)]) (a' := a) [(.ldc2_w 305, 3, 0, .long 31), (.lload_n 1, 1, 1, .null), (.lmul, 1, 0, .null), (.aload_n 0, 1, 0, .null), (.iload_n 3, 1, 3, .null), (.bipush 9, 2, 0, .int 9), (.iload 4, 2, 4, .null)] (by decide +kernel) rfl ?_
      refine XI_VI (As := [.int x3, .int 9, .int x4]) (rest := [.long (31 * x1)]) (b := 31) (idx := 313) (by decide +kernel) ok_M_brings mv_M_brings (n := 3) ⟨lk_M_313, by decide +kernel⟩ rfl rfl rfl rfl (Nat.le_of_ble_eq_true rfl) (Nat.le_of_ble_eq_true rfl) (qL_h rfl) (x_M_brings E N x3 9 x4 a) (fun q19 => ?_)
      refine XI_go (pc' := 122) (ls' := [.ref 31, .long ((31 * x1) + q19.1), .null, .int x3, .int (x4 + 1)]) (st' := []) (a' := q19.2) [(.ladd, 1, 0, .null), (.lstore_n 1, 1, 1, .null), (.iinc 4 1, 3, 4, .int 1), (.goto (-25), 3, 122, .null)] (by decide +kernel) rfl ?_
      refine XI_fg [true, true, false, true, true] ?_
      exact x_M_digest_122 E N k114 h114 n ((31 * x1) + q19.1) x3 (x4 + 1) q19.2
set_option maxHeartbeats 4000000 in
set_option maxRecDepth 100000 in
theorem x_M_digest_214 (E : eT) (N : Nat) : ∀ (n : Nat) (x1 : Int64) (x3 : Int32) (a : aT), XI qL E md_M_digest 214 [.ref 31, .long x1, .null, .int x3, .null] [] a (f_M_digest_214 N n x1 x3 a)
  | 0, _, _, _ => XI_no rfl
  | n + 1, x1, x3, a => by
    refine XI_br (c := 2 ≤ x3) (t := 239) (e := 219) (ls' := [.ref 31, .long x1, .null, .int x3, .null]) (st' := []) (a' := a) [(.iload_n 3, 1, 3, .null), (.iconst 2, 1, 0, .int 2), (.if_icmp .ge 23, 3, 239, .null)] (by decide +kernel) rfl ?_ ?_
    · refine XI_go (pc' := 246) (ls' := [.ref 31, .long x1, .null, .int x3, .null]) (st' := [.int 0, .ref 31, .long (31 * x1)]) (a' := a) [(.ldc2_w 305, 3, 0, .long 31), (.lload_n 1, 1, 1, .null), (.lmul, 1, 0, .null), (.aload_n 0, 1, 0, .null), (.iconst 0, 1, 0, .int 0)] (by decide +kernel) rfl ?_
      refine XI_VP (As := [.int 0]) (rest := [.long (31 * x1)]) (b := 31) (idx := 261) (by decide +kernel) ok_M_ripeOf mv_M_ripeOf (n := 1) ⟨lk_M_261, by decide +kernel⟩ rfl rfl rfl rfl (Nat.le_of_ble_eq_true rfl) (Nat.le_of_ble_eq_true rfl) (qI_h rfl) (x_M_ripeOf E N 0 a) (fun q7 => ?_)
      refine XI_go (pc' := 260) (ls' := [.ref 31, .long ((31 * x1) + q7.toInt64), .null, .int x3, .null]) (st' := [.int 29, .ref 31, .long (31 * ((31 * x1) + q7.toInt64))]) (a' := a) [(.i2l, 1, 0, .null), (.ladd, 1, 0, .null), (.lstore_n 1, 1, 1, .null), (.ldc2_w 305, 3, 0, .long 31), (.lload_n 1, 1, 1, .null), (.lmul, 1, 0, .null), (.aload_n 0, 1, 0, .null), (.bipush 29, 2, 0, .int 29)] (by decide +kernel) rfl ?_
      refine XI_VP (As := [.int 29]) (rest := [.long (31 * ((31 * x1) + q7.toInt64))]) (b := 31) (idx := 261) (by decide +kernel) ok_M_ripeOf mv_M_ripeOf (n := 1) ⟨lk_M_261, by decide +kernel⟩ rfl rfl rfl rfl (Nat.le_of_ble_eq_true rfl) (Nat.le_of_ble_eq_true rfl) (qI_h rfl) (x_M_ripeOf E N 29 a) (fun q8 => ?_)
      refine XI_go (pc' := 273) (ls' := [.ref 31, .long ((31 * ((31 * x1) + q7.toInt64)) + q8.toInt64), .null, .int x3, .null]) (st' := [.int 3, .ref 31, .long (31 * ((31 * ((31 * x1) + q7.toInt64)) + q8.toInt64))]) (a' := a) [(.i2l, 1, 0, .null), (.ladd, 1, 0, .null), (.lstore_n 1, 1, 1, .null), (.ldc2_w 305, 3, 0, .long 31), (.lload_n 1, 1, 1, .null), (.lmul, 1, 0, .null), (.aload_n 0, 1, 0, .null), (.iconst 3, 1, 0, .int 3)] (by decide +kernel) rfl ?_
      refine XI_VP (As := [.int 3]) (rest := [.long (31 * ((31 * ((31 * x1) + q7.toInt64)) + q8.toInt64))]) (b := 31) (idx := 270) (by decide +kernel) ok_M_restsOf mv_M_restsOf (n := 1) ⟨lk_M_270, by decide +kernel⟩ rfl rfl rfl rfl (Nat.le_of_ble_eq_true rfl) (Nat.le_of_ble_eq_true rfl) (qI_h rfl) (x_M_restsOf E N 3 a) (fun q9 => ?_)
      refine XI_go (pc' := 287) (ls' := [.ref 31, .long ((31 * ((31 * ((31 * x1) + q7.toInt64)) + q8.toInt64)) + q9.toInt64), .null, .int x3, .null]) (st' := [.int 0, .int 3, .ref 31, .long (31 * ((31 * ((31 * ((31 * x1) + q7.toInt64)) + q8.toInt64)) + q9.toInt64))]) (a' := a) [(.i2l, 1, 0, .null), (.ladd, 1, 0, .null), (.lstore_n 1, 1, 1, .null), (.ldc2_w 305, 3, 0, .long 31), (.lload_n 1, 1, 1, .null), (.lmul, 1, 0, .null), (.aload_n 0, 1, 0, .null), (.iconst 3, 1, 0, .int 3), (.iconst 0, 1, 0, .int 0)] (by decide +kernel) rfl ?_
      refine XI_VP (As := [.int 3, .int 0]) (rest := [.long (31 * ((31 * ((31 * ((31 * x1) + q7.toInt64)) + q8.toInt64)) + q9.toInt64))]) (b := 31) (idx := 273) (by decide +kernel) ok_M_endsOf mv_M_endsOf (n := 2) ⟨lk_M_273, by decide +kernel⟩ rfl rfl rfl rfl (Nat.le_of_ble_eq_true rfl) (Nat.le_of_ble_eq_true rfl) (qI_h rfl) (x_M_endsOf E N 3 0 a) (fun q10 => ?_)
      refine XI_go (pc' := 301) (ls' := [.ref 31, .long ((31 * ((31 * ((31 * ((31 * x1) + q7.toInt64)) + q8.toInt64)) + q9.toInt64)) + q10.toInt64), .null, .int x3, .null]) (st' := [.int 1, .int 3, .ref 31, .long (31 * ((31 * ((31 * ((31 * ((31 * x1) + q7.toInt64)) + q8.toInt64)) + q9.toInt64)) + q10.toInt64))]) (a' := a) [(.i2l, 1, 0, .null), (.ladd, 1, 0, .null), (.lstore_n 1, 1, 1, .null), (.ldc2_w 305, 3, 0, .long 31), (.lload_n 1, 1, 1, .null), (.lmul, 1, 0, .null), (.aload_n 0, 1, 0, .null), (.iconst 3, 1, 0, .int 3), (.iconst 1, 1, 0, .int 1)] (by decide +kernel) rfl ?_
      refine XI_VP (As := [.int 3, .int 1]) (rest := [.long (31 * ((31 * ((31 * ((31 * ((31 * x1) + q7.toInt64)) + q8.toInt64)) + q9.toInt64)) + q10.toInt64))]) (b := 31) (idx := 273) (by decide +kernel) ok_M_endsOf mv_M_endsOf (n := 2) ⟨lk_M_273, by decide +kernel⟩ rfl rfl rfl rfl (Nat.le_of_ble_eq_true rfl) (Nat.le_of_ble_eq_true rfl) (qI_h rfl) (x_M_endsOf E N 3 1 a) (fun q11 => ?_)
      refine XI_go (pc' := 315) (ls' := [.ref 31, .long ((31 * ((31 * ((31 * ((31 * ((31 * x1) + q7.toInt64)) + q8.toInt64)) + q9.toInt64)) + q10.toInt64)) + q11.toInt64), .null, .int x3, .null]) (st' := [.int 3, .int 5, .ref 31, .long (31 * ((31 * ((31 * ((31 * ((31 * ((31 * x1) + q7.toInt64)) + q8.toInt64)) + q9.toInt64)) + q10.toInt64)) + q11.toInt64))]) (a' := a) [(.i2l, 1, 0, .null), (.ladd, 1, 0, .null), (.lstore_n 1, 1, 1, .null), (.ldc2_w 305, 3, 0, .long 31), (.lload_n 1, 1, 1, .null), (.lmul, 1, 0, .null), (.aload_n 0, 1, 0, .null), (.iconst 5, 1, 0, .int 5), (.iconst 3, 1, 0, .int 3)] (by decide +kernel) rfl ?_
      refine XI_VP (As := [.int 5, .int 3]) (rest := [.long (31 * ((31 * ((31 * ((31 * ((31 * ((31 * x1) + q7.toInt64)) + q8.toInt64)) + q9.toInt64)) + q10.toInt64)) + q11.toInt64))]) (b := 31) (idx := 289) (by decide +kernel) ok_M_runOf mv_M_runOf (n := 2) ⟨lk_M_289, by decide +kernel⟩ rfl rfl rfl rfl (Nat.le_of_ble_eq_true rfl) (Nat.le_of_ble_eq_true rfl) (qI_h rfl) (x_M_runOf E N 5 3 a) (fun q12 => ?_)
      refine XI_go (pc' := 329) (ls' := [.ref 31, .long ((31 * ((31 * ((31 * ((31 * ((31 * ((31 * x1) + q7.toInt64)) + q8.toInt64)) + q9.toInt64)) + q10.toInt64)) + q11.toInt64)) + q12.toInt64), .null, .int x3, .null]) (st' := [.int 0, .int 3, .ref 31, .long (31 * ((31 * ((31 * ((31 * ((31 * ((31 * ((31 * x1) + q7.toInt64)) + q8.toInt64)) + q9.toInt64)) + q10.toInt64)) + q11.toInt64)) + q12.toInt64))]) (a' := a) [(.i2l, 1, 0, .null), (.ladd, 1, 0, .null), (.lstore_n 1, 1, 1, .null), (.ldc2_w 305, 3, 0, .long 31), (.lload_n 1, 1, 1, .null), (.lmul, 1, 0, .null), (.aload_n 0, 1, 0, .null), (.iconst 3, 1, 0, .int 3), (.iconst 0, 1, 0, .int 0)] (by decide +kernel) rfl ?_
      refine XI_VP (As := [.int 3, .int 0]) (rest := [.long (31 * ((31 * ((31 * ((31 * ((31 * ((31 * ((31 * x1) + q7.toInt64)) + q8.toInt64)) + q9.toInt64)) + q10.toInt64)) + q11.toInt64)) + q12.toInt64))]) (b := 31) (idx := 292) (by decide +kernel) ok_M_hitOf mv_M_hitOf (n := 2) ⟨lk_M_292, by decide +kernel⟩ rfl rfl rfl rfl (Nat.le_of_ble_eq_true rfl) (Nat.le_of_ble_eq_true rfl) (qI_h rfl) (x_M_hitOf E N 3 0 a) (fun q13 => ?_)
      refine XI_go (pc' := 343) (ls' := [.ref 31, .long ((31 * ((31 * ((31 * ((31 * ((31 * ((31 * ((31 * x1) + q7.toInt64)) + q8.toInt64)) + q9.toInt64)) + q10.toInt64)) + q11.toInt64)) + q12.toInt64)) + q13.toInt64), .null, .int x3, .null]) (st' := [.int 1, .int 3, .ref 31, .long (31 * ((31 * ((31 * ((31 * ((31 * ((31 * ((31 * ((31 * x1) + q7.toInt64)) + q8.toInt64)) + q9.toInt64)) + q10.toInt64)) + q11.toInt64)) + q12.toInt64)) + q13.toInt64))]) (a' := a) [(.i2l, 1, 0, .null), (.ladd, 1, 0, .null), (.lstore_n 1, 1, 1, .null), (.ldc2_w 305, 3, 0, .long 31), (.lload_n 1, 1, 1, .null), (.lmul, 1, 0, .null), (.aload_n 0, 1, 0, .null), (.iconst 3, 1, 0, .int 3), (.iconst 1, 1, 0, .int 1)] (by decide +kernel) rfl ?_
      refine XI_VP (As := [.int 3, .int 1]) (rest := [.long (31 * ((31 * ((31 * ((31 * ((31 * ((31 * ((31 * ((31 * x1) + q7.toInt64)) + q8.toInt64)) + q9.toInt64)) + q10.toInt64)) + q11.toInt64)) + q12.toInt64)) + q13.toInt64))]) (b := 31) (idx := 292) (by decide +kernel) ok_M_hitOf mv_M_hitOf (n := 2) ⟨lk_M_292, by decide +kernel⟩ rfl rfl rfl rfl (Nat.le_of_ble_eq_true rfl) (Nat.le_of_ble_eq_true rfl) (qI_h rfl) (x_M_hitOf E N 3 1 a) (fun q14 => ?_)
      refine XI_go (pc' := 355) (ls' := [.ref 31, .long ((31 * ((31 * ((31 * ((31 * ((31 * ((31 * ((31 * ((31 * x1) + q7.toInt64)) + q8.toInt64)) + q9.toInt64)) + q10.toInt64)) + q11.toInt64)) + q12.toInt64)) + q13.toInt64)) + q14.toInt64), .null, .int x3, .null]) (st' := [.ref 31, .long (31 * ((31 * ((31 * ((31 * ((31 * ((31 * ((31 * ((31 * ((31 * x1) + q7.toInt64)) + q8.toInt64)) + q9.toInt64)) + q10.toInt64)) + q11.toInt64)) + q12.toInt64)) + q13.toInt64)) + q14.toInt64))]) (a' := a) [(.i2l, 1, 0, .null), (.ladd, 1, 0, .null), (.lstore_n 1, 1, 1, .null), (.ldc2_w 305, 3, 0, .long 31), (.lload_n 1, 1, 1, .null), (.lmul, 1, 0, .null), (.aload_n 0, 1, 0, .null)] (by decide +kernel) rfl ?_
      refine XI_VI (As := []) (rest := [.long (31 * ((31 * ((31 * ((31 * ((31 * ((31 * ((31 * ((31 * ((31 * x1) + q7.toInt64)) + q8.toInt64)) + q9.toInt64)) + q10.toInt64)) + q11.toInt64)) + q12.toInt64)) + q13.toInt64)) + q14.toInt64))]) (b := 31) (idx := 300) (by decide +kernel) ok_M_seedsNow mv_M_seedsNow (n := 0) ⟨lk_M_300, by decide +kernel⟩ rfl rfl rfl rfl (Nat.le_of_ble_eq_true rfl) (Nat.le_of_ble_eq_true rfl) (qI_h rfl) (x_M_seedsNow E N a) (fun q15 => ?_)
      refine XI_go (pc' := 360) (ls' := [.ref 31, .long ((31 * ((31 * ((31 * ((31 * ((31 * ((31 * ((31 * ((31 * x1) + q7.toInt64)) + q8.toInt64)) + q9.toInt64)) + q10.toInt64)) + q11.toInt64)) + q12.toInt64)) + q13.toInt64)) + q14.toInt64), .null, .int x3, .null]) (st' := [.long ((31 * ((31 * ((31 * ((31 * ((31 * ((31 * ((31 * ((31 * ((31 * x1) + q7.toInt64)) + q8.toInt64)) + q9.toInt64)) + q10.toInt64)) + q11.toInt64)) + q12.toInt64)) + q13.toInt64)) + q14.toInt64)) + q15.1.toInt64)]) (a' := q15.2) [(.i2l, 1, 0, .null), (.ladd, 1, 0, .null)] (by decide +kernel) rfl ?_
      exact XI_retJ (by decide +kernel)
    · refine XI_go (pc' := 228) (ls' := [.ref 31, .long x1, .null, .int x3, .null]) (st' := [.int x3, .int 6, .ref 31, .long (31 * x1)]) (a' := a) [(.ldc2_w 305, 3, 0, .long 31), (.lload_n 1, 1, 1, .null), (.lmul, 1, 0, .null), (.aload_n 0, 1, 0, .null), (.bipush 6, 2, 0, .int 6), (.iload_n 3, 1, 3, .null)] (by decide +kernel) rfl ?_
      refine XI_VP (As := [.int 6, .int x3]) (rest := [.long (31 * x1)]) (b := 31) (idx := 255) (by decide +kernel) ok_M_lieOf mv_M_lieOf (n := 2) ⟨lk_M_255, by decide +kernel⟩ rfl rfl rfl rfl (Nat.le_of_ble_eq_true rfl) (Nat.le_of_ble_eq_true rfl) (qL_h rfl) (x_M_lieOf E N 6 x3 a) (fun q16 => ?_)
      refine XI_go (pc' := 214) (ls' := [.ref 31, .long ((31 * x1) + q16), .null, .int (x3 + 1), .null]) (st' := []) (a' := a) [(.ladd, 1, 0, .null), (.lstore_n 1, 1, 1, .null), (.iinc 3 1, 3, 3, .int 1), (.goto (-22), 3, 214, .null)] (by decide +kernel) rfl ?_
      refine XI_fg [true, true, false, true, false] ?_
      exact x_M_digest_214 E N n ((31 * x1) + q16) (x3 + 1) a
set_option maxHeartbeats 4000000 in
set_option maxRecDepth 100000 in
theorem x_M_digest_114 (E : eT) (N : Nat) : ∀ (n : Nat) (x1 : Int64) (x3 : Int32) (a : aT), XI qL E md_M_digest 114 [.ref 31, .long x1, .null, .int x3, .null] [] a (f_M_digest_114 N n x1 x3 a)
  | 0, _, _, _ => XI_no rfl
  | n + 1, x1, x3, a => by
    refine XI_br (c := 4 ≤ x3) (t := 184) (e := 119) (ls' := [.ref 31, .long x1, .null, .int x3, .null]) (st' := []) (a' := a) [(.iload_n 3, 1, 3, .null), (.iconst 4, 1, 0, .int 4), (.if_icmp .ge 68, 3, 184, .null)] (by decide +kernel) rfl ?_ ?_
    · refine XI_go (pc' := 190) (ls' := [.ref 31, .long x1, .null, .int x3, .null]) (st' := [.ref 31, .long (31 * x1)]) (a' := a) [(.ldc2_w 305, 3, 0, .long 31), (.lload_n 1, 1, 1, .null), (.lmul, 1, 0, .null), (.aload_n 0, 1, 0, .null)] (by decide +kernel) rfl ?_
      refine XI_VP (As := []) (rest := [.long (31 * x1)]) (b := 31) (idx := 241) (by decide +kernel) ok_M_whichNow mv_M_whichNow (n := 0) ⟨lk_M_241, by decide +kernel⟩ rfl rfl rfl rfl (Nat.le_of_ble_eq_true rfl) (Nat.le_of_ble_eq_true rfl) (qI_h rfl) (x_M_whichNow E N a) (fun q5 => ?_)
      refine XI_go (pc' := 206) (ls' := [.ref 31, .long ((31 * x1) + q5.toInt64), .null, .int x3, .null]) (st' := [.int 1, .int 9, .int 0, .ref 31, .long (31 * ((31 * x1) + q5.toInt64))]) (a' := a) [(.i2l, 1, 0, .null), (.ladd, 1, 0, .null), (.lstore_n 1, 1, 1, .null), (.ldc2_w 305, 3, 0, .long 31), (.lload_n 1, 1, 1, .null), (.lmul, 1, 0, .null), (.aload_n 0, 1, 0, .null), (.iconst 0, 1, 0, .int 0), (.bipush 9, 2, 0, .int 9), (.iconst 1, 1, 0, .int 1)] (by decide +kernel) rfl ?_
      refine XI_VI (As := [.int 0, .int 9, .int 1]) (rest := [.long (31 * ((31 * x1) + q5.toInt64))]) (b := 31) (idx := 320) (by decide +kernel) ok_M_frees mv_M_frees (n := 3) ⟨lk_M_320, by decide +kernel⟩ rfl rfl rfl rfl (Nat.le_of_ble_eq_true rfl) (Nat.le_of_ble_eq_true rfl) (qI_h rfl) (x_M_frees E N 0 9 1 a) (fun q6 => ?_)
      refine XI_go (pc' := 214) (ls' := [.ref 31, .long ((31 * ((31 * x1) + q5.toInt64)) + q6.1.toInt64), .null, .int 0, .null]) (st' := []) (a' := q6.2) [(.i2l, 1, 0, .null), (.ladd, 1, 0, .null), (.lstore_n 1, 1, 1, .null), (.iconst 0, 1, 0, .int 0), (.istore_n 3, 1, 3, .null)] (by decide +kernel) rfl ?_
      refine XI_fg [true, true, false, true, false] ?_
      exact x_M_digest_214 E N N ((31 * ((31 * x1) + q5.toInt64)) + q6.1.toInt64) 0 q6.2
    · refine XI_go (pc' := 122) (ls' := [.ref 31, .long x1, .null, .int x3, .int 0]) (st' := []) (a' := a) [(.iconst 0, 1, 0, .int 0), (.istore 4, 2, 4, .null)] (by decide +kernel) rfl ?_
      refine XI_fg [true, true, false, true, true] ?_
      exact x_M_digest_122 E N (f_M_digest_114 N n) (x_M_digest_114 E N n) N x1 x3 0 a
set_option maxHeartbeats 4000000 in
set_option maxRecDepth 100000 in
theorem x_M_digest_87 (E : eT) (N : Nat) : ∀ (n : Nat) (x1 : Int64) (x3 : Int32) (a : aT), XI qL E md_M_digest 87 [.ref 31, .long x1, .null, .int x3, .null] [] a (f_M_digest_87 N n x1 x3 a)
  | 0, _, _, _ => XI_no rfl
  | n + 1, x1, x3, a => by
    refine XI_br (c := 4 ≤ x3) (t := 112) (e := 92) (ls' := [.ref 31, .long x1, .null, .int x3, .null]) (st' := []) (a' := a) [(.iload_n 3, 1, 3, .null), (.iconst 4, 1, 0, .int 4), (.if_icmp .ge 23, 3, 112, .null)] (by decide +kernel) rfl ?_ ?_
    · refine XI_go (pc' := 114) (ls' := [.ref 31, .long x1, .null, .int 0, .null]) (st' := []) (a' := a) [(.iconst 0, 1, 0, .int 0), (.istore_n 3, 1, 3, .null)] (by decide +kernel) rfl ?_
      refine XI_fg [true, true, false, true, false] ?_
      exact x_M_digest_114 E N N x1 0 a
    · refine XI_ck (c := inb x3 4) (pc' := 103) (ls' := [.ref 31, .long x1, .null, .int x3, .null]) (st' := [.int (a 47 (ix x3)), .long (31 * x1)]) (a' := a) [(.ldc2_w 305, 3, 0, .long 31), (.lload_n 1, 1, 1, .null), (.lmul, 1, 0, .null), (.aload_n 0, 1, 0, .null), (.getfield 56, 3, 1122, .null), (.iload_n 3, 1, 3, .null), (.iaload, 1, 0, .null)] (by decide +kernel) rfl ?_
      refine XI_go (pc' := 87) (ls' := [.ref 31, .long ((31 * x1) + (a 47 (ix x3)).toInt64), .null, .int (x3 + 1), .null]) (st' := []) (a' := a) [(.i2l, 1, 0, .null), (.ladd, 1, 0, .null), (.lstore_n 1, 1, 1, .null), (.iinc 3 1, 3, 3, .int 1), (.goto (-22), 3, 87, .null)] (by decide +kernel) rfl ?_
      refine XI_fg [true, true, false, true, false] ?_
      exact x_M_digest_87 E N n ((31 * x1) + (a 47 (ix x3)).toInt64) (x3 + 1) a
set_option maxHeartbeats 4000000 in
set_option maxRecDepth 100000 in
theorem x_M_digest_57 (E : eT) (N : Nat) : ∀ (n : Nat) (x1 : Int64) (x3 : Int32) (a : aT), XI qL E md_M_digest 57 [.ref 31, .long x1, .null, .int x3, .null] [] a (f_M_digest_57 N n x1 x3 a)
  | 0, _, _, _ => XI_no rfl
  | n + 1, x1, x3, a => by
    refine XI_br (c := 5 ≤ x3) (t := 85) (e := 62) (ls' := [.ref 31, .long x1, .null, .int x3, .null]) (st' := []) (a' := a) [(.iload_n 3, 1, 3, .null), (.iconst 5, 1, 0, .int 5), (.if_icmp .ge 26, 3, 85, .null)] (by decide +kernel) rfl ?_ ?_
    · refine XI_go (pc' := 87) (ls' := [.ref 31, .long x1, .null, .int 0, .null]) (st' := []) (a' := a) [(.iconst 0, 1, 0, .int 0), (.istore_n 3, 1, 3, .null)] (by decide +kernel) rfl ?_
      refine XI_fg [true, true, false, true, false] ?_
      exact x_M_digest_87 E N N x1 0 a
    · refine XI_go (pc' := 73) (ls' := [.ref 31, .long x1, .null, .int x3, .null]) (st' := [.int x3, .int (a 31 18), .ref 31, .long (31 * x1)]) (a' := a) [(.ldc2_w 305, 3, 0, .long 31), (.lload_n 1, 1, 1, .null), (.lmul, 1, 0, .null), (.aload_n 0, 1, 0, .null), (.aload_n 0, 1, 0, .null), (.getfield 150, 3, 1118, .null), (.iload_n 3, 1, 3, .null)] (by decide +kernel) rfl ?_
      refine XI_VI (As := [.int (a 31 18), .int x3]) (rest := [.long (31 * x1)]) (b := 31) (idx := 215) (by decide +kernel) ok_M_stateOf mv_M_stateOf (n := 2) ⟨lk_M_215, by decide +kernel⟩ rfl rfl rfl rfl (Nat.le_of_ble_eq_true rfl) (Nat.le_of_ble_eq_true rfl) (qI_h rfl) (x_M_stateOf E N (a 31 18) x3 a) (fun q4 => ?_)
      refine XI_go (pc' := 57) (ls' := [.ref 31, .long ((31 * x1) + q4.1.toInt64), .null, .int (x3 + 1), .null]) (st' := []) (a' := q4.2) [(.i2l, 1, 0, .null), (.ladd, 1, 0, .null), (.lstore_n 1, 1, 1, .null), (.iinc 3 1, 3, 3, .int 1), (.goto (-25), 3, 57, .null)] (by decide +kernel) rfl ?_
      refine XI_fg [true, true, false, true, false] ?_
      exact x_M_digest_57 E N n ((31 * x1) + q4.1.toInt64) (x3 + 1) q4.2
set_option maxHeartbeats 4000000 in
set_option maxRecDepth 100000 in
theorem x_M_digest_6 (E : eT) (N : Nat) : ∀ (n : Nat) (x1 : Int64) (x3 : Int32) (a : aT), XI qL E md_M_digest 6 [.ref 31, .long x1, .null, .int x3, .null] [] a (f_M_digest_6 N n x1 x3 a)
  | 0, _, _, _ => XI_no rfl
  | n + 1, x1, x3, a => by
    refine XI_br (c := 8 ≤ x3) (t := 31) (e := 12) (ls' := [.ref 31, .long x1, .null, .int x3, .null]) (st' := []) (a' := a) [(.iload_n 3, 1, 3, .null), (.bipush 8, 2, 0, .int 8), (.if_icmp .ge 22, 3, 31, .null)] (by decide +kernel) rfl ?_ ?_
    · refine XI_go (pc' := 37) (ls' := [.ref 31, .long x1, .null, .int x3, .null]) (st' := [.ref 31, .long (31 * x1)]) (a' := a) [(.ldc2_w 305, 3, 0, .long 31), (.lload_n 1, 1, 1, .null), (.lmul, 1, 0, .null), (.aload_n 0, 1, 0, .null)] (by decide +kernel) rfl ?_
      refine XI_VI (As := []) (rest := [.long (31 * x1)]) (b := 31) (idx := 127) (by decide +kernel) ok_M_reads mv_M_reads (n := 0) ⟨lk_M_127, by decide +kernel⟩ rfl rfl rfl rfl (Nat.le_of_ble_eq_true rfl) (Nat.le_of_ble_eq_true rfl) (qI_h rfl) (x_M_reads E N a) (fun q1 => ?_)
      refine XI_go (pc' := 49) (ls' := [.ref 31, .long ((31 * x1) + q1.1.toInt64), .null, .int x3, .null]) (st' := [.ref 31, .long (31 * ((31 * x1) + q1.1.toInt64))]) (a' := q1.2) [(.i2l, 1, 0, .null), (.ladd, 1, 0, .null), (.lstore_n 1, 1, 1, .null), (.ldc2_w 305, 3, 0, .long 31), (.lload_n 1, 1, 1, .null), (.lmul, 1, 0, .null), (.aload_n 0, 1, 0, .null)] (by decide +kernel) rfl ?_
      refine XI_VI (As := []) (rest := [.long (31 * ((31 * x1) + q1.1.toInt64))]) (b := 31) (idx := 310) (by decide +kernel) ok_M_judged mv_M_judged (n := 0) ⟨lk_M_310, by decide +kernel⟩ rfl rfl rfl rfl (Nat.le_of_ble_eq_true rfl) (Nat.le_of_ble_eq_true rfl) (qI_h rfl) (x_M_judged E N q1.2) (fun q2 => ?_)
      refine XI_go (pc' := 57) (ls' := [.ref 31, .long ((31 * ((31 * x1) + q1.1.toInt64)) + q2.1.toInt64), .null, .int 0, .null]) (st' := []) (a' := q2.2) [(.i2l, 1, 0, .null), (.ladd, 1, 0, .null), (.lstore_n 1, 1, 1, .null), (.iconst 0, 1, 0, .int 0), (.istore_n 3, 1, 3, .null)] (by decide +kernel) rfl ?_
      refine XI_fg [true, true, false, true, false] ?_
      exact x_M_digest_57 E N N ((31 * ((31 * x1) + q1.1.toInt64)) + q2.1.toInt64) 0 q2.2
    · refine XI_go (pc' := 19) (ls' := [.ref 31, .long x1, .null, .int x3, .null]) (st' := [.int x3, .ref 31, .long (31 * x1)]) (a' := a) [(.ldc2_w 305, 3, 0, .long 31), (.lload_n 1, 1, 1, .null), (.lmul, 1, 0, .null), (.aload_n 0, 1, 0, .null), (.iload_n 3, 1, 3, .null)] (by decide +kernel) rfl ?_
      refine XI_VI (As := [.int x3]) (rest := [.long (31 * x1)]) (b := 31) (idx := 307) (by decide +kernel) ok_M_count mv_M_count (n := 1) ⟨lk_M_307, by decide +kernel⟩ rfl rfl rfl rfl (Nat.le_of_ble_eq_true rfl) (Nat.le_of_ble_eq_true rfl) (qI_h rfl) (x_M_count E N x3 a) (fun q3 => ?_)
      refine XI_go (pc' := 6) (ls' := [.ref 31, .long ((31 * x1) + q3.1.toInt64), .null, .int (x3 + 1), .null]) (st' := []) (a' := q3.2) [(.i2l, 1, 0, .null), (.ladd, 1, 0, .null), (.lstore_n 1, 1, 1, .null), (.iinc 3 1, 3, 3, .int 1), (.goto (-22), 3, 6, .null)] (by decide +kernel) rfl ?_
      refine XI_fg [true, true, false, true, false] ?_
      exact x_M_digest_6 E N n ((31 * x1) + q3.1.toInt64) (x3 + 1) q3.2
set_option maxHeartbeats 4000000 in
set_option maxRecDepth 100000 in
theorem x_M_digest (E : eT) (N : Nat) (a : aT) : XI qL E md_M_digest 0 [.ref 31, .null, .null, .null, .null] [] a (f_M_digest N a) := by
  refine XI_go (pc' := 6) (ls' := [.ref 31, .long 17, .null, .int 0, .null]) (st' := []) (a' := a) [(.ldc2_w 303, 3, 0, .long 17), (.lstore_n 1, 1, 1, .null), (.iconst 0, 1, 0, .int 0), (.istore_n 3, 1, 3, .null)] (by decide +kernel) rfl ?_
  refine XI_fg [true, true, false, true, false] ?_
  exact x_M_digest_6 E N N 17 0 a
/-! ChestnutSticksLaw.law([I)Z -/
def md_L_law : md_T := (x, code, 4, (some .int), 11, 432)
def f_L_law_18 (N : Nat) (E : eT) : Nat → Int32 → aT → Option (Int32 × aT)
  | 0 => fun _ _ => none
  | n + 1 => fun x3 a =>
    if ((Int32.ofNat (e_L E)) - 6) < x3 then
      some (1, a)
    else
      if inb x3 (e_L E) then
        if ((e_xs E (ix x3)) &&& 63) = 0 then
          if inb (x3 + 1) (e_L E) then
            (f_C_type N (e_xs E (ix (x3 + 1))) a).bind fun q1 =>
              if inb (x3 + 1) (e_L E) then
                (f_M_type (e_xs E (ix (x3 + 1))) q1.2).bind fun q2 =>
                  if q1.1 = q2.1 then
                    f_L_law_18 N E n (x3 + 6) q2.2
                  else
                    some (0, q2.2)
              else none
          else none
        else if ((e_xs E (ix x3)) &&& 63) = 1 then
          (f_C_wipe N a).bind fun q3 =>
            (f_M_wipe q3.2).bind fun q4 =>
              if q3.1 = q4.1 then
                f_L_law_18 N E n (x3 + 6) q4.2
              else
                some (0, q4.2)
        else if ((e_xs E (ix x3)) &&& 63) = 2 then
          (f_C_undo N a).bind fun q5 =>
            (f_M_undo q5.2).bind fun q6 =>
              if q5.1 = q6.1 then
                f_L_law_18 N E n (x3 + 6) q6.2
              else
                some (0, q6.2)
        else if ((e_xs E (ix x3)) &&& 63) = 3 then
          (f_M_fault N a).bind fun q8 =>
            if (f_C_fault a) = q8.1 then
              f_L_law_18 N E n (x3 + 6) q8.2
            else
              some (0, q8.2)
        else if ((e_xs E (ix x3)) &&& 63) = 4 then
          if inb (x3 + 1) (e_L E) then
            if inb (x3 + 2) (e_L E) then
              if inb (x3 + 3) (e_L E) then
                (f_C_stick (e_xs E (ix (x3 + 1))) (e_xs E (ix (x3 + 2))) (e_xs E (ix (x3 + 3))) a).bind fun q9 =>
                  if inb (x3 + 1) (e_L E) then
                    if inb (x3 + 2) (e_L E) then
                      if inb (x3 + 3) (e_L E) then
                        (f_M_stick (e_xs E (ix (x3 + 1))) (e_xs E (ix (x3 + 2))) (e_xs E (ix (x3 + 3))) q9.2).bind fun q10 =>
                          if q9.1 = q10.1 then
                            f_L_law_18 N E n (x3 + 6) q10.2
                          else
                            some (0, q10.2)
                      else none
                    else none
                  else none
              else none
            else none
          else none
        else if ((e_xs E (ix x3)) &&& 63) = 5 then
          if inb (x3 + 1) (e_L E) then
            if inb (x3 + 2) (e_L E) then
              (f_C_set (e_xs E (ix (x3 + 1))) (e_xs E (ix (x3 + 2))) a).bind fun q11 =>
                if inb (x3 + 1) (e_L E) then
                  if inb (x3 + 2) (e_L E) then
                    (f_M_set (e_xs E (ix (x3 + 1))) (e_xs E (ix (x3 + 2))) q11.2).bind fun q12 =>
                      if q11.1 = q12.1 then
                        f_L_law_18 N E n (x3 + 6) q12.2
                      else
                        some (0, q12.2)
                  else none
                else none
            else none
          else none
        else if ((e_xs E (ix x3)) &&& 63) = 6 then
          if inb (x3 + 1) (e_L E) then
            (f_C_seed (e_xs E (ix (x3 + 1))) a).bind fun q13 =>
              if inb (x3 + 1) (e_L E) then
                (f_M_seed (e_xs E (ix (x3 + 1))) q13.2).bind fun q14 =>
                  if q13.1 = q14.1 then
                    f_L_law_18 N E n (x3 + 6) q14.2
                  else
                    some (0, q14.2)
              else none
          else none
        else if ((e_xs E (ix x3)) &&& 63) = 7 then
          if inb (x3 + 1) (e_L E) then
            if inb (x3 + 2) (e_L E) then
              (f_C_stands (e_xs E (ix (x3 + 1))) (e_xs E (ix (x3 + 2))) a).bind fun q15 =>
                if inb (x3 + 1) (e_L E) then
                  if inb (x3 + 2) (e_L E) then
                    (f_M_stands (e_xs E (ix (x3 + 1))) (e_xs E (ix (x3 + 2))) q15.2).bind fun q16 =>
                      if q15.1 = q16.1 then
                        f_L_law_18 N E n (x3 + 6) q16.2
                      else
                        some (0, q16.2)
                  else none
                else none
            else none
          else none
        else if ((e_xs E (ix x3)) &&& 63) = 8 then
          if inb (x3 + 1) (e_L E) then
            (f_C_read N (e_xs E (ix (x3 + 1))) a).bind fun q17 =>
              if inb (x3 + 1) (e_L E) then
                (f_M_read N (e_xs E (ix (x3 + 1))) q17.2).bind fun q18 =>
                  if q17.1 = q18.1 then
                    f_L_law_18 N E n (x3 + 6) q18.2
                  else
                    some (0, q18.2)
              else none
          else none
        else if ((e_xs E (ix x3)) &&& 63) = 9 then
          if inb (x3 + 1) (e_L E) then
            if inb (x3 + 2) (e_L E) then
              if inb (x3 + 3) (e_L E) then
                (f_C_toss (e_xs E (ix (x3 + 1))) (e_xs E (ix (x3 + 2))) (e_xs E (ix (x3 + 3))) a).bind fun q19 =>
                  if inb (x3 + 1) (e_L E) then
                    if inb (x3 + 2) (e_L E) then
                      if inb (x3 + 3) (e_L E) then
                        (f_M_toss (e_xs E (ix (x3 + 1))) (e_xs E (ix (x3 + 2))) (e_xs E (ix (x3 + 3))) q19.2).bind fun q20 =>
                          if q19.1 = q20.1 then
                            f_L_law_18 N E n (x3 + 6) q20.2
                          else
                            some (0, q20.2)
                      else none
                    else none
                  else none
              else none
            else none
          else none
        else if ((e_xs E (ix x3)) &&& 63) = 10 then
          (f_C_back a).bind fun q21 =>
            (f_M_back q21.2).bind fun q22 =>
              if q21.1 = q22.1 then
                f_L_law_18 N E n (x3 + 6) q22.2
              else
                some (0, q22.2)
        else if ((e_xs E (ix x3)) &&& 63) = 11 then
          (f_C_judged N a).bind fun q23 =>
            (f_M_judged N q23.2).bind fun q24 =>
              if q23.1 = q24.1 then
                f_L_law_18 N E n (x3 + 6) q24.2
              else
                some (0, q24.2)
        else if ((e_xs E (ix x3)) &&& 63) = 12 then
          if inb (x3 + 1) (e_L E) then
            if inb (x3 + 2) (e_L E) then
              (f_C_state N (e_xs E (ix (x3 + 1))) (e_xs E (ix (x3 + 2))) a).bind fun q25 =>
                if inb (x3 + 1) (e_L E) then
                  if inb (x3 + 2) (e_L E) then
                    (f_M_state N (e_xs E (ix (x3 + 1))) (e_xs E (ix (x3 + 2))) q25.2).bind fun q26 =>
                      if q25.1 = q26.1 then
                        f_L_law_18 N E n (x3 + 6) q26.2
                      else
                        some (0, q26.2)
                  else none
                else none
            else none
          else none
        else if ((e_xs E (ix x3)) &&& 63) = 13 then
          if inb (x3 + 1) (e_L E) then
            (f_C_hangs N (e_xs E (ix (x3 + 1))) a).bind fun q27 =>
              if inb (x3 + 1) (e_L E) then
                (f_M_hangs N (e_xs E (ix (x3 + 1))) q27.2).bind fun q28 =>
                  if q27.1 = q28.1 then
                    f_L_law_18 N E n (x3 + 6) q28.2
                  else
                    some (0, q28.2)
              else none
          else none
        else if ((e_xs E (ix x3)) &&& 63) = 14 then
          if inb (x3 + 1) (e_L E) then
            (f_C_has N (e_xs E (ix (x3 + 1))) a).bind fun q29 =>
              if inb (x3 + 1) (e_L E) then
                (f_M_has N (e_xs E (ix (x3 + 1))) q29.2).bind fun q30 =>
                  if q29.1 = q30.1 then
                    f_L_law_18 N E n (x3 + 6) q30.2
                  else
                    some (0, q30.2)
              else none
          else none
        else if ((e_xs E (ix x3)) &&& 63) = 15 then
          if inb (x3 + 1) (e_L E) then
            if inb (x3 + 2) (e_L E) then
              if inb (x3 + 3) (e_L E) then
                (f_C_brings N (e_xs E (ix (x3 + 1))) (e_xs E (ix (x3 + 2))) (e_xs E (ix (x3 + 3))) a).bind fun q31 =>
                  if inb (x3 + 1) (e_L E) then
                    if inb (x3 + 2) (e_L E) then
                      if inb (x3 + 3) (e_L E) then
                        (f_M_brings N (e_xs E (ix (x3 + 1))) (e_xs E (ix (x3 + 2))) (e_xs E (ix (x3 + 3))) q31.2).bind fun q32 =>
                          if (lg_cmp q31.1 q32.1) = 0 then
                            f_L_law_18 N E n (x3 + 6) q32.2
                          else
                            some (0, q32.2)
                      else none
                    else none
                  else none
              else none
            else none
          else none
        else if ((e_xs E (ix x3)) &&& 63) = 16 then
          if inb (x3 + 1) (e_L E) then
            if inb (x3 + 2) (e_L E) then
              (f_C_worth N (e_xs E (ix (x3 + 1))) (e_xs E (ix (x3 + 2))) a).bind fun q33 =>
                if inb (x3 + 1) (e_L E) then
                  if inb (x3 + 2) (e_L E) then
                    (f_M_worth N (e_xs E (ix (x3 + 1))) (e_xs E (ix (x3 + 2))) q33.2).bind fun q34 =>
                      if q33.1 = q34.1 then
                        f_L_law_18 N E n (x3 + 6) q34.2
                      else
                        some (0, q34.2)
                  else none
                else none
            else none
          else none
        else if ((e_xs E (ix x3)) &&& 63) = 17 then
          if inb (x3 + 1) (e_L E) then
            (f_C_where N (e_xs E (ix (x3 + 1))) a).bind fun q35 =>
              if inb (x3 + 1) (e_L E) then
                (f_M_where N (e_xs E (ix (x3 + 1))) q35.2).bind fun q36 =>
                  if q35.1 = q36.1 then
                    f_L_law_18 N E n (x3 + 6) q36.2
                  else
                    some (0, q36.2)
              else none
          else none
        else if ((e_xs E (ix x3)) &&& 63) = 18 then
          (f_C_which N a).bind fun q37 =>
            (f_M_which N q37.2).bind fun q38 =>
              if q37.1 = q38.1 then
                f_L_law_18 N E n (x3 + 6) q38.2
              else
                some (0, q38.2)
        else if ((e_xs E (ix x3)) &&& 63) = 19 then
          if inb (x3 + 1) (e_L E) then
            if inb (x3 + 2) (e_L E) then
              if inb (x3 + 3) (e_L E) then
                (f_C_frees N (e_xs E (ix (x3 + 1))) (e_xs E (ix (x3 + 2))) (e_xs E (ix (x3 + 3))) a).bind fun q39 =>
                  if inb (x3 + 1) (e_L E) then
                    if inb (x3 + 2) (e_L E) then
                      if inb (x3 + 3) (e_L E) then
                        (f_M_frees N (e_xs E (ix (x3 + 1))) (e_xs E (ix (x3 + 2))) (e_xs E (ix (x3 + 3))) q39.2).bind fun q40 =>
                          if q39.1 = q40.1 then
                            f_L_law_18 N E n (x3 + 6) q40.2
                          else
                            some (0, q40.2)
                      else none
                    else none
                  else none
              else none
            else none
          else none
        else if ((e_xs E (ix x3)) &&& 63) = 20 then
          if inb (x3 + 1) (e_L E) then
            if inb (x3 + 2) (e_L E) then
              (f_C_lie N (e_xs E (ix (x3 + 1))) (e_xs E (ix (x3 + 2))) a).bind fun q41 =>
                if inb (x3 + 1) (e_L E) then
                  if inb (x3 + 2) (e_L E) then
                    (f_M_lie N (e_xs E (ix (x3 + 1))) (e_xs E (ix (x3 + 2))) a).bind fun q42 =>
                      if (lg_cmp q41 q42.1) = 0 then
                        f_L_law_18 N E n (x3 + 6) q42.2
                      else
                        some (0, q42.2)
                  else none
                else none
            else none
          else none
        else if ((e_xs E (ix x3)) &&& 63) = 21 then
          if inb (x3 + 1) (e_L E) then
            (f_C_ripe N (e_xs E (ix (x3 + 1))) a).bind fun q43 =>
              if inb (x3 + 1) (e_L E) then
                (f_M_ripe N (e_xs E (ix (x3 + 1))) a).bind fun q44 =>
                  if q43 = q44.1 then
                    f_L_law_18 N E n (x3 + 6) q44.2
                  else
                    some (0, q44.2)
              else none
          else none
        else if ((e_xs E (ix x3)) &&& 63) = 22 then
          if inb (x3 + 1) (e_L E) then
            (f_C_rests N (e_xs E (ix (x3 + 1))) a).bind fun q45 =>
              if inb (x3 + 1) (e_L E) then
                (f_M_rests N (e_xs E (ix (x3 + 1))) q45.2).bind fun q46 =>
                  if q45.1 = q46.1 then
                    f_L_law_18 N E n (x3 + 6) q46.2
                  else
                    some (0, q46.2)
              else none
          else none
        else if ((e_xs E (ix x3)) &&& 63) = 23 then
          if inb (x3 + 1) (e_L E) then
            if inb (x3 + 2) (e_L E) then
              (f_C_ends N (e_xs E (ix (x3 + 1))) (e_xs E (ix (x3 + 2))) a).bind fun q47 =>
                if inb (x3 + 1) (e_L E) then
                  if inb (x3 + 2) (e_L E) then
                    (f_M_ends N (e_xs E (ix (x3 + 1))) (e_xs E (ix (x3 + 2))) q47.2).bind fun q48 =>
                      if q47.1 = q48.1 then
                        f_L_law_18 N E n (x3 + 6) q48.2
                      else
                        some (0, q48.2)
                  else none
                else none
            else none
          else none
        else if ((e_xs E (ix x3)) &&& 63) = 24 then
          if inb (x3 + 1) (e_L E) then
            if inb (x3 + 2) (e_L E) then
              (f_C_thrower (e_xs E (ix (x3 + 1))) (e_xs E (ix (x3 + 2))) a).bind fun q49 =>
                if inb (x3 + 1) (e_L E) then
                  if inb (x3 + 2) (e_L E) then
                    (f_M_thrower (e_xs E (ix (x3 + 1))) (e_xs E (ix (x3 + 2))) q49.2).bind fun q50 =>
                      if q49.1 = q50.1 then
                        f_L_law_18 N E n (x3 + 6) q50.2
                      else
                        some (0, q50.2)
                  else none
                else none
            else none
          else none
        else if ((e_xs E (ix x3)) &&& 63) = 25 then
          (f_C_gone a).bind fun q51 =>
            (f_M_gone q51.2).bind fun q52 =>
              if q51.1 = q52.1 then
                f_L_law_18 N E n (x3 + 6) q52.2
              else
                some (0, q52.2)
        else if ((e_xs E (ix x3)) &&& 63) = 26 then
          if inb (x3 + 1) (e_L E) then
            if inb (x3 + 2) (e_L E) then
              (f_C_run N (e_xs E (ix (x3 + 1))) (e_xs E (ix (x3 + 2))) a).bind fun q53 =>
                if inb (x3 + 1) (e_L E) then
                  if inb (x3 + 2) (e_L E) then
                    (f_M_run N (e_xs E (ix (x3 + 1))) (e_xs E (ix (x3 + 2))) a).bind fun q54 =>
                      if q53 = q54 then
                        f_L_law_18 N E n (x3 + 6) a
                      else
                        some (0, a)
                  else none
                else none
            else none
          else none
        else if ((e_xs E (ix x3)) &&& 63) = 27 then
          if inb (x3 + 1) (e_L E) then
            if inb (x3 + 2) (e_L E) then
              (f_C_hit N (e_xs E (ix (x3 + 1))) (e_xs E (ix (x3 + 2))) a).bind fun q55 =>
                if inb (x3 + 1) (e_L E) then
                  if inb (x3 + 2) (e_L E) then
                    (f_M_hit N (e_xs E (ix (x3 + 1))) (e_xs E (ix (x3 + 2))) a).bind fun q56 =>
                      if q55 = q56 then
                        f_L_law_18 N E n (x3 + 6) a
                      else
                        some (0, a)
                  else none
                else none
            else none
          else none
        else if ((e_xs E (ix x3)) &&& 63) = 28 then
          if inb (x3 + 1) (e_L E) then
            if inb (x3 + 2) (e_L E) then
              (f_C_seen (e_xs E (ix (x3 + 1))) (e_xs E (ix (x3 + 2))) a).bind fun q57 =>
                if inb (x3 + 1) (e_L E) then
                  if inb (x3 + 2) (e_L E) then
                    (f_M_seen (e_xs E (ix (x3 + 1))) (e_xs E (ix (x3 + 2))) q57.2).bind fun q58 =>
                      if q57.1 = q58.1 then
                        f_L_law_18 N E n (x3 + 6) q58.2
                      else
                        some (0, q58.2)
                  else none
                else none
            else none
          else none
        else if ((e_xs E (ix x3)) &&& 63) = 29 then
          (f_C_forget a).bind fun q59 =>
            (f_M_forget q59.2).bind fun q60 =>
              if q59.1 = q60.1 then
                f_L_law_18 N E n (x3 + 6) q60.2
              else
                some (0, q60.2)
        else if ((e_xs E (ix x3)) &&& 63) = 30 then
          (f_C_seeds N a).bind fun q61 =>
            (f_M_seeds N q61.2).bind fun q62 =>
              if q61.1 = q62.1 then
                f_L_law_18 N E n (x3 + 6) q62.2
              else
                some (0, q62.2)
        else if ((e_xs E (ix x3)) &&& 63) = 31 then
          if inb (x3 + 1) (e_L E) then
            if inb (x3 + 2) (e_L E) then
              if inb (x3 + 3) (e_L E) then
                (f_C_sheet N (e_xs E (ix (x3 + 1))) (e_xs E (ix (x3 + 2))) (e_xs E (ix (x3 + 3))) a).bind fun q63 =>
                  if inb (x3 + 1) (e_L E) then
                    if inb (x3 + 2) (e_L E) then
                      if inb (x3 + 3) (e_L E) then
                        (f_M_sheet N (e_xs E (ix (x3 + 1))) (e_xs E (ix (x3 + 2))) (e_xs E (ix (x3 + 3))) q63.2).bind fun q64 =>
                          if q63.1 = q64.1 then
                            f_L_law_18 N E n (x3 + 6) q64.2
                          else
                            some (0, q64.2)
                      else none
                    else none
                  else none
              else none
            else none
          else none
        else if ((e_xs E (ix x3)) &&& 63) = 32 then
          if inb (x3 + 1) (e_L E) then
            (f_C_lose (e_xs E (ix (x3 + 1))) a).bind fun q65 =>
              if inb (x3 + 1) (e_L E) then
                (f_M_lose (e_xs E (ix (x3 + 1))) q65.2).bind fun q66 =>
                  if q65.1 = q66.1 then
                    f_L_law_18 N E n (x3 + 6) q66.2
                  else
                    some (0, q66.2)
              else none
          else none
        else if ((e_xs E (ix x3)) &&& 63) = 33 then
          if inb (x3 + 1) (e_L E) then
            if inb (x3 + 2) (e_L E) then
              if inb (x3 + 3) (e_L E) then
                if inb (x3 + 4) (e_L E) then
                  (f_C_lay (e_xs E (ix (x3 + 1))) (e_xs E (ix (x3 + 2))) (e_xs E (ix (x3 + 3))) (e_xs E (ix (x3 + 4))) a).bind fun q67 =>
                    if inb (x3 + 1) (e_L E) then
                      if inb (x3 + 2) (e_L E) then
                        if inb (x3 + 3) (e_L E) then
                          if inb (x3 + 4) (e_L E) then
                            (f_M_lay (e_xs E (ix (x3 + 1))) (e_xs E (ix (x3 + 2))) (e_xs E (ix (x3 + 3))) (e_xs E (ix (x3 + 4))) q67.2).bind fun q68 =>
                              if q67.1 = q68.1 then
                                f_L_law_18 N E n (x3 + 6) q68.2
                              else
                                some (0, q68.2)
                          else none
                        else none
                      else none
                    else none
                else none
              else none
            else none
          else none
        else if ((e_xs E (ix x3)) &&& 63) = 34 then
          if inb (x3 + 1) (e_L E) then
            if inb (x3 + 2) (e_L E) then
              if inb (x3 + 3) (e_L E) then
                (f_C_get (e_xs E (ix (x3 + 1))) (e_xs E (ix (x3 + 2))) (e_xs E (ix (x3 + 3))) a).bind fun q69 =>
                  if inb (x3 + 1) (e_L E) then
                    if inb (x3 + 2) (e_L E) then
                      if inb (x3 + 3) (e_L E) then
                        (f_M_get (e_xs E (ix (x3 + 1))) (e_xs E (ix (x3 + 2))) (e_xs E (ix (x3 + 3))) q69.2).bind fun q70 =>
                          if q69.1 = q70.1 then
                            f_L_law_18 N E n (x3 + 6) q70.2
                          else
                            some (0, q70.2)
                      else none
                    else none
                  else none
              else none
            else none
          else none
        else if ((e_xs E (ix x3)) &&& 63) = 35 then
          if inb (x3 + 1) (e_L E) then
            if inb (x3 + 2) (e_L E) then
              if inb (x3 + 3) (e_L E) then
                if inb (x3 + 4) (e_L E) then
                  if inb (x3 + 5) (e_L E) then
                    (f_C_copy N (e_xs E (ix (x3 + 1))) (e_xs E (ix (x3 + 2))) (e_xs E (ix (x3 + 3))) (e_xs E (ix (x3 + 4))) (e_xs E (ix (x3 + 5))) a).bind fun q71 =>
                      if inb (x3 + 1) (e_L E) then
                        if inb (x3 + 2) (e_L E) then
                          if inb (x3 + 3) (e_L E) then
                            if inb (x3 + 4) (e_L E) then
                              if inb (x3 + 5) (e_L E) then
                                (f_M_copy N (e_xs E (ix (x3 + 1))) (e_xs E (ix (x3 + 2))) (e_xs E (ix (x3 + 3))) (e_xs E (ix (x3 + 4))) (e_xs E (ix (x3 + 5))) q71.2).bind fun q72 =>
                                  if q71.1 = q72.1 then
                                    f_L_law_18 N E n (x3 + 6) q72.2
                                  else
                                    some (0, q72.2)
                              else none
                            else none
                          else none
                        else none
                      else none
                  else none
                else none
              else none
            else none
          else none
        else if ((e_xs E (ix x3)) &&& 63) = 36 then
          if inb (x3 + 1) (e_L E) then
            (f_C_write N (e_xs E (ix (x3 + 1))) a).bind fun q73 =>
              if inb (x3 + 1) (e_L E) then
                (f_M_write N (e_xs E (ix (x3 + 1))) q73.2).bind fun q74 =>
                  if q73.1 = q74.1 then
                    f_L_law_18 N E n (x3 + 6) q74.2
                  else
                    some (0, q74.2)
              else none
          else none
        else if ((e_xs E (ix x3)) &&& 63) = 37 then
          if inb (x3 + 1) (e_L E) then
            (f_C_count N (e_xs E (ix (x3 + 1))) a).bind fun q75 =>
              if inb (x3 + 1) (e_L E) then
                (f_M_count N (e_xs E (ix (x3 + 1))) q75.2).bind fun q76 =>
                  if q75.1 = q76.1 then
                    f_L_law_18 N E n (x3 + 6) q76.2
                  else
                    some (0, q76.2)
              else none
          else none
        else if ((e_xs E (ix x3)) &&& 63) = 38 then
          (f_C_digest N a).bind fun q77 =>
            (f_M_digest N q77.2).bind fun q78 =>
              if (lg_cmp q77.1 q78.1) = 0 then
                f_L_law_18 N E n (x3 + 6) q78.2
              else
                some (0, q78.2)
        else 
          f_L_law_18 N E n (x3 + 6) a
      else none
def f_L_law (N : Nat) (E : eT) (a : aT) : Option (Int32 × aT) :=
  f_L_law_18 N E N 0 a
set_option maxHeartbeats 4000000 in
set_option maxRecDepth 100000 in
theorem x_L_law_18 (E : eT) (N : Nat) : ∀ (n : Nat) (x3 : Int32) (a : aT), XI qI E md_L_law 18 [.ref 1003, .ref 0, .ref 31, .int x3] [] a (f_L_law_18 N E n x3 a)
  | 0, _, _ => XI_no rfl
  | n + 1, x3, a => by
    refine XI_br (c := ((Int32.ofNat (e_L E)) - 6) < x3) (t := 1300) (e := 27) (ls' := [.ref 1003, .ref 0, .ref 31, .int x3]) (st' := []) (a' := a) [(.iload_n 3, 1, 3, .null), (.aload_n 0, 1, 0, .null), (.arraylength, 1, 0, .null), (.bipush 6, 2, 0, .int 6), (.isub, 1, 0, .null), (.if_icmp .gt 1276, 3, 1300, .null)] (by decide +kernel) rfl ?_ ?_
    · refine XI_go (pc' := 1301) (ls' := [.ref 1003, .ref 0, .ref 31, .int x3]) (st' := [.int 1]) (a' := a) [(.iconst 1, 1, 0, .int 1)] (by decide +kernel) rfl ?_
      exact XI_retI (by decide +kernel)
    · refine XI_ck (c := inb x3 (e_L E)) (pc' := 30) (ls' := [.ref 1003, .ref 0, .ref 31, .int x3]) (st' := [.int (e_xs E (ix x3))]) (a' := a) [(.aload_n 0, 1, 0, .null), (.iload_n 3, 1, 3, .null), (.iaload, 1, 0, .null)] (by decide +kernel) rfl ?_
      refine XI_go (pc' := 33) (ls' := [.ref 1003, .ref 0, .ref 31, .int x3]) (st' := [.int ((e_xs E (ix x3)) &&& 63)]) (a' := a) [(.bipush 63, 2, 0, .int 63), (.iand, 1, 0, .null)] (by decide +kernel) rfl ?_
      refine XI_if (c := ((e_xs E (ix x3)) &&& 63) = 0) (fun w0 => ?_) (fun w0 => ?_)
      · refine XI_tabIn (dflt := 1261) (lo := 0) (hi := 38) (offs := #[171, 194, 207, 220, 233, 276, 309, 332, 365, 388, 431, 444, 457, 490, 513, 536, 580, 613, 636, 649, 692, 726, 749, 772, 805, 838, 851, 884, 917, 950, 963, 976, 1019, 1042, 1095, 1138, 1201, 1224, 1247]) (len := 171) (off := 171) (tgt := 204) (x0 := 0) w0 (by decide +kernel) (by decide +kernel) (by decide +kernel) (by decide +kernel) (by decide) ?_
        refine XI_ck (c := inb (x3 + 1) (e_L E)) (pc' := 210) (ls' := [.ref 1003, .ref 0, .ref 31, .int x3]) (st' := [.int (e_xs E (ix (x3 + 1))), .ref 0]) (a' := a) [(.aload_n 1, 1, 1, .null), (.aload_n 0, 1, 0, .null), (.iload_n 3, 1, 3, .null), (.iconst 1, 1, 0, .int 1), (.iadd, 1, 0, .null), (.iaload, 1, 0, .null)] (by decide +kernel) rfl ?_
        refine XI_VI (As := [.int (e_xs E (ix (x3 + 1)))]) (rest := []) (b := 0) (idx := 13) (by decide +kernel) ok_C_type mv_C_type (n := 1) ⟨lk_L_13, by decide +kernel⟩ rfl rfl rfl rfl (Nat.le_of_ble_eq_true rfl) (Nat.le_of_ble_eq_true rfl) (qI_h rfl) (x_C_type E N (e_xs E (ix (x3 + 1))) a) (fun q1 => ?_)
        refine XI_ck (c := inb (x3 + 1) (e_L E)) (pc' := 219) (ls' := [.ref 1003, .ref 0, .ref 31, .int x3]) (st' := [.int (e_xs E (ix (x3 + 1))), .ref 31, .int q1.1]) (a' := q1.2) [(.aload_n 2, 1, 2, .null), (.aload_n 0, 1, 0, .null), (.iload_n 3, 1, 3, .null), (.iconst 1, 1, 0, .int 1), (.iadd, 1, 0, .null), (.iaload, 1, 0, .null)] (by decide +kernel) rfl ?_
        refine XI_VI (As := [.int (e_xs E (ix (x3 + 1)))]) (rest := [.int q1.1]) (b := 31) (idx := 17) (by decide +kernel) ok_M_type mv_M_type (n := 1) ⟨lk_L_17, by decide +kernel⟩ rfl rfl rfl rfl (Nat.le_of_ble_eq_true rfl) (Nat.le_of_ble_eq_true rfl) (qI_h rfl) (x_M_type E (e_xs E (ix (x3 + 1))) q1.2) (fun q2 => ?_)
        refine XI_br (c := q1.1 = q2.1) (t := 1294) (e := 225) (ls' := [.ref 1003, .ref 0, .ref 31, .int x3]) (st' := []) (a' := q2.2) [(.if_icmp .eq 1072, 3, 1294, .null)] (by decide +kernel) rfl ?_ ?_
        · refine XI_go (pc' := 18) (ls' := [.ref 1003, .ref 0, .ref 31, .int (x3 + 6)]) (st' := []) (a' := q2.2) [(.iinc 3 6, 3, 3, .int 6), (.goto (-1279), 3, 18, .null)] (by decide +kernel) rfl ?_
          refine XI_fg [true, true, true, true] ?_
          exact x_L_law_18 E N n (x3 + 6) q2.2
        · refine XI_go (pc' := 226) (ls' := [.ref 1003, .ref 0, .ref 31, .int x3]) (st' := [.int 0]) (a' := q2.2) [(.iconst 0, 1, 0, .int 0)] (by decide +kernel) rfl ?_
          exact XI_retI (by decide +kernel)
      refine XI_if (c := ((e_xs E (ix x3)) &&& 63) = 1) (fun w1 => ?_) (fun w1 => ?_)
      · refine XI_tabIn (dflt := 1261) (lo := 0) (hi := 38) (offs := #[171, 194, 207, 220, 233, 276, 309, 332, 365, 388, 431, 444, 457, 490, 513, 536, 580, 613, 636, 649, 692, 726, 749, 772, 805, 838, 851, 884, 917, 950, 963, 976, 1019, 1042, 1095, 1138, 1201, 1224, 1247]) (len := 171) (off := 194) (tgt := 227) (x0 := 1) w1 (by decide +kernel) (by decide +kernel) (by decide +kernel) (by decide +kernel) (by decide) ?_
        refine XI_go (pc' := 228) (ls' := [.ref 1003, .ref 0, .ref 31, .int x3]) (st' := [.ref 0]) (a' := a) [(.aload_n 1, 1, 1, .null)] (by decide +kernel) rfl ?_
        refine XI_VI (As := []) (rest := []) (b := 0) (idx := 18) (by decide +kernel) ok_C_wipe mv_C_wipe (n := 0) ⟨lk_L_18, by decide +kernel⟩ rfl rfl rfl rfl (Nat.le_of_ble_eq_true rfl) (Nat.le_of_ble_eq_true rfl) (qI_h rfl) (x_C_wipe E N a) (fun q3 => ?_)
        refine XI_go (pc' := 232) (ls' := [.ref 1003, .ref 0, .ref 31, .int x3]) (st' := [.ref 31, .int q3.1]) (a' := q3.2) [(.aload_n 2, 1, 2, .null)] (by decide +kernel) rfl ?_
        refine XI_VI (As := []) (rest := [.int q3.1]) (b := 31) (idx := 22) (by decide +kernel) ok_M_wipe mv_M_wipe (n := 0) ⟨lk_L_22, by decide +kernel⟩ rfl rfl rfl rfl (Nat.le_of_ble_eq_true rfl) (Nat.le_of_ble_eq_true rfl) (qI_h rfl) (x_M_wipe E q3.2) (fun q4 => ?_)
        refine XI_br (c := q3.1 = q4.1) (t := 1294) (e := 238) (ls' := [.ref 1003, .ref 0, .ref 31, .int x3]) (st' := []) (a' := q4.2) [(.if_icmp .eq 1059, 3, 1294, .null)] (by decide +kernel) rfl ?_ ?_
        · refine XI_go (pc' := 18) (ls' := [.ref 1003, .ref 0, .ref 31, .int (x3 + 6)]) (st' := []) (a' := q4.2) [(.iinc 3 6, 3, 3, .int 6), (.goto (-1279), 3, 18, .null)] (by decide +kernel) rfl ?_
          refine XI_fg [true, true, true, true] ?_
          exact x_L_law_18 E N n (x3 + 6) q4.2
        · refine XI_go (pc' := 239) (ls' := [.ref 1003, .ref 0, .ref 31, .int x3]) (st' := [.int 0]) (a' := q4.2) [(.iconst 0, 1, 0, .int 0)] (by decide +kernel) rfl ?_
          exact XI_retI (by decide +kernel)
      refine XI_if (c := ((e_xs E (ix x3)) &&& 63) = 2) (fun w2 => ?_) (fun w2 => ?_)
      · refine XI_tabIn (dflt := 1261) (lo := 0) (hi := 38) (offs := #[171, 194, 207, 220, 233, 276, 309, 332, 365, 388, 431, 444, 457, 490, 513, 536, 580, 613, 636, 649, 692, 726, 749, 772, 805, 838, 851, 884, 917, 950, 963, 976, 1019, 1042, 1095, 1138, 1201, 1224, 1247]) (len := 171) (off := 207) (tgt := 240) (x0 := 2) w2 (by decide +kernel) (by decide +kernel) (by decide +kernel) (by decide +kernel) (by decide) ?_
        refine XI_go (pc' := 241) (ls' := [.ref 1003, .ref 0, .ref 31, .int x3]) (st' := [.ref 0]) (a' := a) [(.aload_n 1, 1, 1, .null)] (by decide +kernel) rfl ?_
        refine XI_VI (As := []) (rest := []) (b := 0) (idx := 23) (by decide +kernel) ok_C_undo mv_C_undo (n := 0) ⟨lk_L_23, by decide +kernel⟩ rfl rfl rfl rfl (Nat.le_of_ble_eq_true rfl) (Nat.le_of_ble_eq_true rfl) (qI_h rfl) (x_C_undo E N a) (fun q5 => ?_)
        refine XI_go (pc' := 245) (ls' := [.ref 1003, .ref 0, .ref 31, .int x3]) (st' := [.ref 31, .int q5.1]) (a' := q5.2) [(.aload_n 2, 1, 2, .null)] (by decide +kernel) rfl ?_
        refine XI_VI (As := []) (rest := [.int q5.1]) (b := 31) (idx := 26) (by decide +kernel) ok_M_undo mv_M_undo (n := 0) ⟨lk_L_26, by decide +kernel⟩ rfl rfl rfl rfl (Nat.le_of_ble_eq_true rfl) (Nat.le_of_ble_eq_true rfl) (qI_h rfl) (x_M_undo E q5.2) (fun q6 => ?_)
        refine XI_br (c := q5.1 = q6.1) (t := 1294) (e := 251) (ls' := [.ref 1003, .ref 0, .ref 31, .int x3]) (st' := []) (a' := q6.2) [(.if_icmp .eq 1046, 3, 1294, .null)] (by decide +kernel) rfl ?_ ?_
        · refine XI_go (pc' := 18) (ls' := [.ref 1003, .ref 0, .ref 31, .int (x3 + 6)]) (st' := []) (a' := q6.2) [(.iinc 3 6, 3, 3, .int 6), (.goto (-1279), 3, 18, .null)] (by decide +kernel) rfl ?_
          refine XI_fg [true, true, true, true] ?_
          exact x_L_law_18 E N n (x3 + 6) q6.2
        · refine XI_go (pc' := 252) (ls' := [.ref 1003, .ref 0, .ref 31, .int x3]) (st' := [.int 0]) (a' := q6.2) [(.iconst 0, 1, 0, .int 0)] (by decide +kernel) rfl ?_
          exact XI_retI (by decide +kernel)
      refine XI_if (c := ((e_xs E (ix x3)) &&& 63) = 3) (fun w3 => ?_) (fun w3 => ?_)
      · refine XI_tabIn (dflt := 1261) (lo := 0) (hi := 38) (offs := #[171, 194, 207, 220, 233, 276, 309, 332, 365, 388, 431, 444, 457, 490, 513, 536, 580, 613, 636, 649, 692, 726, 749, 772, 805, 838, 851, 884, 917, 950, 963, 976, 1019, 1042, 1095, 1138, 1201, 1224, 1247]) (len := 171) (off := 220) (tgt := 253) (x0 := 3) w3 (by decide +kernel) (by decide +kernel) (by decide +kernel) (by decide +kernel) (by decide) ?_
        refine XI_go (pc' := 254) (ls' := [.ref 1003, .ref 0, .ref 31, .int x3]) (st' := [.ref 0]) (a' := a) [(.aload_n 1, 1, 1, .null)] (by decide +kernel) rfl ?_
        refine XI_VT (As := []) (rest := []) (b := 0) (idx := 27) (by decide +kernel) ok_C_fault mv_C_fault (n := 0) ⟨lk_L_27, by decide +kernel⟩ rfl rfl rfl rfl (Nat.le_of_ble_eq_true rfl) (Nat.le_of_ble_eq_true rfl) (qI_h rfl) (x_C_fault E a) ?_
        refine XI_go (pc' := 258) (ls' := [.ref 1003, .ref 0, .ref 31, .int x3]) (st' := [.ref 31, .int (f_C_fault a)]) (a' := a) [(.aload_n 2, 1, 2, .null)] (by decide +kernel) rfl ?_
        refine XI_VI (As := []) (rest := [.int (f_C_fault a)]) (b := 31) (idx := 30) (by decide +kernel) ok_M_fault mv_M_fault (n := 0) ⟨lk_L_30, by decide +kernel⟩ rfl rfl rfl rfl (Nat.le_of_ble_eq_true rfl) (Nat.le_of_ble_eq_true rfl) (qI_h rfl) (x_M_fault E N a) (fun q8 => ?_)
        refine XI_br (c := (f_C_fault a) = q8.1) (t := 1294) (e := 264) (ls' := [.ref 1003, .ref 0, .ref 31, .int x3]) (st' := []) (a' := q8.2) [(.if_icmp .eq 1033, 3, 1294, .null)] (by decide +kernel) rfl ?_ ?_
        · refine XI_go (pc' := 18) (ls' := [.ref 1003, .ref 0, .ref 31, .int (x3 + 6)]) (st' := []) (a' := q8.2) [(.iinc 3 6, 3, 3, .int 6), (.goto (-1279), 3, 18, .null)] (by decide +kernel) rfl ?_
          refine XI_fg [true, true, true, true] ?_
          exact x_L_law_18 E N n (x3 + 6) q8.2
        · refine XI_go (pc' := 265) (ls' := [.ref 1003, .ref 0, .ref 31, .int x3]) (st' := [.int 0]) (a' := q8.2) [(.iconst 0, 1, 0, .int 0)] (by decide +kernel) rfl ?_
          exact XI_retI (by decide +kernel)
      refine XI_if (c := ((e_xs E (ix x3)) &&& 63) = 4) (fun w4 => ?_) (fun w4 => ?_)
      · refine XI_tabIn (dflt := 1261) (lo := 0) (hi := 38) (offs := #[171, 194, 207, 220, 233, 276, 309, 332, 365, 388, 431, 444, 457, 490, 513, 536, 580, 613, 636, 649, 692, 726, 749, 772, 805, 838, 851, 884, 917, 950, 963, 976, 1019, 1042, 1095, 1138, 1201, 1224, 1247]) (len := 171) (off := 233) (tgt := 266) (x0 := 4) w4 (by decide +kernel) (by decide +kernel) (by decide +kernel) (by decide +kernel) (by decide) ?_
        refine XI_ck (c := inb (x3 + 1) (e_L E)) (pc' := 272) (ls' := [.ref 1003, .ref 0, .ref 31, .int x3]) (st' := [.int (e_xs E (ix (x3 + 1))), .ref 0]) (a' := a) [(.aload_n 1, 1, 1, .null), (.aload_n 0, 1, 0, .null), (.iload_n 3, 1, 3, .null), (.iconst 1, 1, 0, .int 1), (.iadd, 1, 0, .null), (.iaload, 1, 0, .null)] (by decide +kernel) rfl ?_
        refine XI_ck (c := inb (x3 + 2) (e_L E)) (pc' := 277) (ls' := [.ref 1003, .ref 0, .ref 31, .int x3]) (st' := [.int (e_xs E (ix (x3 + 2))), .int (e_xs E (ix (x3 + 1))), .ref 0]) (a' := a) [(.aload_n 0, 1, 0, .null), (.iload_n 3, 1, 3, .null), (.iconst 2, 1, 0, .int 2), (.iadd, 1, 0, .null), (.iaload, 1, 0, .null)] (by decide +kernel) rfl ?_
        refine XI_ck (c := inb (x3 + 3) (e_L E)) (pc' := 282) (ls' := [.ref 1003, .ref 0, .ref 31, .int x3]) (st' := [.int (e_xs E (ix (x3 + 3))), .int (e_xs E (ix (x3 + 2))), .int (e_xs E (ix (x3 + 1))), .ref 0]) (a' := a) [(.aload_n 0, 1, 0, .null), (.iload_n 3, 1, 3, .null), (.iconst 3, 1, 0, .int 3), (.iadd, 1, 0, .null), (.iaload, 1, 0, .null)] (by decide +kernel) rfl ?_
        refine XI_VI (As := [.int (e_xs E (ix (x3 + 1))), .int (e_xs E (ix (x3 + 2))), .int (e_xs E (ix (x3 + 3)))]) (rest := []) (b := 0) (idx := 31) (by decide +kernel) ok_C_stick mv_C_stick (n := 3) ⟨lk_L_31, by decide +kernel⟩ rfl rfl rfl rfl (Nat.le_of_ble_eq_true rfl) (Nat.le_of_ble_eq_true rfl) (qI_h rfl) (x_C_stick E (e_xs E (ix (x3 + 1))) (e_xs E (ix (x3 + 2))) (e_xs E (ix (x3 + 3))) a) (fun q9 => ?_)
        refine XI_ck (c := inb (x3 + 1) (e_L E)) (pc' := 291) (ls' := [.ref 1003, .ref 0, .ref 31, .int x3]) (st' := [.int (e_xs E (ix (x3 + 1))), .ref 31, .int q9.1]) (a' := q9.2) [(.aload_n 2, 1, 2, .null), (.aload_n 0, 1, 0, .null), (.iload_n 3, 1, 3, .null), (.iconst 1, 1, 0, .int 1), (.iadd, 1, 0, .null), (.iaload, 1, 0, .null)] (by decide +kernel) rfl ?_
        refine XI_ck (c := inb (x3 + 2) (e_L E)) (pc' := 296) (ls' := [.ref 1003, .ref 0, .ref 31, .int x3]) (st' := [.int (e_xs E (ix (x3 + 2))), .int (e_xs E (ix (x3 + 1))), .ref 31, .int q9.1]) (a' := q9.2) [(.aload_n 0, 1, 0, .null), (.iload_n 3, 1, 3, .null), (.iconst 2, 1, 0, .int 2), (.iadd, 1, 0, .null), (.iaload, 1, 0, .null)] (by decide +kernel) rfl ?_
        refine XI_ck (c := inb (x3 + 3) (e_L E)) (pc' := 301) (ls' := [.ref 1003, .ref 0, .ref 31, .int x3]) (st' := [.int (e_xs E (ix (x3 + 3))), .int (e_xs E (ix (x3 + 2))), .int (e_xs E (ix (x3 + 1))), .ref 31, .int q9.1]) (a' := q9.2) [(.aload_n 0, 1, 0, .null), (.iload_n 3, 1, 3, .null), (.iconst 3, 1, 0, .int 3), (.iadd, 1, 0, .null), (.iaload, 1, 0, .null)] (by decide +kernel) rfl ?_
        refine XI_VI (As := [.int (e_xs E (ix (x3 + 1))), .int (e_xs E (ix (x3 + 2))), .int (e_xs E (ix (x3 + 3)))]) (rest := [.int q9.1]) (b := 31) (idx := 35) (by decide +kernel) ok_M_stick mv_M_stick (n := 3) ⟨lk_L_35, by decide +kernel⟩ rfl rfl rfl rfl (Nat.le_of_ble_eq_true rfl) (Nat.le_of_ble_eq_true rfl) (qI_h rfl) (x_M_stick E (e_xs E (ix (x3 + 1))) (e_xs E (ix (x3 + 2))) (e_xs E (ix (x3 + 3))) q9.2) (fun q10 => ?_)
        refine XI_br (c := q9.1 = q10.1) (t := 1294) (e := 307) (ls' := [.ref 1003, .ref 0, .ref 31, .int x3]) (st' := []) (a' := q10.2) [(.if_icmp .eq 990, 3, 1294, .null)] (by decide +kernel) rfl ?_ ?_
        · refine XI_go (pc' := 18) (ls' := [.ref 1003, .ref 0, .ref 31, .int (x3 + 6)]) (st' := []) (a' := q10.2) [(.iinc 3 6, 3, 3, .int 6), (.goto (-1279), 3, 18, .null)] (by decide +kernel) rfl ?_
          refine XI_fg [true, true, true, true] ?_
          exact x_L_law_18 E N n (x3 + 6) q10.2
        · refine XI_go (pc' := 308) (ls' := [.ref 1003, .ref 0, .ref 31, .int x3]) (st' := [.int 0]) (a' := q10.2) [(.iconst 0, 1, 0, .int 0)] (by decide +kernel) rfl ?_
          exact XI_retI (by decide +kernel)
      refine XI_if (c := ((e_xs E (ix x3)) &&& 63) = 5) (fun w5 => ?_) (fun w5 => ?_)
      · refine XI_tabIn (dflt := 1261) (lo := 0) (hi := 38) (offs := #[171, 194, 207, 220, 233, 276, 309, 332, 365, 388, 431, 444, 457, 490, 513, 536, 580, 613, 636, 649, 692, 726, 749, 772, 805, 838, 851, 884, 917, 950, 963, 976, 1019, 1042, 1095, 1138, 1201, 1224, 1247]) (len := 171) (off := 276) (tgt := 309) (x0 := 5) w5 (by decide +kernel) (by decide +kernel) (by decide +kernel) (by decide +kernel) (by decide) ?_
        refine XI_ck (c := inb (x3 + 1) (e_L E)) (pc' := 315) (ls' := [.ref 1003, .ref 0, .ref 31, .int x3]) (st' := [.int (e_xs E (ix (x3 + 1))), .ref 0]) (a' := a) [(.aload_n 1, 1, 1, .null), (.aload_n 0, 1, 0, .null), (.iload_n 3, 1, 3, .null), (.iconst 1, 1, 0, .int 1), (.iadd, 1, 0, .null), (.iaload, 1, 0, .null)] (by decide +kernel) rfl ?_
        refine XI_ck (c := inb (x3 + 2) (e_L E)) (pc' := 320) (ls' := [.ref 1003, .ref 0, .ref 31, .int x3]) (st' := [.int (e_xs E (ix (x3 + 2))), .int (e_xs E (ix (x3 + 1))), .ref 0]) (a' := a) [(.aload_n 0, 1, 0, .null), (.iload_n 3, 1, 3, .null), (.iconst 2, 1, 0, .int 2), (.iadd, 1, 0, .null), (.iaload, 1, 0, .null)] (by decide +kernel) rfl ?_
        refine XI_VI (As := [.int (e_xs E (ix (x3 + 1))), .int (e_xs E (ix (x3 + 2)))]) (rest := []) (b := 0) (idx := 36) (by decide +kernel) ok_C_set mv_C_set (n := 2) ⟨lk_L_36, by decide +kernel⟩ rfl rfl rfl rfl (Nat.le_of_ble_eq_true rfl) (Nat.le_of_ble_eq_true rfl) (qI_h rfl) (x_C_set E (e_xs E (ix (x3 + 1))) (e_xs E (ix (x3 + 2))) a) (fun q11 => ?_)
        refine XI_ck (c := inb (x3 + 1) (e_L E)) (pc' := 329) (ls' := [.ref 1003, .ref 0, .ref 31, .int x3]) (st' := [.int (e_xs E (ix (x3 + 1))), .ref 31, .int q11.1]) (a' := q11.2) [(.aload_n 2, 1, 2, .null), (.aload_n 0, 1, 0, .null), (.iload_n 3, 1, 3, .null), (.iconst 1, 1, 0, .int 1), (.iadd, 1, 0, .null), (.iaload, 1, 0, .null)] (by decide +kernel) rfl ?_
        refine XI_ck (c := inb (x3 + 2) (e_L E)) (pc' := 334) (ls' := [.ref 1003, .ref 0, .ref 31, .int x3]) (st' := [.int (e_xs E (ix (x3 + 2))), .int (e_xs E (ix (x3 + 1))), .ref 31, .int q11.1]) (a' := q11.2) [(.aload_n 0, 1, 0, .null), (.iload_n 3, 1, 3, .null), (.iconst 2, 1, 0, .int 2), (.iadd, 1, 0, .null), (.iaload, 1, 0, .null)] (by decide +kernel) rfl ?_
        refine XI_VI (As := [.int (e_xs E (ix (x3 + 1))), .int (e_xs E (ix (x3 + 2)))]) (rest := [.int q11.1]) (b := 31) (idx := 40) (by decide +kernel) ok_M_set mv_M_set (n := 2) ⟨lk_L_40, by decide +kernel⟩ rfl rfl rfl rfl (Nat.le_of_ble_eq_true rfl) (Nat.le_of_ble_eq_true rfl) (qI_h rfl) (x_M_set E (e_xs E (ix (x3 + 1))) (e_xs E (ix (x3 + 2))) q11.2) (fun q12 => ?_)
        refine XI_br (c := q11.1 = q12.1) (t := 1294) (e := 340) (ls' := [.ref 1003, .ref 0, .ref 31, .int x3]) (st' := []) (a' := q12.2) [(.if_icmp .eq 957, 3, 1294, .null)] (by decide +kernel) rfl ?_ ?_
        · refine XI_go (pc' := 18) (ls' := [.ref 1003, .ref 0, .ref 31, .int (x3 + 6)]) (st' := []) (a' := q12.2) [(.iinc 3 6, 3, 3, .int 6), (.goto (-1279), 3, 18, .null)] (by decide +kernel) rfl ?_
          refine XI_fg [true, true, true, true] ?_
          exact x_L_law_18 E N n (x3 + 6) q12.2
        · refine XI_go (pc' := 341) (ls' := [.ref 1003, .ref 0, .ref 31, .int x3]) (st' := [.int 0]) (a' := q12.2) [(.iconst 0, 1, 0, .int 0)] (by decide +kernel) rfl ?_
          exact XI_retI (by decide +kernel)
      refine XI_if (c := ((e_xs E (ix x3)) &&& 63) = 6) (fun w6 => ?_) (fun w6 => ?_)
      · refine XI_tabIn (dflt := 1261) (lo := 0) (hi := 38) (offs := #[171, 194, 207, 220, 233, 276, 309, 332, 365, 388, 431, 444, 457, 490, 513, 536, 580, 613, 636, 649, 692, 726, 749, 772, 805, 838, 851, 884, 917, 950, 963, 976, 1019, 1042, 1095, 1138, 1201, 1224, 1247]) (len := 171) (off := 309) (tgt := 342) (x0 := 6) w6 (by decide +kernel) (by decide +kernel) (by decide +kernel) (by decide +kernel) (by decide) ?_
        refine XI_ck (c := inb (x3 + 1) (e_L E)) (pc' := 348) (ls' := [.ref 1003, .ref 0, .ref 31, .int x3]) (st' := [.int (e_xs E (ix (x3 + 1))), .ref 0]) (a' := a) [(.aload_n 1, 1, 1, .null), (.aload_n 0, 1, 0, .null), (.iload_n 3, 1, 3, .null), (.iconst 1, 1, 0, .int 1), (.iadd, 1, 0, .null), (.iaload, 1, 0, .null)] (by decide +kernel) rfl ?_
        refine XI_VI (As := [.int (e_xs E (ix (x3 + 1)))]) (rest := []) (b := 0) (idx := 41) (by decide +kernel) ok_C_seed mv_C_seed (n := 1) ⟨lk_L_41, by decide +kernel⟩ rfl rfl rfl rfl (Nat.le_of_ble_eq_true rfl) (Nat.le_of_ble_eq_true rfl) (qI_h rfl) (x_C_seed E (e_xs E (ix (x3 + 1))) a) (fun q13 => ?_)
        refine XI_ck (c := inb (x3 + 1) (e_L E)) (pc' := 357) (ls' := [.ref 1003, .ref 0, .ref 31, .int x3]) (st' := [.int (e_xs E (ix (x3 + 1))), .ref 31, .int q13.1]) (a' := q13.2) [(.aload_n 2, 1, 2, .null), (.aload_n 0, 1, 0, .null), (.iload_n 3, 1, 3, .null), (.iconst 1, 1, 0, .int 1), (.iadd, 1, 0, .null), (.iaload, 1, 0, .null)] (by decide +kernel) rfl ?_
        refine XI_VI (As := [.int (e_xs E (ix (x3 + 1)))]) (rest := [.int q13.1]) (b := 31) (idx := 44) (by decide +kernel) ok_M_seed mv_M_seed (n := 1) ⟨lk_L_44, by decide +kernel⟩ rfl rfl rfl rfl (Nat.le_of_ble_eq_true rfl) (Nat.le_of_ble_eq_true rfl) (qI_h rfl) (x_M_seed E (e_xs E (ix (x3 + 1))) q13.2) (fun q14 => ?_)
        refine XI_br (c := q13.1 = q14.1) (t := 1294) (e := 363) (ls' := [.ref 1003, .ref 0, .ref 31, .int x3]) (st' := []) (a' := q14.2) [(.if_icmp .eq 934, 3, 1294, .null)] (by decide +kernel) rfl ?_ ?_
        · refine XI_go (pc' := 18) (ls' := [.ref 1003, .ref 0, .ref 31, .int (x3 + 6)]) (st' := []) (a' := q14.2) [(.iinc 3 6, 3, 3, .int 6), (.goto (-1279), 3, 18, .null)] (by decide +kernel) rfl ?_
          refine XI_fg [true, true, true, true] ?_
          exact x_L_law_18 E N n (x3 + 6) q14.2
        · refine XI_go (pc' := 364) (ls' := [.ref 1003, .ref 0, .ref 31, .int x3]) (st' := [.int 0]) (a' := q14.2) [(.iconst 0, 1, 0, .int 0)] (by decide +kernel) rfl ?_
          exact XI_retI (by decide +kernel)
      refine XI_if (c := ((e_xs E (ix x3)) &&& 63) = 7) (fun w7 => ?_) (fun w7 => ?_)
      · refine XI_tabIn (dflt := 1261) (lo := 0) (hi := 38) (offs := #[171, 194, 207, 220, 233, 276, 309, 332, 365, 388, 431, 444, 457, 490, 513, 536, 580, 613, 636, 649, 692, 726, 749, 772, 805, 838, 851, 884, 917, 950, 963, 976, 1019, 1042, 1095, 1138, 1201, 1224, 1247]) (len := 171) (off := 332) (tgt := 365) (x0 := 7) w7 (by decide +kernel) (by decide +kernel) (by decide +kernel) (by decide +kernel) (by decide) ?_
        refine XI_ck (c := inb (x3 + 1) (e_L E)) (pc' := 371) (ls' := [.ref 1003, .ref 0, .ref 31, .int x3]) (st' := [.int (e_xs E (ix (x3 + 1))), .ref 0]) (a' := a) [(.aload_n 1, 1, 1, .null), (.aload_n 0, 1, 0, .null), (.iload_n 3, 1, 3, .null), (.iconst 1, 1, 0, .int 1), (.iadd, 1, 0, .null), (.iaload, 1, 0, .null)] (by decide +kernel) rfl ?_
        refine XI_ck (c := inb (x3 + 2) (e_L E)) (pc' := 376) (ls' := [.ref 1003, .ref 0, .ref 31, .int x3]) (st' := [.int (e_xs E (ix (x3 + 2))), .int (e_xs E (ix (x3 + 1))), .ref 0]) (a' := a) [(.aload_n 0, 1, 0, .null), (.iload_n 3, 1, 3, .null), (.iconst 2, 1, 0, .int 2), (.iadd, 1, 0, .null), (.iaload, 1, 0, .null)] (by decide +kernel) rfl ?_
        refine XI_VI (As := [.int (e_xs E (ix (x3 + 1))), .int (e_xs E (ix (x3 + 2)))]) (rest := []) (b := 0) (idx := 45) (by decide +kernel) ok_C_stands mv_C_stands (n := 2) ⟨lk_L_45, by decide +kernel⟩ rfl rfl rfl rfl (Nat.le_of_ble_eq_true rfl) (Nat.le_of_ble_eq_true rfl) (qI_h rfl) (x_C_stands E (e_xs E (ix (x3 + 1))) (e_xs E (ix (x3 + 2))) a) (fun q15 => ?_)
        refine XI_ck (c := inb (x3 + 1) (e_L E)) (pc' := 385) (ls' := [.ref 1003, .ref 0, .ref 31, .int x3]) (st' := [.int (e_xs E (ix (x3 + 1))), .ref 31, .int q15.1]) (a' := q15.2) [(.aload_n 2, 1, 2, .null), (.aload_n 0, 1, 0, .null), (.iload_n 3, 1, 3, .null), (.iconst 1, 1, 0, .int 1), (.iadd, 1, 0, .null), (.iaload, 1, 0, .null)] (by decide +kernel) rfl ?_
        refine XI_ck (c := inb (x3 + 2) (e_L E)) (pc' := 390) (ls' := [.ref 1003, .ref 0, .ref 31, .int x3]) (st' := [.int (e_xs E (ix (x3 + 2))), .int (e_xs E (ix (x3 + 1))), .ref 31, .int q15.1]) (a' := q15.2) [(.aload_n 0, 1, 0, .null), (.iload_n 3, 1, 3, .null), (.iconst 2, 1, 0, .int 2), (.iadd, 1, 0, .null), (.iaload, 1, 0, .null)] (by decide +kernel) rfl ?_
        refine XI_VI (As := [.int (e_xs E (ix (x3 + 1))), .int (e_xs E (ix (x3 + 2)))]) (rest := [.int q15.1]) (b := 31) (idx := 48) (by decide +kernel) ok_M_stands mv_M_stands (n := 2) ⟨lk_L_48, by decide +kernel⟩ rfl rfl rfl rfl (Nat.le_of_ble_eq_true rfl) (Nat.le_of_ble_eq_true rfl) (qI_h rfl) (x_M_stands E (e_xs E (ix (x3 + 1))) (e_xs E (ix (x3 + 2))) q15.2) (fun q16 => ?_)
        refine XI_br (c := q15.1 = q16.1) (t := 1294) (e := 396) (ls' := [.ref 1003, .ref 0, .ref 31, .int x3]) (st' := []) (a' := q16.2) [(.if_icmp .eq 901, 3, 1294, .null)] (by decide +kernel) rfl ?_ ?_
        · refine XI_go (pc' := 18) (ls' := [.ref 1003, .ref 0, .ref 31, .int (x3 + 6)]) (st' := []) (a' := q16.2) [(.iinc 3 6, 3, 3, .int 6), (.goto (-1279), 3, 18, .null)] (by decide +kernel) rfl ?_
          refine XI_fg [true, true, true, true] ?_
          exact x_L_law_18 E N n (x3 + 6) q16.2
        · refine XI_go (pc' := 397) (ls' := [.ref 1003, .ref 0, .ref 31, .int x3]) (st' := [.int 0]) (a' := q16.2) [(.iconst 0, 1, 0, .int 0)] (by decide +kernel) rfl ?_
          exact XI_retI (by decide +kernel)
      refine XI_if (c := ((e_xs E (ix x3)) &&& 63) = 8) (fun w8 => ?_) (fun w8 => ?_)
      · refine XI_tabIn (dflt := 1261) (lo := 0) (hi := 38) (offs := #[171, 194, 207, 220, 233, 276, 309, 332, 365, 388, 431, 444, 457, 490, 513, 536, 580, 613, 636, 649, 692, 726, 749, 772, 805, 838, 851, 884, 917, 950, 963, 976, 1019, 1042, 1095, 1138, 1201, 1224, 1247]) (len := 171) (off := 365) (tgt := 398) (x0 := 8) w8 (by decide +kernel) (by decide +kernel) (by decide +kernel) (by decide +kernel) (by decide) ?_
        refine XI_ck (c := inb (x3 + 1) (e_L E)) (pc' := 404) (ls' := [.ref 1003, .ref 0, .ref 31, .int x3]) (st' := [.int (e_xs E (ix (x3 + 1))), .ref 0]) (a' := a) [(.aload_n 1, 1, 1, .null), (.aload_n 0, 1, 0, .null), (.iload_n 3, 1, 3, .null), (.iconst 1, 1, 0, .int 1), (.iadd, 1, 0, .null), (.iaload, 1, 0, .null)] (by decide +kernel) rfl ?_
        refine XI_VI (As := [.int (e_xs E (ix (x3 + 1)))]) (rest := []) (b := 0) (idx := 49) (by decide +kernel) ok_C_read mv_C_read (n := 1) ⟨lk_L_49, by decide +kernel⟩ rfl rfl rfl rfl (Nat.le_of_ble_eq_true rfl) (Nat.le_of_ble_eq_true rfl) (qI_h rfl) (x_C_read E N (e_xs E (ix (x3 + 1))) a) (fun q17 => ?_)
        refine XI_ck (c := inb (x3 + 1) (e_L E)) (pc' := 413) (ls' := [.ref 1003, .ref 0, .ref 31, .int x3]) (st' := [.int (e_xs E (ix (x3 + 1))), .ref 31, .int q17.1]) (a' := q17.2) [(.aload_n 2, 1, 2, .null), (.aload_n 0, 1, 0, .null), (.iload_n 3, 1, 3, .null), (.iconst 1, 1, 0, .int 1), (.iadd, 1, 0, .null), (.iaload, 1, 0, .null)] (by decide +kernel) rfl ?_
        refine XI_VI (As := [.int (e_xs E (ix (x3 + 1)))]) (rest := [.int q17.1]) (b := 31) (idx := 52) (by decide +kernel) ok_M_read mv_M_read (n := 1) ⟨lk_L_52, by decide +kernel⟩ rfl rfl rfl rfl (Nat.le_of_ble_eq_true rfl) (Nat.le_of_ble_eq_true rfl) (qI_h rfl) (x_M_read E N (e_xs E (ix (x3 + 1))) q17.2) (fun q18 => ?_)
        refine XI_br (c := q17.1 = q18.1) (t := 1294) (e := 419) (ls' := [.ref 1003, .ref 0, .ref 31, .int x3]) (st' := []) (a' := q18.2) [(.if_icmp .eq 878, 3, 1294, .null)] (by decide +kernel) rfl ?_ ?_
        · refine XI_go (pc' := 18) (ls' := [.ref 1003, .ref 0, .ref 31, .int (x3 + 6)]) (st' := []) (a' := q18.2) [(.iinc 3 6, 3, 3, .int 6), (.goto (-1279), 3, 18, .null)] (by decide +kernel) rfl ?_
          refine XI_fg [true, true, true, true] ?_
          exact x_L_law_18 E N n (x3 + 6) q18.2
        · refine XI_go (pc' := 420) (ls' := [.ref 1003, .ref 0, .ref 31, .int x3]) (st' := [.int 0]) (a' := q18.2) [(.iconst 0, 1, 0, .int 0)] (by decide +kernel) rfl ?_
          exact XI_retI (by decide +kernel)
      refine XI_if (c := ((e_xs E (ix x3)) &&& 63) = 9) (fun w9 => ?_) (fun w9 => ?_)
      · refine XI_tabIn (dflt := 1261) (lo := 0) (hi := 38) (offs := #[171, 194, 207, 220, 233, 276, 309, 332, 365, 388, 431, 444, 457, 490, 513, 536, 580, 613, 636, 649, 692, 726, 749, 772, 805, 838, 851, 884, 917, 950, 963, 976, 1019, 1042, 1095, 1138, 1201, 1224, 1247]) (len := 171) (off := 388) (tgt := 421) (x0 := 9) w9 (by decide +kernel) (by decide +kernel) (by decide +kernel) (by decide +kernel) (by decide) ?_
        refine XI_ck (c := inb (x3 + 1) (e_L E)) (pc' := 427) (ls' := [.ref 1003, .ref 0, .ref 31, .int x3]) (st' := [.int (e_xs E (ix (x3 + 1))), .ref 0]) (a' := a) [(.aload_n 1, 1, 1, .null), (.aload_n 0, 1, 0, .null), (.iload_n 3, 1, 3, .null), (.iconst 1, 1, 0, .int 1), (.iadd, 1, 0, .null), (.iaload, 1, 0, .null)] (by decide +kernel) rfl ?_
        refine XI_ck (c := inb (x3 + 2) (e_L E)) (pc' := 432) (ls' := [.ref 1003, .ref 0, .ref 31, .int x3]) (st' := [.int (e_xs E (ix (x3 + 2))), .int (e_xs E (ix (x3 + 1))), .ref 0]) (a' := a) [(.aload_n 0, 1, 0, .null), (.iload_n 3, 1, 3, .null), (.iconst 2, 1, 0, .int 2), (.iadd, 1, 0, .null), (.iaload, 1, 0, .null)] (by decide +kernel) rfl ?_
        refine XI_ck (c := inb (x3 + 3) (e_L E)) (pc' := 437) (ls' := [.ref 1003, .ref 0, .ref 31, .int x3]) (st' := [.int (e_xs E (ix (x3 + 3))), .int (e_xs E (ix (x3 + 2))), .int (e_xs E (ix (x3 + 1))), .ref 0]) (a' := a) [(.aload_n 0, 1, 0, .null), (.iload_n 3, 1, 3, .null), (.iconst 3, 1, 0, .int 3), (.iadd, 1, 0, .null), (.iaload, 1, 0, .null)] (by decide +kernel) rfl ?_
        refine XI_VI (As := [.int (e_xs E (ix (x3 + 1))), .int (e_xs E (ix (x3 + 2))), .int (e_xs E (ix (x3 + 3)))]) (rest := []) (b := 0) (idx := 53) (by decide +kernel) ok_C_toss mv_C_toss (n := 3) ⟨lk_L_53, by decide +kernel⟩ rfl rfl rfl rfl (Nat.le_of_ble_eq_true rfl) (Nat.le_of_ble_eq_true rfl) (qI_h rfl) (x_C_toss E (e_xs E (ix (x3 + 1))) (e_xs E (ix (x3 + 2))) (e_xs E (ix (x3 + 3))) a) (fun q19 => ?_)
        refine XI_ck (c := inb (x3 + 1) (e_L E)) (pc' := 446) (ls' := [.ref 1003, .ref 0, .ref 31, .int x3]) (st' := [.int (e_xs E (ix (x3 + 1))), .ref 31, .int q19.1]) (a' := q19.2) [(.aload_n 2, 1, 2, .null), (.aload_n 0, 1, 0, .null), (.iload_n 3, 1, 3, .null), (.iconst 1, 1, 0, .int 1), (.iadd, 1, 0, .null), (.iaload, 1, 0, .null)] (by decide +kernel) rfl ?_
        refine XI_ck (c := inb (x3 + 2) (e_L E)) (pc' := 451) (ls' := [.ref 1003, .ref 0, .ref 31, .int x3]) (st' := [.int (e_xs E (ix (x3 + 2))), .int (e_xs E (ix (x3 + 1))), .ref 31, .int q19.1]) (a' := q19.2) [(.aload_n 0, 1, 0, .null), (.iload_n 3, 1, 3, .null), (.iconst 2, 1, 0, .int 2), (.iadd, 1, 0, .null), (.iaload, 1, 0, .null)] (by decide +kernel) rfl ?_
        refine XI_ck (c := inb (x3 + 3) (e_L E)) (pc' := 456) (ls' := [.ref 1003, .ref 0, .ref 31, .int x3]) (st' := [.int (e_xs E (ix (x3 + 3))), .int (e_xs E (ix (x3 + 2))), .int (e_xs E (ix (x3 + 1))), .ref 31, .int q19.1]) (a' := q19.2) [(.aload_n 0, 1, 0, .null), (.iload_n 3, 1, 3, .null), (.iconst 3, 1, 0, .int 3), (.iadd, 1, 0, .null), (.iaload, 1, 0, .null)] (by decide +kernel) rfl ?_
        refine XI_VI (As := [.int (e_xs E (ix (x3 + 1))), .int (e_xs E (ix (x3 + 2))), .int (e_xs E (ix (x3 + 3)))]) (rest := [.int q19.1]) (b := 31) (idx := 56) (by decide +kernel) ok_M_toss mv_M_toss (n := 3) ⟨lk_L_56, by decide +kernel⟩ rfl rfl rfl rfl (Nat.le_of_ble_eq_true rfl) (Nat.le_of_ble_eq_true rfl) (qI_h rfl) (x_M_toss E (e_xs E (ix (x3 + 1))) (e_xs E (ix (x3 + 2))) (e_xs E (ix (x3 + 3))) q19.2) (fun q20 => ?_)
        refine XI_br (c := q19.1 = q20.1) (t := 1294) (e := 462) (ls' := [.ref 1003, .ref 0, .ref 31, .int x3]) (st' := []) (a' := q20.2) [(.if_icmp .eq 835, 3, 1294, .null)] (by decide +kernel) rfl ?_ ?_
        · refine XI_go (pc' := 18) (ls' := [.ref 1003, .ref 0, .ref 31, .int (x3 + 6)]) (st' := []) (a' := q20.2) [(.iinc 3 6, 3, 3, .int 6), (.goto (-1279), 3, 18, .null)] (by decide +kernel) rfl ?_
          refine XI_fg [true, true, true, true] ?_
          exact x_L_law_18 E N n (x3 + 6) q20.2
        · refine XI_go (pc' := 463) (ls' := [.ref 1003, .ref 0, .ref 31, .int x3]) (st' := [.int 0]) (a' := q20.2) [(.iconst 0, 1, 0, .int 0)] (by decide +kernel) rfl ?_
          exact XI_retI (by decide +kernel)
      refine XI_if (c := ((e_xs E (ix x3)) &&& 63) = 10) (fun w10 => ?_) (fun w10 => ?_)
      · refine XI_tabIn (dflt := 1261) (lo := 0) (hi := 38) (offs := #[171, 194, 207, 220, 233, 276, 309, 332, 365, 388, 431, 444, 457, 490, 513, 536, 580, 613, 636, 649, 692, 726, 749, 772, 805, 838, 851, 884, 917, 950, 963, 976, 1019, 1042, 1095, 1138, 1201, 1224, 1247]) (len := 171) (off := 431) (tgt := 464) (x0 := 10) w10 (by decide +kernel) (by decide +kernel) (by decide +kernel) (by decide +kernel) (by decide) ?_
        refine XI_go (pc' := 465) (ls' := [.ref 1003, .ref 0, .ref 31, .int x3]) (st' := [.ref 0]) (a' := a) [(.aload_n 1, 1, 1, .null)] (by decide +kernel) rfl ?_
        refine XI_VI (As := []) (rest := []) (b := 0) (idx := 57) (by decide +kernel) ok_C_back mv_C_back (n := 0) ⟨lk_L_57, by decide +kernel⟩ rfl rfl rfl rfl (Nat.le_of_ble_eq_true rfl) (Nat.le_of_ble_eq_true rfl) (qI_h rfl) (x_C_back E a) (fun q21 => ?_)
        refine XI_go (pc' := 469) (ls' := [.ref 1003, .ref 0, .ref 31, .int x3]) (st' := [.ref 31, .int q21.1]) (a' := q21.2) [(.aload_n 2, 1, 2, .null)] (by decide +kernel) rfl ?_
        refine XI_VI (As := []) (rest := [.int q21.1]) (b := 31) (idx := 60) (by decide +kernel) ok_M_back mv_M_back (n := 0) ⟨lk_L_60, by decide +kernel⟩ rfl rfl rfl rfl (Nat.le_of_ble_eq_true rfl) (Nat.le_of_ble_eq_true rfl) (qI_h rfl) (x_M_back E q21.2) (fun q22 => ?_)
        refine XI_br (c := q21.1 = q22.1) (t := 1294) (e := 475) (ls' := [.ref 1003, .ref 0, .ref 31, .int x3]) (st' := []) (a' := q22.2) [(.if_icmp .eq 822, 3, 1294, .null)] (by decide +kernel) rfl ?_ ?_
        · refine XI_go (pc' := 18) (ls' := [.ref 1003, .ref 0, .ref 31, .int (x3 + 6)]) (st' := []) (a' := q22.2) [(.iinc 3 6, 3, 3, .int 6), (.goto (-1279), 3, 18, .null)] (by decide +kernel) rfl ?_
          refine XI_fg [true, true, true, true] ?_
          exact x_L_law_18 E N n (x3 + 6) q22.2
        · refine XI_go (pc' := 476) (ls' := [.ref 1003, .ref 0, .ref 31, .int x3]) (st' := [.int 0]) (a' := q22.2) [(.iconst 0, 1, 0, .int 0)] (by decide +kernel) rfl ?_
          exact XI_retI (by decide +kernel)
      refine XI_if (c := ((e_xs E (ix x3)) &&& 63) = 11) (fun w11 => ?_) (fun w11 => ?_)
      · refine XI_tabIn (dflt := 1261) (lo := 0) (hi := 38) (offs := #[171, 194, 207, 220, 233, 276, 309, 332, 365, 388, 431, 444, 457, 490, 513, 536, 580, 613, 636, 649, 692, 726, 749, 772, 805, 838, 851, 884, 917, 950, 963, 976, 1019, 1042, 1095, 1138, 1201, 1224, 1247]) (len := 171) (off := 444) (tgt := 477) (x0 := 11) w11 (by decide +kernel) (by decide +kernel) (by decide +kernel) (by decide +kernel) (by decide) ?_
        refine XI_go (pc' := 478) (ls' := [.ref 1003, .ref 0, .ref 31, .int x3]) (st' := [.ref 0]) (a' := a) [(.aload_n 1, 1, 1, .null)] (by decide +kernel) rfl ?_
        refine XI_VI (As := []) (rest := []) (b := 0) (idx := 61) (by decide +kernel) ok_C_judged mv_C_judged (n := 0) ⟨lk_L_61, by decide +kernel⟩ rfl rfl rfl rfl (Nat.le_of_ble_eq_true rfl) (Nat.le_of_ble_eq_true rfl) (qI_h rfl) (x_C_judged E N a) (fun q23 => ?_)
        refine XI_go (pc' := 482) (ls' := [.ref 1003, .ref 0, .ref 31, .int x3]) (st' := [.ref 31, .int q23.1]) (a' := q23.2) [(.aload_n 2, 1, 2, .null)] (by decide +kernel) rfl ?_
        refine XI_VI (As := []) (rest := [.int q23.1]) (b := 31) (idx := 64) (by decide +kernel) ok_M_judged mv_M_judged (n := 0) ⟨lk_L_64, by decide +kernel⟩ rfl rfl rfl rfl (Nat.le_of_ble_eq_true rfl) (Nat.le_of_ble_eq_true rfl) (qI_h rfl) (x_M_judged E N q23.2) (fun q24 => ?_)
        refine XI_br (c := q23.1 = q24.1) (t := 1294) (e := 488) (ls' := [.ref 1003, .ref 0, .ref 31, .int x3]) (st' := []) (a' := q24.2) [(.if_icmp .eq 809, 3, 1294, .null)] (by decide +kernel) rfl ?_ ?_
        · refine XI_go (pc' := 18) (ls' := [.ref 1003, .ref 0, .ref 31, .int (x3 + 6)]) (st' := []) (a' := q24.2) [(.iinc 3 6, 3, 3, .int 6), (.goto (-1279), 3, 18, .null)] (by decide +kernel) rfl ?_
          refine XI_fg [true, true, true, true] ?_
          exact x_L_law_18 E N n (x3 + 6) q24.2
        · refine XI_go (pc' := 489) (ls' := [.ref 1003, .ref 0, .ref 31, .int x3]) (st' := [.int 0]) (a' := q24.2) [(.iconst 0, 1, 0, .int 0)] (by decide +kernel) rfl ?_
          exact XI_retI (by decide +kernel)
      refine XI_if (c := ((e_xs E (ix x3)) &&& 63) = 12) (fun w12 => ?_) (fun w12 => ?_)
      · refine XI_tabIn (dflt := 1261) (lo := 0) (hi := 38) (offs := #[171, 194, 207, 220, 233, 276, 309, 332, 365, 388, 431, 444, 457, 490, 513, 536, 580, 613, 636, 649, 692, 726, 749, 772, 805, 838, 851, 884, 917, 950, 963, 976, 1019, 1042, 1095, 1138, 1201, 1224, 1247]) (len := 171) (off := 457) (tgt := 490) (x0 := 12) w12 (by decide +kernel) (by decide +kernel) (by decide +kernel) (by decide +kernel) (by decide) ?_
        refine XI_ck (c := inb (x3 + 1) (e_L E)) (pc' := 496) (ls' := [.ref 1003, .ref 0, .ref 31, .int x3]) (st' := [.int (e_xs E (ix (x3 + 1))), .ref 0]) (a' := a) [(.aload_n 1, 1, 1, .null), (.aload_n 0, 1, 0, .null), (.iload_n 3, 1, 3, .null), (.iconst 1, 1, 0, .int 1), (.iadd, 1, 0, .null), (.iaload, 1, 0, .null)] (by decide +kernel) rfl ?_
        refine XI_ck (c := inb (x3 + 2) (e_L E)) (pc' := 501) (ls' := [.ref 1003, .ref 0, .ref 31, .int x3]) (st' := [.int (e_xs E (ix (x3 + 2))), .int (e_xs E (ix (x3 + 1))), .ref 0]) (a' := a) [(.aload_n 0, 1, 0, .null), (.iload_n 3, 1, 3, .null), (.iconst 2, 1, 0, .int 2), (.iadd, 1, 0, .null), (.iaload, 1, 0, .null)] (by decide +kernel) rfl ?_
        refine XI_VI (As := [.int (e_xs E (ix (x3 + 1))), .int (e_xs E (ix (x3 + 2)))]) (rest := []) (b := 0) (idx := 65) (by decide +kernel) ok_C_state mv_C_state (n := 2) ⟨lk_L_65, by decide +kernel⟩ rfl rfl rfl rfl (Nat.le_of_ble_eq_true rfl) (Nat.le_of_ble_eq_true rfl) (qI_h rfl) (x_C_state E N (e_xs E (ix (x3 + 1))) (e_xs E (ix (x3 + 2))) a) (fun q25 => ?_)
        refine XI_ck (c := inb (x3 + 1) (e_L E)) (pc' := 510) (ls' := [.ref 1003, .ref 0, .ref 31, .int x3]) (st' := [.int (e_xs E (ix (x3 + 1))), .ref 31, .int q25.1]) (a' := q25.2) [(.aload_n 2, 1, 2, .null), (.aload_n 0, 1, 0, .null), (.iload_n 3, 1, 3, .null), (.iconst 1, 1, 0, .int 1), (.iadd, 1, 0, .null), (.iaload, 1, 0, .null)] (by decide +kernel) rfl ?_
        refine XI_ck (c := inb (x3 + 2) (e_L E)) (pc' := 515) (ls' := [.ref 1003, .ref 0, .ref 31, .int x3]) (st' := [.int (e_xs E (ix (x3 + 2))), .int (e_xs E (ix (x3 + 1))), .ref 31, .int q25.1]) (a' := q25.2) [(.aload_n 0, 1, 0, .null), (.iload_n 3, 1, 3, .null), (.iconst 2, 1, 0, .int 2), (.iadd, 1, 0, .null), (.iaload, 1, 0, .null)] (by decide +kernel) rfl ?_
        refine XI_VI (As := [.int (e_xs E (ix (x3 + 1))), .int (e_xs E (ix (x3 + 2)))]) (rest := [.int q25.1]) (b := 31) (idx := 68) (by decide +kernel) ok_M_state mv_M_state (n := 2) ⟨lk_L_68, by decide +kernel⟩ rfl rfl rfl rfl (Nat.le_of_ble_eq_true rfl) (Nat.le_of_ble_eq_true rfl) (qI_h rfl) (x_M_state E N (e_xs E (ix (x3 + 1))) (e_xs E (ix (x3 + 2))) q25.2) (fun q26 => ?_)
        refine XI_br (c := q25.1 = q26.1) (t := 1294) (e := 521) (ls' := [.ref 1003, .ref 0, .ref 31, .int x3]) (st' := []) (a' := q26.2) [(.if_icmp .eq 776, 3, 1294, .null)] (by decide +kernel) rfl ?_ ?_
        · refine XI_go (pc' := 18) (ls' := [.ref 1003, .ref 0, .ref 31, .int (x3 + 6)]) (st' := []) (a' := q26.2) [(.iinc 3 6, 3, 3, .int 6), (.goto (-1279), 3, 18, .null)] (by decide +kernel) rfl ?_
          refine XI_fg [true, true, true, true] ?_
          exact x_L_law_18 E N n (x3 + 6) q26.2
        · refine XI_go (pc' := 522) (ls' := [.ref 1003, .ref 0, .ref 31, .int x3]) (st' := [.int 0]) (a' := q26.2) [(.iconst 0, 1, 0, .int 0)] (by decide +kernel) rfl ?_
          exact XI_retI (by decide +kernel)
      refine XI_if (c := ((e_xs E (ix x3)) &&& 63) = 13) (fun w13 => ?_) (fun w13 => ?_)
      · refine XI_tabIn (dflt := 1261) (lo := 0) (hi := 38) (offs := #[171, 194, 207, 220, 233, 276, 309, 332, 365, 388, 431, 444, 457, 490, 513, 536, 580, 613, 636, 649, 692, 726, 749, 772, 805, 838, 851, 884, 917, 950, 963, 976, 1019, 1042, 1095, 1138, 1201, 1224, 1247]) (len := 171) (off := 490) (tgt := 523) (x0 := 13) w13 (by decide +kernel) (by decide +kernel) (by decide +kernel) (by decide +kernel) (by decide) ?_
        refine XI_ck (c := inb (x3 + 1) (e_L E)) (pc' := 529) (ls' := [.ref 1003, .ref 0, .ref 31, .int x3]) (st' := [.int (e_xs E (ix (x3 + 1))), .ref 0]) (a' := a) [(.aload_n 1, 1, 1, .null), (.aload_n 0, 1, 0, .null), (.iload_n 3, 1, 3, .null), (.iconst 1, 1, 0, .int 1), (.iadd, 1, 0, .null), (.iaload, 1, 0, .null)] (by decide +kernel) rfl ?_
        refine XI_VI (As := [.int (e_xs E (ix (x3 + 1)))]) (rest := []) (b := 0) (idx := 69) (by decide +kernel) ok_C_hangs mv_C_hangs (n := 1) ⟨lk_L_69, by decide +kernel⟩ rfl rfl rfl rfl (Nat.le_of_ble_eq_true rfl) (Nat.le_of_ble_eq_true rfl) (qI_h rfl) (x_C_hangs E N (e_xs E (ix (x3 + 1))) a) (fun q27 => ?_)
        refine XI_ck (c := inb (x3 + 1) (e_L E)) (pc' := 538) (ls' := [.ref 1003, .ref 0, .ref 31, .int x3]) (st' := [.int (e_xs E (ix (x3 + 1))), .ref 31, .int q27.1]) (a' := q27.2) [(.aload_n 2, 1, 2, .null), (.aload_n 0, 1, 0, .null), (.iload_n 3, 1, 3, .null), (.iconst 1, 1, 0, .int 1), (.iadd, 1, 0, .null), (.iaload, 1, 0, .null)] (by decide +kernel) rfl ?_
        refine XI_VI (As := [.int (e_xs E (ix (x3 + 1)))]) (rest := [.int q27.1]) (b := 31) (idx := 72) (by decide +kernel) ok_M_hangs mv_M_hangs (n := 1) ⟨lk_L_72, by decide +kernel⟩ rfl rfl rfl rfl (Nat.le_of_ble_eq_true rfl) (Nat.le_of_ble_eq_true rfl) (qI_h rfl) (x_M_hangs E N (e_xs E (ix (x3 + 1))) q27.2) (fun q28 => ?_)
        refine XI_br (c := q27.1 = q28.1) (t := 1294) (e := 544) (ls' := [.ref 1003, .ref 0, .ref 31, .int x3]) (st' := []) (a' := q28.2) [(.if_icmp .eq 753, 3, 1294, .null)] (by decide +kernel) rfl ?_ ?_
        · refine XI_go (pc' := 18) (ls' := [.ref 1003, .ref 0, .ref 31, .int (x3 + 6)]) (st' := []) (a' := q28.2) [(.iinc 3 6, 3, 3, .int 6), (.goto (-1279), 3, 18, .null)] (by decide +kernel) rfl ?_
          refine XI_fg [true, true, true, true] ?_
          exact x_L_law_18 E N n (x3 + 6) q28.2
        · refine XI_go (pc' := 545) (ls' := [.ref 1003, .ref 0, .ref 31, .int x3]) (st' := [.int 0]) (a' := q28.2) [(.iconst 0, 1, 0, .int 0)] (by decide +kernel) rfl ?_
          exact XI_retI (by decide +kernel)
      refine XI_if (c := ((e_xs E (ix x3)) &&& 63) = 14) (fun w14 => ?_) (fun w14 => ?_)
      · refine XI_tabIn (dflt := 1261) (lo := 0) (hi := 38) (offs := #[171, 194, 207, 220, 233, 276, 309, 332, 365, 388, 431, 444, 457, 490, 513, 536, 580, 613, 636, 649, 692, 726, 749, 772, 805, 838, 851, 884, 917, 950, 963, 976, 1019, 1042, 1095, 1138, 1201, 1224, 1247]) (len := 171) (off := 513) (tgt := 546) (x0 := 14) w14 (by decide +kernel) (by decide +kernel) (by decide +kernel) (by decide +kernel) (by decide) ?_
        refine XI_ck (c := inb (x3 + 1) (e_L E)) (pc' := 552) (ls' := [.ref 1003, .ref 0, .ref 31, .int x3]) (st' := [.int (e_xs E (ix (x3 + 1))), .ref 0]) (a' := a) [(.aload_n 1, 1, 1, .null), (.aload_n 0, 1, 0, .null), (.iload_n 3, 1, 3, .null), (.iconst 1, 1, 0, .int 1), (.iadd, 1, 0, .null), (.iaload, 1, 0, .null)] (by decide +kernel) rfl ?_
        refine XI_VI (As := [.int (e_xs E (ix (x3 + 1)))]) (rest := []) (b := 0) (idx := 73) (by decide +kernel) ok_C_has mv_C_has (n := 1) ⟨lk_L_73, by decide +kernel⟩ rfl rfl rfl rfl (Nat.le_of_ble_eq_true rfl) (Nat.le_of_ble_eq_true rfl) (qI_h rfl) (x_C_has E N (e_xs E (ix (x3 + 1))) a) (fun q29 => ?_)
        refine XI_ck (c := inb (x3 + 1) (e_L E)) (pc' := 561) (ls' := [.ref 1003, .ref 0, .ref 31, .int x3]) (st' := [.int (e_xs E (ix (x3 + 1))), .ref 31, .int q29.1]) (a' := q29.2) [(.aload_n 2, 1, 2, .null), (.aload_n 0, 1, 0, .null), (.iload_n 3, 1, 3, .null), (.iconst 1, 1, 0, .int 1), (.iadd, 1, 0, .null), (.iaload, 1, 0, .null)] (by decide +kernel) rfl ?_
        refine XI_VI (As := [.int (e_xs E (ix (x3 + 1)))]) (rest := [.int q29.1]) (b := 31) (idx := 76) (by decide +kernel) ok_M_has mv_M_has (n := 1) ⟨lk_L_76, by decide +kernel⟩ rfl rfl rfl rfl (Nat.le_of_ble_eq_true rfl) (Nat.le_of_ble_eq_true rfl) (qI_h rfl) (x_M_has E N (e_xs E (ix (x3 + 1))) q29.2) (fun q30 => ?_)
        refine XI_br (c := q29.1 = q30.1) (t := 1294) (e := 567) (ls' := [.ref 1003, .ref 0, .ref 31, .int x3]) (st' := []) (a' := q30.2) [(.if_icmp .eq 730, 3, 1294, .null)] (by decide +kernel) rfl ?_ ?_
        · refine XI_go (pc' := 18) (ls' := [.ref 1003, .ref 0, .ref 31, .int (x3 + 6)]) (st' := []) (a' := q30.2) [(.iinc 3 6, 3, 3, .int 6), (.goto (-1279), 3, 18, .null)] (by decide +kernel) rfl ?_
          refine XI_fg [true, true, true, true] ?_
          exact x_L_law_18 E N n (x3 + 6) q30.2
        · refine XI_go (pc' := 568) (ls' := [.ref 1003, .ref 0, .ref 31, .int x3]) (st' := [.int 0]) (a' := q30.2) [(.iconst 0, 1, 0, .int 0)] (by decide +kernel) rfl ?_
          exact XI_retI (by decide +kernel)
      refine XI_if (c := ((e_xs E (ix x3)) &&& 63) = 15) (fun w15 => ?_) (fun w15 => ?_)
      · refine XI_tabIn (dflt := 1261) (lo := 0) (hi := 38) (offs := #[171, 194, 207, 220, 233, 276, 309, 332, 365, 388, 431, 444, 457, 490, 513, 536, 580, 613, 636, 649, 692, 726, 749, 772, 805, 838, 851, 884, 917, 950, 963, 976, 1019, 1042, 1095, 1138, 1201, 1224, 1247]) (len := 171) (off := 536) (tgt := 569) (x0 := 15) w15 (by decide +kernel) (by decide +kernel) (by decide +kernel) (by decide +kernel) (by decide) ?_
        refine XI_ck (c := inb (x3 + 1) (e_L E)) (pc' := 575) (ls' := [.ref 1003, .ref 0, .ref 31, .int x3]) (st' := [.int (e_xs E (ix (x3 + 1))), .ref 0]) (a' := a) [(.aload_n 1, 1, 1, .null), (.aload_n 0, 1, 0, .null), (.iload_n 3, 1, 3, .null), (.iconst 1, 1, 0, .int 1), (.iadd, 1, 0, .null), (.iaload, 1, 0, .null)] (by decide +kernel) rfl ?_
        refine XI_ck (c := inb (x3 + 2) (e_L E)) (pc' := 580) (ls' := [.ref 1003, .ref 0, .ref 31, .int x3]) (st' := [.int (e_xs E (ix (x3 + 2))), .int (e_xs E (ix (x3 + 1))), .ref 0]) (a' := a) [(.aload_n 0, 1, 0, .null), (.iload_n 3, 1, 3, .null), (.iconst 2, 1, 0, .int 2), (.iadd, 1, 0, .null), (.iaload, 1, 0, .null)] (by decide +kernel) rfl ?_
        refine XI_ck (c := inb (x3 + 3) (e_L E)) (pc' := 585) (ls' := [.ref 1003, .ref 0, .ref 31, .int x3]) (st' := [.int (e_xs E (ix (x3 + 3))), .int (e_xs E (ix (x3 + 2))), .int (e_xs E (ix (x3 + 1))), .ref 0]) (a' := a) [(.aload_n 0, 1, 0, .null), (.iload_n 3, 1, 3, .null), (.iconst 3, 1, 0, .int 3), (.iadd, 1, 0, .null), (.iaload, 1, 0, .null)] (by decide +kernel) rfl ?_
        refine XI_VI (As := [.int (e_xs E (ix (x3 + 1))), .int (e_xs E (ix (x3 + 2))), .int (e_xs E (ix (x3 + 3)))]) (rest := []) (b := 0) (idx := 77) (by decide +kernel) ok_C_brings mv_C_brings (n := 3) ⟨lk_L_77, by decide +kernel⟩ rfl rfl rfl rfl (Nat.le_of_ble_eq_true rfl) (Nat.le_of_ble_eq_true rfl) (qL_h rfl) (x_C_brings E N (e_xs E (ix (x3 + 1))) (e_xs E (ix (x3 + 2))) (e_xs E (ix (x3 + 3))) a) (fun q31 => ?_)
        refine XI_ck (c := inb (x3 + 1) (e_L E)) (pc' := 594) (ls' := [.ref 1003, .ref 0, .ref 31, .int x3]) (st' := [.int (e_xs E (ix (x3 + 1))), .ref 31, .long q31.1]) (a' := q31.2) [(.aload_n 2, 1, 2, .null), (.aload_n 0, 1, 0, .null), (.iload_n 3, 1, 3, .null), (.iconst 1, 1, 0, .int 1), (.iadd, 1, 0, .null), (.iaload, 1, 0, .null)] (by decide +kernel) rfl ?_
        refine XI_ck (c := inb (x3 + 2) (e_L E)) (pc' := 599) (ls' := [.ref 1003, .ref 0, .ref 31, .int x3]) (st' := [.int (e_xs E (ix (x3 + 2))), .int (e_xs E (ix (x3 + 1))), .ref 31, .long q31.1]) (a' := q31.2) [(.aload_n 0, 1, 0, .null), (.iload_n 3, 1, 3, .null), (.iconst 2, 1, 0, .int 2), (.iadd, 1, 0, .null), (.iaload, 1, 0, .null)] (by decide +kernel) rfl ?_
        refine XI_ck (c := inb (x3 + 3) (e_L E)) (pc' := 604) (ls' := [.ref 1003, .ref 0, .ref 31, .int x3]) (st' := [.int (e_xs E (ix (x3 + 3))), .int (e_xs E (ix (x3 + 2))), .int (e_xs E (ix (x3 + 1))), .ref 31, .long q31.1]) (a' := q31.2) [(.aload_n 0, 1, 0, .null), (.iload_n 3, 1, 3, .null), (.iconst 3, 1, 0, .int 3), (.iadd, 1, 0, .null), (.iaload, 1, 0, .null)] (by decide +kernel) rfl ?_
        refine XI_VI (As := [.int (e_xs E (ix (x3 + 1))), .int (e_xs E (ix (x3 + 2))), .int (e_xs E (ix (x3 + 3)))]) (rest := [.long q31.1]) (b := 31) (idx := 81) (by decide +kernel) ok_M_brings mv_M_brings (n := 3) ⟨lk_L_81, by decide +kernel⟩ rfl rfl rfl rfl (Nat.le_of_ble_eq_true rfl) (Nat.le_of_ble_eq_true rfl) (qL_h rfl) (x_M_brings E N (e_xs E (ix (x3 + 1))) (e_xs E (ix (x3 + 2))) (e_xs E (ix (x3 + 3))) q31.2) (fun q32 => ?_)
        refine XI_br (c := (lg_cmp q31.1 q32.1) = 0) (t := 1294) (e := 611) (ls' := [.ref 1003, .ref 0, .ref 31, .int x3]) (st' := []) (a' := q32.2) [(.lcmp, 1, 0, .null), (.ifCond .eq 686, 3, 1294, .null)] (by decide +kernel) rfl ?_ ?_
        · refine XI_go (pc' := 18) (ls' := [.ref 1003, .ref 0, .ref 31, .int (x3 + 6)]) (st' := []) (a' := q32.2) [(.iinc 3 6, 3, 3, .int 6), (.goto (-1279), 3, 18, .null)] (by decide +kernel) rfl ?_
          refine XI_fg [true, true, true, true] ?_
          exact x_L_law_18 E N n (x3 + 6) q32.2
        · refine XI_go (pc' := 612) (ls' := [.ref 1003, .ref 0, .ref 31, .int x3]) (st' := [.int 0]) (a' := q32.2) [(.iconst 0, 1, 0, .int 0)] (by decide +kernel) rfl ?_
          exact XI_retI (by decide +kernel)
      refine XI_if (c := ((e_xs E (ix x3)) &&& 63) = 16) (fun w16 => ?_) (fun w16 => ?_)
      · refine XI_tabIn (dflt := 1261) (lo := 0) (hi := 38) (offs := #[171, 194, 207, 220, 233, 276, 309, 332, 365, 388, 431, 444, 457, 490, 513, 536, 580, 613, 636, 649, 692, 726, 749, 772, 805, 838, 851, 884, 917, 950, 963, 976, 1019, 1042, 1095, 1138, 1201, 1224, 1247]) (len := 171) (off := 580) (tgt := 613) (x0 := 16) w16 (by decide +kernel) (by decide +kernel) (by decide +kernel) (by decide +kernel) (by decide) ?_
        refine XI_ck (c := inb (x3 + 1) (e_L E)) (pc' := 619) (ls' := [.ref 1003, .ref 0, .ref 31, .int x3]) (st' := [.int (e_xs E (ix (x3 + 1))), .ref 0]) (a' := a) [(.aload_n 1, 1, 1, .null), (.aload_n 0, 1, 0, .null), (.iload_n 3, 1, 3, .null), (.iconst 1, 1, 0, .int 1), (.iadd, 1, 0, .null), (.iaload, 1, 0, .null)] (by decide +kernel) rfl ?_
        refine XI_ck (c := inb (x3 + 2) (e_L E)) (pc' := 624) (ls' := [.ref 1003, .ref 0, .ref 31, .int x3]) (st' := [.int (e_xs E (ix (x3 + 2))), .int (e_xs E (ix (x3 + 1))), .ref 0]) (a' := a) [(.aload_n 0, 1, 0, .null), (.iload_n 3, 1, 3, .null), (.iconst 2, 1, 0, .int 2), (.iadd, 1, 0, .null), (.iaload, 1, 0, .null)] (by decide +kernel) rfl ?_
        refine XI_VI (As := [.int (e_xs E (ix (x3 + 1))), .int (e_xs E (ix (x3 + 2)))]) (rest := []) (b := 0) (idx := 82) (by decide +kernel) ok_C_worth mv_C_worth (n := 2) ⟨lk_L_82, by decide +kernel⟩ rfl rfl rfl rfl (Nat.le_of_ble_eq_true rfl) (Nat.le_of_ble_eq_true rfl) (qI_h rfl) (x_C_worth E N (e_xs E (ix (x3 + 1))) (e_xs E (ix (x3 + 2))) a) (fun q33 => ?_)
        refine XI_ck (c := inb (x3 + 1) (e_L E)) (pc' := 633) (ls' := [.ref 1003, .ref 0, .ref 31, .int x3]) (st' := [.int (e_xs E (ix (x3 + 1))), .ref 31, .int q33.1]) (a' := q33.2) [(.aload_n 2, 1, 2, .null), (.aload_n 0, 1, 0, .null), (.iload_n 3, 1, 3, .null), (.iconst 1, 1, 0, .int 1), (.iadd, 1, 0, .null), (.iaload, 1, 0, .null)] (by decide +kernel) rfl ?_
        refine XI_ck (c := inb (x3 + 2) (e_L E)) (pc' := 638) (ls' := [.ref 1003, .ref 0, .ref 31, .int x3]) (st' := [.int (e_xs E (ix (x3 + 2))), .int (e_xs E (ix (x3 + 1))), .ref 31, .int q33.1]) (a' := q33.2) [(.aload_n 0, 1, 0, .null), (.iload_n 3, 1, 3, .null), (.iconst 2, 1, 0, .int 2), (.iadd, 1, 0, .null), (.iaload, 1, 0, .null)] (by decide +kernel) rfl ?_
        refine XI_VI (As := [.int (e_xs E (ix (x3 + 1))), .int (e_xs E (ix (x3 + 2)))]) (rest := [.int q33.1]) (b := 31) (idx := 85) (by decide +kernel) ok_M_worth mv_M_worth (n := 2) ⟨lk_L_85, by decide +kernel⟩ rfl rfl rfl rfl (Nat.le_of_ble_eq_true rfl) (Nat.le_of_ble_eq_true rfl) (qI_h rfl) (x_M_worth E N (e_xs E (ix (x3 + 1))) (e_xs E (ix (x3 + 2))) q33.2) (fun q34 => ?_)
        refine XI_br (c := q33.1 = q34.1) (t := 1294) (e := 644) (ls' := [.ref 1003, .ref 0, .ref 31, .int x3]) (st' := []) (a' := q34.2) [(.if_icmp .eq 653, 3, 1294, .null)] (by decide +kernel) rfl ?_ ?_
        · refine XI_go (pc' := 18) (ls' := [.ref 1003, .ref 0, .ref 31, .int (x3 + 6)]) (st' := []) (a' := q34.2) [(.iinc 3 6, 3, 3, .int 6), (.goto (-1279), 3, 18, .null)] (by decide +kernel) rfl ?_
          refine XI_fg [true, true, true, true] ?_
          exact x_L_law_18 E N n (x3 + 6) q34.2
        · refine XI_go (pc' := 645) (ls' := [.ref 1003, .ref 0, .ref 31, .int x3]) (st' := [.int 0]) (a' := q34.2) [(.iconst 0, 1, 0, .int 0)] (by decide +kernel) rfl ?_
          exact XI_retI (by decide +kernel)
      refine XI_if (c := ((e_xs E (ix x3)) &&& 63) = 17) (fun w17 => ?_) (fun w17 => ?_)
      · refine XI_tabIn (dflt := 1261) (lo := 0) (hi := 38) (offs := #[171, 194, 207, 220, 233, 276, 309, 332, 365, 388, 431, 444, 457, 490, 513, 536, 580, 613, 636, 649, 692, 726, 749, 772, 805, 838, 851, 884, 917, 950, 963, 976, 1019, 1042, 1095, 1138, 1201, 1224, 1247]) (len := 171) (off := 613) (tgt := 646) (x0 := 17) w17 (by decide +kernel) (by decide +kernel) (by decide +kernel) (by decide +kernel) (by decide) ?_
        refine XI_ck (c := inb (x3 + 1) (e_L E)) (pc' := 652) (ls' := [.ref 1003, .ref 0, .ref 31, .int x3]) (st' := [.int (e_xs E (ix (x3 + 1))), .ref 0]) (a' := a) [(.aload_n 1, 1, 1, .null), (.aload_n 0, 1, 0, .null), (.iload_n 3, 1, 3, .null), (.iconst 1, 1, 0, .int 1), (.iadd, 1, 0, .null), (.iaload, 1, 0, .null)] (by decide +kernel) rfl ?_
        refine XI_VI (As := [.int (e_xs E (ix (x3 + 1)))]) (rest := []) (b := 0) (idx := 86) (by decide +kernel) ok_C_where mv_C_where (n := 1) ⟨lk_L_86, by decide +kernel⟩ rfl rfl rfl rfl (Nat.le_of_ble_eq_true rfl) (Nat.le_of_ble_eq_true rfl) (qI_h rfl) (x_C_where E N (e_xs E (ix (x3 + 1))) a) (fun q35 => ?_)
        refine XI_ck (c := inb (x3 + 1) (e_L E)) (pc' := 661) (ls' := [.ref 1003, .ref 0, .ref 31, .int x3]) (st' := [.int (e_xs E (ix (x3 + 1))), .ref 31, .int q35.1]) (a' := q35.2) [(.aload_n 2, 1, 2, .null), (.aload_n 0, 1, 0, .null), (.iload_n 3, 1, 3, .null), (.iconst 1, 1, 0, .int 1), (.iadd, 1, 0, .null), (.iaload, 1, 0, .null)] (by decide +kernel) rfl ?_
        refine XI_VI (As := [.int (e_xs E (ix (x3 + 1)))]) (rest := [.int q35.1]) (b := 31) (idx := 89) (by decide +kernel) ok_M_where mv_M_where (n := 1) ⟨lk_L_89, by decide +kernel⟩ rfl rfl rfl rfl (Nat.le_of_ble_eq_true rfl) (Nat.le_of_ble_eq_true rfl) (qI_h rfl) (x_M_where E N (e_xs E (ix (x3 + 1))) q35.2) (fun q36 => ?_)
        refine XI_br (c := q35.1 = q36.1) (t := 1294) (e := 667) (ls' := [.ref 1003, .ref 0, .ref 31, .int x3]) (st' := []) (a' := q36.2) [(.if_icmp .eq 630, 3, 1294, .null)] (by decide +kernel) rfl ?_ ?_
        · refine XI_go (pc' := 18) (ls' := [.ref 1003, .ref 0, .ref 31, .int (x3 + 6)]) (st' := []) (a' := q36.2) [(.iinc 3 6, 3, 3, .int 6), (.goto (-1279), 3, 18, .null)] (by decide +kernel) rfl ?_
          refine XI_fg [true, true, true, true] ?_
          exact x_L_law_18 E N n (x3 + 6) q36.2
        · refine XI_go (pc' := 668) (ls' := [.ref 1003, .ref 0, .ref 31, .int x3]) (st' := [.int 0]) (a' := q36.2) [(.iconst 0, 1, 0, .int 0)] (by decide +kernel) rfl ?_
          exact XI_retI (by decide +kernel)
      refine XI_if (c := ((e_xs E (ix x3)) &&& 63) = 18) (fun w18 => ?_) (fun w18 => ?_)
      · refine XI_tabIn (dflt := 1261) (lo := 0) (hi := 38) (offs := #[171, 194, 207, 220, 233, 276, 309, 332, 365, 388, 431, 444, 457, 490, 513, 536, 580, 613, 636, 649, 692, 726, 749, 772, 805, 838, 851, 884, 917, 950, 963, 976, 1019, 1042, 1095, 1138, 1201, 1224, 1247]) (len := 171) (off := 636) (tgt := 669) (x0 := 18) w18 (by decide +kernel) (by decide +kernel) (by decide +kernel) (by decide +kernel) (by decide) ?_
        refine XI_go (pc' := 670) (ls' := [.ref 1003, .ref 0, .ref 31, .int x3]) (st' := [.ref 0]) (a' := a) [(.aload_n 1, 1, 1, .null)] (by decide +kernel) rfl ?_
        refine XI_VI (As := []) (rest := []) (b := 0) (idx := 90) (by decide +kernel) ok_C_which mv_C_which (n := 0) ⟨lk_L_90, by decide +kernel⟩ rfl rfl rfl rfl (Nat.le_of_ble_eq_true rfl) (Nat.le_of_ble_eq_true rfl) (qI_h rfl) (x_C_which E N a) (fun q37 => ?_)
        refine XI_go (pc' := 674) (ls' := [.ref 1003, .ref 0, .ref 31, .int x3]) (st' := [.ref 31, .int q37.1]) (a' := q37.2) [(.aload_n 2, 1, 2, .null)] (by decide +kernel) rfl ?_
        refine XI_VI (As := []) (rest := [.int q37.1]) (b := 31) (idx := 93) (by decide +kernel) ok_M_which mv_M_which (n := 0) ⟨lk_L_93, by decide +kernel⟩ rfl rfl rfl rfl (Nat.le_of_ble_eq_true rfl) (Nat.le_of_ble_eq_true rfl) (qI_h rfl) (x_M_which E N q37.2) (fun q38 => ?_)
        refine XI_br (c := q37.1 = q38.1) (t := 1294) (e := 680) (ls' := [.ref 1003, .ref 0, .ref 31, .int x3]) (st' := []) (a' := q38.2) [(.if_icmp .eq 617, 3, 1294, .null)] (by decide +kernel) rfl ?_ ?_
        · refine XI_go (pc' := 18) (ls' := [.ref 1003, .ref 0, .ref 31, .int (x3 + 6)]) (st' := []) (a' := q38.2) [(.iinc 3 6, 3, 3, .int 6), (.goto (-1279), 3, 18, .null)] (by decide +kernel) rfl ?_
          refine XI_fg [true, true, true, true] ?_
          exact x_L_law_18 E N n (x3 + 6) q38.2
        · refine XI_go (pc' := 681) (ls' := [.ref 1003, .ref 0, .ref 31, .int x3]) (st' := [.int 0]) (a' := q38.2) [(.iconst 0, 1, 0, .int 0)] (by decide +kernel) rfl ?_
          exact XI_retI (by decide +kernel)
      refine XI_if (c := ((e_xs E (ix x3)) &&& 63) = 19) (fun w19 => ?_) (fun w19 => ?_)
      · refine XI_tabIn (dflt := 1261) (lo := 0) (hi := 38) (offs := #[171, 194, 207, 220, 233, 276, 309, 332, 365, 388, 431, 444, 457, 490, 513, 536, 580, 613, 636, 649, 692, 726, 749, 772, 805, 838, 851, 884, 917, 950, 963, 976, 1019, 1042, 1095, 1138, 1201, 1224, 1247]) (len := 171) (off := 649) (tgt := 682) (x0 := 19) w19 (by decide +kernel) (by decide +kernel) (by decide +kernel) (by decide +kernel) (by decide) ?_
        refine XI_ck (c := inb (x3 + 1) (e_L E)) (pc' := 688) (ls' := [.ref 1003, .ref 0, .ref 31, .int x3]) (st' := [.int (e_xs E (ix (x3 + 1))), .ref 0]) (a' := a) [(.aload_n 1, 1, 1, .null), (.aload_n 0, 1, 0, .null), (.iload_n 3, 1, 3, .null), (.iconst 1, 1, 0, .int 1), (.iadd, 1, 0, .null), (.iaload, 1, 0, .null)] (by decide +kernel) rfl ?_
        refine XI_ck (c := inb (x3 + 2) (e_L E)) (pc' := 693) (ls' := [.ref 1003, .ref 0, .ref 31, .int x3]) (st' := [.int (e_xs E (ix (x3 + 2))), .int (e_xs E (ix (x3 + 1))), .ref 0]) (a' := a) [(.aload_n 0, 1, 0, .null), (.iload_n 3, 1, 3, .null), (.iconst 2, 1, 0, .int 2), (.iadd, 1, 0, .null), (.iaload, 1, 0, .null)] (by decide +kernel) rfl ?_
        refine XI_ck (c := inb (x3 + 3) (e_L E)) (pc' := 698) (ls' := [.ref 1003, .ref 0, .ref 31, .int x3]) (st' := [.int (e_xs E (ix (x3 + 3))), .int (e_xs E (ix (x3 + 2))), .int (e_xs E (ix (x3 + 1))), .ref 0]) (a' := a) [(.aload_n 0, 1, 0, .null), (.iload_n 3, 1, 3, .null), (.iconst 3, 1, 0, .int 3), (.iadd, 1, 0, .null), (.iaload, 1, 0, .null)] (by decide +kernel) rfl ?_
        refine XI_VI (As := [.int (e_xs E (ix (x3 + 1))), .int (e_xs E (ix (x3 + 2))), .int (e_xs E (ix (x3 + 3)))]) (rest := []) (b := 0) (idx := 94) (by decide +kernel) ok_C_frees mv_C_frees (n := 3) ⟨lk_L_94, by decide +kernel⟩ rfl rfl rfl rfl (Nat.le_of_ble_eq_true rfl) (Nat.le_of_ble_eq_true rfl) (qI_h rfl) (x_C_frees E N (e_xs E (ix (x3 + 1))) (e_xs E (ix (x3 + 2))) (e_xs E (ix (x3 + 3))) a) (fun q39 => ?_)
        refine XI_ck (c := inb (x3 + 1) (e_L E)) (pc' := 707) (ls' := [.ref 1003, .ref 0, .ref 31, .int x3]) (st' := [.int (e_xs E (ix (x3 + 1))), .ref 31, .int q39.1]) (a' := q39.2) [(.aload_n 2, 1, 2, .null), (.aload_n 0, 1, 0, .null), (.iload_n 3, 1, 3, .null), (.iconst 1, 1, 0, .int 1), (.iadd, 1, 0, .null), (.iaload, 1, 0, .null)] (by decide +kernel) rfl ?_
        refine XI_ck (c := inb (x3 + 2) (e_L E)) (pc' := 712) (ls' := [.ref 1003, .ref 0, .ref 31, .int x3]) (st' := [.int (e_xs E (ix (x3 + 2))), .int (e_xs E (ix (x3 + 1))), .ref 31, .int q39.1]) (a' := q39.2) [(.aload_n 0, 1, 0, .null), (.iload_n 3, 1, 3, .null), (.iconst 2, 1, 0, .int 2), (.iadd, 1, 0, .null), (.iaload, 1, 0, .null)] (by decide +kernel) rfl ?_
        refine XI_ck (c := inb (x3 + 3) (e_L E)) (pc' := 717) (ls' := [.ref 1003, .ref 0, .ref 31, .int x3]) (st' := [.int (e_xs E (ix (x3 + 3))), .int (e_xs E (ix (x3 + 2))), .int (e_xs E (ix (x3 + 1))), .ref 31, .int q39.1]) (a' := q39.2) [(.aload_n 0, 1, 0, .null), (.iload_n 3, 1, 3, .null), (.iconst 3, 1, 0, .int 3), (.iadd, 1, 0, .null), (.iaload, 1, 0, .null)] (by decide +kernel) rfl ?_
        refine XI_VI (As := [.int (e_xs E (ix (x3 + 1))), .int (e_xs E (ix (x3 + 2))), .int (e_xs E (ix (x3 + 3)))]) (rest := [.int q39.1]) (b := 31) (idx := 97) (by decide +kernel) ok_M_frees mv_M_frees (n := 3) ⟨lk_L_97, by decide +kernel⟩ rfl rfl rfl rfl (Nat.le_of_ble_eq_true rfl) (Nat.le_of_ble_eq_true rfl) (qI_h rfl) (x_M_frees E N (e_xs E (ix (x3 + 1))) (e_xs E (ix (x3 + 2))) (e_xs E (ix (x3 + 3))) q39.2) (fun q40 => ?_)
        refine XI_br (c := q39.1 = q40.1) (t := 1294) (e := 723) (ls' := [.ref 1003, .ref 0, .ref 31, .int x3]) (st' := []) (a' := q40.2) [(.if_icmp .eq 574, 3, 1294, .null)] (by decide +kernel) rfl ?_ ?_
        · refine XI_go (pc' := 18) (ls' := [.ref 1003, .ref 0, .ref 31, .int (x3 + 6)]) (st' := []) (a' := q40.2) [(.iinc 3 6, 3, 3, .int 6), (.goto (-1279), 3, 18, .null)] (by decide +kernel) rfl ?_
          refine XI_fg [true, true, true, true] ?_
          exact x_L_law_18 E N n (x3 + 6) q40.2
        · refine XI_go (pc' := 724) (ls' := [.ref 1003, .ref 0, .ref 31, .int x3]) (st' := [.int 0]) (a' := q40.2) [(.iconst 0, 1, 0, .int 0)] (by decide +kernel) rfl ?_
          exact XI_retI (by decide +kernel)
      refine XI_if (c := ((e_xs E (ix x3)) &&& 63) = 20) (fun w20 => ?_) (fun w20 => ?_)
      · refine XI_tabIn (dflt := 1261) (lo := 0) (hi := 38) (offs := #[171, 194, 207, 220, 233, 276, 309, 332, 365, 388, 431, 444, 457, 490, 513, 536, 580, 613, 636, 649, 692, 726, 749, 772, 805, 838, 851, 884, 917, 950, 963, 976, 1019, 1042, 1095, 1138, 1201, 1224, 1247]) (len := 171) (off := 692) (tgt := 725) (x0 := 20) w20 (by decide +kernel) (by decide +kernel) (by decide +kernel) (by decide +kernel) (by decide) ?_
        refine XI_ck (c := inb (x3 + 1) (e_L E)) (pc' := 731) (ls' := [.ref 1003, .ref 0, .ref 31, .int x3]) (st' := [.int (e_xs E (ix (x3 + 1))), .ref 0]) (a' := a) [(.aload_n 1, 1, 1, .null), (.aload_n 0, 1, 0, .null), (.iload_n 3, 1, 3, .null), (.iconst 1, 1, 0, .int 1), (.iadd, 1, 0, .null), (.iaload, 1, 0, .null)] (by decide +kernel) rfl ?_
        refine XI_ck (c := inb (x3 + 2) (e_L E)) (pc' := 736) (ls' := [.ref 1003, .ref 0, .ref 31, .int x3]) (st' := [.int (e_xs E (ix (x3 + 2))), .int (e_xs E (ix (x3 + 1))), .ref 0]) (a' := a) [(.aload_n 0, 1, 0, .null), (.iload_n 3, 1, 3, .null), (.iconst 2, 1, 0, .int 2), (.iadd, 1, 0, .null), (.iaload, 1, 0, .null)] (by decide +kernel) rfl ?_
        refine XI_VP (As := [.int (e_xs E (ix (x3 + 1))), .int (e_xs E (ix (x3 + 2)))]) (rest := []) (b := 0) (idx := 98) (by decide +kernel) ok_C_lie mv_C_lie (n := 2) ⟨lk_L_98, by decide +kernel⟩ rfl rfl rfl rfl (Nat.le_of_ble_eq_true rfl) (Nat.le_of_ble_eq_true rfl) (qL_h rfl) (x_C_lie E N (e_xs E (ix (x3 + 1))) (e_xs E (ix (x3 + 2))) a) (fun q41 => ?_)
        refine XI_ck (c := inb (x3 + 1) (e_L E)) (pc' := 745) (ls' := [.ref 1003, .ref 0, .ref 31, .int x3]) (st' := [.int (e_xs E (ix (x3 + 1))), .ref 31, .long q41]) (a' := a) [(.aload_n 2, 1, 2, .null), (.aload_n 0, 1, 0, .null), (.iload_n 3, 1, 3, .null), (.iconst 1, 1, 0, .int 1), (.iadd, 1, 0, .null), (.iaload, 1, 0, .null)] (by decide +kernel) rfl ?_
        refine XI_ck (c := inb (x3 + 2) (e_L E)) (pc' := 750) (ls' := [.ref 1003, .ref 0, .ref 31, .int x3]) (st' := [.int (e_xs E (ix (x3 + 2))), .int (e_xs E (ix (x3 + 1))), .ref 31, .long q41]) (a' := a) [(.aload_n 0, 1, 0, .null), (.iload_n 3, 1, 3, .null), (.iconst 2, 1, 0, .int 2), (.iadd, 1, 0, .null), (.iaload, 1, 0, .null)] (by decide +kernel) rfl ?_
        refine XI_VI (As := [.int (e_xs E (ix (x3 + 1))), .int (e_xs E (ix (x3 + 2)))]) (rest := [.long q41]) (b := 31) (idx := 102) (by decide +kernel) ok_M_lie mv_M_lie (n := 2) ⟨lk_L_102, by decide +kernel⟩ rfl rfl rfl rfl (Nat.le_of_ble_eq_true rfl) (Nat.le_of_ble_eq_true rfl) (qL_h rfl) (x_M_lie E N (e_xs E (ix (x3 + 1))) (e_xs E (ix (x3 + 2))) a) (fun q42 => ?_)
        refine XI_br (c := (lg_cmp q41 q42.1) = 0) (t := 1294) (e := 757) (ls' := [.ref 1003, .ref 0, .ref 31, .int x3]) (st' := []) (a' := q42.2) [(.lcmp, 1, 0, .null), (.ifCond .eq 540, 3, 1294, .null)] (by decide +kernel) rfl ?_ ?_
        · refine XI_go (pc' := 18) (ls' := [.ref 1003, .ref 0, .ref 31, .int (x3 + 6)]) (st' := []) (a' := q42.2) [(.iinc 3 6, 3, 3, .int 6), (.goto (-1279), 3, 18, .null)] (by decide +kernel) rfl ?_
          refine XI_fg [true, true, true, true] ?_
          exact x_L_law_18 E N n (x3 + 6) q42.2
        · refine XI_go (pc' := 758) (ls' := [.ref 1003, .ref 0, .ref 31, .int x3]) (st' := [.int 0]) (a' := q42.2) [(.iconst 0, 1, 0, .int 0)] (by decide +kernel) rfl ?_
          exact XI_retI (by decide +kernel)
      refine XI_if (c := ((e_xs E (ix x3)) &&& 63) = 21) (fun w21 => ?_) (fun w21 => ?_)
      · refine XI_tabIn (dflt := 1261) (lo := 0) (hi := 38) (offs := #[171, 194, 207, 220, 233, 276, 309, 332, 365, 388, 431, 444, 457, 490, 513, 536, 580, 613, 636, 649, 692, 726, 749, 772, 805, 838, 851, 884, 917, 950, 963, 976, 1019, 1042, 1095, 1138, 1201, 1224, 1247]) (len := 171) (off := 726) (tgt := 759) (x0 := 21) w21 (by decide +kernel) (by decide +kernel) (by decide +kernel) (by decide +kernel) (by decide) ?_
        refine XI_ck (c := inb (x3 + 1) (e_L E)) (pc' := 765) (ls' := [.ref 1003, .ref 0, .ref 31, .int x3]) (st' := [.int (e_xs E (ix (x3 + 1))), .ref 0]) (a' := a) [(.aload_n 1, 1, 1, .null), (.aload_n 0, 1, 0, .null), (.iload_n 3, 1, 3, .null), (.iconst 1, 1, 0, .int 1), (.iadd, 1, 0, .null), (.iaload, 1, 0, .null)] (by decide +kernel) rfl ?_
        refine XI_VP (As := [.int (e_xs E (ix (x3 + 1)))]) (rest := []) (b := 0) (idx := 103) (by decide +kernel) ok_C_ripe mv_C_ripe (n := 1) ⟨lk_L_103, by decide +kernel⟩ rfl rfl rfl rfl (Nat.le_of_ble_eq_true rfl) (Nat.le_of_ble_eq_true rfl) (qI_h rfl) (x_C_ripe E N (e_xs E (ix (x3 + 1))) a) (fun q43 => ?_)
        refine XI_ck (c := inb (x3 + 1) (e_L E)) (pc' := 774) (ls' := [.ref 1003, .ref 0, .ref 31, .int x3]) (st' := [.int (e_xs E (ix (x3 + 1))), .ref 31, .int q43]) (a' := a) [(.aload_n 2, 1, 2, .null), (.aload_n 0, 1, 0, .null), (.iload_n 3, 1, 3, .null), (.iconst 1, 1, 0, .int 1), (.iadd, 1, 0, .null), (.iaload, 1, 0, .null)] (by decide +kernel) rfl ?_
        refine XI_VI (As := [.int (e_xs E (ix (x3 + 1)))]) (rest := [.int q43]) (b := 31) (idx := 106) (by decide +kernel) ok_M_ripe mv_M_ripe (n := 1) ⟨lk_L_106, by decide +kernel⟩ rfl rfl rfl rfl (Nat.le_of_ble_eq_true rfl) (Nat.le_of_ble_eq_true rfl) (qI_h rfl) (x_M_ripe E N (e_xs E (ix (x3 + 1))) a) (fun q44 => ?_)
        refine XI_br (c := q43 = q44.1) (t := 1294) (e := 780) (ls' := [.ref 1003, .ref 0, .ref 31, .int x3]) (st' := []) (a' := q44.2) [(.if_icmp .eq 517, 3, 1294, .null)] (by decide +kernel) rfl ?_ ?_
        · refine XI_go (pc' := 18) (ls' := [.ref 1003, .ref 0, .ref 31, .int (x3 + 6)]) (st' := []) (a' := q44.2) [(.iinc 3 6, 3, 3, .int 6), (.goto (-1279), 3, 18, .null)] (by decide +kernel) rfl ?_
          refine XI_fg [true, true, true, true] ?_
          exact x_L_law_18 E N n (x3 + 6) q44.2
        · refine XI_go (pc' := 781) (ls' := [.ref 1003, .ref 0, .ref 31, .int x3]) (st' := [.int 0]) (a' := q44.2) [(.iconst 0, 1, 0, .int 0)] (by decide +kernel) rfl ?_
          exact XI_retI (by decide +kernel)
      refine XI_if (c := ((e_xs E (ix x3)) &&& 63) = 22) (fun w22 => ?_) (fun w22 => ?_)
      · refine XI_tabIn (dflt := 1261) (lo := 0) (hi := 38) (offs := #[171, 194, 207, 220, 233, 276, 309, 332, 365, 388, 431, 444, 457, 490, 513, 536, 580, 613, 636, 649, 692, 726, 749, 772, 805, 838, 851, 884, 917, 950, 963, 976, 1019, 1042, 1095, 1138, 1201, 1224, 1247]) (len := 171) (off := 749) (tgt := 782) (x0 := 22) w22 (by decide +kernel) (by decide +kernel) (by decide +kernel) (by decide +kernel) (by decide) ?_
        refine XI_ck (c := inb (x3 + 1) (e_L E)) (pc' := 788) (ls' := [.ref 1003, .ref 0, .ref 31, .int x3]) (st' := [.int (e_xs E (ix (x3 + 1))), .ref 0]) (a' := a) [(.aload_n 1, 1, 1, .null), (.aload_n 0, 1, 0, .null), (.iload_n 3, 1, 3, .null), (.iconst 1, 1, 0, .int 1), (.iadd, 1, 0, .null), (.iaload, 1, 0, .null)] (by decide +kernel) rfl ?_
        refine XI_VI (As := [.int (e_xs E (ix (x3 + 1)))]) (rest := []) (b := 0) (idx := 107) (by decide +kernel) ok_C_rests mv_C_rests (n := 1) ⟨lk_L_107, by decide +kernel⟩ rfl rfl rfl rfl (Nat.le_of_ble_eq_true rfl) (Nat.le_of_ble_eq_true rfl) (qI_h rfl) (x_C_rests E N (e_xs E (ix (x3 + 1))) a) (fun q45 => ?_)
        refine XI_ck (c := inb (x3 + 1) (e_L E)) (pc' := 797) (ls' := [.ref 1003, .ref 0, .ref 31, .int x3]) (st' := [.int (e_xs E (ix (x3 + 1))), .ref 31, .int q45.1]) (a' := q45.2) [(.aload_n 2, 1, 2, .null), (.aload_n 0, 1, 0, .null), (.iload_n 3, 1, 3, .null), (.iconst 1, 1, 0, .int 1), (.iadd, 1, 0, .null), (.iaload, 1, 0, .null)] (by decide +kernel) rfl ?_
        refine XI_VI (As := [.int (e_xs E (ix (x3 + 1)))]) (rest := [.int q45.1]) (b := 31) (idx := 110) (by decide +kernel) ok_M_rests mv_M_rests (n := 1) ⟨lk_L_110, by decide +kernel⟩ rfl rfl rfl rfl (Nat.le_of_ble_eq_true rfl) (Nat.le_of_ble_eq_true rfl) (qI_h rfl) (x_M_rests E N (e_xs E (ix (x3 + 1))) q45.2) (fun q46 => ?_)
        refine XI_br (c := q45.1 = q46.1) (t := 1294) (e := 803) (ls' := [.ref 1003, .ref 0, .ref 31, .int x3]) (st' := []) (a' := q46.2) [(.if_icmp .eq 494, 3, 1294, .null)] (by decide +kernel) rfl ?_ ?_
        · refine XI_go (pc' := 18) (ls' := [.ref 1003, .ref 0, .ref 31, .int (x3 + 6)]) (st' := []) (a' := q46.2) [(.iinc 3 6, 3, 3, .int 6), (.goto (-1279), 3, 18, .null)] (by decide +kernel) rfl ?_
          refine XI_fg [true, true, true, true] ?_
          exact x_L_law_18 E N n (x3 + 6) q46.2
        · refine XI_go (pc' := 804) (ls' := [.ref 1003, .ref 0, .ref 31, .int x3]) (st' := [.int 0]) (a' := q46.2) [(.iconst 0, 1, 0, .int 0)] (by decide +kernel) rfl ?_
          exact XI_retI (by decide +kernel)
      refine XI_if (c := ((e_xs E (ix x3)) &&& 63) = 23) (fun w23 => ?_) (fun w23 => ?_)
      · refine XI_tabIn (dflt := 1261) (lo := 0) (hi := 38) (offs := #[171, 194, 207, 220, 233, 276, 309, 332, 365, 388, 431, 444, 457, 490, 513, 536, 580, 613, 636, 649, 692, 726, 749, 772, 805, 838, 851, 884, 917, 950, 963, 976, 1019, 1042, 1095, 1138, 1201, 1224, 1247]) (len := 171) (off := 772) (tgt := 805) (x0 := 23) w23 (by decide +kernel) (by decide +kernel) (by decide +kernel) (by decide +kernel) (by decide) ?_
        refine XI_ck (c := inb (x3 + 1) (e_L E)) (pc' := 811) (ls' := [.ref 1003, .ref 0, .ref 31, .int x3]) (st' := [.int (e_xs E (ix (x3 + 1))), .ref 0]) (a' := a) [(.aload_n 1, 1, 1, .null), (.aload_n 0, 1, 0, .null), (.iload_n 3, 1, 3, .null), (.iconst 1, 1, 0, .int 1), (.iadd, 1, 0, .null), (.iaload, 1, 0, .null)] (by decide +kernel) rfl ?_
        refine XI_ck (c := inb (x3 + 2) (e_L E)) (pc' := 816) (ls' := [.ref 1003, .ref 0, .ref 31, .int x3]) (st' := [.int (e_xs E (ix (x3 + 2))), .int (e_xs E (ix (x3 + 1))), .ref 0]) (a' := a) [(.aload_n 0, 1, 0, .null), (.iload_n 3, 1, 3, .null), (.iconst 2, 1, 0, .int 2), (.iadd, 1, 0, .null), (.iaload, 1, 0, .null)] (by decide +kernel) rfl ?_
        refine XI_VI (As := [.int (e_xs E (ix (x3 + 1))), .int (e_xs E (ix (x3 + 2)))]) (rest := []) (b := 0) (idx := 111) (by decide +kernel) ok_C_ends mv_C_ends (n := 2) ⟨lk_L_111, by decide +kernel⟩ rfl rfl rfl rfl (Nat.le_of_ble_eq_true rfl) (Nat.le_of_ble_eq_true rfl) (qI_h rfl) (x_C_ends E N (e_xs E (ix (x3 + 1))) (e_xs E (ix (x3 + 2))) a) (fun q47 => ?_)
        refine XI_ck (c := inb (x3 + 1) (e_L E)) (pc' := 825) (ls' := [.ref 1003, .ref 0, .ref 31, .int x3]) (st' := [.int (e_xs E (ix (x3 + 1))), .ref 31, .int q47.1]) (a' := q47.2) [(.aload_n 2, 1, 2, .null), (.aload_n 0, 1, 0, .null), (.iload_n 3, 1, 3, .null), (.iconst 1, 1, 0, .int 1), (.iadd, 1, 0, .null), (.iaload, 1, 0, .null)] (by decide +kernel) rfl ?_
        refine XI_ck (c := inb (x3 + 2) (e_L E)) (pc' := 830) (ls' := [.ref 1003, .ref 0, .ref 31, .int x3]) (st' := [.int (e_xs E (ix (x3 + 2))), .int (e_xs E (ix (x3 + 1))), .ref 31, .int q47.1]) (a' := q47.2) [(.aload_n 0, 1, 0, .null), (.iload_n 3, 1, 3, .null), (.iconst 2, 1, 0, .int 2), (.iadd, 1, 0, .null), (.iaload, 1, 0, .null)] (by decide +kernel) rfl ?_
        refine XI_VI (As := [.int (e_xs E (ix (x3 + 1))), .int (e_xs E (ix (x3 + 2)))]) (rest := [.int q47.1]) (b := 31) (idx := 114) (by decide +kernel) ok_M_ends mv_M_ends (n := 2) ⟨lk_L_114, by decide +kernel⟩ rfl rfl rfl rfl (Nat.le_of_ble_eq_true rfl) (Nat.le_of_ble_eq_true rfl) (qI_h rfl) (x_M_ends E N (e_xs E (ix (x3 + 1))) (e_xs E (ix (x3 + 2))) q47.2) (fun q48 => ?_)
        refine XI_br (c := q47.1 = q48.1) (t := 1294) (e := 836) (ls' := [.ref 1003, .ref 0, .ref 31, .int x3]) (st' := []) (a' := q48.2) [(.if_icmp .eq 461, 3, 1294, .null)] (by decide +kernel) rfl ?_ ?_
        · refine XI_go (pc' := 18) (ls' := [.ref 1003, .ref 0, .ref 31, .int (x3 + 6)]) (st' := []) (a' := q48.2) [(.iinc 3 6, 3, 3, .int 6), (.goto (-1279), 3, 18, .null)] (by decide +kernel) rfl ?_
          refine XI_fg [true, true, true, true] ?_
          exact x_L_law_18 E N n (x3 + 6) q48.2
        · refine XI_go (pc' := 837) (ls' := [.ref 1003, .ref 0, .ref 31, .int x3]) (st' := [.int 0]) (a' := q48.2) [(.iconst 0, 1, 0, .int 0)] (by decide +kernel) rfl ?_
          exact XI_retI (by decide +kernel)
      refine XI_if (c := ((e_xs E (ix x3)) &&& 63) = 24) (fun w24 => ?_) (fun w24 => ?_)
      · refine XI_tabIn (dflt := 1261) (lo := 0) (hi := 38) (offs := #[171, 194, 207, 220, 233, 276, 309, 332, 365, 388, 431, 444, 457, 490, 513, 536, 580, 613, 636, 649, 692, 726, 749, 772, 805, 838, 851, 884, 917, 950, 963, 976, 1019, 1042, 1095, 1138, 1201, 1224, 1247]) (len := 171) (off := 805) (tgt := 838) (x0 := 24) w24 (by decide +kernel) (by decide +kernel) (by decide +kernel) (by decide +kernel) (by decide) ?_
        refine XI_ck (c := inb (x3 + 1) (e_L E)) (pc' := 844) (ls' := [.ref 1003, .ref 0, .ref 31, .int x3]) (st' := [.int (e_xs E (ix (x3 + 1))), .ref 0]) (a' := a) [(.aload_n 1, 1, 1, .null), (.aload_n 0, 1, 0, .null), (.iload_n 3, 1, 3, .null), (.iconst 1, 1, 0, .int 1), (.iadd, 1, 0, .null), (.iaload, 1, 0, .null)] (by decide +kernel) rfl ?_
        refine XI_ck (c := inb (x3 + 2) (e_L E)) (pc' := 849) (ls' := [.ref 1003, .ref 0, .ref 31, .int x3]) (st' := [.int (e_xs E (ix (x3 + 2))), .int (e_xs E (ix (x3 + 1))), .ref 0]) (a' := a) [(.aload_n 0, 1, 0, .null), (.iload_n 3, 1, 3, .null), (.iconst 2, 1, 0, .int 2), (.iadd, 1, 0, .null), (.iaload, 1, 0, .null)] (by decide +kernel) rfl ?_
        refine XI_VI (As := [.int (e_xs E (ix (x3 + 1))), .int (e_xs E (ix (x3 + 2)))]) (rest := []) (b := 0) (idx := 115) (by decide +kernel) ok_C_thrower mv_C_thrower (n := 2) ⟨lk_L_115, by decide +kernel⟩ rfl rfl rfl rfl (Nat.le_of_ble_eq_true rfl) (Nat.le_of_ble_eq_true rfl) (qI_h rfl) (x_C_thrower E (e_xs E (ix (x3 + 1))) (e_xs E (ix (x3 + 2))) a) (fun q49 => ?_)
        refine XI_ck (c := inb (x3 + 1) (e_L E)) (pc' := 858) (ls' := [.ref 1003, .ref 0, .ref 31, .int x3]) (st' := [.int (e_xs E (ix (x3 + 1))), .ref 31, .int q49.1]) (a' := q49.2) [(.aload_n 2, 1, 2, .null), (.aload_n 0, 1, 0, .null), (.iload_n 3, 1, 3, .null), (.iconst 1, 1, 0, .int 1), (.iadd, 1, 0, .null), (.iaload, 1, 0, .null)] (by decide +kernel) rfl ?_
        refine XI_ck (c := inb (x3 + 2) (e_L E)) (pc' := 863) (ls' := [.ref 1003, .ref 0, .ref 31, .int x3]) (st' := [.int (e_xs E (ix (x3 + 2))), .int (e_xs E (ix (x3 + 1))), .ref 31, .int q49.1]) (a' := q49.2) [(.aload_n 0, 1, 0, .null), (.iload_n 3, 1, 3, .null), (.iconst 2, 1, 0, .int 2), (.iadd, 1, 0, .null), (.iaload, 1, 0, .null)] (by decide +kernel) rfl ?_
        refine XI_VI (As := [.int (e_xs E (ix (x3 + 1))), .int (e_xs E (ix (x3 + 2)))]) (rest := [.int q49.1]) (b := 31) (idx := 118) (by decide +kernel) ok_M_thrower mv_M_thrower (n := 2) ⟨lk_L_118, by decide +kernel⟩ rfl rfl rfl rfl (Nat.le_of_ble_eq_true rfl) (Nat.le_of_ble_eq_true rfl) (qI_h rfl) (x_M_thrower E (e_xs E (ix (x3 + 1))) (e_xs E (ix (x3 + 2))) q49.2) (fun q50 => ?_)
        refine XI_br (c := q49.1 = q50.1) (t := 1294) (e := 869) (ls' := [.ref 1003, .ref 0, .ref 31, .int x3]) (st' := []) (a' := q50.2) [(.if_icmp .eq 428, 3, 1294, .null)] (by decide +kernel) rfl ?_ ?_
        · refine XI_go (pc' := 18) (ls' := [.ref 1003, .ref 0, .ref 31, .int (x3 + 6)]) (st' := []) (a' := q50.2) [(.iinc 3 6, 3, 3, .int 6), (.goto (-1279), 3, 18, .null)] (by decide +kernel) rfl ?_
          refine XI_fg [true, true, true, true] ?_
          exact x_L_law_18 E N n (x3 + 6) q50.2
        · refine XI_go (pc' := 870) (ls' := [.ref 1003, .ref 0, .ref 31, .int x3]) (st' := [.int 0]) (a' := q50.2) [(.iconst 0, 1, 0, .int 0)] (by decide +kernel) rfl ?_
          exact XI_retI (by decide +kernel)
      refine XI_if (c := ((e_xs E (ix x3)) &&& 63) = 25) (fun w25 => ?_) (fun w25 => ?_)
      · refine XI_tabIn (dflt := 1261) (lo := 0) (hi := 38) (offs := #[171, 194, 207, 220, 233, 276, 309, 332, 365, 388, 431, 444, 457, 490, 513, 536, 580, 613, 636, 649, 692, 726, 749, 772, 805, 838, 851, 884, 917, 950, 963, 976, 1019, 1042, 1095, 1138, 1201, 1224, 1247]) (len := 171) (off := 838) (tgt := 871) (x0 := 25) w25 (by decide +kernel) (by decide +kernel) (by decide +kernel) (by decide +kernel) (by decide) ?_
        refine XI_go (pc' := 872) (ls' := [.ref 1003, .ref 0, .ref 31, .int x3]) (st' := [.ref 0]) (a' := a) [(.aload_n 1, 1, 1, .null)] (by decide +kernel) rfl ?_
        refine XI_VI (As := []) (rest := []) (b := 0) (idx := 119) (by decide +kernel) ok_C_gone mv_C_gone (n := 0) ⟨lk_L_119, by decide +kernel⟩ rfl rfl rfl rfl (Nat.le_of_ble_eq_true rfl) (Nat.le_of_ble_eq_true rfl) (qI_h rfl) (x_C_gone E a) (fun q51 => ?_)
        refine XI_go (pc' := 876) (ls' := [.ref 1003, .ref 0, .ref 31, .int x3]) (st' := [.ref 31, .int q51.1]) (a' := q51.2) [(.aload_n 2, 1, 2, .null)] (by decide +kernel) rfl ?_
        refine XI_VI (As := []) (rest := [.int q51.1]) (b := 31) (idx := 122) (by decide +kernel) ok_M_gone mv_M_gone (n := 0) ⟨lk_L_122, by decide +kernel⟩ rfl rfl rfl rfl (Nat.le_of_ble_eq_true rfl) (Nat.le_of_ble_eq_true rfl) (qI_h rfl) (x_M_gone E q51.2) (fun q52 => ?_)
        refine XI_br (c := q51.1 = q52.1) (t := 1294) (e := 882) (ls' := [.ref 1003, .ref 0, .ref 31, .int x3]) (st' := []) (a' := q52.2) [(.if_icmp .eq 415, 3, 1294, .null)] (by decide +kernel) rfl ?_ ?_
        · refine XI_go (pc' := 18) (ls' := [.ref 1003, .ref 0, .ref 31, .int (x3 + 6)]) (st' := []) (a' := q52.2) [(.iinc 3 6, 3, 3, .int 6), (.goto (-1279), 3, 18, .null)] (by decide +kernel) rfl ?_
          refine XI_fg [true, true, true, true] ?_
          exact x_L_law_18 E N n (x3 + 6) q52.2
        · refine XI_go (pc' := 883) (ls' := [.ref 1003, .ref 0, .ref 31, .int x3]) (st' := [.int 0]) (a' := q52.2) [(.iconst 0, 1, 0, .int 0)] (by decide +kernel) rfl ?_
          exact XI_retI (by decide +kernel)
      refine XI_if (c := ((e_xs E (ix x3)) &&& 63) = 26) (fun w26 => ?_) (fun w26 => ?_)
      · refine XI_tabIn (dflt := 1261) (lo := 0) (hi := 38) (offs := #[171, 194, 207, 220, 233, 276, 309, 332, 365, 388, 431, 444, 457, 490, 513, 536, 580, 613, 636, 649, 692, 726, 749, 772, 805, 838, 851, 884, 917, 950, 963, 976, 1019, 1042, 1095, 1138, 1201, 1224, 1247]) (len := 171) (off := 851) (tgt := 884) (x0 := 26) w26 (by decide +kernel) (by decide +kernel) (by decide +kernel) (by decide +kernel) (by decide) ?_
        refine XI_ck (c := inb (x3 + 1) (e_L E)) (pc' := 890) (ls' := [.ref 1003, .ref 0, .ref 31, .int x3]) (st' := [.int (e_xs E (ix (x3 + 1))), .ref 0]) (a' := a) [(.aload_n 1, 1, 1, .null), (.aload_n 0, 1, 0, .null), (.iload_n 3, 1, 3, .null), (.iconst 1, 1, 0, .int 1), (.iadd, 1, 0, .null), (.iaload, 1, 0, .null)] (by decide +kernel) rfl ?_
        refine XI_ck (c := inb (x3 + 2) (e_L E)) (pc' := 895) (ls' := [.ref 1003, .ref 0, .ref 31, .int x3]) (st' := [.int (e_xs E (ix (x3 + 2))), .int (e_xs E (ix (x3 + 1))), .ref 0]) (a' := a) [(.aload_n 0, 1, 0, .null), (.iload_n 3, 1, 3, .null), (.iconst 2, 1, 0, .int 2), (.iadd, 1, 0, .null), (.iaload, 1, 0, .null)] (by decide +kernel) rfl ?_
        refine XI_VP (As := [.int (e_xs E (ix (x3 + 1))), .int (e_xs E (ix (x3 + 2)))]) (rest := []) (b := 0) (idx := 123) (by decide +kernel) ok_C_run mv_C_run (n := 2) ⟨lk_L_123, by decide +kernel⟩ rfl rfl rfl rfl (Nat.le_of_ble_eq_true rfl) (Nat.le_of_ble_eq_true rfl) (qI_h rfl) (x_C_run E N (e_xs E (ix (x3 + 1))) (e_xs E (ix (x3 + 2))) a) (fun q53 => ?_)
        refine XI_ck (c := inb (x3 + 1) (e_L E)) (pc' := 904) (ls' := [.ref 1003, .ref 0, .ref 31, .int x3]) (st' := [.int (e_xs E (ix (x3 + 1))), .ref 31, .int q53]) (a' := a) [(.aload_n 2, 1, 2, .null), (.aload_n 0, 1, 0, .null), (.iload_n 3, 1, 3, .null), (.iconst 1, 1, 0, .int 1), (.iadd, 1, 0, .null), (.iaload, 1, 0, .null)] (by decide +kernel) rfl ?_
        refine XI_ck (c := inb (x3 + 2) (e_L E)) (pc' := 909) (ls' := [.ref 1003, .ref 0, .ref 31, .int x3]) (st' := [.int (e_xs E (ix (x3 + 2))), .int (e_xs E (ix (x3 + 1))), .ref 31, .int q53]) (a' := a) [(.aload_n 0, 1, 0, .null), (.iload_n 3, 1, 3, .null), (.iconst 2, 1, 0, .int 2), (.iadd, 1, 0, .null), (.iaload, 1, 0, .null)] (by decide +kernel) rfl ?_
        refine XI_VP (As := [.int (e_xs E (ix (x3 + 1))), .int (e_xs E (ix (x3 + 2)))]) (rest := [.int q53]) (b := 31) (idx := 126) (by decide +kernel) ok_M_run mv_M_run (n := 2) ⟨lk_L_126, by decide +kernel⟩ rfl rfl rfl rfl (Nat.le_of_ble_eq_true rfl) (Nat.le_of_ble_eq_true rfl) (qI_h rfl) (x_M_run E N (e_xs E (ix (x3 + 1))) (e_xs E (ix (x3 + 2))) a) (fun q54 => ?_)
        refine XI_br (c := q53 = q54) (t := 1294) (e := 915) (ls' := [.ref 1003, .ref 0, .ref 31, .int x3]) (st' := []) (a' := a) [(.if_icmp .eq 382, 3, 1294, .null)] (by decide +kernel) rfl ?_ ?_
        · refine XI_go (pc' := 18) (ls' := [.ref 1003, .ref 0, .ref 31, .int (x3 + 6)]) (st' := []) (a' := a) [(.iinc 3 6, 3, 3, .int 6), (.goto (-1279), 3, 18, .null)] (by decide +kernel) rfl ?_
          refine XI_fg [true, true, true, true] ?_
          exact x_L_law_18 E N n (x3 + 6) a
        · refine XI_go (pc' := 916) (ls' := [.ref 1003, .ref 0, .ref 31, .int x3]) (st' := [.int 0]) (a' := a) [(.iconst 0, 1, 0, .int 0)] (by decide +kernel) rfl ?_
          exact XI_retI (by decide +kernel)
      refine XI_if (c := ((e_xs E (ix x3)) &&& 63) = 27) (fun w27 => ?_) (fun w27 => ?_)
      · refine XI_tabIn (dflt := 1261) (lo := 0) (hi := 38) (offs := #[171, 194, 207, 220, 233, 276, 309, 332, 365, 388, 431, 444, 457, 490, 513, 536, 580, 613, 636, 649, 692, 726, 749, 772, 805, 838, 851, 884, 917, 950, 963, 976, 1019, 1042, 1095, 1138, 1201, 1224, 1247]) (len := 171) (off := 884) (tgt := 917) (x0 := 27) w27 (by decide +kernel) (by decide +kernel) (by decide +kernel) (by decide +kernel) (by decide) ?_
        refine XI_ck (c := inb (x3 + 1) (e_L E)) (pc' := 923) (ls' := [.ref 1003, .ref 0, .ref 31, .int x3]) (st' := [.int (e_xs E (ix (x3 + 1))), .ref 0]) (a' := a) [(.aload_n 1, 1, 1, .null), (.aload_n 0, 1, 0, .null), (.iload_n 3, 1, 3, .null), (.iconst 1, 1, 0, .int 1), (.iadd, 1, 0, .null), (.iaload, 1, 0, .null)] (by decide +kernel) rfl ?_
        refine XI_ck (c := inb (x3 + 2) (e_L E)) (pc' := 928) (ls' := [.ref 1003, .ref 0, .ref 31, .int x3]) (st' := [.int (e_xs E (ix (x3 + 2))), .int (e_xs E (ix (x3 + 1))), .ref 0]) (a' := a) [(.aload_n 0, 1, 0, .null), (.iload_n 3, 1, 3, .null), (.iconst 2, 1, 0, .int 2), (.iadd, 1, 0, .null), (.iaload, 1, 0, .null)] (by decide +kernel) rfl ?_
        refine XI_VP (As := [.int (e_xs E (ix (x3 + 1))), .int (e_xs E (ix (x3 + 2)))]) (rest := []) (b := 0) (idx := 127) (by decide +kernel) ok_C_hit mv_C_hit (n := 2) ⟨lk_L_127, by decide +kernel⟩ rfl rfl rfl rfl (Nat.le_of_ble_eq_true rfl) (Nat.le_of_ble_eq_true rfl) (qI_h rfl) (x_C_hit E N (e_xs E (ix (x3 + 1))) (e_xs E (ix (x3 + 2))) a) (fun q55 => ?_)
        refine XI_ck (c := inb (x3 + 1) (e_L E)) (pc' := 937) (ls' := [.ref 1003, .ref 0, .ref 31, .int x3]) (st' := [.int (e_xs E (ix (x3 + 1))), .ref 31, .int q55]) (a' := a) [(.aload_n 2, 1, 2, .null), (.aload_n 0, 1, 0, .null), (.iload_n 3, 1, 3, .null), (.iconst 1, 1, 0, .int 1), (.iadd, 1, 0, .null), (.iaload, 1, 0, .null)] (by decide +kernel) rfl ?_
        refine XI_ck (c := inb (x3 + 2) (e_L E)) (pc' := 942) (ls' := [.ref 1003, .ref 0, .ref 31, .int x3]) (st' := [.int (e_xs E (ix (x3 + 2))), .int (e_xs E (ix (x3 + 1))), .ref 31, .int q55]) (a' := a) [(.aload_n 0, 1, 0, .null), (.iload_n 3, 1, 3, .null), (.iconst 2, 1, 0, .int 2), (.iadd, 1, 0, .null), (.iaload, 1, 0, .null)] (by decide +kernel) rfl ?_
        refine XI_VP (As := [.int (e_xs E (ix (x3 + 1))), .int (e_xs E (ix (x3 + 2)))]) (rest := [.int q55]) (b := 31) (idx := 130) (by decide +kernel) ok_M_hit mv_M_hit (n := 2) ⟨lk_L_130, by decide +kernel⟩ rfl rfl rfl rfl (Nat.le_of_ble_eq_true rfl) (Nat.le_of_ble_eq_true rfl) (qI_h rfl) (x_M_hit E N (e_xs E (ix (x3 + 1))) (e_xs E (ix (x3 + 2))) a) (fun q56 => ?_)
        refine XI_br (c := q55 = q56) (t := 1294) (e := 948) (ls' := [.ref 1003, .ref 0, .ref 31, .int x3]) (st' := []) (a' := a) [(.if_icmp .eq 349, 3, 1294, .null)] (by decide +kernel) rfl ?_ ?_
        · refine XI_go (pc' := 18) (ls' := [.ref 1003, .ref 0, .ref 31, .int (x3 + 6)]) (st' := []) (a' := a) [(.iinc 3 6, 3, 3, .int 6), (.goto (-1279), 3, 18, .null)] (by decide +kernel) rfl ?_
          refine XI_fg [true, true, true, true] ?_
          exact x_L_law_18 E N n (x3 + 6) a
        · refine XI_go (pc' := 949) (ls' := [.ref 1003, .ref 0, .ref 31, .int x3]) (st' := [.int 0]) (a' := a) [(.iconst 0, 1, 0, .int 0)] (by decide +kernel) rfl ?_
          exact XI_retI (by decide +kernel)
      refine XI_if (c := ((e_xs E (ix x3)) &&& 63) = 28) (fun w28 => ?_) (fun w28 => ?_)
      · refine XI_tabIn (dflt := 1261) (lo := 0) (hi := 38) (offs := #[171, 194, 207, 220, 233, 276, 309, 332, 365, 388, 431, 444, 457, 490, 513, 536, 580, 613, 636, 649, 692, 726, 749, 772, 805, 838, 851, 884, 917, 950, 963, 976, 1019, 1042, 1095, 1138, 1201, 1224, 1247]) (len := 171) (off := 917) (tgt := 950) (x0 := 28) w28 (by decide +kernel) (by decide +kernel) (by decide +kernel) (by decide +kernel) (by decide) ?_
        refine XI_ck (c := inb (x3 + 1) (e_L E)) (pc' := 956) (ls' := [.ref 1003, .ref 0, .ref 31, .int x3]) (st' := [.int (e_xs E (ix (x3 + 1))), .ref 0]) (a' := a) [(.aload_n 1, 1, 1, .null), (.aload_n 0, 1, 0, .null), (.iload_n 3, 1, 3, .null), (.iconst 1, 1, 0, .int 1), (.iadd, 1, 0, .null), (.iaload, 1, 0, .null)] (by decide +kernel) rfl ?_
        refine XI_ck (c := inb (x3 + 2) (e_L E)) (pc' := 961) (ls' := [.ref 1003, .ref 0, .ref 31, .int x3]) (st' := [.int (e_xs E (ix (x3 + 2))), .int (e_xs E (ix (x3 + 1))), .ref 0]) (a' := a) [(.aload_n 0, 1, 0, .null), (.iload_n 3, 1, 3, .null), (.iconst 2, 1, 0, .int 2), (.iadd, 1, 0, .null), (.iaload, 1, 0, .null)] (by decide +kernel) rfl ?_
        refine XI_VI (As := [.int (e_xs E (ix (x3 + 1))), .int (e_xs E (ix (x3 + 2)))]) (rest := []) (b := 0) (idx := 131) (by decide +kernel) ok_C_seen mv_C_seen (n := 2) ⟨lk_L_131, by decide +kernel⟩ rfl rfl rfl rfl (Nat.le_of_ble_eq_true rfl) (Nat.le_of_ble_eq_true rfl) (qI_h rfl) (x_C_seen E (e_xs E (ix (x3 + 1))) (e_xs E (ix (x3 + 2))) a) (fun q57 => ?_)
        refine XI_ck (c := inb (x3 + 1) (e_L E)) (pc' := 970) (ls' := [.ref 1003, .ref 0, .ref 31, .int x3]) (st' := [.int (e_xs E (ix (x3 + 1))), .ref 31, .int q57.1]) (a' := q57.2) [(.aload_n 2, 1, 2, .null), (.aload_n 0, 1, 0, .null), (.iload_n 3, 1, 3, .null), (.iconst 1, 1, 0, .int 1), (.iadd, 1, 0, .null), (.iaload, 1, 0, .null)] (by decide +kernel) rfl ?_
        refine XI_ck (c := inb (x3 + 2) (e_L E)) (pc' := 975) (ls' := [.ref 1003, .ref 0, .ref 31, .int x3]) (st' := [.int (e_xs E (ix (x3 + 2))), .int (e_xs E (ix (x3 + 1))), .ref 31, .int q57.1]) (a' := q57.2) [(.aload_n 0, 1, 0, .null), (.iload_n 3, 1, 3, .null), (.iconst 2, 1, 0, .int 2), (.iadd, 1, 0, .null), (.iaload, 1, 0, .null)] (by decide +kernel) rfl ?_
        refine XI_VI (As := [.int (e_xs E (ix (x3 + 1))), .int (e_xs E (ix (x3 + 2)))]) (rest := [.int q57.1]) (b := 31) (idx := 134) (by decide +kernel) ok_M_seen mv_M_seen (n := 2) ⟨lk_L_134, by decide +kernel⟩ rfl rfl rfl rfl (Nat.le_of_ble_eq_true rfl) (Nat.le_of_ble_eq_true rfl) (qI_h rfl) (x_M_seen E (e_xs E (ix (x3 + 1))) (e_xs E (ix (x3 + 2))) q57.2) (fun q58 => ?_)
        refine XI_br (c := q57.1 = q58.1) (t := 1294) (e := 981) (ls' := [.ref 1003, .ref 0, .ref 31, .int x3]) (st' := []) (a' := q58.2) [(.if_icmp .eq 316, 3, 1294, .null)] (by decide +kernel) rfl ?_ ?_
        · refine XI_go (pc' := 18) (ls' := [.ref 1003, .ref 0, .ref 31, .int (x3 + 6)]) (st' := []) (a' := q58.2) [(.iinc 3 6, 3, 3, .int 6), (.goto (-1279), 3, 18, .null)] (by decide +kernel) rfl ?_
          refine XI_fg [true, true, true, true] ?_
          exact x_L_law_18 E N n (x3 + 6) q58.2
        · refine XI_go (pc' := 982) (ls' := [.ref 1003, .ref 0, .ref 31, .int x3]) (st' := [.int 0]) (a' := q58.2) [(.iconst 0, 1, 0, .int 0)] (by decide +kernel) rfl ?_
          exact XI_retI (by decide +kernel)
      refine XI_if (c := ((e_xs E (ix x3)) &&& 63) = 29) (fun w29 => ?_) (fun w29 => ?_)
      · refine XI_tabIn (dflt := 1261) (lo := 0) (hi := 38) (offs := #[171, 194, 207, 220, 233, 276, 309, 332, 365, 388, 431, 444, 457, 490, 513, 536, 580, 613, 636, 649, 692, 726, 749, 772, 805, 838, 851, 884, 917, 950, 963, 976, 1019, 1042, 1095, 1138, 1201, 1224, 1247]) (len := 171) (off := 950) (tgt := 983) (x0 := 29) w29 (by decide +kernel) (by decide +kernel) (by decide +kernel) (by decide +kernel) (by decide) ?_
        refine XI_go (pc' := 984) (ls' := [.ref 1003, .ref 0, .ref 31, .int x3]) (st' := [.ref 0]) (a' := a) [(.aload_n 1, 1, 1, .null)] (by decide +kernel) rfl ?_
        refine XI_VI (As := []) (rest := []) (b := 0) (idx := 135) (by decide +kernel) ok_C_forget mv_C_forget (n := 0) ⟨lk_L_135, by decide +kernel⟩ rfl rfl rfl rfl (Nat.le_of_ble_eq_true rfl) (Nat.le_of_ble_eq_true rfl) (qI_h rfl) (x_C_forget E a) (fun q59 => ?_)
        refine XI_go (pc' := 988) (ls' := [.ref 1003, .ref 0, .ref 31, .int x3]) (st' := [.ref 31, .int q59.1]) (a' := q59.2) [(.aload_n 2, 1, 2, .null)] (by decide +kernel) rfl ?_
        refine XI_VI (As := []) (rest := [.int q59.1]) (b := 31) (idx := 138) (by decide +kernel) ok_M_forget mv_M_forget (n := 0) ⟨lk_L_138, by decide +kernel⟩ rfl rfl rfl rfl (Nat.le_of_ble_eq_true rfl) (Nat.le_of_ble_eq_true rfl) (qI_h rfl) (x_M_forget E q59.2) (fun q60 => ?_)
        refine XI_br (c := q59.1 = q60.1) (t := 1294) (e := 994) (ls' := [.ref 1003, .ref 0, .ref 31, .int x3]) (st' := []) (a' := q60.2) [(.if_icmp .eq 303, 3, 1294, .null)] (by decide +kernel) rfl ?_ ?_
        · refine XI_go (pc' := 18) (ls' := [.ref 1003, .ref 0, .ref 31, .int (x3 + 6)]) (st' := []) (a' := q60.2) [(.iinc 3 6, 3, 3, .int 6), (.goto (-1279), 3, 18, .null)] (by decide +kernel) rfl ?_
          refine XI_fg [true, true, true, true] ?_
          exact x_L_law_18 E N n (x3 + 6) q60.2
        · refine XI_go (pc' := 995) (ls' := [.ref 1003, .ref 0, .ref 31, .int x3]) (st' := [.int 0]) (a' := q60.2) [(.iconst 0, 1, 0, .int 0)] (by decide +kernel) rfl ?_
          exact XI_retI (by decide +kernel)
      refine XI_if (c := ((e_xs E (ix x3)) &&& 63) = 30) (fun w30 => ?_) (fun w30 => ?_)
      · refine XI_tabIn (dflt := 1261) (lo := 0) (hi := 38) (offs := #[171, 194, 207, 220, 233, 276, 309, 332, 365, 388, 431, 444, 457, 490, 513, 536, 580, 613, 636, 649, 692, 726, 749, 772, 805, 838, 851, 884, 917, 950, 963, 976, 1019, 1042, 1095, 1138, 1201, 1224, 1247]) (len := 171) (off := 963) (tgt := 996) (x0 := 30) w30 (by decide +kernel) (by decide +kernel) (by decide +kernel) (by decide +kernel) (by decide) ?_
        refine XI_go (pc' := 997) (ls' := [.ref 1003, .ref 0, .ref 31, .int x3]) (st' := [.ref 0]) (a' := a) [(.aload_n 1, 1, 1, .null)] (by decide +kernel) rfl ?_
        refine XI_VI (As := []) (rest := []) (b := 0) (idx := 139) (by decide +kernel) ok_C_seeds mv_C_seeds (n := 0) ⟨lk_L_139, by decide +kernel⟩ rfl rfl rfl rfl (Nat.le_of_ble_eq_true rfl) (Nat.le_of_ble_eq_true rfl) (qI_h rfl) (x_C_seeds E N a) (fun q61 => ?_)
        refine XI_go (pc' := 1001) (ls' := [.ref 1003, .ref 0, .ref 31, .int x3]) (st' := [.ref 31, .int q61.1]) (a' := q61.2) [(.aload_n 2, 1, 2, .null)] (by decide +kernel) rfl ?_
        refine XI_VI (As := []) (rest := [.int q61.1]) (b := 31) (idx := 142) (by decide +kernel) ok_M_seeds mv_M_seeds (n := 0) ⟨lk_L_142, by decide +kernel⟩ rfl rfl rfl rfl (Nat.le_of_ble_eq_true rfl) (Nat.le_of_ble_eq_true rfl) (qI_h rfl) (x_M_seeds E N q61.2) (fun q62 => ?_)
        refine XI_br (c := q61.1 = q62.1) (t := 1294) (e := 1007) (ls' := [.ref 1003, .ref 0, .ref 31, .int x3]) (st' := []) (a' := q62.2) [(.if_icmp .eq 290, 3, 1294, .null)] (by decide +kernel) rfl ?_ ?_
        · refine XI_go (pc' := 18) (ls' := [.ref 1003, .ref 0, .ref 31, .int (x3 + 6)]) (st' := []) (a' := q62.2) [(.iinc 3 6, 3, 3, .int 6), (.goto (-1279), 3, 18, .null)] (by decide +kernel) rfl ?_
          refine XI_fg [true, true, true, true] ?_
          exact x_L_law_18 E N n (x3 + 6) q62.2
        · refine XI_go (pc' := 1008) (ls' := [.ref 1003, .ref 0, .ref 31, .int x3]) (st' := [.int 0]) (a' := q62.2) [(.iconst 0, 1, 0, .int 0)] (by decide +kernel) rfl ?_
          exact XI_retI (by decide +kernel)
      refine XI_if (c := ((e_xs E (ix x3)) &&& 63) = 31) (fun w31 => ?_) (fun w31 => ?_)
      · refine XI_tabIn (dflt := 1261) (lo := 0) (hi := 38) (offs := #[171, 194, 207, 220, 233, 276, 309, 332, 365, 388, 431, 444, 457, 490, 513, 536, 580, 613, 636, 649, 692, 726, 749, 772, 805, 838, 851, 884, 917, 950, 963, 976, 1019, 1042, 1095, 1138, 1201, 1224, 1247]) (len := 171) (off := 976) (tgt := 1009) (x0 := 31) w31 (by decide +kernel) (by decide +kernel) (by decide +kernel) (by decide +kernel) (by decide) ?_
        refine XI_ck (c := inb (x3 + 1) (e_L E)) (pc' := 1015) (ls' := [.ref 1003, .ref 0, .ref 31, .int x3]) (st' := [.int (e_xs E (ix (x3 + 1))), .ref 0]) (a' := a) [(.aload_n 1, 1, 1, .null), (.aload_n 0, 1, 0, .null), (.iload_n 3, 1, 3, .null), (.iconst 1, 1, 0, .int 1), (.iadd, 1, 0, .null), (.iaload, 1, 0, .null)] (by decide +kernel) rfl ?_
        refine XI_ck (c := inb (x3 + 2) (e_L E)) (pc' := 1020) (ls' := [.ref 1003, .ref 0, .ref 31, .int x3]) (st' := [.int (e_xs E (ix (x3 + 2))), .int (e_xs E (ix (x3 + 1))), .ref 0]) (a' := a) [(.aload_n 0, 1, 0, .null), (.iload_n 3, 1, 3, .null), (.iconst 2, 1, 0, .int 2), (.iadd, 1, 0, .null), (.iaload, 1, 0, .null)] (by decide +kernel) rfl ?_
        refine XI_ck (c := inb (x3 + 3) (e_L E)) (pc' := 1025) (ls' := [.ref 1003, .ref 0, .ref 31, .int x3]) (st' := [.int (e_xs E (ix (x3 + 3))), .int (e_xs E (ix (x3 + 2))), .int (e_xs E (ix (x3 + 1))), .ref 0]) (a' := a) [(.aload_n 0, 1, 0, .null), (.iload_n 3, 1, 3, .null), (.iconst 3, 1, 0, .int 3), (.iadd, 1, 0, .null), (.iaload, 1, 0, .null)] (by decide +kernel) rfl ?_
        refine XI_VI (As := [.int (e_xs E (ix (x3 + 1))), .int (e_xs E (ix (x3 + 2))), .int (e_xs E (ix (x3 + 3)))]) (rest := []) (b := 0) (idx := 143) (by decide +kernel) ok_C_sheet mv_C_sheet (n := 3) ⟨lk_L_143, by decide +kernel⟩ rfl rfl rfl rfl (Nat.le_of_ble_eq_true rfl) (Nat.le_of_ble_eq_true rfl) (qI_h rfl) (x_C_sheet E N (e_xs E (ix (x3 + 1))) (e_xs E (ix (x3 + 2))) (e_xs E (ix (x3 + 3))) a) (fun q63 => ?_)
        refine XI_ck (c := inb (x3 + 1) (e_L E)) (pc' := 1034) (ls' := [.ref 1003, .ref 0, .ref 31, .int x3]) (st' := [.int (e_xs E (ix (x3 + 1))), .ref 31, .int q63.1]) (a' := q63.2) [(.aload_n 2, 1, 2, .null), (.aload_n 0, 1, 0, .null), (.iload_n 3, 1, 3, .null), (.iconst 1, 1, 0, .int 1), (.iadd, 1, 0, .null), (.iaload, 1, 0, .null)] (by decide +kernel) rfl ?_
        refine XI_ck (c := inb (x3 + 2) (e_L E)) (pc' := 1039) (ls' := [.ref 1003, .ref 0, .ref 31, .int x3]) (st' := [.int (e_xs E (ix (x3 + 2))), .int (e_xs E (ix (x3 + 1))), .ref 31, .int q63.1]) (a' := q63.2) [(.aload_n 0, 1, 0, .null), (.iload_n 3, 1, 3, .null), (.iconst 2, 1, 0, .int 2), (.iadd, 1, 0, .null), (.iaload, 1, 0, .null)] (by decide +kernel) rfl ?_
        refine XI_ck (c := inb (x3 + 3) (e_L E)) (pc' := 1044) (ls' := [.ref 1003, .ref 0, .ref 31, .int x3]) (st' := [.int (e_xs E (ix (x3 + 3))), .int (e_xs E (ix (x3 + 2))), .int (e_xs E (ix (x3 + 1))), .ref 31, .int q63.1]) (a' := q63.2) [(.aload_n 0, 1, 0, .null), (.iload_n 3, 1, 3, .null), (.iconst 3, 1, 0, .int 3), (.iadd, 1, 0, .null), (.iaload, 1, 0, .null)] (by decide +kernel) rfl ?_
        refine XI_VI (As := [.int (e_xs E (ix (x3 + 1))), .int (e_xs E (ix (x3 + 2))), .int (e_xs E (ix (x3 + 3)))]) (rest := [.int q63.1]) (b := 31) (idx := 146) (by decide +kernel) ok_M_sheet mv_M_sheet (n := 3) ⟨lk_L_146, by decide +kernel⟩ rfl rfl rfl rfl (Nat.le_of_ble_eq_true rfl) (Nat.le_of_ble_eq_true rfl) (qI_h rfl) (x_M_sheet E N (e_xs E (ix (x3 + 1))) (e_xs E (ix (x3 + 2))) (e_xs E (ix (x3 + 3))) q63.2) (fun q64 => ?_)
        refine XI_br (c := q63.1 = q64.1) (t := 1294) (e := 1050) (ls' := [.ref 1003, .ref 0, .ref 31, .int x3]) (st' := []) (a' := q64.2) [(.if_icmp .eq 247, 3, 1294, .null)] (by decide +kernel) rfl ?_ ?_
        · refine XI_go (pc' := 18) (ls' := [.ref 1003, .ref 0, .ref 31, .int (x3 + 6)]) (st' := []) (a' := q64.2) [(.iinc 3 6, 3, 3, .int 6), (.goto (-1279), 3, 18, .null)] (by decide +kernel) rfl ?_
          refine XI_fg [true, true, true, true] ?_
          exact x_L_law_18 E N n (x3 + 6) q64.2
        · refine XI_go (pc' := 1051) (ls' := [.ref 1003, .ref 0, .ref 31, .int x3]) (st' := [.int 0]) (a' := q64.2) [(.iconst 0, 1, 0, .int 0)] (by decide +kernel) rfl ?_
          exact XI_retI (by decide +kernel)
      refine XI_if (c := ((e_xs E (ix x3)) &&& 63) = 32) (fun w32 => ?_) (fun w32 => ?_)
      · refine XI_tabIn (dflt := 1261) (lo := 0) (hi := 38) (offs := #[171, 194, 207, 220, 233, 276, 309, 332, 365, 388, 431, 444, 457, 490, 513, 536, 580, 613, 636, 649, 692, 726, 749, 772, 805, 838, 851, 884, 917, 950, 963, 976, 1019, 1042, 1095, 1138, 1201, 1224, 1247]) (len := 171) (off := 1019) (tgt := 1052) (x0 := 32) w32 (by decide +kernel) (by decide +kernel) (by decide +kernel) (by decide +kernel) (by decide) ?_
        refine XI_ck (c := inb (x3 + 1) (e_L E)) (pc' := 1058) (ls' := [.ref 1003, .ref 0, .ref 31, .int x3]) (st' := [.int (e_xs E (ix (x3 + 1))), .ref 0]) (a' := a) [(.aload_n 1, 1, 1, .null), (.aload_n 0, 1, 0, .null), (.iload_n 3, 1, 3, .null), (.iconst 1, 1, 0, .int 1), (.iadd, 1, 0, .null), (.iaload, 1, 0, .null)] (by decide +kernel) rfl ?_
        refine XI_VI (As := [.int (e_xs E (ix (x3 + 1)))]) (rest := []) (b := 0) (idx := 147) (by decide +kernel) ok_C_lose mv_C_lose (n := 1) ⟨lk_L_147, by decide +kernel⟩ rfl rfl rfl rfl (Nat.le_of_ble_eq_true rfl) (Nat.le_of_ble_eq_true rfl) (qI_h rfl) (x_C_lose E (e_xs E (ix (x3 + 1))) a) (fun q65 => ?_)
        refine XI_ck (c := inb (x3 + 1) (e_L E)) (pc' := 1067) (ls' := [.ref 1003, .ref 0, .ref 31, .int x3]) (st' := [.int (e_xs E (ix (x3 + 1))), .ref 31, .int q65.1]) (a' := q65.2) [(.aload_n 2, 1, 2, .null), (.aload_n 0, 1, 0, .null), (.iload_n 3, 1, 3, .null), (.iconst 1, 1, 0, .int 1), (.iadd, 1, 0, .null), (.iaload, 1, 0, .null)] (by decide +kernel) rfl ?_
        refine XI_VI (As := [.int (e_xs E (ix (x3 + 1)))]) (rest := [.int q65.1]) (b := 31) (idx := 150) (by decide +kernel) ok_M_lose mv_M_lose (n := 1) ⟨lk_L_150, by decide +kernel⟩ rfl rfl rfl rfl (Nat.le_of_ble_eq_true rfl) (Nat.le_of_ble_eq_true rfl) (qI_h rfl) (x_M_lose E (e_xs E (ix (x3 + 1))) q65.2) (fun q66 => ?_)
        refine XI_br (c := q65.1 = q66.1) (t := 1294) (e := 1073) (ls' := [.ref 1003, .ref 0, .ref 31, .int x3]) (st' := []) (a' := q66.2) [(.if_icmp .eq 224, 3, 1294, .null)] (by decide +kernel) rfl ?_ ?_
        · refine XI_go (pc' := 18) (ls' := [.ref 1003, .ref 0, .ref 31, .int (x3 + 6)]) (st' := []) (a' := q66.2) [(.iinc 3 6, 3, 3, .int 6), (.goto (-1279), 3, 18, .null)] (by decide +kernel) rfl ?_
          refine XI_fg [true, true, true, true] ?_
          exact x_L_law_18 E N n (x3 + 6) q66.2
        · refine XI_go (pc' := 1074) (ls' := [.ref 1003, .ref 0, .ref 31, .int x3]) (st' := [.int 0]) (a' := q66.2) [(.iconst 0, 1, 0, .int 0)] (by decide +kernel) rfl ?_
          exact XI_retI (by decide +kernel)
      refine XI_if (c := ((e_xs E (ix x3)) &&& 63) = 33) (fun w33 => ?_) (fun w33 => ?_)
      · refine XI_tabIn (dflt := 1261) (lo := 0) (hi := 38) (offs := #[171, 194, 207, 220, 233, 276, 309, 332, 365, 388, 431, 444, 457, 490, 513, 536, 580, 613, 636, 649, 692, 726, 749, 772, 805, 838, 851, 884, 917, 950, 963, 976, 1019, 1042, 1095, 1138, 1201, 1224, 1247]) (len := 171) (off := 1042) (tgt := 1075) (x0 := 33) w33 (by decide +kernel) (by decide +kernel) (by decide +kernel) (by decide +kernel) (by decide) ?_
        refine XI_ck (c := inb (x3 + 1) (e_L E)) (pc' := 1081) (ls' := [.ref 1003, .ref 0, .ref 31, .int x3]) (st' := [.int (e_xs E (ix (x3 + 1))), .ref 0]) (a' := a) [(.aload_n 1, 1, 1, .null), (.aload_n 0, 1, 0, .null), (.iload_n 3, 1, 3, .null), (.iconst 1, 1, 0, .int 1), (.iadd, 1, 0, .null), (.iaload, 1, 0, .null)] (by decide +kernel) rfl ?_
        refine XI_ck (c := inb (x3 + 2) (e_L E)) (pc' := 1086) (ls' := [.ref 1003, .ref 0, .ref 31, .int x3]) (st' := [.int (e_xs E (ix (x3 + 2))), .int (e_xs E (ix (x3 + 1))), .ref 0]) (a' := a) [(.aload_n 0, 1, 0, .null), (.iload_n 3, 1, 3, .null), (.iconst 2, 1, 0, .int 2), (.iadd, 1, 0, .null), (.iaload, 1, 0, .null)] (by decide +kernel) rfl ?_
        refine XI_ck (c := inb (x3 + 3) (e_L E)) (pc' := 1091) (ls' := [.ref 1003, .ref 0, .ref 31, .int x3]) (st' := [.int (e_xs E (ix (x3 + 3))), .int (e_xs E (ix (x3 + 2))), .int (e_xs E (ix (x3 + 1))), .ref 0]) (a' := a) [(.aload_n 0, 1, 0, .null), (.iload_n 3, 1, 3, .null), (.iconst 3, 1, 0, .int 3), (.iadd, 1, 0, .null), (.iaload, 1, 0, .null)] (by decide +kernel) rfl ?_
        refine XI_ck (c := inb (x3 + 4) (e_L E)) (pc' := 1096) (ls' := [.ref 1003, .ref 0, .ref 31, .int x3]) (st' := [.int (e_xs E (ix (x3 + 4))), .int (e_xs E (ix (x3 + 3))), .int (e_xs E (ix (x3 + 2))), .int (e_xs E (ix (x3 + 1))), .ref 0]) (a' := a) [(.aload_n 0, 1, 0, .null), (.iload_n 3, 1, 3, .null), (.iconst 4, 1, 0, .int 4), (.iadd, 1, 0, .null), (.iaload, 1, 0, .null)] (by decide +kernel) rfl ?_
        refine XI_VI (As := [.int (e_xs E (ix (x3 + 1))), .int (e_xs E (ix (x3 + 2))), .int (e_xs E (ix (x3 + 3))), .int (e_xs E (ix (x3 + 4)))]) (rest := []) (b := 0) (idx := 151) (by decide +kernel) ok_C_lay mv_C_lay (n := 4) ⟨lk_L_151, by decide +kernel⟩ rfl rfl rfl rfl (Nat.le_of_ble_eq_true rfl) (Nat.le_of_ble_eq_true rfl) (qI_h rfl) (x_C_lay E (e_xs E (ix (x3 + 1))) (e_xs E (ix (x3 + 2))) (e_xs E (ix (x3 + 3))) (e_xs E (ix (x3 + 4))) a) (fun q67 => ?_)
        refine XI_ck (c := inb (x3 + 1) (e_L E)) (pc' := 1105) (ls' := [.ref 1003, .ref 0, .ref 31, .int x3]) (st' := [.int (e_xs E (ix (x3 + 1))), .ref 31, .int q67.1]) (a' := q67.2) [(.aload_n 2, 1, 2, .null), (.aload_n 0, 1, 0, .null), (.iload_n 3, 1, 3, .null), (.iconst 1, 1, 0, .int 1), (.iadd, 1, 0, .null), (.iaload, 1, 0, .null)] (by decide +kernel) rfl ?_
        refine XI_ck (c := inb (x3 + 2) (e_L E)) (pc' := 1110) (ls' := [.ref 1003, .ref 0, .ref 31, .int x3]) (st' := [.int (e_xs E (ix (x3 + 2))), .int (e_xs E (ix (x3 + 1))), .ref 31, .int q67.1]) (a' := q67.2) [(.aload_n 0, 1, 0, .null), (.iload_n 3, 1, 3, .null), (.iconst 2, 1, 0, .int 2), (.iadd, 1, 0, .null), (.iaload, 1, 0, .null)] (by decide +kernel) rfl ?_
        refine XI_ck (c := inb (x3 + 3) (e_L E)) (pc' := 1115) (ls' := [.ref 1003, .ref 0, .ref 31, .int x3]) (st' := [.int (e_xs E (ix (x3 + 3))), .int (e_xs E (ix (x3 + 2))), .int (e_xs E (ix (x3 + 1))), .ref 31, .int q67.1]) (a' := q67.2) [(.aload_n 0, 1, 0, .null), (.iload_n 3, 1, 3, .null), (.iconst 3, 1, 0, .int 3), (.iadd, 1, 0, .null), (.iaload, 1, 0, .null)] (by decide +kernel) rfl ?_
        refine XI_ck (c := inb (x3 + 4) (e_L E)) (pc' := 1120) (ls' := [.ref 1003, .ref 0, .ref 31, .int x3]) (st' := [.int (e_xs E (ix (x3 + 4))), .int (e_xs E (ix (x3 + 3))), .int (e_xs E (ix (x3 + 2))), .int (e_xs E (ix (x3 + 1))), .ref 31, .int q67.1]) (a' := q67.2) [(.aload_n 0, 1, 0, .null), (.iload_n 3, 1, 3, .null), (.iconst 4, 1, 0, .int 4), (.iadd, 1, 0, .null), (.iaload, 1, 0, .null)] (by decide +kernel) rfl ?_
        refine XI_VI (As := [.int (e_xs E (ix (x3 + 1))), .int (e_xs E (ix (x3 + 2))), .int (e_xs E (ix (x3 + 3))), .int (e_xs E (ix (x3 + 4)))]) (rest := [.int q67.1]) (b := 31) (idx := 155) (by decide +kernel) ok_M_lay mv_M_lay (n := 4) ⟨lk_L_155, by decide +kernel⟩ rfl rfl rfl rfl (Nat.le_of_ble_eq_true rfl) (Nat.le_of_ble_eq_true rfl) (qI_h rfl) (x_M_lay E (e_xs E (ix (x3 + 1))) (e_xs E (ix (x3 + 2))) (e_xs E (ix (x3 + 3))) (e_xs E (ix (x3 + 4))) q67.2) (fun q68 => ?_)
        refine XI_br (c := q67.1 = q68.1) (t := 1294) (e := 1126) (ls' := [.ref 1003, .ref 0, .ref 31, .int x3]) (st' := []) (a' := q68.2) [(.if_icmp .eq 171, 3, 1294, .null)] (by decide +kernel) rfl ?_ ?_
        · refine XI_go (pc' := 18) (ls' := [.ref 1003, .ref 0, .ref 31, .int (x3 + 6)]) (st' := []) (a' := q68.2) [(.iinc 3 6, 3, 3, .int 6), (.goto (-1279), 3, 18, .null)] (by decide +kernel) rfl ?_
          refine XI_fg [true, true, true, true] ?_
          exact x_L_law_18 E N n (x3 + 6) q68.2
        · refine XI_go (pc' := 1127) (ls' := [.ref 1003, .ref 0, .ref 31, .int x3]) (st' := [.int 0]) (a' := q68.2) [(.iconst 0, 1, 0, .int 0)] (by decide +kernel) rfl ?_
          exact XI_retI (by decide +kernel)
      refine XI_if (c := ((e_xs E (ix x3)) &&& 63) = 34) (fun w34 => ?_) (fun w34 => ?_)
      · refine XI_tabIn (dflt := 1261) (lo := 0) (hi := 38) (offs := #[171, 194, 207, 220, 233, 276, 309, 332, 365, 388, 431, 444, 457, 490, 513, 536, 580, 613, 636, 649, 692, 726, 749, 772, 805, 838, 851, 884, 917, 950, 963, 976, 1019, 1042, 1095, 1138, 1201, 1224, 1247]) (len := 171) (off := 1095) (tgt := 1128) (x0 := 34) w34 (by decide +kernel) (by decide +kernel) (by decide +kernel) (by decide +kernel) (by decide) ?_
        refine XI_ck (c := inb (x3 + 1) (e_L E)) (pc' := 1134) (ls' := [.ref 1003, .ref 0, .ref 31, .int x3]) (st' := [.int (e_xs E (ix (x3 + 1))), .ref 0]) (a' := a) [(.aload_n 1, 1, 1, .null), (.aload_n 0, 1, 0, .null), (.iload_n 3, 1, 3, .null), (.iconst 1, 1, 0, .int 1), (.iadd, 1, 0, .null), (.iaload, 1, 0, .null)] (by decide +kernel) rfl ?_
        refine XI_ck (c := inb (x3 + 2) (e_L E)) (pc' := 1139) (ls' := [.ref 1003, .ref 0, .ref 31, .int x3]) (st' := [.int (e_xs E (ix (x3 + 2))), .int (e_xs E (ix (x3 + 1))), .ref 0]) (a' := a) [(.aload_n 0, 1, 0, .null), (.iload_n 3, 1, 3, .null), (.iconst 2, 1, 0, .int 2), (.iadd, 1, 0, .null), (.iaload, 1, 0, .null)] (by decide +kernel) rfl ?_
        refine XI_ck (c := inb (x3 + 3) (e_L E)) (pc' := 1144) (ls' := [.ref 1003, .ref 0, .ref 31, .int x3]) (st' := [.int (e_xs E (ix (x3 + 3))), .int (e_xs E (ix (x3 + 2))), .int (e_xs E (ix (x3 + 1))), .ref 0]) (a' := a) [(.aload_n 0, 1, 0, .null), (.iload_n 3, 1, 3, .null), (.iconst 3, 1, 0, .int 3), (.iadd, 1, 0, .null), (.iaload, 1, 0, .null)] (by decide +kernel) rfl ?_
        refine XI_VI (As := [.int (e_xs E (ix (x3 + 1))), .int (e_xs E (ix (x3 + 2))), .int (e_xs E (ix (x3 + 3)))]) (rest := []) (b := 0) (idx := 156) (by decide +kernel) ok_C_get mv_C_get (n := 3) ⟨lk_L_156, by decide +kernel⟩ rfl rfl rfl rfl (Nat.le_of_ble_eq_true rfl) (Nat.le_of_ble_eq_true rfl) (qI_h rfl) (x_C_get E (e_xs E (ix (x3 + 1))) (e_xs E (ix (x3 + 2))) (e_xs E (ix (x3 + 3))) a) (fun q69 => ?_)
        refine XI_ck (c := inb (x3 + 1) (e_L E)) (pc' := 1153) (ls' := [.ref 1003, .ref 0, .ref 31, .int x3]) (st' := [.int (e_xs E (ix (x3 + 1))), .ref 31, .int q69.1]) (a' := q69.2) [(.aload_n 2, 1, 2, .null), (.aload_n 0, 1, 0, .null), (.iload_n 3, 1, 3, .null), (.iconst 1, 1, 0, .int 1), (.iadd, 1, 0, .null), (.iaload, 1, 0, .null)] (by decide +kernel) rfl ?_
        refine XI_ck (c := inb (x3 + 2) (e_L E)) (pc' := 1158) (ls' := [.ref 1003, .ref 0, .ref 31, .int x3]) (st' := [.int (e_xs E (ix (x3 + 2))), .int (e_xs E (ix (x3 + 1))), .ref 31, .int q69.1]) (a' := q69.2) [(.aload_n 0, 1, 0, .null), (.iload_n 3, 1, 3, .null), (.iconst 2, 1, 0, .int 2), (.iadd, 1, 0, .null), (.iaload, 1, 0, .null)] (by decide +kernel) rfl ?_
        refine XI_ck (c := inb (x3 + 3) (e_L E)) (pc' := 1163) (ls' := [.ref 1003, .ref 0, .ref 31, .int x3]) (st' := [.int (e_xs E (ix (x3 + 3))), .int (e_xs E (ix (x3 + 2))), .int (e_xs E (ix (x3 + 1))), .ref 31, .int q69.1]) (a' := q69.2) [(.aload_n 0, 1, 0, .null), (.iload_n 3, 1, 3, .null), (.iconst 3, 1, 0, .int 3), (.iadd, 1, 0, .null), (.iaload, 1, 0, .null)] (by decide +kernel) rfl ?_
        refine XI_VI (As := [.int (e_xs E (ix (x3 + 1))), .int (e_xs E (ix (x3 + 2))), .int (e_xs E (ix (x3 + 3)))]) (rest := [.int q69.1]) (b := 31) (idx := 159) (by decide +kernel) ok_M_get mv_M_get (n := 3) ⟨lk_L_159, by decide +kernel⟩ rfl rfl rfl rfl (Nat.le_of_ble_eq_true rfl) (Nat.le_of_ble_eq_true rfl) (qI_h rfl) (x_M_get E (e_xs E (ix (x3 + 1))) (e_xs E (ix (x3 + 2))) (e_xs E (ix (x3 + 3))) q69.2) (fun q70 => ?_)
        refine XI_br (c := q69.1 = q70.1) (t := 1294) (e := 1169) (ls' := [.ref 1003, .ref 0, .ref 31, .int x3]) (st' := []) (a' := q70.2) [(.if_icmp .eq 128, 3, 1294, .null)] (by decide +kernel) rfl ?_ ?_
        · refine XI_go (pc' := 18) (ls' := [.ref 1003, .ref 0, .ref 31, .int (x3 + 6)]) (st' := []) (a' := q70.2) [(.iinc 3 6, 3, 3, .int 6), (.goto (-1279), 3, 18, .null)] (by decide +kernel) rfl ?_
          refine XI_fg [true, true, true, true] ?_
          exact x_L_law_18 E N n (x3 + 6) q70.2
        · refine XI_go (pc' := 1170) (ls' := [.ref 1003, .ref 0, .ref 31, .int x3]) (st' := [.int 0]) (a' := q70.2) [(.iconst 0, 1, 0, .int 0)] (by decide +kernel) rfl ?_
          exact XI_retI (by decide +kernel)
      refine XI_if (c := ((e_xs E (ix x3)) &&& 63) = 35) (fun w35 => ?_) (fun w35 => ?_)
      · refine XI_tabIn (dflt := 1261) (lo := 0) (hi := 38) (offs := #[171, 194, 207, 220, 233, 276, 309, 332, 365, 388, 431, 444, 457, 490, 513, 536, 580, 613, 636, 649, 692, 726, 749, 772, 805, 838, 851, 884, 917, 950, 963, 976, 1019, 1042, 1095, 1138, 1201, 1224, 1247]) (len := 171) (off := 1138) (tgt := 1171) (x0 := 35) w35 (by decide +kernel) (by decide +kernel) (by decide +kernel) (by decide +kernel) (by decide) ?_
        refine XI_ck (c := inb (x3 + 1) (e_L E)) (pc' := 1177) (ls' := [.ref 1003, .ref 0, .ref 31, .int x3]) (st' := [.int (e_xs E (ix (x3 + 1))), .ref 0]) (a' := a) [(.aload_n 1, 1, 1, .null), (.aload_n 0, 1, 0, .null), (.iload_n 3, 1, 3, .null), (.iconst 1, 1, 0, .int 1), (.iadd, 1, 0, .null), (.iaload, 1, 0, .null)] (by decide +kernel) rfl ?_
        refine XI_ck (c := inb (x3 + 2) (e_L E)) (pc' := 1182) (ls' := [.ref 1003, .ref 0, .ref 31, .int x3]) (st' := [.int (e_xs E (ix (x3 + 2))), .int (e_xs E (ix (x3 + 1))), .ref 0]) (a' := a) [(.aload_n 0, 1, 0, .null), (.iload_n 3, 1, 3, .null), (.iconst 2, 1, 0, .int 2), (.iadd, 1, 0, .null), (.iaload, 1, 0, .null)] (by decide +kernel) rfl ?_
        refine XI_ck (c := inb (x3 + 3) (e_L E)) (pc' := 1187) (ls' := [.ref 1003, .ref 0, .ref 31, .int x3]) (st' := [.int (e_xs E (ix (x3 + 3))), .int (e_xs E (ix (x3 + 2))), .int (e_xs E (ix (x3 + 1))), .ref 0]) (a' := a) [(.aload_n 0, 1, 0, .null), (.iload_n 3, 1, 3, .null), (.iconst 3, 1, 0, .int 3), (.iadd, 1, 0, .null), (.iaload, 1, 0, .null)] (by decide +kernel) rfl ?_
        refine XI_ck (c := inb (x3 + 4) (e_L E)) (pc' := 1192) (ls' := [.ref 1003, .ref 0, .ref 31, .int x3]) (st' := [.int (e_xs E (ix (x3 + 4))), .int (e_xs E (ix (x3 + 3))), .int (e_xs E (ix (x3 + 2))), .int (e_xs E (ix (x3 + 1))), .ref 0]) (a' := a) [(.aload_n 0, 1, 0, .null), (.iload_n 3, 1, 3, .null), (.iconst 4, 1, 0, .int 4), (.iadd, 1, 0, .null), (.iaload, 1, 0, .null)] (by decide +kernel) rfl ?_
        refine XI_ck (c := inb (x3 + 5) (e_L E)) (pc' := 1197) (ls' := [.ref 1003, .ref 0, .ref 31, .int x3]) (st' := [.int (e_xs E (ix (x3 + 5))), .int (e_xs E (ix (x3 + 4))), .int (e_xs E (ix (x3 + 3))), .int (e_xs E (ix (x3 + 2))), .int (e_xs E (ix (x3 + 1))), .ref 0]) (a' := a) [(.aload_n 0, 1, 0, .null), (.iload_n 3, 1, 3, .null), (.iconst 5, 1, 0, .int 5), (.iadd, 1, 0, .null), (.iaload, 1, 0, .null)] (by decide +kernel) rfl ?_
        refine XI_VI (As := [.int (e_xs E (ix (x3 + 1))), .int (e_xs E (ix (x3 + 2))), .int (e_xs E (ix (x3 + 3))), .int (e_xs E (ix (x3 + 4))), .int (e_xs E (ix (x3 + 5)))]) (rest := []) (b := 0) (idx := 160) (by decide +kernel) ok_C_copy mv_C_copy (n := 5) ⟨lk_L_160, by decide +kernel⟩ rfl rfl rfl rfl (Nat.le_of_ble_eq_true rfl) (Nat.le_of_ble_eq_true rfl) (qI_h rfl) (x_C_copy E N (e_xs E (ix (x3 + 1))) (e_xs E (ix (x3 + 2))) (e_xs E (ix (x3 + 3))) (e_xs E (ix (x3 + 4))) (e_xs E (ix (x3 + 5))) a) (fun q71 => ?_)
        refine XI_ck (c := inb (x3 + 1) (e_L E)) (pc' := 1206) (ls' := [.ref 1003, .ref 0, .ref 31, .int x3]) (st' := [.int (e_xs E (ix (x3 + 1))), .ref 31, .int q71.1]) (a' := q71.2) [(.aload_n 2, 1, 2, .null), (.aload_n 0, 1, 0, .null), (.iload_n 3, 1, 3, .null), (.iconst 1, 1, 0, .int 1), (.iadd, 1, 0, .null), (.iaload, 1, 0, .null)] (by decide +kernel) rfl ?_
        refine XI_ck (c := inb (x3 + 2) (e_L E)) (pc' := 1211) (ls' := [.ref 1003, .ref 0, .ref 31, .int x3]) (st' := [.int (e_xs E (ix (x3 + 2))), .int (e_xs E (ix (x3 + 1))), .ref 31, .int q71.1]) (a' := q71.2) [(.aload_n 0, 1, 0, .null), (.iload_n 3, 1, 3, .null), (.iconst 2, 1, 0, .int 2), (.iadd, 1, 0, .null), (.iaload, 1, 0, .null)] (by decide +kernel) rfl ?_
        refine XI_ck (c := inb (x3 + 3) (e_L E)) (pc' := 1216) (ls' := [.ref 1003, .ref 0, .ref 31, .int x3]) (st' := [.int (e_xs E (ix (x3 + 3))), .int (e_xs E (ix (x3 + 2))), .int (e_xs E (ix (x3 + 1))), .ref 31, .int q71.1]) (a' := q71.2) [(.aload_n 0, 1, 0, .null), (.iload_n 3, 1, 3, .null), (.iconst 3, 1, 0, .int 3), (.iadd, 1, 0, .null), (.iaload, 1, 0, .null)] (by decide +kernel) rfl ?_
        refine XI_ck (c := inb (x3 + 4) (e_L E)) (pc' := 1221) (ls' := [.ref 1003, .ref 0, .ref 31, .int x3]) (st' := [.int (e_xs E (ix (x3 + 4))), .int (e_xs E (ix (x3 + 3))), .int (e_xs E (ix (x3 + 2))), .int (e_xs E (ix (x3 + 1))), .ref 31, .int q71.1]) (a' := q71.2) [(.aload_n 0, 1, 0, .null), (.iload_n 3, 1, 3, .null), (.iconst 4, 1, 0, .int 4), (.iadd, 1, 0, .null), (.iaload, 1, 0, .null)] (by decide +kernel) rfl ?_
        refine XI_ck (c := inb (x3 + 5) (e_L E)) (pc' := 1226) (ls' := [.ref 1003, .ref 0, .ref 31, .int x3]) (st' := [.int (e_xs E (ix (x3 + 5))), .int (e_xs E (ix (x3 + 4))), .int (e_xs E (ix (x3 + 3))), .int (e_xs E (ix (x3 + 2))), .int (e_xs E (ix (x3 + 1))), .ref 31, .int q71.1]) (a' := q71.2) [(.aload_n 0, 1, 0, .null), (.iload_n 3, 1, 3, .null), (.iconst 5, 1, 0, .int 5), (.iadd, 1, 0, .null), (.iaload, 1, 0, .null)] (by decide +kernel) rfl ?_
        refine XI_VI (As := [.int (e_xs E (ix (x3 + 1))), .int (e_xs E (ix (x3 + 2))), .int (e_xs E (ix (x3 + 3))), .int (e_xs E (ix (x3 + 4))), .int (e_xs E (ix (x3 + 5)))]) (rest := [.int q71.1]) (b := 31) (idx := 164) (by decide +kernel) ok_M_copy mv_M_copy (n := 5) ⟨lk_L_164, by decide +kernel⟩ rfl rfl rfl rfl (Nat.le_of_ble_eq_true rfl) (Nat.le_of_ble_eq_true rfl) (qI_h rfl) (x_M_copy E N (e_xs E (ix (x3 + 1))) (e_xs E (ix (x3 + 2))) (e_xs E (ix (x3 + 3))) (e_xs E (ix (x3 + 4))) (e_xs E (ix (x3 + 5))) q71.2) (fun q72 => ?_)
        refine XI_br (c := q71.1 = q72.1) (t := 1294) (e := 1232) (ls' := [.ref 1003, .ref 0, .ref 31, .int x3]) (st' := []) (a' := q72.2) [(.if_icmp .eq 65, 3, 1294, .null)] (by decide +kernel) rfl ?_ ?_
        · refine XI_go (pc' := 18) (ls' := [.ref 1003, .ref 0, .ref 31, .int (x3 + 6)]) (st' := []) (a' := q72.2) [(.iinc 3 6, 3, 3, .int 6), (.goto (-1279), 3, 18, .null)] (by decide +kernel) rfl ?_
          refine XI_fg [true, true, true, true] ?_
          exact x_L_law_18 E N n (x3 + 6) q72.2
        · refine XI_go (pc' := 1233) (ls' := [.ref 1003, .ref 0, .ref 31, .int x3]) (st' := [.int 0]) (a' := q72.2) [(.iconst 0, 1, 0, .int 0)] (by decide +kernel) rfl ?_
          exact XI_retI (by decide +kernel)
      refine XI_if (c := ((e_xs E (ix x3)) &&& 63) = 36) (fun w36 => ?_) (fun w36 => ?_)
      · refine XI_tabIn (dflt := 1261) (lo := 0) (hi := 38) (offs := #[171, 194, 207, 220, 233, 276, 309, 332, 365, 388, 431, 444, 457, 490, 513, 536, 580, 613, 636, 649, 692, 726, 749, 772, 805, 838, 851, 884, 917, 950, 963, 976, 1019, 1042, 1095, 1138, 1201, 1224, 1247]) (len := 171) (off := 1201) (tgt := 1234) (x0 := 36) w36 (by decide +kernel) (by decide +kernel) (by decide +kernel) (by decide +kernel) (by decide) ?_
        refine XI_ck (c := inb (x3 + 1) (e_L E)) (pc' := 1240) (ls' := [.ref 1003, .ref 0, .ref 31, .int x3]) (st' := [.int (e_xs E (ix (x3 + 1))), .ref 0]) (a' := a) [(.aload_n 1, 1, 1, .null), (.aload_n 0, 1, 0, .null), (.iload_n 3, 1, 3, .null), (.iconst 1, 1, 0, .int 1), (.iadd, 1, 0, .null), (.iaload, 1, 0, .null)] (by decide +kernel) rfl ?_
        refine XI_VI (As := [.int (e_xs E (ix (x3 + 1)))]) (rest := []) (b := 0) (idx := 165) (by decide +kernel) ok_C_write mv_C_write (n := 1) ⟨lk_L_165, by decide +kernel⟩ rfl rfl rfl rfl (Nat.le_of_ble_eq_true rfl) (Nat.le_of_ble_eq_true rfl) (qI_h rfl) (x_C_write E N (e_xs E (ix (x3 + 1))) a) (fun q73 => ?_)
        refine XI_ck (c := inb (x3 + 1) (e_L E)) (pc' := 1249) (ls' := [.ref 1003, .ref 0, .ref 31, .int x3]) (st' := [.int (e_xs E (ix (x3 + 1))), .ref 31, .int q73.1]) (a' := q73.2) [(.aload_n 2, 1, 2, .null), (.aload_n 0, 1, 0, .null), (.iload_n 3, 1, 3, .null), (.iconst 1, 1, 0, .int 1), (.iadd, 1, 0, .null), (.iaload, 1, 0, .null)] (by decide +kernel) rfl ?_
        refine XI_VI (As := [.int (e_xs E (ix (x3 + 1)))]) (rest := [.int q73.1]) (b := 31) (idx := 168) (by decide +kernel) ok_M_write mv_M_write (n := 1) ⟨lk_L_168, by decide +kernel⟩ rfl rfl rfl rfl (Nat.le_of_ble_eq_true rfl) (Nat.le_of_ble_eq_true rfl) (qI_h rfl) (x_M_write E N (e_xs E (ix (x3 + 1))) q73.2) (fun q74 => ?_)
        refine XI_br (c := q73.1 = q74.1) (t := 1294) (e := 1255) (ls' := [.ref 1003, .ref 0, .ref 31, .int x3]) (st' := []) (a' := q74.2) [(.if_icmp .eq 42, 3, 1294, .null)] (by decide +kernel) rfl ?_ ?_
        · refine XI_go (pc' := 18) (ls' := [.ref 1003, .ref 0, .ref 31, .int (x3 + 6)]) (st' := []) (a' := q74.2) [(.iinc 3 6, 3, 3, .int 6), (.goto (-1279), 3, 18, .null)] (by decide +kernel) rfl ?_
          refine XI_fg [true, true, true, true] ?_
          exact x_L_law_18 E N n (x3 + 6) q74.2
        · refine XI_go (pc' := 1256) (ls' := [.ref 1003, .ref 0, .ref 31, .int x3]) (st' := [.int 0]) (a' := q74.2) [(.iconst 0, 1, 0, .int 0)] (by decide +kernel) rfl ?_
          exact XI_retI (by decide +kernel)
      refine XI_if (c := ((e_xs E (ix x3)) &&& 63) = 37) (fun w37 => ?_) (fun w37 => ?_)
      · refine XI_tabIn (dflt := 1261) (lo := 0) (hi := 38) (offs := #[171, 194, 207, 220, 233, 276, 309, 332, 365, 388, 431, 444, 457, 490, 513, 536, 580, 613, 636, 649, 692, 726, 749, 772, 805, 838, 851, 884, 917, 950, 963, 976, 1019, 1042, 1095, 1138, 1201, 1224, 1247]) (len := 171) (off := 1224) (tgt := 1257) (x0 := 37) w37 (by decide +kernel) (by decide +kernel) (by decide +kernel) (by decide +kernel) (by decide) ?_
        refine XI_ck (c := inb (x3 + 1) (e_L E)) (pc' := 1263) (ls' := [.ref 1003, .ref 0, .ref 31, .int x3]) (st' := [.int (e_xs E (ix (x3 + 1))), .ref 0]) (a' := a) [(.aload_n 1, 1, 1, .null), (.aload_n 0, 1, 0, .null), (.iload_n 3, 1, 3, .null), (.iconst 1, 1, 0, .int 1), (.iadd, 1, 0, .null), (.iaload, 1, 0, .null)] (by decide +kernel) rfl ?_
        refine XI_VI (As := [.int (e_xs E (ix (x3 + 1)))]) (rest := []) (b := 0) (idx := 169) (by decide +kernel) ok_C_count mv_C_count (n := 1) ⟨lk_L_169, by decide +kernel⟩ rfl rfl rfl rfl (Nat.le_of_ble_eq_true rfl) (Nat.le_of_ble_eq_true rfl) (qI_h rfl) (x_C_count E N (e_xs E (ix (x3 + 1))) a) (fun q75 => ?_)
        refine XI_ck (c := inb (x3 + 1) (e_L E)) (pc' := 1272) (ls' := [.ref 1003, .ref 0, .ref 31, .int x3]) (st' := [.int (e_xs E (ix (x3 + 1))), .ref 31, .int q75.1]) (a' := q75.2) [(.aload_n 2, 1, 2, .null), (.aload_n 0, 1, 0, .null), (.iload_n 3, 1, 3, .null), (.iconst 1, 1, 0, .int 1), (.iadd, 1, 0, .null), (.iaload, 1, 0, .null)] (by decide +kernel) rfl ?_
        refine XI_VI (As := [.int (e_xs E (ix (x3 + 1)))]) (rest := [.int q75.1]) (b := 31) (idx := 172) (by decide +kernel) ok_M_count mv_M_count (n := 1) ⟨lk_L_172, by decide +kernel⟩ rfl rfl rfl rfl (Nat.le_of_ble_eq_true rfl) (Nat.le_of_ble_eq_true rfl) (qI_h rfl) (x_M_count E N (e_xs E (ix (x3 + 1))) q75.2) (fun q76 => ?_)
        refine XI_br (c := q75.1 = q76.1) (t := 1294) (e := 1278) (ls' := [.ref 1003, .ref 0, .ref 31, .int x3]) (st' := []) (a' := q76.2) [(.if_icmp .eq 19, 3, 1294, .null)] (by decide +kernel) rfl ?_ ?_
        · refine XI_go (pc' := 18) (ls' := [.ref 1003, .ref 0, .ref 31, .int (x3 + 6)]) (st' := []) (a' := q76.2) [(.iinc 3 6, 3, 3, .int 6), (.goto (-1279), 3, 18, .null)] (by decide +kernel) rfl ?_
          refine XI_fg [true, true, true, true] ?_
          exact x_L_law_18 E N n (x3 + 6) q76.2
        · refine XI_go (pc' := 1279) (ls' := [.ref 1003, .ref 0, .ref 31, .int x3]) (st' := [.int 0]) (a' := q76.2) [(.iconst 0, 1, 0, .int 0)] (by decide +kernel) rfl ?_
          exact XI_retI (by decide +kernel)
      refine XI_if (c := ((e_xs E (ix x3)) &&& 63) = 38) (fun w38 => ?_) (fun w38 => ?_)
      · refine XI_tabIn (dflt := 1261) (lo := 0) (hi := 38) (offs := #[171, 194, 207, 220, 233, 276, 309, 332, 365, 388, 431, 444, 457, 490, 513, 536, 580, 613, 636, 649, 692, 726, 749, 772, 805, 838, 851, 884, 917, 950, 963, 976, 1019, 1042, 1095, 1138, 1201, 1224, 1247]) (len := 171) (off := 1247) (tgt := 1280) (x0 := 38) w38 (by decide +kernel) (by decide +kernel) (by decide +kernel) (by decide +kernel) (by decide) ?_
        refine XI_go (pc' := 1281) (ls' := [.ref 1003, .ref 0, .ref 31, .int x3]) (st' := [.ref 0]) (a' := a) [(.aload_n 1, 1, 1, .null)] (by decide +kernel) rfl ?_
        refine XI_VI (As := []) (rest := []) (b := 0) (idx := 173) (by decide +kernel) ok_C_digest mv_C_digest (n := 0) ⟨lk_L_173, by decide +kernel⟩ rfl rfl rfl rfl (Nat.le_of_ble_eq_true rfl) (Nat.le_of_ble_eq_true rfl) (qL_h rfl) (x_C_digest E N a) (fun q77 => ?_)
        refine XI_go (pc' := 1285) (ls' := [.ref 1003, .ref 0, .ref 31, .int x3]) (st' := [.ref 31, .long q77.1]) (a' := q77.2) [(.aload_n 2, 1, 2, .null)] (by decide +kernel) rfl ?_
        refine XI_VI (As := []) (rest := [.long q77.1]) (b := 31) (idx := 177) (by decide +kernel) ok_M_digest mv_M_digest (n := 0) ⟨lk_L_177, by decide +kernel⟩ rfl rfl rfl rfl (Nat.le_of_ble_eq_true rfl) (Nat.le_of_ble_eq_true rfl) (qL_h rfl) (x_M_digest E N q77.2) (fun q78 => ?_)
        refine XI_br (c := (lg_cmp q77.1 q78.1) = 0) (t := 1294) (e := 1292) (ls' := [.ref 1003, .ref 0, .ref 31, .int x3]) (st' := []) (a' := q78.2) [(.lcmp, 1, 0, .null), (.ifCond .eq 5, 3, 1294, .null)] (by decide +kernel) rfl ?_ ?_
        · refine XI_go (pc' := 18) (ls' := [.ref 1003, .ref 0, .ref 31, .int (x3 + 6)]) (st' := []) (a' := q78.2) [(.iinc 3 6, 3, 3, .int 6), (.goto (-1279), 3, 18, .null)] (by decide +kernel) rfl ?_
          refine XI_fg [true, true, true, true] ?_
          exact x_L_law_18 E N n (x3 + 6) q78.2
        · refine XI_go (pc' := 1293) (ls' := [.ref 1003, .ref 0, .ref 31, .int x3]) (st' := [.int 0]) (a' := q78.2) [(.iconst 0, 1, 0, .int 0)] (by decide +kernel) rfl ?_
          exact XI_retI (by decide +kernel)
      refine XI_tabOut (dflt := 1261) (lo := 0) (hi := 38) (offs := #[171, 194, 207, 220, 233, 276, 309, 332, 365, 388, 431, 444, 457, 490, 513, 536, 580, 613, 636, 649, 692, 726, 749, 772, 805, 838, 851, 884, 917, 950, 963, 976, 1019, 1042, 1095, 1138, 1201, 1224, 1247]) (len := 171) (tgt := 1294) (n := 39) (by decide +kernel) (fun i hi => match i, hi with | 0, _ => w0 | 1, _ => w1 | 2, _ => w2 | 3, _ => w3 | 4, _ => w4 | 5, _ => w5 | 6, _ => w6 | 7, _ => w7 | 8, _ => w8 | 9, _ => w9 | 10, _ => w10 | 11, _ => w11 | 12, _ => w12 | 13, _ => w13 | 14, _ => w14 | 15, _ => w15 | 16, _ => w16 | 17, _ => w17 | 18, _ => w18 | 19, _ => w19 | 20, _ => w20 | 21, _ => w21 | 22, _ => w22 | 23, _ => w23 | 24, _ => w24 | 25, _ => w25 | 26, _ => w26 | 27, _ => w27 | 28, _ => w28 | 29, _ => w29 | 30, _ => w30 | 31, _ => w31 | 32, _ => w32 | 33, _ => w33 | 34, _ => w34 | 35, _ => w35 | 36, _ => w36 | 37, _ => w37 | 38, _ => w38 | i + 39, hi => absurd hi (by omega)) (by decide +kernel) (by decide) ?_
      refine XI_go (pc' := 18) (ls' := [.ref 1003, .ref 0, .ref 31, .int (x3 + 6)]) (st' := []) (a' := a) [(.iinc 3 6, 3, 3, .int 6), (.goto (-1279), 3, 18, .null)] (by decide +kernel) rfl ?_
      refine XI_fg [true, true, true, true] ?_
      exact x_L_law_18 E N n (x3 + 6) a
set_option maxHeartbeats 4000000 in
set_option maxRecDepth 100000 in
theorem x_L_law (E : eT) (N : Nat) (a : aT) : XI qI E md_L_law 16 [.ref 1003, .ref 0, .ref 31, .null] [] a (f_L_law N E a) := by
  refine XI_go (pc' := 18) (ls' := [.ref 1003, .ref 0, .ref 31, .int 0]) (st' := []) (a' := a) [(.iconst 0, 1, 0, .int 0), (.istore_n 3, 1, 3, .null)] (by decide +kernel) rfl ?_
  refine XI_fg [true, true, true, true] ?_
  exact x_L_law_18 E N N 0 a
