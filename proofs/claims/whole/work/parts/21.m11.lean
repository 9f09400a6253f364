/-! ChestnutSticks$Throwers.roundLength()I -/
def md_W_roundLength : md_T := (yX7_roundLength, cX7_roundLength, 3, (some .int), 1, 22)
set_option maxRecDepth 100000 in
theorem ok_W_roundLength : m_ok md_W_roundLength := ⟨List.mem_of_getElem? (i := 727) (by decide +kernel), by decide +kernel, List.mem_of_getElem? (i := 61) (by decide +kernel), by decide +kernel⟩
theorem mv_W_roundLength : Cond.instanceMethod (m_y md_W_roundLength) ∈ lw_tbl ∧ Cond.selects (m_y md_W_roundLength).cls (m_y md_W_roundLength) (m_y md_W_roundLength) ∈ lw_tbl := ⟨List.mem_of_getElem? (i := 725) (by decide +kernel), List.mem_of_getElem? (i := 726) (by decide +kernel)⟩
def f_W_roundLength_4 (N : Nat) (a : aT) : Nat → Int32 → Int32 → Option Int32
  | 0 => fun _ _ => none
  | n + 1 => fun x1 x2 =>
    if (a 21 2) ≤ x2 then
      some x1
    else
      if 3 ≤ x2 then
        some x1
      else
        if inb x2 3 then
          (f_W_leastMultiple N x1 (a 22 (ix x2))).bind fun q1 =>
            f_W_roundLength_4 N a n q1 (x2 + 1)
        else none
def f_W_roundLength (N : Nat) (a : aT) : Option Int32 :=
  f_W_roundLength_4 N a N 1 0
set_option maxHeartbeats 4000000 in
set_option maxRecDepth 100000 in
theorem x_W_roundLength_4 (E : eT) (N : Nat) (a : aT) : ∀ (n : Nat) (x1 : Int32) (x2 : Int32), XP qI E md_W_roundLength 4 [.ref 21, .int x1, .int x2] [] a (f_W_roundLength_4 N a n x1 x2)
  | 0, _, _ => XP_no rfl
  | n + 1, x1, x2 => by
    refine XP_br (c := (a 21 2) ≤ x2) (t := 34) (e := 12) (ls' := [.ref 21, .int x1, .int x2]) (st' := []) (a' := a) [(.iload_n 2, 1, 2, .null), (.aload_n 0, 1, 0, .null), (.getfield 18, 3, 702, .null), (.if_icmp .ge 25, 3, 34, .null)] (by decide +kernel) rfl ?_ ?_
    · refine XP_go (pc' := 35) (ls' := [.ref 21, .int x1, .int x2]) (st' := [.int x1]) (a' := a) [(.iload_n 1, 1, 1, .null)] (by decide +kernel) rfl ?_
      exact XP_retI (by decide +kernel)
    · refine XP_br (c := 3 ≤ x2) (t := 34) (e := 17) (ls' := [.ref 21, .int x1, .int x2]) (st' := []) (a' := a) [(.iload_n 2, 1, 2, .null), (.iconst 3, 1, 0, .int 3), (.if_icmp .ge 20, 3, 34, .null)] (by decide +kernel) rfl ?_ ?_
      · refine XP_go (pc' := 35) (ls' := [.ref 21, .int x1, .int x2]) (st' := [.int x1]) (a' := a) [(.iload_n 1, 1, 1, .null)] (by decide +kernel) rfl ?_
        exact XP_retI (by decide +kernel)
      · refine XP_ck (c := inb x2 3) (pc' := 24) (ls' := [.ref 21, .int x1, .int x2]) (st' := [.int (a 22 (ix x2)), .int x1]) (a' := a) [(.iload_n 1, 1, 1, .null), (.aload_n 0, 1, 0, .null), (.getfield 9, 3, 700, .null), (.iload_n 2, 1, 2, .null), (.iaload, 1, 0, .null)] (by decide +kernel) rfl ?_
        refine XP_SP (As := [.int x1, .int (a 22 (ix x2))]) (rest := []) (idx := 26) (by decide +kernel) ok_W_leastMultiple mv_W_leastMultiple (n := 2) ⟨lk_W_26, by decide +kernel⟩ rfl (Nat.le_of_ble_eq_true rfl) (Nat.le_of_ble_eq_true rfl) (qI_h rfl) (x_W_leastMultiple E N x1 (a 22 (ix x2)) a) (fun q1 => ?_)
        refine XP_go (pc' := 4) (ls' := [.ref 21, .int q1, .int (x2 + 1)]) (st' := []) (a' := a) [(.istore_n 1, 1, 1, .null), (.iinc 2 1, 3, 2, .int 1), (.goto (-27), 3, 4, .null)] (by decide +kernel) rfl ?_
        refine XP_fg [true, true, true] ?_
        exact x_W_roundLength_4 E N a n q1 (x2 + 1)
set_option maxHeartbeats 4000000 in
set_option maxRecDepth 100000 in
theorem x_W_roundLength (E : eT) (N : Nat) (a : aT) : XP qI E md_W_roundLength 0 [.ref 21, .null, .null] [] a (f_W_roundLength N a) := by
  refine XP_go (pc' := 4) (ls' := [.ref 21, .int 1, .int 0]) (st' := []) (a' := a) [(.iconst 1, 1, 0, .int 1), (.istore_n 1, 1, 1, .null), (.iconst 0, 1, 0, .int 0), (.istore_n 2, 1, 2, .null)] (by decide +kernel) rfl ?_
  refine XP_fg [true, true, true] ?_
  exact x_W_roundLength_4 E N a N 1 0
/-! java/lang/Math.floorMod(II)I -/
def md_J_floorMod : md_T := (yJ9_floorMod_7cf53, cJ9_floorMod_7cf53, 3, (some .int), 0, 0)
set_option maxRecDepth 100000 in
theorem ok_J_floorMod : m_ok md_J_floorMod := ⟨List.mem_of_getElem? (i := 737) (by decide +kernel), by decide +kernel, List.mem_of_getElem? (i := 65) (by decide +kernel), by decide +kernel⟩
theorem mv_J_floorMod : Cond.static (m_y md_J_floorMod) ∈ lw_tbl := List.mem_of_getElem? (i := 736) (by decide +kernel)
def f_J_floorMod (p1 : Int32) (p2 : Int32) : Option Int32 :=
  if p2 = 0 then none else
    if 0 ≤ (p1 ^^^ p2) then
      some (i_rem p1 p2)
    else
      if (i_rem p1 p2) = 0 then
        some (i_rem p1 p2)
      else
        some ((i_rem p1 p2) + p2)
set_option maxHeartbeats 4000000 in
set_option maxRecDepth 100000 in
theorem x_J_floorMod (E : eT) (p1 : Int32) (p2 : Int32) (a : aT) : XP qI E md_J_floorMod 0 [.int p1, .int p2, .null] [] a (f_J_floorMod p1 p2) := by
  refine XP_dv (c := p2 = 0) (pc' := 3) (ls' := [.int p1, .int p2, .null]) (st' := [.int (i_rem p1 p2)]) (a' := a) [(.iload_n 0, 1, 0, .null), (.iload_n 1, 1, 1, .null), (.irem, 1, 0, .null)] (by decide +kernel) rfl ?_
  refine XP_br (c := 0 ≤ (p1 ^^^ p2)) (t := 18) (e := 10) (ls' := [.int p1, .int p2, .int (i_rem p1 p2)]) (st' := []) (a' := a) [(.istore_n 2, 1, 2, .null), (.iload_n 0, 1, 0, .null), (.iload_n 1, 1, 1, .null), (.ixor, 1, 0, .null), (.ifCond .ge 11, 3, 18, .null)] (by decide +kernel) rfl ?_ ?_
  · refine XP_go (pc' := 19) (ls' := [.int p1, .int p2, .int (i_rem p1 p2)]) (st' := [.int (i_rem p1 p2)]) (a' := a) [(.iload_n 2, 1, 2, .null)] (by decide +kernel) rfl ?_
    exact XP_retI (by decide +kernel)
  · refine XP_br (c := (i_rem p1 p2) = 0) (t := 18) (e := 14) (ls' := [.int p1, .int p2, .int (i_rem p1 p2)]) (st' := []) (a' := a) [(.iload_n 2, 1, 2, .null), (.ifCond .eq 7, 3, 18, .null)] (by decide +kernel) rfl ?_ ?_
    · refine XP_go (pc' := 19) (ls' := [.int p1, .int p2, .int (i_rem p1 p2)]) (st' := [.int (i_rem p1 p2)]) (a' := a) [(.iload_n 2, 1, 2, .null)] (by decide +kernel) rfl ?_
      exact XP_retI (by decide +kernel)
    · refine XP_go (pc' := 17) (ls' := [.int p1, .int p2, .int (i_rem p1 p2)]) (st' := [.int ((i_rem p1 p2) + p2)]) (a' := a) [(.iload_n 2, 1, 2, .null), (.iload_n 1, 1, 1, .null), (.iadd, 1, 0, .null)] (by decide +kernel) rfl ?_
      exact XP_retI (by decide +kernel)
/-! ChestnutSticks$Throwers.isHit(II)Z -/
def md_W_isHit : md_T := (yX7_isHit, cX7_isHit, 6, (some .boolean), 1, 22)
set_option maxRecDepth 100000 in
theorem ok_W_isHit : m_ok md_W_isHit := ⟨List.mem_of_getElem? (i := 734) (by decide +kernel), by decide +kernel, List.mem_of_getElem? (i := 61) (by decide +kernel), by decide +kernel⟩
theorem mv_W_isHit : Cond.instanceMethod (m_y md_W_isHit) ∈ lw_tbl ∧ Cond.selects (m_y md_W_isHit).cls (m_y md_W_isHit) (m_y md_W_isHit) ∈ lw_tbl := ⟨List.mem_of_getElem? (i := 733) (by decide +kernel), List.mem_of_getElem? (i := 17) (by decide +kernel)⟩
def f_W_isHit_45 (N : Nat) (a : aT) (k2 : Int32 → Int32 → Int32 → Option Int32) (x1 : Int32) (x2 : Int32) (x3 : Int32) (y1 : Int32) : Option Int32 :=
  if x2 ≤ y1 then
    k2 x1 x2 (x3 + 1)
  else
    some 1
def f_W_isHit_2 (N : Nat) (a : aT) : Nat → Int32 → Int32 → Int32 → Option Int32
  | 0 => fun _ _ _ => none
  | n + 1 => fun x1 x2 x3 =>
    if (a 21 2) ≤ x3 then
      some 0
    else
      if 3 ≤ x3 then
        some 0
      else
        if inb x3 3 then
          if (a 22 (ix x3)) ≤ 0 then
            f_W_isHit_45 N a (f_W_isHit_2 N a n) x1 x2 x3 x2
          else
            if inb x3 3 then
              (f_J_floorMod ((a 23 (ix x3)) - x1) (a 22 (ix x3))).bind fun q1 =>
                f_W_isHit_45 N a (f_W_isHit_2 N a n) x1 x2 x3 q1
            else none
        else none
def f_W_isHit (N : Nat) (p1 : Int32) (p2 : Int32) (a : aT) : Option Int32 :=
  f_W_isHit_2 N a N p1 p2 0
set_option maxHeartbeats 4000000 in
set_option maxRecDepth 100000 in
theorem x_W_isHit_45 (E : eT) (N : Nat) (a : aT) (k2 : Int32 → Int32 → Int32 → Option Int32) (h2 : ∀ (x1 : Int32) (x2 : Int32) (x3 : Int32), XP qZ E md_W_isHit 2 [.ref 21, .int x1, .int x2, .int x3, .null, .null] [] a (k2 x1 x2 x3)) (x1 : Int32) (x2 : Int32) (x3 : Int32) (y1 : Int32) : XP qZ E md_W_isHit 45 [.ref 21, .int x1, .int x2, .int x3, .null, .null] [.int y1] a (f_W_isHit_45 N a k2 x1 x2 x3 y1) := by
  refine XP_br (c := x2 ≤ y1) (t := 55) (e := 53) (ls' := [.ref 21, .int x1, .int x2, .int x3, .null, .int y1]) (st' := []) (a' := a) [(.istore 5, 2, 5, .null), (.iload 5, 2, 5, .null), (.iload_n 2, 1, 2, .null), (.if_icmp .ge 5, 3, 55, .null)] (by decide +kernel) rfl ?_ ?_
  · refine XP_go (pc' := 2) (ls' := [.ref 21, .int x1, .int x2, .int (x3 + 1), .null, .int y1]) (st' := []) (a' := a) [(.iinc 3 1, 3, 3, .int 1), (.goto (-56), 3, 2, .null)] (by decide +kernel) rfl ?_
    refine XP_fg [true, true, true, true, false, false] ?_
    exact h2 x1 x2 (x3 + 1)
  · refine XP_go (pc' := 54) (ls' := [.ref 21, .int x1, .int x2, .int x3, .null, .int y1]) (st' := [.int 1]) (a' := a) [(.iconst 1, 1, 0, .int 1)] (by decide +kernel) rfl ?_
    exact XP_retZ (by decide +kernel) rfl
set_option maxHeartbeats 4000000 in
set_option maxRecDepth 100000 in
theorem x_W_isHit_2 (E : eT) (N : Nat) (a : aT) : ∀ (n : Nat) (x1 : Int32) (x2 : Int32) (x3 : Int32), XP qZ E md_W_isHit 2 [.ref 21, .int x1, .int x2, .int x3, .null, .null] [] a (f_W_isHit_2 N a n x1 x2 x3)
  | 0, _, _, _ => XP_no rfl
  | n + 1, x1, x2, x3 => by
    refine XP_br (c := (a 21 2) ≤ x3) (t := 61) (e := 10) (ls' := [.ref 21, .int x1, .int x2, .int x3, .null, .null]) (st' := []) (a' := a) [(.iload_n 3, 1, 3, .null), (.aload_n 0, 1, 0, .null), (.getfield 18, 3, 702, .null), (.if_icmp .ge 54, 3, 61, .null)] (by decide +kernel) rfl ?_ ?_
    · refine XP_go (pc' := 62) (ls' := [.ref 21, .int x1, .int x2, .int x3, .null, .null]) (st' := [.int 0]) (a' := a) [(.iconst 0, 1, 0, .int 0)] (by decide +kernel) rfl ?_
      exact XP_retZ (by decide +kernel) rfl
    · refine XP_br (c := 3 ≤ x3) (t := 61) (e := 15) (ls' := [.ref 21, .int x1, .int x2, .int x3, .null, .null]) (st' := []) (a' := a) [(.iload_n 3, 1, 3, .null), (.iconst 3, 1, 0, .int 3), (.if_icmp .ge 49, 3, 61, .null)] (by decide +kernel) rfl ?_ ?_
      · refine XP_go (pc' := 62) (ls' := [.ref 21, .int x1, .int x2, .int x3, .null, .null]) (st' := [.int 0]) (a' := a) [(.iconst 0, 1, 0, .int 0)] (by decide +kernel) rfl ?_
        exact XP_retZ (by decide +kernel) rfl
      · refine XP_ck (c := inb x3 3) (pc' := 21) (ls' := [.ref 21, .int x1, .int x2, .int x3, .null, .null]) (st' := [.int (a 22 (ix x3))]) (a' := a) [(.aload_n 0, 1, 0, .null), (.getfield 9, 3, 700, .null), (.iload_n 3, 1, 3, .null), (.iaload, 1, 0, .null)] (by decide +kernel) rfl ?_
        refine XP_br (c := (a 22 (ix x3)) ≤ 0) (t := 44) (e := 28) (ls' := [.ref 21, .int x1, .int x2, .int x3, .int (a 22 (ix x3)), .null]) (st' := []) (a' := a) [(.istore 4, 2, 4, .null), (.iload 4, 2, 4, .null), (.ifCond .le 19, 3, 44, .null)] (by decide +kernel) rfl ?_ ?_
        · refine XP_go (pc' := 45) (ls' := [.ref 21, .int x1, .int x2, .int x3, .int (a 22 (ix x3)), .null]) (st' := [.int x2]) (a' := a) [(.iload_n 2, 1, 2, .null)] (by decide +kernel) rfl ?_
          refine XP_fg [true, true, true, true, false, false] ?_
          exact x_W_isHit_45 E N a (f_W_isHit_2 N a n) (x_W_isHit_2 E N a n) x1 x2 x3 x2
        · refine XP_ck (c := inb x3 3) (pc' := 34) (ls' := [.ref 21, .int x1, .int x2, .int x3, .int (a 22 (ix x3)), .null]) (st' := [.int (a 23 (ix x3))]) (a' := a) [(.aload_n 0, 1, 0, .null), (.getfield 15, 3, 701, .null), (.iload_n 3, 1, 3, .null), (.iaload, 1, 0, .null)] (by decide +kernel) rfl ?_
          refine XP_go (pc' := 38) (ls' := [.ref 21, .int x1, .int x2, .int x3, .int (a 22 (ix x3)), .null]) (st' := [.int (a 22 (ix x3)), .int ((a 23 (ix x3)) - x1)]) (a' := a) [(.iload_n 1, 1, 1, .null), (.isub, 1, 0, .null), (.iload 4, 2, 4, .null)] (by decide +kernel) rfl ?_
          refine XP_SP (As := [.int ((a 23 (ix x3)) - x1), .int (a 22 (ix x3))]) (rest := []) (idx := 37) (by decide +kernel) ok_J_floorMod mv_J_floorMod (n := 2) ⟨lk_W_37, by decide +kernel⟩ rfl (Nat.le_of_ble_eq_true rfl) (Nat.le_of_ble_eq_true rfl) (qI_h rfl) (x_J_floorMod E ((a 23 (ix x3)) - x1) (a 22 (ix x3)) a) (fun q1 => ?_)
          refine XP_go (pc' := 45) (ls' := [.ref 21, .int x1, .int x2, .int x3, .int (a 22 (ix x3)), .null]) (st' := [.int q1]) (a' := a) [(.goto 4, 3, 45, .null)] (by decide +kernel) rfl ?_
          refine XP_fg [true, true, true, true, false, false] ?_
          exact x_W_isHit_45 E N a (f_W_isHit_2 N a n) (x_W_isHit_2 E N a n) x1 x2 x3 q1
set_option maxHeartbeats 4000000 in
set_option maxRecDepth 100000 in
theorem x_W_isHit (E : eT) (N : Nat) (p1 : Int32) (p2 : Int32) (a : aT) : XP qZ E md_W_isHit 0 [.ref 21, .int p1, .int p2, .null, .null, .null] [] a (f_W_isHit N p1 p2 a) := by
  refine XP_go (pc' := 2) (ls' := [.ref 21, .int p1, .int p2, .int 0, .null, .null]) (st' := []) (a' := a) [(.iconst 0, 1, 0, .int 0), (.istore_n 3, 1, 3, .null)] (by decide +kernel) rfl ?_
  refine XP_fg [true, true, true, true, false, false] ?_
  exact x_W_isHit_2 E N a N p1 p2 0
/-! ChestnutSticks$Throwers.firstFree(II)I -/
def md_W_firstFree : md_T := (yX7_firstFree, cX7_firstFree, 5, (some .int), 2, 47)
set_option maxRecDepth 100000 in
theorem ok_W_firstFree : m_ok md_W_firstFree := ⟨List.mem_of_getElem? (i := 723) (by decide +kernel), by decide +kernel, List.mem_of_getElem? (i := 61) (by decide +kernel), by decide +kernel⟩
theorem mv_W_firstFree : Cond.instanceMethod (m_y md_W_firstFree) ∈ lw_tbl ∧ Cond.selects (m_y md_W_firstFree).cls (m_y md_W_firstFree) (m_y md_W_firstFree) ∈ lw_tbl := ⟨List.mem_of_getElem? (i := 721) (by decide +kernel), List.mem_of_getElem? (i := 722) (by decide +kernel)⟩
def f_W_firstFree_8 (N : Nat) (a : aT) : Nat → Int32 → Int32 → Int32 → Int32 → Option Int32
  | 0 => fun _ _ _ _ => none
  | n + 1 => fun x1 x2 x3 x4 =>
    if (x1 + x3) ≤ x4 then
      some (-1)
    else
      (f_W_isHit N x4 x2 a).bind fun q2 =>
        if q2 = 0 then
          some x4
        else
          f_W_firstFree_8 N a n x1 x2 x3 (x4 + 1)
def f_W_firstFree (N : Nat) (p1 : Int32) (p2 : Int32) (a : aT) : Option Int32 :=
  (f_W_roundLength N a).bind fun q1 =>
    f_W_firstFree_8 N a N p1 p2 q1 p1
set_option maxHeartbeats 4000000 in
set_option maxRecDepth 100000 in
theorem x_W_firstFree_8 (E : eT) (N : Nat) (a : aT) : ∀ (n : Nat) (x1 : Int32) (x2 : Int32) (x3 : Int32) (x4 : Int32), XP qI E md_W_firstFree 8 [.ref 21, .int x1, .int x2, .int x3, .int x4] [] a (f_W_firstFree_8 N a n x1 x2 x3 x4)
  | 0, _, _, _, _ => XP_no rfl
  | n + 1, x1, x2, x3, x4 => by
    refine XP_br (c := (x1 + x3) ≤ x4) (t := 35) (e := 16) (ls' := [.ref 21, .int x1, .int x2, .int x3, .int x4]) (st' := []) (a' := a) [(.iload 4, 2, 4, .null), (.iload_n 1, 1, 1, .null), (.iload_n 3, 1, 3, .null), (.iadd, 1, 0, .null), (.if_icmp .ge 22, 3, 35, .null)] (by decide +kernel) rfl ?_ ?_
    · refine XP_go (pc' := 36) (ls' := [.ref 21, .int x1, .int x2, .int x3, .int x4]) (st' := [.int (-1)]) (a' := a) [(.iconst (-1), 1, 0, .int (-1))] (by decide +kernel) rfl ?_
      exact XP_retI (by decide +kernel)
    · refine XP_go (pc' := 20) (ls' := [.ref 21, .int x1, .int x2, .int x3, .int x4]) (st' := [.int x2, .int x4, .ref 21]) (a' := a) [(.aload_n 0, 1, 0, .null), (.iload 4, 2, 4, .null), (.iload_n 2, 1, 2, .null)] (by decide +kernel) rfl ?_
      refine XP_VP (As := [.int x4, .int x2]) (rest := []) (b := 21) (idx := 34) (by decide +kernel) ok_W_isHit mv_W_isHit (n := 2) ⟨lk_W_34, by decide +kernel⟩ rfl rfl rfl rfl (Nat.le_of_ble_eq_true rfl) (Nat.le_of_ble_eq_true rfl) (qZ_h rfl) (x_W_isHit E N x4 x2 a) (fun q2 => ?_)
      refine XP_br (c := q2 = 0) (t := 26) (e := 29) (ls' := [.ref 21, .int x1, .int x2, .int x3, .int x4]) (st' := []) (a' := a) [(.ifCond .ne 6, 3, 29, .null)] (by decide +kernel) rfl ?_ ?_
      · refine XP_go (pc' := 28) (ls' := [.ref 21, .int x1, .int x2, .int x3, .int x4]) (st' := [.int x4]) (a' := a) [(.iload 4, 2, 4, .null)] (by decide +kernel) rfl ?_
        exact XP_retI (by decide +kernel)
      · refine XP_go (pc' := 8) (ls' := [.ref 21, .int x1, .int x2, .int x3, .int (x4 + 1)]) (st' := []) (a' := a) [(.iinc 4 1, 3, 4, .int 1), (.goto (-24), 3, 8, .null)] (by decide +kernel) rfl ?_
        refine XP_fg [true, true, true, true, true] ?_
        exact x_W_firstFree_8 E N a n x1 x2 x3 (x4 + 1)
set_option maxHeartbeats 4000000 in
set_option maxRecDepth 100000 in
theorem x_W_firstFree (E : eT) (N : Nat) (p1 : Int32) (p2 : Int32) (a : aT) : XP qI E md_W_firstFree 0 [.ref 21, .int p1, .int p2, .null, .null] [] a (f_W_firstFree N p1 p2 a) := by
  refine XP_go (pc' := 1) (ls' := [.ref 21, .int p1, .int p2, .null, .null]) (st' := [.ref 21]) (a' := a) [(.aload_n 0, 1, 0, .null)] (by decide +kernel) rfl ?_
  refine XP_VP (As := []) (rest := []) (b := 21) (idx := 30) (by decide +kernel) ok_W_roundLength mv_W_roundLength (n := 0) ⟨lk_W_30, by decide +kernel⟩ rfl rfl rfl rfl (Nat.le_of_ble_eq_true rfl) (Nat.le_of_ble_eq_true rfl) (qI_h rfl) (x_W_roundLength E N a) (fun q1 => ?_)
  refine XP_go (pc' := 8) (ls' := [.ref 21, .int p1, .int p2, .int q1, .int p1]) (st' := []) (a' := a) [(.istore_n 3, 1, 3, .null), (.iload_n 1, 1, 1, .null), (.istore 4, 2, 4, .null)] (by decide +kernel) rfl ?_
  refine XP_fg [true, true, true, true, true] ?_
  exact x_W_firstFree_8 E N a N p1 p2 q1 p1
/-! ChestnutSticks.run(II)I -/
def md_C_run : md_T := (yX10_run, cX10_run, 3, (some .int), 3, 71)
set_option maxRecDepth 100000 in
theorem ok_C_run : m_ok md_C_run := ⟨List.mem_of_getElem? (i := 719) (by decide +kernel), by decide +kernel, List.mem_of_getElem? (i := 53) (by decide +kernel), by decide +kernel⟩
theorem mv_C_run : Cond.instanceMethod (m_y md_C_run) ∈ lw_tbl ∧ Cond.selects (m_y md_C_run).cls (m_y md_C_run) (m_y md_C_run) ∈ lw_tbl := ⟨List.mem_of_getElem? (i := 717) (by decide +kernel), List.mem_of_getElem? (i := 718) (by decide +kernel)⟩
def f_C_run (N : Nat) (p1 : Int32) (p2 : Int32) (a : aT) : Option Int32 :=
  if p1 < 0 then
    some (-2)
  else
    if 9999 < p1 then
      some (-2)
    else
      if p2 < 1 then
        some (-2)
      else
        if p2 ≤ 20 then
          (f_W_firstFree N p1 p2 a).bind fun q1 =>
            some q1
        else
          some (-2)
set_option maxHeartbeats 4000000 in
set_option maxRecDepth 100000 in
theorem x_C_run (E : eT) (N : Nat) (p1 : Int32) (p2 : Int32) (a : aT) : XP qI E md_C_run 0 [.ref 0, .int p1, .int p2] [] a (f_C_run N p1 p2 a) := by
  refine XP_br (c := p1 < 0) (t := 22) (e := 4) (ls' := [.ref 0, .int p1, .int p2]) (st' := []) (a' := a) [(.iload_n 1, 1, 1, .null), (.ifCond .lt 21, 3, 22, .null)] (by decide +kernel) rfl ?_ ?_
  · refine XP_go (pc' := 24) (ls' := [.ref 0, .int p1, .int p2]) (st' := [.int (-2)]) (a' := a) [(.bipush (-2), 2, 0, .int (-2))] (by decide +kernel) rfl ?_
    exact XP_retI (by decide +kernel)
  · refine XP_br (c := 9999 < p1) (t := 22) (e := 11) (ls' := [.ref 0, .int p1, .int p2]) (st' := []) (a' := a) [(.iload_n 1, 1, 1, .null), (.sipush 9999, 3, 0, .int 9999), (.if_icmp .gt 14, 3, 22, .null)] (by decide +kernel) rfl ?_ ?_
    · refine XP_go (pc' := 24) (ls' := [.ref 0, .int p1, .int p2]) (st' := [.int (-2)]) (a' := a) [(.bipush (-2), 2, 0, .int (-2))] (by decide +kernel) rfl ?_
      exact XP_retI (by decide +kernel)
    · refine XP_br (c := p2 < 1) (t := 22) (e := 16) (ls' := [.ref 0, .int p1, .int p2]) (st' := []) (a' := a) [(.iload_n 2, 1, 2, .null), (.iconst 1, 1, 0, .int 1), (.if_icmp .lt 9, 3, 22, .null)] (by decide +kernel) rfl ?_ ?_
      · refine XP_go (pc' := 24) (ls' := [.ref 0, .int p1, .int p2]) (st' := [.int (-2)]) (a' := a) [(.bipush (-2), 2, 0, .int (-2))] (by decide +kernel) rfl ?_
        exact XP_retI (by decide +kernel)
      · refine XP_br (c := p2 ≤ 20) (t := 25) (e := 22) (ls' := [.ref 0, .int p1, .int p2]) (st' := []) (a' := a) [(.iload_n 2, 1, 2, .null), (.bipush 20, 2, 0, .int 20), (.if_icmp .le 6, 3, 25, .null)] (by decide +kernel) rfl ?_ ?_
        · refine XP_go (pc' := 31) (ls' := [.ref 0, .int p1, .int p2]) (st' := [.int p2, .int p1, .ref 21]) (a' := a) [(.aload_n 0, 1, 0, .null), (.getfield 65, 3, 1007, .null), (.iload_n 1, 1, 1, .null), (.iload_n 2, 1, 2, .null)] (by decide +kernel) rfl ?_
          refine XP_VP (As := [.int p1, .int p2]) (rest := []) (b := 21) (idx := 223) (by decide +kernel) ok_W_firstFree mv_W_firstFree (n := 2) ⟨lk_C_223, by decide +kernel⟩ rfl rfl rfl rfl (Nat.le_of_ble_eq_true rfl) (Nat.le_of_ble_eq_true rfl) (qI_h rfl) (x_W_firstFree E N p1 p2 a) (fun q1 => ?_)
          exact XP_retI (by decide +kernel)
        · refine XP_go (pc' := 24) (ls' := [.ref 0, .int p1, .int p2]) (st' := [.int (-2)]) (a' := a) [(.bipush (-2), 2, 0, .int (-2))] (by decide +kernel) rfl ?_
          exact XP_retI (by decide +kernel)
/-! ChestnutSticksModel.round()I -/
def md_M_round : md_T := (yX11_round, cX11_round, 4, (some .int), 0, 0)
set_option maxRecDepth 100000 in
theorem ok_M_round : m_ok md_M_round := ⟨List.mem_of_getElem? (i := 1298) (by decide +kernel), by decide +kernel, List.mem_of_getElem? (i := 64) (by decide +kernel), by decide +kernel⟩
theorem mv_M_round : Cond.instanceMethod (m_y md_M_round) ∈ lw_tbl ∧ Cond.selects (m_y md_M_round).cls (m_y md_M_round) (m_y md_M_round) ∈ lw_tbl := ⟨List.mem_of_getElem? (i := 1297) (by decide +kernel), List.mem_of_getElem? (i := 48) (by decide +kernel)⟩
def f_M_round_14 (N : Nat) (a : aT) (k4 : Int32 → Int32 → Option Int32) : Nat → Int32 → Int32 → Int32 → Option Int32
  | 0 => fun _ _ _ => none
  | n + 1 => fun x1 x2 x3 =>
    if inb (2 * x2) 6 then
      if (a 49 (ix (2 * x2))) = 0 then none else
        if (i_rem x3 (a 49 (ix (2 * x2)))) = 0 then
          k4 x3 (x2 + 1)
        else
          f_M_round_14 N a k4 n x1 x2 (x3 + x1)
    else none
def f_M_round_4 (N : Nat) (a : aT) : Nat → Int32 → Int32 → Option Int32
  | 0 => fun _ _ => none
  | n + 1 => fun x1 x2 =>
    if (a 31 29) ≤ x2 then
      some x1
    else
      f_M_round_14 N a (f_M_round_4 N a n) N x1 x2 x1
def f_M_round (N : Nat) (a : aT) : Option Int32 :=
  f_M_round_4 N a N 1 0
set_option maxHeartbeats 4000000 in
set_option maxRecDepth 100000 in
theorem x_M_round_14 (E : eT) (N : Nat) (a : aT) (k4 : Int32 → Int32 → Option Int32) (h4 : ∀ (x1 : Int32) (x2 : Int32), XP qI E md_M_round 4 [.ref 31, .int x1, .int x2, .null] [] a (k4 x1 x2)) : ∀ (n : Nat) (x1 : Int32) (x2 : Int32) (x3 : Int32), XP qI E md_M_round 14 [.ref 31, .int x1, .int x2, .int x3] [] a (f_M_round_14 N a k4 n x1 x2 x3)
  | 0, _, _, _ => XP_no rfl
  | n + 1, x1, x2, x3 => by
    refine XP_ck (c := inb (2 * x2) 6) (pc' := 23) (ls' := [.ref 31, .int x1, .int x2, .int x3]) (st' := [.int (a 49 (ix (2 * x2))), .int x3]) (a' := a) [(.iload_n 3, 1, 3, .null), (.aload_n 0, 1, 0, .null), (.getfield 62, 3, 1130, .null), (.iconst 2, 1, 0, .int 2), (.iload_n 2, 1, 2, .null), (.imul, 1, 0, .null), (.iaload, 1, 0, .null)] (by decide +kernel) rfl ?_
    refine XP_dv (c := (a 49 (ix (2 * x2))) = 0) (pc' := 24) (ls' := [.ref 31, .int x1, .int x2, .int x3]) (st' := [.int (i_rem x3 (a 49 (ix (2 * x2))))]) (a' := a) [(.irem, 1, 0, .null)] (by decide +kernel) rfl ?_
    refine XP_br (c := (i_rem x3 (a 49 (ix (2 * x2)))) = 0) (t := 34) (e := 27) (ls' := [.ref 31, .int x1, .int x2, .int x3]) (st' := []) (a' := a) [(.ifCond .eq 10, 3, 34, .null)] (by decide +kernel) rfl ?_ ?_
    · refine XP_go (pc' := 4) (ls' := [.ref 31, .int x3, .int (x2 + 1), .int x3]) (st' := []) (a' := a) [(.iload_n 3, 1, 3, .null), (.istore_n 1, 1, 1, .null), (.iinc 2 1, 3, 2, .int 1), (.goto (-35), 3, 4, .null)] (by decide +kernel) rfl ?_
      refine XP_fg [true, true, true, false] ?_
      exact h4 x3 (x2 + 1)
    · refine XP_go (pc' := 14) (ls' := [.ref 31, .int x1, .int x2, .int (x3 + x1)]) (st' := []) (a' := a) [(.iload_n 3, 1, 3, .null), (.iload_n 1, 1, 1, .null), (.iadd, 1, 0, .null), (.istore_n 3, 1, 3, .null), (.goto (-17), 3, 14, .null)] (by decide +kernel) rfl ?_
      refine XP_fg [true, true, true, true] ?_
      exact x_M_round_14 E N a k4 h4 n x1 x2 (x3 + x1)
set_option maxHeartbeats 4000000 in
set_option maxRecDepth 100000 in
theorem x_M_round_4 (E : eT) (N : Nat) (a : aT) : ∀ (n : Nat) (x1 : Int32) (x2 : Int32), XP qI E md_M_round 4 [.ref 31, .int x1, .int x2, .null] [] a (f_M_round_4 N a n x1 x2)
  | 0, _, _ => XP_no rfl
  | n + 1, x1, x2 => by
    refine XP_br (c := (a 31 29) ≤ x2) (t := 42) (e := 12) (ls' := [.ref 31, .int x1, .int x2, .null]) (st' := []) (a' := a) [(.iload_n 2, 1, 2, .null), (.aload_n 0, 1, 0, .null), (.getfield 278, 3, 1129, .null), (.if_icmp .ge 33, 3, 42, .null)] (by decide +kernel) rfl ?_ ?_
    · refine XP_go (pc' := 43) (ls' := [.ref 31, .int x1, .int x2, .null]) (st' := [.int x1]) (a' := a) [(.iload_n 1, 1, 1, .null)] (by decide +kernel) rfl ?_
      exact XP_retI (by decide +kernel)
    · refine XP_go (pc' := 14) (ls' := [.ref 31, .int x1, .int x2, .int x1]) (st' := []) (a' := a) [(.iload_n 1, 1, 1, .null), (.istore_n 3, 1, 3, .null)] (by decide +kernel) rfl ?_
      refine XP_fg [true, true, true, true] ?_
      exact x_M_round_14 E N a (f_M_round_4 N a n) (x_M_round_4 E N a n) N x1 x2 x1
set_option maxHeartbeats 4000000 in
set_option maxRecDepth 100000 in
theorem x_M_round (E : eT) (N : Nat) (a : aT) : XP qI E md_M_round 0 [.ref 31, .null, .null, .null] [] a (f_M_round N a) := by
  refine XP_go (pc' := 4) (ls' := [.ref 31, .int 1, .int 0, .null]) (st' := []) (a' := a) [(.iconst 1, 1, 0, .int 1), (.istore_n 1, 1, 1, .null), (.iconst 0, 1, 0, .int 0), (.istore_n 2, 1, 2, .null)] (by decide +kernel) rfl ?_
  refine XP_fg [true, true, true, false] ?_
  exact x_M_round_4 E N a N 1 0
/-! ChestnutSticksModel.isHit(II)Z -/
def md_M_isHit : md_T := (yX11_isHit, cX11_isHit, 6, (some .boolean), 0, 0)
set_option maxRecDepth 100000 in
theorem ok_M_isHit : m_ok md_M_isHit := ⟨List.mem_of_getElem? (i := 1302) (by decide +kernel), by decide +kernel, List.mem_of_getElem? (i := 64) (by decide +kernel), by decide +kernel⟩
theorem mv_M_isHit : Cond.instanceMethod (m_y md_M_isHit) ∈ lw_tbl ∧ Cond.selects (m_y md_M_isHit).cls (m_y md_M_isHit) (m_y md_M_isHit) ∈ lw_tbl := ⟨List.mem_of_getElem? (i := 1301) (by decide +kernel), List.mem_of_getElem? (i := 49) (by decide +kernel)⟩
def f_M_isHit_16 (N : Nat) (a : aT) (k5 : Int32 → Int32 → Int32 → Int32 → Option Int32) : Nat → Int32 → Int32 → Int32 → Int32 → Int32 → Option Int32
  | 0 => fun _ _ _ _ _ => none
  | n + 1 => fun x1 x2 x3 x4 x5 =>
    if (a 31 29) ≤ x5 then
      k5 x1 x2 x3 (x4 + 1)
    else
      if x3 = 0 then
        if inb (2 * x5) 6 then
          if (a 49 (ix (2 * x5))) = 0 then none else
            if inb ((2 * x5) + 1) 6 then
              if (i_rem x4 (a 49 (ix (2 * x5)))) = (a 49 (ix ((2 * x5) + 1))) then
                f_M_isHit_16 N a k5 n x1 x2 1 x4 (x5 + 1)
              else
                f_M_isHit_16 N a k5 n x1 x2 0 x4 (x5 + 1)
            else none
        else none
      else
        f_M_isHit_16 N a k5 n x1 x2 1 x4 (x5 + 1)
def f_M_isHit_5 (N : Nat) (a : aT) : Nat → Int32 → Int32 → Int32 → Int32 → Option Int32
  | 0 => fun _ _ _ _ => none
  | n + 1 => fun x1 x2 x3 x4 =>
    if (x1 + x2) ≤ x4 then
      some (vp_nar .boolean x3)
    else
      f_M_isHit_16 N a (f_M_isHit_5 N a n) N x1 x2 x3 x4 0
def f_M_isHit (N : Nat) (p1 : Int32) (p2 : Int32) (a : aT) : Option Int32 :=
  f_M_isHit_5 N a N p1 p2 0 p1
set_option maxHeartbeats 4000000 in
set_option maxRecDepth 100000 in
theorem x_M_isHit_16 (E : eT) (N : Nat) (a : aT) (k5 : Int32 → Int32 → Int32 → Int32 → Option Int32) (h5 : ∀ (x1 : Int32) (x2 : Int32) (x3 : Int32) (x4 : Int32), XP qZ E md_M_isHit 5 [.ref 31, .int x1, .int x2, .int x3, .int x4, .null] [] a (k5 x1 x2 x3 x4)) : ∀ (n : Nat) (x1 : Int32) (x2 : Int32) (x3 : Int32) (x4 : Int32) (x5 : Int32), XP qZ E md_M_isHit 16 [.ref 31, .int x1, .int x2, .int x3, .int x4, .int x5] [] a (f_M_isHit_16 N a k5 n x1 x2 x3 x4 x5)
  | 0, _, _, _, _, _ => XP_no rfl
  | n + 1, x1, x2, x3, x4, x5 => by
    refine XP_br (c := (a 31 29) ≤ x5) (t := 67) (e := 25) (ls' := [.ref 31, .int x1, .int x2, .int x3, .int x4, .int x5]) (st' := []) (a' := a) [(.iload 5, 2, 5, .null), (.aload_n 0, 1, 0, .null), (.getfield 278, 3, 1129, .null), (.if_icmp .ge 45, 3, 67, .null)] (by decide +kernel) rfl ?_ ?_
    · refine XP_go (pc' := 5) (ls' := [.ref 31, .int x1, .int x2, .int x3, .int (x4 + 1), .int x5]) (st' := []) (a' := a) [(.iinc 4 1, 3, 4, .int 1), (.goto (-65), 3, 5, .null)] (by decide +kernel) rfl ?_
      refine XP_fg [true, true, true, true, true, false] ?_
      exact h5 x1 x2 x3 (x4 + 1)
    · refine XP_br (c := x3 = 0) (t := 29) (e := 55) (ls' := [.ref 31, .int x1, .int x2, .int x3, .int x4, .int x5]) (st' := []) (a' := a) [(.iload_n 3, 1, 3, .null), (.ifCond .ne 29, 3, 55, .null)] (by decide +kernel) rfl ?_ ?_
      · refine XP_ck (c := inb (2 * x5) 6) (pc' := 40) (ls' := [.ref 31, .int x1, .int x2, .int x3, .int x4, .int x5]) (st' := [.int (a 49 (ix (2 * x5))), .int x4]) (a' := a) [(.iload 4, 2, 4, .null), (.aload_n 0, 1, 0, .null), (.getfield 62, 3, 1130, .null), (.iconst 2, 1, 0, .int 2), (.iload 5, 2, 5, .null), (.imul, 1, 0, .null), (.iaload, 1, 0, .null)] (by decide +kernel) rfl ?_
        refine XP_dv (c := (a 49 (ix (2 * x5))) = 0) (pc' := 41) (ls' := [.ref 31, .int x1, .int x2, .int x3, .int x4, .int x5]) (st' := [.int (i_rem x4 (a 49 (ix (2 * x5))))]) (a' := a) [(.irem, 1, 0, .null)] (by decide +kernel) rfl ?_
        refine XP_ck (c := inb ((2 * x5) + 1) 6) (pc' := 52) (ls' := [.ref 31, .int x1, .int x2, .int x3, .int x4, .int x5]) (st' := [.int (a 49 (ix ((2 * x5) + 1))), .int (i_rem x4 (a 49 (ix (2 * x5))))]) (a' := a) [(.aload_n 0, 1, 0, .null), (.getfield 62, 3, 1130, .null), (.iconst 2, 1, 0, .int 2), (.iload 5, 2, 5, .null), (.imul, 1, 0, .null), (.iconst 1, 1, 0, .int 1), (.iadd, 1, 0, .null), (.iaload, 1, 0, .null)] (by decide +kernel) rfl ?_
        refine XP_br (c := (i_rem x4 (a 49 (ix (2 * x5)))) = (a 49 (ix ((2 * x5) + 1)))) (t := 55) (e := 59) (ls' := [.ref 31, .int x1, .int x2, .int x3, .int x4, .int x5]) (st' := []) (a' := a) [(.if_icmp .ne 7, 3, 59, .null)] (by decide +kernel) rfl ?_ ?_
        · refine XP_go (pc' := 16) (ls' := [.ref 31, .int x1, .int x2, .int 1, .int x4, .int (x5 + 1)]) (st' := []) (a' := a) [(.iconst 1, 1, 0, .int 1), (.goto 4, 3, 60, .null), (.istore_n 3, 1, 3, .null), (.iinc 5 1, 3, 5, .int 1), (.goto (-48), 3, 16, .null)] (by decide +kernel) rfl ?_
          refine XP_fg [true, true, true, true, true, true] ?_
          exact x_M_isHit_16 E N a k5 h5 n x1 x2 1 x4 (x5 + 1)
        · refine XP_go (pc' := 16) (ls' := [.ref 31, .int x1, .int x2, .int 0, .int x4, .int (x5 + 1)]) (st' := []) (a' := a) [(.iconst 0, 1, 0, .int 0), (.istore_n 3, 1, 3, .null), (.iinc 5 1, 3, 5, .int 1), (.goto (-48), 3, 16, .null)] (by decide +kernel) rfl ?_
          refine XP_fg [true, true, true, true, true, true] ?_
          exact x_M_isHit_16 E N a k5 h5 n x1 x2 0 x4 (x5 + 1)
      · refine XP_go (pc' := 16) (ls' := [.ref 31, .int x1, .int x2, .int 1, .int x4, .int (x5 + 1)]) (st' := []) (a' := a) [(.iconst 1, 1, 0, .int 1), (.goto 4, 3, 60, .null), (.istore_n 3, 1, 3, .null), (.iinc 5 1, 3, 5, .int 1), (.goto (-48), 3, 16, .null)] (by decide +kernel) rfl ?_
        refine XP_fg [true, true, true, true, true, true] ?_
        exact x_M_isHit_16 E N a k5 h5 n x1 x2 1 x4 (x5 + 1)
set_option maxHeartbeats 4000000 in
set_option maxRecDepth 100000 in
theorem x_M_isHit_5 (E : eT) (N : Nat) (a : aT) : ∀ (n : Nat) (x1 : Int32) (x2 : Int32) (x3 : Int32) (x4 : Int32), XP qZ E md_M_isHit 5 [.ref 31, .int x1, .int x2, .int x3, .int x4, .null] [] a (f_M_isHit_5 N a n x1 x2 x3 x4)
  | 0, _, _, _, _ => XP_no rfl
  | n + 1, x1, x2, x3, x4 => by
    refine XP_br (c := (x1 + x2) ≤ x4) (t := 73) (e := 13) (ls' := [.ref 31, .int x1, .int x2, .int x3, .int x4, .null]) (st' := []) (a' := a) [(.iload 4, 2, 4, .null), (.iload_n 1, 1, 1, .null), (.iload_n 2, 1, 2, .null), (.iadd, 1, 0, .null), (.if_icmp .ge 63, 3, 73, .null)] (by decide +kernel) rfl ?_ ?_
    · refine XP_go (pc' := 74) (ls' := [.ref 31, .int x1, .int x2, .int x3, .int x4, .null]) (st' := [.int x3]) (a' := a) [(.iload_n 3, 1, 3, .null)] (by decide +kernel) rfl ?_
      exact XP_retZ (by decide +kernel) rfl
    · refine XP_go (pc' := 16) (ls' := [.ref 31, .int x1, .int x2, .int x3, .int x4, .int 0]) (st' := []) (a' := a) [(.iconst 0, 1, 0, .int 0), (.istore 5, 2, 5, .null)] (by decide +kernel) rfl ?_
      refine XP_fg [true, true, true, true, true, true] ?_
      exact x_M_isHit_16 E N a (f_M_isHit_5 N a n) (x_M_isHit_5 E N a n) N x1 x2 x3 x4 0
set_option maxHeartbeats 4000000 in
set_option maxRecDepth 100000 in
theorem x_M_isHit (E : eT) (N : Nat) (p1 : Int32) (p2 : Int32) (a : aT) : XP qZ E md_M_isHit 0 [.ref 31, .int p1, .int p2, .null, .null, .null] [] a (f_M_isHit N p1 p2 a) := by
  refine XP_go (pc' := 5) (ls' := [.ref 31, .int p1, .int p2, .int 0, .int p1, .null]) (st' := []) (a' := a) [(.iconst 0, 1, 0, .int 0), (.istore_n 3, 1, 3, .null), (.iload_n 1, 1, 1, .null), (.istore 4, 2, 4, .null)] (by decide +kernel) rfl ?_
  refine XP_fg [true, true, true, true, true, false] ?_
  exact x_M_isHit_5 E N a N p1 p2 0 p1
/-! ChestnutSticksModel.runOf(II)I -/
def md_M_runOf : md_T := (yX11_runOf, cX11_runOf, 5, (some .int), 1, 25)
set_option maxRecDepth 100000 in
theorem ok_M_runOf : m_ok md_M_runOf := ⟨List.mem_of_getElem? (i := 1294) (by decide +kernel), by decide +kernel, List.mem_of_getElem? (i := 64) (by decide +kernel), by decide +kernel⟩
theorem mv_M_runOf : Cond.instanceMethod (m_y md_M_runOf) ∈ lw_tbl ∧ Cond.selects (m_y md_M_runOf).cls (m_y md_M_runOf) (m_y md_M_runOf) ∈ lw_tbl := ⟨List.mem_of_getElem? (i := 1293) (by decide +kernel), List.mem_of_getElem? (i := 47) (by decide +kernel)⟩
def f_M_runOf_8 (N : Nat) (a : aT) : Nat → Int32 → Int32 → Int32 → Int32 → Option Int32
  | 0 => fun _ _ _ _ => none
  | n + 1 => fun x1 x2 x3 x4 =>
    if (x1 + x3) ≤ x4 then
      some (-1)
    else
      (f_M_isHit N x4 x2 a).bind fun q2 =>
        if q2 = 0 then
          some x4
        else
          f_M_runOf_8 N a n x1 x2 x3 (x4 + 1)
def f_M_runOf (N : Nat) (p1 : Int32) (p2 : Int32) (a : aT) : Option Int32 :=
  (f_M_round N a).bind fun q1 =>
    f_M_runOf_8 N a N p1 p2 q1 p1
set_option maxHeartbeats 4000000 in
set_option maxRecDepth 100000 in
theorem x_M_runOf_8 (E : eT) (N : Nat) (a : aT) : ∀ (n : Nat) (x1 : Int32) (x2 : Int32) (x3 : Int32) (x4 : Int32), XP qI E md_M_runOf 8 [.ref 31, .int x1, .int x2, .int x3, .int x4] [] a (f_M_runOf_8 N a n x1 x2 x3 x4)
  | 0, _, _, _, _ => XP_no rfl
  | n + 1, x1, x2, x3, x4 => by
    refine XP_br (c := (x1 + x3) ≤ x4) (t := 35) (e := 16) (ls' := [.ref 31, .int x1, .int x2, .int x3, .int x4]) (st' := []) (a' := a) [(.iload 4, 2, 4, .null), (.iload_n 1, 1, 1, .null), (.iload_n 3, 1, 3, .null), (.iadd, 1, 0, .null), (.if_icmp .ge 22, 3, 35, .null)] (by decide +kernel) rfl ?_ ?_
    · refine XP_go (pc' := 36) (ls' := [.ref 31, .int x1, .int x2, .int x3, .int x4]) (st' := [.int (-1)]) (a' := a) [(.iconst (-1), 1, 0, .int (-1))] (by decide +kernel) rfl ?_
      exact XP_retI (by decide +kernel)
    · refine XP_go (pc' := 20) (ls' := [.ref 31, .int x1, .int x2, .int x3, .int x4]) (st' := [.int x2, .int x4, .ref 31]) (a' := a) [(.aload_n 0, 1, 0, .null), (.iload 4, 2, 4, .null), (.iload_n 2, 1, 2, .null)] (by decide +kernel) rfl ?_
      refine XP_VP (As := [.int x4, .int x2]) (rest := []) (b := 31) (idx := 284) (by decide +kernel) ok_M_isHit mv_M_isHit (n := 2) ⟨lk_M_284, by decide +kernel⟩ rfl rfl rfl rfl (Nat.le_of_ble_eq_true rfl) (Nat.le_of_ble_eq_true rfl) (qZ_h rfl) (x_M_isHit E N x4 x2 a) (fun q2 => ?_)
      refine XP_br (c := q2 = 0) (t := 26) (e := 29) (ls' := [.ref 31, .int x1, .int x2, .int x3, .int x4]) (st' := []) (a' := a) [(.ifCond .ne 6, 3, 29, .null)] (by decide +kernel) rfl ?_ ?_
      · refine XP_go (pc' := 28) (ls' := [.ref 31, .int x1, .int x2, .int x3, .int x4]) (st' := [.int x4]) (a' := a) [(.iload 4, 2, 4, .null)] (by decide +kernel) rfl ?_
        exact XP_retI (by decide +kernel)
      · refine XP_go (pc' := 8) (ls' := [.ref 31, .int x1, .int x2, .int x3, .int (x4 + 1)]) (st' := []) (a' := a) [(.iinc 4 1, 3, 4, .int 1), (.goto (-24), 3, 8, .null)] (by decide +kernel) rfl ?_
        refine XP_fg [true, true, true, true, true] ?_
        exact x_M_runOf_8 E N a n x1 x2 x3 (x4 + 1)
set_option maxHeartbeats 4000000 in
set_option maxRecDepth 100000 in
theorem x_M_runOf (E : eT) (N : Nat) (p1 : Int32) (p2 : Int32) (a : aT) : XP qI E md_M_runOf 0 [.ref 31, .int p1, .int p2, .null, .null] [] a (f_M_runOf N p1 p2 a) := by
  refine XP_go (pc' := 1) (ls' := [.ref 31, .int p1, .int p2, .null, .null]) (st' := [.ref 31]) (a' := a) [(.aload_n 0, 1, 0, .null)] (by decide +kernel) rfl ?_
  refine XP_VP (As := []) (rest := []) (b := 31) (idx := 281) (by decide +kernel) ok_M_round mv_M_round (n := 0) ⟨lk_M_281, by decide +kernel⟩ rfl rfl rfl rfl (Nat.le_of_ble_eq_true rfl) (Nat.le_of_ble_eq_true rfl) (qI_h rfl) (x_M_round E N a) (fun q1 => ?_)
  refine XP_go (pc' := 8) (ls' := [.ref 31, .int p1, .int p2, .int q1, .int p1]) (st' := []) (a' := a) [(.istore_n 3, 1, 3, .null), (.iload_n 1, 1, 1, .null), (.istore 4, 2, 4, .null)] (by decide +kernel) rfl ?_
  refine XP_fg [true, true, true, true, true] ?_
  exact x_M_runOf_8 E N a N p1 p2 q1 p1
/-! ChestnutSticksModel.run(II)I -/
def md_M_run : md_T := (yX11_run, cX11_run, 3, (some .int), 2, 49)
set_option maxRecDepth 100000 in
theorem ok_M_run : m_ok md_M_run := ⟨List.mem_of_getElem? (i := 1289) (by decide +kernel), by decide +kernel, List.mem_of_getElem? (i := 64) (by decide +kernel), by decide +kernel⟩
theorem mv_M_run : Cond.instanceMethod (m_y md_M_run) ∈ lw_tbl ∧ Cond.selects (m_y md_M_run).cls (m_y md_M_run) (m_y md_M_run) ∈ lw_tbl := ⟨List.mem_of_getElem? (i := 1287) (by decide +kernel), List.mem_of_getElem? (i := 1288) (by decide +kernel)⟩
def f_M_run (N : Nat) (p1 : Int32) (p2 : Int32) (a : aT) : Option Int32 :=
  if (f_M_in p1.toInt64 0 9999) = 0 then
    some (-2)
  else
    if (f_M_in p2.toInt64 1 20) = 0 then
      some (-2)
    else
      (f_M_runOf N p1 p2 a).bind fun q3 =>
        some q3
set_option maxHeartbeats 4000000 in
set_option maxRecDepth 100000 in
theorem x_M_run (E : eT) (N : Nat) (p1 : Int32) (p2 : Int32) (a : aT) : XP qI E md_M_run 0 [.ref 31, .int p1, .int p2] [] a (f_M_run N p1 p2 a) := by
  refine XP_go (pc' := 6) (ls' := [.ref 31, .int p1, .int p2]) (st' := [.long 9999, .long 0, .long p1.toInt64]) (a' := a) [(.iload_n 1, 1, 1, .null), (.i2l, 1, 0, .null), (.lconst 0, 1, 0, .long 0), (.ldc2_w 287, 3, 0, .long 9999)] (by decide +kernel) rfl ?_
  refine XP_ST (As := [.long p1.toInt64, .long 0, .long 9999]) (rest := []) (idx := 74) (by decide +kernel) ok_M_in mv_M_in (n := 3) ⟨lk_M_74, by decide +kernel⟩ rfl (Nat.le_of_ble_eq_true rfl) (Nat.le_of_ble_eq_true rfl) (qZ_h rfl) (x_M_in E p1.toInt64 0 9999 a) ?_
  refine XP_br (c := (f_M_in p1.toInt64 0 9999) = 0) (t := 33) (e := 12) (ls' := [.ref 31, .int p1, .int p2]) (st' := []) (a' := a) [(.ifCond .eq 24, 3, 33, .null)] (by decide +kernel) rfl ?_ ?_
  · refine XP_go (pc' := 35) (ls' := [.ref 31, .int p1, .int p2]) (st' := [.int (-2)]) (a' := a) [(.bipush (-2), 2, 0, .int (-2))] (by decide +kernel) rfl ?_
    exact XP_retI (by decide +kernel)
  · refine XP_go (pc' := 18) (ls' := [.ref 31, .int p1, .int p2]) (st' := [.long 20, .long 1, .long p2.toInt64]) (a' := a) [(.iload_n 2, 1, 2, .null), (.i2l, 1, 0, .null), (.lconst 1, 1, 0, .long 1), (.ldc2_w 276, 3, 0, .long 20)] (by decide +kernel) rfl ?_
    refine XP_ST (As := [.long p2.toInt64, .long 1, .long 20]) (rest := []) (idx := 74) (by decide +kernel) ok_M_in mv_M_in (n := 3) ⟨lk_M_74, by decide +kernel⟩ rfl (Nat.le_of_ble_eq_true rfl) (Nat.le_of_ble_eq_true rfl) (qZ_h rfl) (x_M_in E p2.toInt64 1 20 a) ?_
    refine XP_br (c := (f_M_in p2.toInt64 1 20) = 0) (t := 33) (e := 24) (ls' := [.ref 31, .int p1, .int p2]) (st' := []) (a' := a) [(.ifCond .eq 12, 3, 33, .null)] (by decide +kernel) rfl ?_ ?_
    · refine XP_go (pc' := 35) (ls' := [.ref 31, .int p1, .int p2]) (st' := [.int (-2)]) (a' := a) [(.bipush (-2), 2, 0, .int (-2))] (by decide +kernel) rfl ?_
      exact XP_retI (by decide +kernel)
    · refine XP_go (pc' := 27) (ls' := [.ref 31, .int p1, .int p2]) (st' := [.int p2, .int p1, .ref 31]) (a' := a) [(.aload_n 0, 1, 0, .null), (.iload_n 1, 1, 1, .null), (.iload_n 2, 1, 2, .null)] (by decide +kernel) rfl ?_
      refine XP_VP (As := [.int p1, .int p2]) (rest := []) (b := 31) (idx := 289) (by decide +kernel) ok_M_runOf mv_M_runOf (n := 2) ⟨lk_M_289, by decide +kernel⟩ rfl rfl rfl rfl (Nat.le_of_ble_eq_true rfl) (Nat.le_of_ble_eq_true rfl) (qI_h rfl) (x_M_runOf E N p1 p2 a) (fun q3 => ?_)
      refine XP_go (pc' := 35) (ls' := [.ref 31, .int p1, .int p2]) (st' := [.int q3]) (a' := a) [(.goto 5, 3, 35, .null)] (by decide +kernel) rfl ?_
      exact XP_retI (by decide +kernel)
/-! ChestnutSticks$Throwers.hitsInRound(I)I -/
def md_W_hitsInRound : md_T := (yX7_hitsInRound, cX7_hitsInRound, 5, (some .int), 2, 47)
set_option maxRecDepth 100000 in
theorem ok_W_hitsInRound : m_ok md_W_hitsInRound := ⟨List.mem_of_getElem? (i := 745) (by decide +kernel), by decide +kernel, List.mem_of_getElem? (i := 61) (by decide +kernel), by decide +kernel⟩
theorem mv_W_hitsInRound : Cond.instanceMethod (m_y md_W_hitsInRound) ∈ lw_tbl ∧ Cond.selects (m_y md_W_hitsInRound).cls (m_y md_W_hitsInRound) (m_y md_W_hitsInRound) ∈ lw_tbl := ⟨List.mem_of_getElem? (i := 743) (by decide +kernel), List.mem_of_getElem? (i := 744) (by decide +kernel)⟩
def f_W_hitsInRound_10 (N : Nat) (a : aT) : Nat → Int32 → Int32 → Int32 → Int32 → Option Int32
  | 0 => fun _ _ _ _ => none
  | n + 1 => fun x1 x2 x3 x4 =>
    if x2 ≤ x4 then
      some x3
    else
      (f_W_isHit N x4 x1 a).bind fun q2 =>
        if q2 = 0 then
          f_W_hitsInRound_10 N a n x1 x2 (x3 + 0) (x4 + 1)
        else
          f_W_hitsInRound_10 N a n x1 x2 (x3 + 1) (x4 + 1)
def f_W_hitsInRound (N : Nat) (p1 : Int32) (a : aT) : Option Int32 :=
  (f_W_roundLength N a).bind fun q1 =>
    f_W_hitsInRound_10 N a N p1 q1 0 0
set_option maxHeartbeats 4000000 in
set_option maxRecDepth 100000 in
theorem x_W_hitsInRound_10 (E : eT) (N : Nat) (a : aT) : ∀ (n : Nat) (x1 : Int32) (x2 : Int32) (x3 : Int32) (x4 : Int32), XP qI E md_W_hitsInRound 10 [.ref 21, .int x1, .int x2, .int x3, .int x4] [] a (f_W_hitsInRound_10 N a n x1 x2 x3 x4)
  | 0, _, _, _, _ => XP_no rfl
  | n + 1, x1, x2, x3, x4 => by
    refine XP_br (c := x2 ≤ x4) (t := 40) (e := 16) (ls' := [.ref 21, .int x1, .int x2, .int x3, .int x4]) (st' := []) (a' := a) [(.iload 4, 2, 4, .null), (.iload_n 2, 1, 2, .null), (.if_icmp .ge 27, 3, 40, .null)] (by decide +kernel) rfl ?_ ?_
    · refine XP_go (pc' := 41) (ls' := [.ref 21, .int x1, .int x2, .int x3, .int x4]) (st' := [.int x3]) (a' := a) [(.iload_n 3, 1, 3, .null)] (by decide +kernel) rfl ?_
      exact XP_retI (by decide +kernel)
    · refine XP_go (pc' := 21) (ls' := [.ref 21, .int x1, .int x2, .int x3, .int x4]) (st' := [.int x1, .int x4, .ref 21, .int x3]) (a' := a) [(.iload_n 3, 1, 3, .null), (.aload_n 0, 1, 0, .null), (.iload 4, 2, 4, .null), (.iload_n 1, 1, 1, .null)] (by decide +kernel) rfl ?_
      refine XP_VP (As := [.int x4, .int x1]) (rest := [.int x3]) (b := 21) (idx := 34) (by decide +kernel) ok_W_isHit mv_W_isHit (n := 2) ⟨lk_W_34, by decide +kernel⟩ rfl rfl rfl rfl (Nat.le_of_ble_eq_true rfl) (Nat.le_of_ble_eq_true rfl) (qZ_h rfl) (x_W_isHit E N x4 x1 a) (fun q2 => ?_)
      refine XP_br (c := q2 = 0) (t := 31) (e := 27) (ls' := [.ref 21, .int x1, .int x2, .int x3, .int x4]) (st' := [.int x3]) (a' := a) [(.ifCond .eq 7, 3, 31, .null)] (by decide +kernel) rfl ?_ ?_
      · refine XP_go (pc' := 10) (ls' := [.ref 21, .int x1, .int x2, .int (x3 + 0), .int (x4 + 1)]) (st' := []) (a' := a) [(.iconst 0, 1, 0, .int 0), (.iadd, 1, 0, .null), (.istore_n 3, 1, 3, .null), (.iinc 4 1, 3, 4, .int 1), (.goto (-27), 3, 10, .null)] (by decide +kernel) rfl ?_
        refine XP_fg [true, true, true, true, true] ?_
        exact x_W_hitsInRound_10 E N a n x1 x2 (x3 + 0) (x4 + 1)
      · refine XP_go (pc' := 10) (ls' := [.ref 21, .int x1, .int x2, .int (x3 + 1), .int (x4 + 1)]) (st' := []) (a' := a) [(.iconst 1, 1, 0, .int 1), (.goto 4, 3, 32, .null), (.iadd, 1, 0, .null), (.istore_n 3, 1, 3, .null), (.iinc 4 1, 3, 4, .int 1), (.goto (-27), 3, 10, .null)] (by decide +kernel) rfl ?_
        refine XP_fg [true, true, true, true, true] ?_
        exact x_W_hitsInRound_10 E N a n x1 x2 (x3 + 1) (x4 + 1)
set_option maxHeartbeats 4000000 in
set_option maxRecDepth 100000 in
theorem x_W_hitsInRound (E : eT) (N : Nat) (p1 : Int32) (a : aT) : XP qI E md_W_hitsInRound 0 [.ref 21, .int p1, .null, .null, .null] [] a (f_W_hitsInRound N p1 a) := by
  refine XP_go (pc' := 1) (ls' := [.ref 21, .int p1, .null, .null, .null]) (st' := [.ref 21]) (a' := a) [(.aload_n 0, 1, 0, .null)] (by decide +kernel) rfl ?_
  refine XP_VP (As := []) (rest := []) (b := 21) (idx := 30) (by decide +kernel) ok_W_roundLength mv_W_roundLength (n := 0) ⟨lk_W_30, by decide +kernel⟩ rfl rfl rfl rfl (Nat.le_of_ble_eq_true rfl) (Nat.le_of_ble_eq_true rfl) (qI_h rfl) (x_W_roundLength E N a) (fun q1 => ?_)
  refine XP_go (pc' := 10) (ls' := [.ref 21, .int p1, .int q1, .int 0, .int 0]) (st' := []) (a' := a) [(.istore_n 2, 1, 2, .null), (.iconst 0, 1, 0, .int 0), (.istore_n 3, 1, 3, .null), (.iconst 0, 1, 0, .int 0), (.istore 4, 2, 4, .null)] (by decide +kernel) rfl ?_
  refine XP_fg [true, true, true, true, true] ?_
  exact x_W_hitsInRound_10 E N a N p1 q1 0 0
/-! ChestnutSticks.hit(II)I -/
def md_C_hit : md_T := (yX10_hit, cX10_hit, 3, (some .int), 3, 71)
set_option maxRecDepth 100000 in
theorem ok_C_hit : m_ok md_C_hit := ⟨List.mem_of_getElem? (i := 741) (by decide +kernel), by decide +kernel, List.mem_of_getElem? (i := 53) (by decide +kernel), by decide +kernel⟩
theorem mv_C_hit : Cond.instanceMethod (m_y md_C_hit) ∈ lw_tbl ∧ Cond.selects (m_y md_C_hit).cls (m_y md_C_hit) (m_y md_C_hit) ∈ lw_tbl := ⟨List.mem_of_getElem? (i := 739) (by decide +kernel), List.mem_of_getElem? (i := 740) (by decide +kernel)⟩
def f_C_hit (N : Nat) (p1 : Int32) (p2 : Int32) (a : aT) : Option Int32 :=
  if p1 < 1 then
    some (-2)
  else
    if 20 < p1 then
      some (-2)
    else
      if (f_C_isBelow p2 2) = 0 then
        some (-2)
      else
        if p2 = 0 then
          (f_W_hitsInRound N p1 a).bind fun q2 =>
            some q2
        else
          (f_W_roundLength N a).bind fun q3 =>
            some q3
set_option maxHeartbeats 4000000 in
set_option maxRecDepth 100000 in
theorem x_C_hit (E : eT) (N : Nat) (p1 : Int32) (p2 : Int32) (a : aT) : XP qI E md_C_hit 0 [.ref 0, .int p1, .int p2] [] a (f_C_hit N p1 p2 a) := by
  refine XP_br (c := p1 < 1) (t := 19) (e := 5) (ls' := [.ref 0, .int p1, .int p2]) (st' := []) (a' := a) [(.iload_n 1, 1, 1, .null), (.iconst 1, 1, 0, .int 1), (.if_icmp .lt 17, 3, 19, .null)] (by decide +kernel) rfl ?_ ?_
  · refine XP_go (pc' := 21) (ls' := [.ref 0, .int p1, .int p2]) (st' := [.int (-2)]) (a' := a) [(.bipush (-2), 2, 0, .int (-2))] (by decide +kernel) rfl ?_
    exact XP_retI (by decide +kernel)
  · refine XP_br (c := 20 < p1) (t := 19) (e := 11) (ls' := [.ref 0, .int p1, .int p2]) (st' := []) (a' := a) [(.iload_n 1, 1, 1, .null), (.bipush 20, 2, 0, .int 20), (.if_icmp .gt 11, 3, 19, .null)] (by decide +kernel) rfl ?_ ?_
    · refine XP_go (pc' := 21) (ls' := [.ref 0, .int p1, .int p2]) (st' := [.int (-2)]) (a' := a) [(.bipush (-2), 2, 0, .int (-2))] (by decide +kernel) rfl ?_
      exact XP_retI (by decide +kernel)
    · refine XP_go (pc' := 13) (ls' := [.ref 0, .int p1, .int p2]) (st' := [.int 2, .int p2]) (a' := a) [(.iload_n 2, 1, 2, .null), (.iconst 2, 1, 0, .int 2)] (by decide +kernel) rfl ?_
      refine XP_ST (As := [.int p2, .int 2]) (rest := []) (idx := 110) (by decide +kernel) ok_C_isBelow mv_C_isBelow (n := 2) ⟨lk_C_110, by decide +kernel⟩ rfl (Nat.le_of_ble_eq_true rfl) (Nat.le_of_ble_eq_true rfl) (qZ_h rfl) (x_C_isBelow E p2 2 a) ?_
      refine XP_br (c := (f_C_isBelow p2 2) = 0) (t := 19) (e := 22) (ls' := [.ref 0, .int p1, .int p2]) (st' := []) (a' := a) [(.ifCond .ne 6, 3, 22, .null)] (by decide +kernel) rfl ?_ ?_
      · refine XP_go (pc' := 21) (ls' := [.ref 0, .int p1, .int p2]) (st' := [.int (-2)]) (a' := a) [(.bipush (-2), 2, 0, .int (-2))] (by decide +kernel) rfl ?_
        exact XP_retI (by decide +kernel)
      · refine XP_br (c := p2 = 0) (t := 26) (e := 37) (ls' := [.ref 0, .int p1, .int p2]) (st' := []) (a' := a) [(.iload_n 2, 1, 2, .null), (.ifCond .ne 14, 3, 37, .null)] (by decide +kernel) rfl ?_ ?_
        · refine XP_go (pc' := 31) (ls' := [.ref 0, .int p1, .int p2]) (st' := [.int p1, .ref 21]) (a' := a) [(.aload_n 0, 1, 0, .null), (.getfield 65, 3, 1007, .null), (.iload_n 1, 1, 1, .null)] (by decide +kernel) rfl ?_
          refine XP_VP (As := [.int p1]) (rest := []) (b := 21) (idx := 226) (by decide +kernel) ok_W_hitsInRound mv_W_hitsInRound (n := 1) ⟨lk_C_226, by decide +kernel⟩ rfl rfl rfl rfl (Nat.le_of_ble_eq_true rfl) (Nat.le_of_ble_eq_true rfl) (qI_h rfl) (x_W_hitsInRound E N p1 a) (fun q2 => ?_)
          refine XP_go (pc' := 44) (ls' := [.ref 0, .int p1, .int p2]) (st' := [.int q2]) (a' := a) [(.goto 10, 3, 44, .null)] (by decide +kernel) rfl ?_
          exact XP_retI (by decide +kernel)
        · refine XP_go (pc' := 41) (ls' := [.ref 0, .int p1, .int p2]) (st' := [.ref 21]) (a' := a) [(.aload_n 0, 1, 0, .null), (.getfield 65, 3, 1007, .null)] (by decide +kernel) rfl ?_
          refine XP_VP (As := []) (rest := []) (b := 21) (idx := 229) (by decide +kernel) ok_W_roundLength mv_W_roundLength (n := 0) ⟨lk_C_229, by decide +kernel⟩ rfl rfl rfl rfl (Nat.le_of_ble_eq_true rfl) (Nat.le_of_ble_eq_true rfl) (qI_h rfl) (x_W_roundLength E N a) (fun q3 => ?_)
          exact XP_retI (by decide +kernel)
/-! ChestnutSticksModel.hitOf(II)I -/
def md_M_hitOf : md_T := (yX11_hitOf, cX11_hitOf, 6, (some .int), 1, 25)
set_option maxRecDepth 100000 in
theorem ok_M_hitOf : m_ok md_M_hitOf := ⟨List.mem_of_getElem? (i := 1310) (by decide +kernel), by decide +kernel, List.mem_of_getElem? (i := 64) (by decide +kernel), by decide +kernel⟩
theorem mv_M_hitOf : Cond.instanceMethod (m_y md_M_hitOf) ∈ lw_tbl ∧ Cond.selects (m_y md_M_hitOf).cls (m_y md_M_hitOf) (m_y md_M_hitOf) ∈ lw_tbl := ⟨List.mem_of_getElem? (i := 1309) (by decide +kernel), List.mem_of_getElem? (i := 50) (by decide +kernel)⟩
def f_M_hitOf_47 (N : Nat) (a : aT) (x2 : Int32) (x3 : Int32) (x4 : Int32) : Option Int32 :=
  if x2 = 0 then
    some x4
  else
    some x3
def f_M_hitOf_11 (N : Nat) (a : aT) : Nat → Int32 → Int32 → Int32 → Int32 → Int32 → Option Int32
  | 0 => fun _ _ _ _ _ => none
  | n + 1 => fun x1 x2 x3 x4 x5 =>
    if x3 ≤ x5 then
      f_M_hitOf_47 N a x2 x3 x4
    else
      if x2 = 0 then
        (f_M_isHit N x5 x1 a).bind fun q2 =>
          if q2 = 0 then
            f_M_hitOf_11 N a n x1 x2 x3 (x4 + 0) (x5 + 1)
          else
            f_M_hitOf_11 N a n x1 x2 x3 (x4 + 1) (x5 + 1)
      else
        f_M_hitOf_47 N a x2 x3 x4
def f_M_hitOf (N : Nat) (p1 : Int32) (p2 : Int32) (a : aT) : Option Int32 :=
  (f_M_round N a).bind fun q1 =>
    f_M_hitOf_11 N a N p1 p2 q1 0 0
set_option maxHeartbeats 4000000 in
set_option maxRecDepth 100000 in
theorem x_M_hitOf_47 (E : eT) (N : Nat) (a : aT) (x2 : Int32) (x3 : Int32) (x4 : Int32) : XP qI E md_M_hitOf 47 [.null, .null, .int x2, .int x3, .int x4, .null] [] a (f_M_hitOf_47 N a x2 x3 x4) := by
  refine XP_br (c := x2 = 0) (t := 51) (e := 56) (ls' := [.null, .null, .int x2, .int x3, .int x4, .null]) (st' := []) (a' := a) [(.iload_n 2, 1, 2, .null), (.ifCond .ne 8, 3, 56, .null)] (by decide +kernel) rfl ?_ ?_
  · refine XP_go (pc' := 57) (ls' := [.null, .null, .int x2, .int x3, .int x4, .null]) (st' := [.int x4]) (a' := a) [(.iload 4, 2, 4, .null), (.goto 4, 3, 57, .null)] (by decide +kernel) rfl ?_
    exact XP_retI (by decide +kernel)
  · refine XP_go (pc' := 57) (ls' := [.null, .null, .int x2, .int x3, .int x4, .null]) (st' := [.int x3]) (a' := a) [(.iload_n 3, 1, 3, .null)] (by decide +kernel) rfl ?_
    exact XP_retI (by decide +kernel)
set_option maxHeartbeats 4000000 in
set_option maxRecDepth 100000 in
theorem x_M_hitOf_11 (E : eT) (N : Nat) (a : aT) : ∀ (n : Nat) (x1 : Int32) (x2 : Int32) (x3 : Int32) (x4 : Int32) (x5 : Int32), XP qI E md_M_hitOf 11 [.ref 31, .int x1, .int x2, .int x3, .int x4, .int x5] [] a (f_M_hitOf_11 N a n x1 x2 x3 x4 x5)
  | 0, _, _, _, _, _ => XP_no rfl
  | n + 1, x1, x2, x3, x4, x5 => by
    refine XP_br (c := x3 ≤ x5) (t := 47) (e := 17) (ls' := [.ref 31, .int x1, .int x2, .int x3, .int x4, .int x5]) (st' := []) (a' := a) [(.iload 5, 2, 5, .null), (.iload_n 3, 1, 3, .null), (.if_icmp .ge 33, 3, 47, .null)] (by decide +kernel) rfl ?_ ?_
    · refine XP_fg [false, false, true, true, true, false] ?_
      exact x_M_hitOf_47 E N a x2 x3 x4
    · refine XP_br (c := x2 = 0) (t := 21) (e := 47) (ls' := [.ref 31, .int x1, .int x2, .int x3, .int x4, .int x5]) (st' := []) (a' := a) [(.iload_n 2, 1, 2, .null), (.ifCond .ne 29, 3, 47, .null)] (by decide +kernel) rfl ?_ ?_
      · refine XP_go (pc' := 27) (ls' := [.ref 31, .int x1, .int x2, .int x3, .int x4, .int x5]) (st' := [.int x1, .int x5, .ref 31, .int x4]) (a' := a) [(.iload 4, 2, 4, .null), (.aload_n 0, 1, 0, .null), (.iload 5, 2, 5, .null), (.iload_n 1, 1, 1, .null)] (by decide +kernel) rfl ?_
        refine XP_VP (As := [.int x5, .int x1]) (rest := [.int x4]) (b := 31) (idx := 284) (by decide +kernel) ok_M_isHit mv_M_isHit (n := 2) ⟨lk_M_284, by decide +kernel⟩ rfl rfl rfl rfl (Nat.le_of_ble_eq_true rfl) (Nat.le_of_ble_eq_true rfl) (qZ_h rfl) (x_M_isHit E N x5 x1 a) (fun q2 => ?_)
        refine XP_br (c := q2 = 0) (t := 37) (e := 33) (ls' := [.ref 31, .int x1, .int x2, .int x3, .int x4, .int x5]) (st' := [.int x4]) (a' := a) [(.ifCond .eq 7, 3, 37, .null)] (by decide +kernel) rfl ?_ ?_
        · refine XP_go (pc' := 11) (ls' := [.ref 31, .int x1, .int x2, .int x3, .int (x4 + 0), .int (x5 + 1)]) (st' := []) (a' := a) [(.iconst 0, 1, 0, .int 0), (.iadd, 1, 0, .null), (.istore 4, 2, 4, .null), (.iinc 5 1, 3, 5, .int 1), (.goto (-33), 3, 11, .null)] (by decide +kernel) rfl ?_
          refine XP_fg [true, true, true, true, true, true] ?_
          exact x_M_hitOf_11 E N a n x1 x2 x3 (x4 + 0) (x5 + 1)
        · refine XP_go (pc' := 11) (ls' := [.ref 31, .int x1, .int x2, .int x3, .int (x4 + 1), .int (x5 + 1)]) (st' := []) (a' := a) [(.iconst 1, 1, 0, .int 1), (.goto 4, 3, 38, .null), (.iadd, 1, 0, .null), (.istore 4, 2, 4, .null), (.iinc 5 1, 3, 5, .int 1), (.goto (-33), 3, 11, .null)] (by decide +kernel) rfl ?_
          refine XP_fg [true, true, true, true, true, true] ?_
          exact x_M_hitOf_11 E N a n x1 x2 x3 (x4 + 1) (x5 + 1)
      · refine XP_fg [false, false, true, true, true, false] ?_
        exact x_M_hitOf_47 E N a x2 x3 x4
set_option maxHeartbeats 4000000 in
set_option maxRecDepth 100000 in
theorem x_M_hitOf (E : eT) (N : Nat) (p1 : Int32) (p2 : Int32) (a : aT) : XP qI E md_M_hitOf 0 [.ref 31, .int p1, .int p2, .null, .null, .null] [] a (f_M_hitOf N p1 p2 a) := by
  refine XP_go (pc' := 1) (ls' := [.ref 31, .int p1, .int p2, .null, .null, .null]) (st' := [.ref 31]) (a' := a) [(.aload_n 0, 1, 0, .null)] (by decide +kernel) rfl ?_
  refine XP_VP (As := []) (rest := []) (b := 31) (idx := 281) (by decide +kernel) ok_M_round mv_M_round (n := 0) ⟨lk_M_281, by decide +kernel⟩ rfl rfl rfl rfl (Nat.le_of_ble_eq_true rfl) (Nat.le_of_ble_eq_true rfl) (qI_h rfl) (x_M_round E N a) (fun q1 => ?_)
  refine XP_go (pc' := 11) (ls' := [.ref 31, .int p1, .int p2, .int q1, .int 0, .int 0]) (st' := []) (a' := a) [(.istore_n 3, 1, 3, .null), (.iconst 0, 1, 0, .int 0), (.istore 4, 2, 4, .null), (.iconst 0, 1, 0, .int 0), (.istore 5, 2, 5, .null)] (by decide +kernel) rfl ?_
  refine XP_fg [true, true, true, true, true, true] ?_
  exact x_M_hitOf_11 E N a N p1 p2 q1 0 0
/-! ChestnutSticksModel.hit(II)I -/
def md_M_hit : md_T := (yX11_hit, cX11_hit, 3, (some .int), 2, 50)
set_option maxRecDepth 100000 in
theorem ok_M_hit : m_ok md_M_hit := ⟨List.mem_of_getElem? (i := 1306) (by decide +kernel), by decide +kernel, List.mem_of_getElem? (i := 64) (by decide +kernel), by decide +kernel⟩
theorem mv_M_hit : Cond.instanceMethod (m_y md_M_hit) ∈ lw_tbl ∧ Cond.selects (m_y md_M_hit).cls (m_y md_M_hit) (m_y md_M_hit) ∈ lw_tbl := ⟨List.mem_of_getElem? (i := 1304) (by decide +kernel), List.mem_of_getElem? (i := 1305) (by decide +kernel)⟩
def f_M_hit (N : Nat) (p1 : Int32) (p2 : Int32) (a : aT) : Option Int32 :=
  if (f_M_in p1.toInt64 1 20) = 0 then
    some (-2)
  else
    if (f_M_isTwo p2) = 0 then
      some (-2)
    else
      (f_M_hitOf N p1 p2 a).bind fun q3 =>
        some q3
set_option maxHeartbeats 4000000 in
set_option maxRecDepth 100000 in
theorem x_M_hit (E : eT) (N : Nat) (p1 : Int32) (p2 : Int32) (a : aT) : XP qI E md_M_hit 0 [.ref 31, .int p1, .int p2] [] a (f_M_hit N p1 p2 a) := by
  refine XP_go (pc' := 6) (ls' := [.ref 31, .int p1, .int p2]) (st' := [.long 20, .long 1, .long p1.toInt64]) (a' := a) [(.iload_n 1, 1, 1, .null), (.i2l, 1, 0, .null), (.lconst 1, 1, 0, .long 1), (.ldc2_w 276, 3, 0, .long 20)] (by decide +kernel) rfl ?_
  refine XP_ST (As := [.long p1.toInt64, .long 1, .long 20]) (rest := []) (idx := 74) (by decide +kernel) ok_M_in mv_M_in (n := 3) ⟨lk_M_74, by decide +kernel⟩ rfl (Nat.le_of_ble_eq_true rfl) (Nat.le_of_ble_eq_true rfl) (qZ_h rfl) (x_M_in E p1.toInt64 1 20 a) ?_
  refine XP_br (c := (f_M_in p1.toInt64 1 20) = 0) (t := 28) (e := 12) (ls' := [.ref 31, .int p1, .int p2]) (st' := []) (a' := a) [(.ifCond .eq 19, 3, 28, .null)] (by decide +kernel) rfl ?_ ?_
  · refine XP_go (pc' := 30) (ls' := [.ref 31, .int p1, .int p2]) (st' := [.int (-2)]) (a' := a) [(.bipush (-2), 2, 0, .int (-2))] (by decide +kernel) rfl ?_
    exact XP_retI (by decide +kernel)
  · refine XP_go (pc' := 13) (ls' := [.ref 31, .int p1, .int p2]) (st' := [.int p2]) (a' := a) [(.iload_n 2, 1, 2, .null)] (by decide +kernel) rfl ?_
    refine XP_ST (As := [.int p2]) (rest := []) (idx := 252) (by decide +kernel) ok_M_isTwo mv_M_isTwo (n := 1) ⟨lk_M_252, by decide +kernel⟩ rfl (Nat.le_of_ble_eq_true rfl) (Nat.le_of_ble_eq_true rfl) (qZ_h rfl) (x_M_isTwo E p2 a) ?_
    refine XP_br (c := (f_M_isTwo p2) = 0) (t := 28) (e := 19) (ls' := [.ref 31, .int p1, .int p2]) (st' := []) (a' := a) [(.ifCond .eq 12, 3, 28, .null)] (by decide +kernel) rfl ?_ ?_
    · refine XP_go (pc' := 30) (ls' := [.ref 31, .int p1, .int p2]) (st' := [.int (-2)]) (a' := a) [(.bipush (-2), 2, 0, .int (-2))] (by decide +kernel) rfl ?_
      exact XP_retI (by decide +kernel)
    · refine XP_go (pc' := 22) (ls' := [.ref 31, .int p1, .int p2]) (st' := [.int p2, .int p1, .ref 31]) (a' := a) [(.aload_n 0, 1, 0, .null), (.iload_n 1, 1, 1, .null), (.iload_n 2, 1, 2, .null)] (by decide +kernel) rfl ?_
      refine XP_VP (As := [.int p1, .int p2]) (rest := []) (b := 31) (idx := 292) (by decide +kernel) ok_M_hitOf mv_M_hitOf (n := 2) ⟨lk_M_292, by decide +kernel⟩ rfl rfl rfl rfl (Nat.le_of_ble_eq_true rfl) (Nat.le_of_ble_eq_true rfl) (qI_h rfl) (x_M_hitOf E N p1 p2 a) (fun q3 => ?_)
      refine XP_go (pc' := 30) (ls' := [.ref 31, .int p1, .int p2]) (st' := [.int q3]) (a' := a) [(.goto 5, 3, 30, .null)] (by decide +kernel) rfl ?_
      exact XP_retI (by decide +kernel)
/-! ChestnutSticks$Sightings.append(II)I -/
def md_G_append : md_T := (yX5_append, cX5_append, 3, (some .int), 1, 21)
set_option maxRecDepth 100000 in
theorem ok_G_append : m_ok md_G_append := ⟨List.mem_of_getElem? (i := 754) (by decide +kernel), by decide +kernel, List.mem_of_getElem? (i := 62) (by decide +kernel), by decide +kernel⟩
theorem mv_G_append : Cond.instanceMethod (m_y md_G_append) ∈ lw_tbl ∧ Cond.selects (m_y md_G_append).cls (m_y md_G_append) (m_y md_G_append) ∈ lw_tbl := ⟨List.mem_of_getElem? (i := 752) (by decide +kernel), List.mem_of_getElem? (i := 753) (by decide +kernel)⟩
def f_G_append (p1 : Int32) (p2 : Int32) (a : aT) : Option (Int32 × aT) :=
  if (f_C_isBelow p1 20) = 0 then
    some ((-2), a)
  else
    if (f_C_isBelow p2 10) = 0 then
      some ((-2), a)
    else
      if (f_C_isBelow (a 24 2) 8) = 0 then
        some ((-4), a)
      else
        if inb (a 24 2) 8 then
          if inb (a 24 2) 8 then
            some (((a 24 2) + 1), (upA (upA (upA a 25 (ix (a 24 2)) p1) 26 (ix (a 24 2)) p2) 24 2 ((a 24 2) + 1)))
          else none
        else none
set_option maxHeartbeats 4000000 in
set_option maxRecDepth 100000 in
theorem x_G_append (E : eT) (p1 : Int32) (p2 : Int32) (a : aT) : XI qI E md_G_append 0 [.ref 24, .int p1, .int p2] [] a (f_G_append p1 p2 a) := by
  refine XI_go (pc' := 3) (ls' := [.ref 24, .int p1, .int p2]) (st' := [.int 20, .int p1]) (a' := a) [(.iload_n 1, 1, 1, .null), (.bipush 20, 2, 0, .int 20)] (by decide +kernel) rfl ?_
  refine XI_SNT (As := [.int p1, .int 20]) (rest := []) (idx := 22) (by decide +kernel) ok_C_isBelow mv_C_isBelow (n := 2) ⟨lk_G_22, by decide +kernel⟩ rfl (Nat.le_of_ble_eq_true rfl) (Nat.le_of_ble_eq_true rfl) (qZ_h rfl) (x_C_isBelow E p1 20 a) ?_
  refine XI_br (c := (f_C_isBelow p1 20) = 0) (t := 18) (e := 9) (ls' := [.ref 24, .int p1, .int p2]) (st' := []) (a' := a) [(.ifCond .eq 12, 3, 18, .null)] (by decide +kernel) rfl ?_ ?_
  · refine XI_go (pc' := 20) (ls' := [.ref 24, .int p1, .int p2]) (st' := [.int (-2)]) (a' := a) [(.bipush (-2), 2, 0, .int (-2))] (by decide +kernel) rfl ?_
    exact XI_retI (by decide +kernel)
  · refine XI_go (pc' := 12) (ls' := [.ref 24, .int p1, .int p2]) (st' := [.int 10, .int p2]) (a' := a) [(.iload_n 2, 1, 2, .null), (.bipush 10, 2, 0, .int 10)] (by decide +kernel) rfl ?_
    refine XI_SNT (As := [.int p2, .int 10]) (rest := []) (idx := 22) (by decide +kernel) ok_C_isBelow mv_C_isBelow (n := 2) ⟨lk_G_22, by decide +kernel⟩ rfl (Nat.le_of_ble_eq_true rfl) (Nat.le_of_ble_eq_true rfl) (qZ_h rfl) (x_C_isBelow E p2 10 a) ?_
    refine XI_br (c := (f_C_isBelow p2 10) = 0) (t := 18) (e := 21) (ls' := [.ref 24, .int p1, .int p2]) (st' := []) (a' := a) [(.ifCond .ne 6, 3, 21, .null)] (by decide +kernel) rfl ?_ ?_
    · refine XI_go (pc' := 20) (ls' := [.ref 24, .int p1, .int p2]) (st' := [.int (-2)]) (a' := a) [(.bipush (-2), 2, 0, .int (-2))] (by decide +kernel) rfl ?_
      exact XI_retI (by decide +kernel)
    · refine XI_go (pc' := 27) (ls' := [.ref 24, .int p1, .int p2]) (st' := [.int 8, .int (a 24 2)]) (a' := a) [(.aload_n 0, 1, 0, .null), (.getfield 18, 3, 502, .null), (.bipush 8, 2, 0, .int 8)] (by decide +kernel) rfl ?_
      refine XI_SNT (As := [.int (a 24 2), .int 8]) (rest := []) (idx := 22) (by decide +kernel) ok_C_isBelow mv_C_isBelow (n := 2) ⟨lk_G_22, by decide +kernel⟩ rfl (Nat.le_of_ble_eq_true rfl) (Nat.le_of_ble_eq_true rfl) (qZ_h rfl) (x_C_isBelow E (a 24 2) 8 a) ?_
      refine XI_br (c := (f_C_isBelow (a 24 2) 8) = 0) (t := 33) (e := 36) (ls' := [.ref 24, .int p1, .int p2]) (st' := []) (a' := a) [(.ifCond .ne 6, 3, 36, .null)] (by decide +kernel) rfl ?_ ?_
      · refine XI_go (pc' := 35) (ls' := [.ref 24, .int p1, .int p2]) (st' := [.int (-4)]) (a' := a) [(.bipush (-4), 2, 0, .int (-4))] (by decide +kernel) rfl ?_
        exact XI_retI (by decide +kernel)
      · refine XI_ck (c := inb (a 24 2) 8) (pc' := 46) (ls' := [.ref 24, .int p1, .int p2]) (st' := []) (a' := (upA a 25 (ix (a 24 2)) p1)) [(.aload_n 0, 1, 0, .null), (.getfield 9, 3, 500, .null), (.aload_n 0, 1, 0, .null), (.getfield 18, 3, 502, .null), (.iload_n 1, 1, 1, .null), (.iastore, 1, 0, .null)] (by decide +kernel) rfl ?_
        refine XI_ck (c := inb (a 24 2) 8) (pc' := 56) (ls' := [.ref 24, .int p1, .int p2]) (st' := []) (a' := (upA (upA a 25 (ix (a 24 2)) p1) 26 (ix (a 24 2)) p2)) [(.aload_n 0, 1, 0, .null), (.getfield 15, 3, 501, .null), (.aload_n 0, 1, 0, .null), (.getfield 18, 3, 502, .null), (.iload_n 2, 1, 2, .null), (.iastore, 1, 0, .null)] (by decide +kernel) rfl ?_
        refine XI_go (pc' := 70) (ls' := [.ref 24, .int p1, .int p2]) (st' := [.int ((a 24 2) + 1)]) (a' := (upA (upA (upA a 25 (ix (a 24 2)) p1) 26 (ix (a 24 2)) p2) 24 2 ((a 24 2) + 1))) [(.aload_n 0, 1, 0, .null), (.dup, 1, 0, .null), (.getfield 18, 3, 502, .null), (.iconst 1, 1, 0, .int 1), (.iadd, 1, 0, .null), (.putfield 18, 3, 502, .int 0), (.aload_n 0, 1, 0, .null), (.getfield 18, 3, 502, .null)] (by decide +kernel) rfl ?_
        exact XI_retI (by decide +kernel)
/-! ChestnutSticks.seen(II)I -/
def md_C_seen : md_T := (yX10_seen, cX10_seen, 3, (some .int), 2, 43)
set_option maxRecDepth 100000 in
theorem ok_C_seen : m_ok md_C_seen := ⟨List.mem_of_getElem? (i := 750) (by decide +kernel), by decide +kernel, List.mem_of_getElem? (i := 53) (by decide +kernel), by decide +kernel⟩
theorem mv_C_seen : Cond.instanceMethod (m_y md_C_seen) ∈ lw_tbl ∧ Cond.selects (m_y md_C_seen).cls (m_y md_C_seen) (m_y md_C_seen) ∈ lw_tbl := ⟨List.mem_of_getElem? (i := 748) (by decide +kernel), List.mem_of_getElem? (i := 749) (by decide +kernel)⟩
def f_C_seen (p1 : Int32) (p2 : Int32) (a : aT) : Option (Int32 × aT) :=
  (f_G_append p1 p2 a).bind fun q1 =>
    some (q1.1, q1.2)
set_option maxHeartbeats 4000000 in
set_option maxRecDepth 100000 in
theorem x_C_seen (E : eT) (p1 : Int32) (p2 : Int32) (a : aT) : XI qI E md_C_seen 0 [.ref 0, .int p1, .int p2] [] a (f_C_seen p1 p2 a) := by
  refine XI_go (pc' := 6) (ls' := [.ref 0, .int p1, .int p2]) (st' := [.int p2, .int p1, .ref 24]) (a' := a) [(.aload_n 0, 1, 0, .null), (.getfield 72, 3, 1008, .null), (.iload_n 1, 1, 1, .null), (.iload_n 2, 1, 2, .null)] (by decide +kernel) rfl ?_
  refine XI_VI (As := [.int p1, .int p2]) (rest := []) (b := 24) (idx := 232) (by decide +kernel) ok_G_append mv_G_append (n := 2) ⟨lk_C_232, by decide +kernel⟩ rfl rfl rfl rfl (Nat.le_of_ble_eq_true rfl) (Nat.le_of_ble_eq_true rfl) (qI_h rfl) (x_G_append E p1 p2 a) (fun q1 => ?_)
  exact XI_retI (by decide +kernel)
