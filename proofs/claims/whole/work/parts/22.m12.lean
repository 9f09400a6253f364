/-! ChestnutSticksModel.seen(II)I -/
def md_M_seen : md_T := (yX11_seen, cX11_seen, 3, (some .int), 1, 25)
set_option maxRecDepth 100000 in
theorem ok_M_seen : m_ok md_M_seen := ⟨List.mem_of_getElem? (i := 1314) (by decide +kernel), by decide +kernel, List.mem_of_getElem? (i := 64) (by decide +kernel), by decide +kernel⟩
theorem mv_M_seen : Cond.instanceMethod (m_y md_M_seen) ∈ lw_tbl ∧ Cond.selects (m_y md_M_seen).cls (m_y md_M_seen) (m_y md_M_seen) ∈ lw_tbl := ⟨List.mem_of_getElem? (i := 1312) (by decide +kernel), List.mem_of_getElem? (i := 1313) (by decide +kernel)⟩
def f_M_seen (p1 : Int32) (p2 : Int32) (a : aT) : Option (Int32 × aT) :=
  if (f_M_in p1.toInt64 0 19) = 0 then
    some ((-2), a)
  else
    if (f_M_in p2.toInt64 0 9) = 0 then
      some ((-2), a)
    else
      if (a 31 31) = 8 then
        some ((-4), a)
      else
        if inb (2 * (a 31 31)) 16 then
          if inb ((2 * (a 31 31)) + 1) 16 then
            some (((a 31 31) + 1), (upA (upA (upA a 50 (ix (2 * (a 31 31))) p1) 50 (ix ((2 * (a 31 31)) + 1)) p2) 31 31 ((a 31 31) + 1)))
          else none
        else none
set_option maxHeartbeats 4000000 in
set_option maxRecDepth 100000 in
theorem x_M_seen (E : eT) (p1 : Int32) (p2 : Int32) (a : aT) : XI qI E md_M_seen 0 [.ref 31, .int p1, .int p2] [] a (f_M_seen p1 p2 a) := by
  refine XI_go (pc' := 6) (ls' := [.ref 31, .int p1, .int p2]) (st' := [.long 19, .long 0, .long p1.toInt64]) (a' := a) [(.iload_n 1, 1, 1, .null), (.i2l, 1, 0, .null), (.lconst 0, 1, 0, .long 0), (.ldc2_w 295, 3, 0, .long 19)] (by decide +kernel) rfl ?_
  refine XI_ST (As := [.long p1.toInt64, .long 0, .long 19]) (rest := []) (idx := 74) (by decide +kernel) ok_M_in mv_M_in (n := 3) ⟨lk_M_74, by decide +kernel⟩ rfl (Nat.le_of_ble_eq_true rfl) (Nat.le_of_ble_eq_true rfl) (qZ_h rfl) (x_M_in E p1.toInt64 0 19 a) ?_
  refine XI_br (c := (f_M_in p1.toInt64 0 19) = 0) (t := 24) (e := 12) (ls' := [.ref 31, .int p1, .int p2]) (st' := []) (a' := a) [(.ifCond .eq 15, 3, 24, .null)] (by decide +kernel) rfl ?_ ?_
  · refine XI_go (pc' := 26) (ls' := [.ref 31, .int p1, .int p2]) (st' := [.int (-2)]) (a' := a) [(.bipush (-2), 2, 0, .int (-2))] (by decide +kernel) rfl ?_
    exact XI_retI (by decide +kernel)
  · refine XI_go (pc' := 18) (ls' := [.ref 31, .int p1, .int p2]) (st' := [.long 9, .long 0, .long p2.toInt64]) (a' := a) [(.iload_n 2, 1, 2, .null), (.i2l, 1, 0, .null), (.lconst 0, 1, 0, .long 0), (.ldc2_w 136, 3, 0, .long 9)] (by decide +kernel) rfl ?_
    refine XI_ST (As := [.long p2.toInt64, .long 0, .long 9]) (rest := []) (idx := 74) (by decide +kernel) ok_M_in mv_M_in (n := 3) ⟨lk_M_74, by decide +kernel⟩ rfl (Nat.le_of_ble_eq_true rfl) (Nat.le_of_ble_eq_true rfl) (qZ_h rfl) (x_M_in E p2.toInt64 0 9 a) ?_
    refine XI_br (c := (f_M_in p2.toInt64 0 9) = 0) (t := 24) (e := 27) (ls' := [.ref 31, .int p1, .int p2]) (st' := []) (a' := a) [(.ifCond .ne 6, 3, 27, .null)] (by decide +kernel) rfl ?_ ?_
    · refine XI_go (pc' := 26) (ls' := [.ref 31, .int p1, .int p2]) (st' := [.int (-2)]) (a' := a) [(.bipush (-2), 2, 0, .int (-2))] (by decide +kernel) rfl ?_
      exact XI_retI (by decide +kernel)
    · refine XI_br (c := (a 31 31) = 8) (t := 36) (e := 39) (ls' := [.ref 31, .int p1, .int p2]) (st' := []) (a' := a) [(.aload_n 0, 1, 0, .null), (.getfield 297, 3, 1131, .null), (.bipush 8, 2, 0, .int 8), (.if_icmp .ne 6, 3, 39, .null)] (by decide +kernel) rfl ?_ ?_
      · refine XI_go (pc' := 38) (ls' := [.ref 31, .int p1, .int p2]) (st' := [.int (-4)]) (a' := a) [(.bipush (-4), 2, 0, .int (-4))] (by decide +kernel) rfl ?_
        exact XI_retI (by decide +kernel)
      · refine XI_ck (c := inb (2 * (a 31 31)) 16) (pc' := 51) (ls' := [.ref 31, .int p1, .int p2]) (st' := []) (a' := (upA a 50 (ix (2 * (a 31 31))) p1)) [(.aload_n 0, 1, 0, .null), (.getfield 65, 3, 1132, .null), (.iconst 2, 1, 0, .int 2), (.aload_n 0, 1, 0, .null), (.getfield 297, 3, 1131, .null), (.imul, 1, 0, .null), (.iload_n 1, 1, 1, .null), (.iastore, 1, 0, .null)] (by decide +kernel) rfl ?_
        refine XI_ck (c := inb ((2 * (a 31 31)) + 1) 16) (pc' := 65) (ls' := [.ref 31, .int p1, .int p2]) (st' := []) (a' := (upA (upA a 50 (ix (2 * (a 31 31))) p1) 50 (ix ((2 * (a 31 31)) + 1)) p2)) [(.aload_n 0, 1, 0, .null), (.getfield 65, 3, 1132, .null), (.iconst 2, 1, 0, .int 2), (.aload_n 0, 1, 0, .null), (.getfield 297, 3, 1131, .null), (.imul, 1, 0, .null), (.iconst 1, 1, 0, .int 1), (.iadd, 1, 0, .null), (.iload_n 2, 1, 2, .null), (.iastore, 1, 0, .null)] (by decide +kernel) rfl ?_
        refine XI_go (pc' := 79) (ls' := [.ref 31, .int p1, .int p2]) (st' := [.int ((a 31 31) + 1)]) (a' := (upA (upA (upA a 50 (ix (2 * (a 31 31))) p1) 50 (ix ((2 * (a 31 31)) + 1)) p2) 31 31 ((a 31 31) + 1))) [(.aload_n 0, 1, 0, .null), (.dup, 1, 0, .null), (.getfield 297, 3, 1131, .null), (.iconst 1, 1, 0, .int 1), (.iadd, 1, 0, .null), (.putfield 297, 3, 1131, .int 0), (.aload_n 0, 1, 0, .null), (.getfield 297, 3, 1131, .null)] (by decide +kernel) rfl ?_
        exact XI_retI (by decide +kernel)
/-! ChestnutSticks$Sightings.empty()I -/
def md_G_empty : md_T := (yX5_empty, cX5_empty, 2, (some .int), 0, 0)
set_option maxRecDepth 100000 in
theorem ok_G_empty : m_ok md_G_empty := ⟨List.mem_of_getElem? (i := 763) (by decide +kernel), by decide +kernel, List.mem_of_getElem? (i := 62) (by decide +kernel), by decide +kernel⟩
theorem mv_G_empty : Cond.instanceMethod (m_y md_G_empty) ∈ lw_tbl ∧ Cond.selects (m_y md_G_empty).cls (m_y md_G_empty) (m_y md_G_empty) ∈ lw_tbl := ⟨List.mem_of_getElem? (i := 761) (by decide +kernel), List.mem_of_getElem? (i := 762) (by decide +kernel)⟩
def f_G_empty (a : aT) : Option (Int32 × aT) :=
  some ((a 24 2), (upA a 24 2 0))
set_option maxHeartbeats 4000000 in
set_option maxRecDepth 100000 in
theorem x_G_empty (E : eT) (a : aT) : XI qI E md_G_empty 0 [.ref 24, .null] [] a (f_G_empty a) := by
  refine XI_go (pc' := 11) (ls' := [.ref 24, .int (a 24 2)]) (st' := [.int (a 24 2)]) (a' := (upA a 24 2 0)) [(.aload_n 0, 1, 0, .null), (.getfield 18, 3, 502, .null), (.istore_n 1, 1, 1, .null), (.aload_n 0, 1, 0, .null), (.iconst 0, 1, 0, .int 0), (.putfield 18, 3, 502, .int 0), (.iload_n 1, 1, 1, .null)] (by decide +kernel) rfl ?_
  exact XI_retI (by decide +kernel)
/-! ChestnutSticks.forget()I -/
def md_C_forget : md_T := (yX10_forget, cX10_forget, 1, (some .int), 1, 21)
set_option maxRecDepth 100000 in
theorem ok_C_forget : m_ok md_C_forget := ⟨List.mem_of_getElem? (i := 759) (by decide +kernel), by decide +kernel, List.mem_of_getElem? (i := 53) (by decide +kernel), by decide +kernel⟩
theorem mv_C_forget : Cond.instanceMethod (m_y md_C_forget) ∈ lw_tbl ∧ Cond.selects (m_y md_C_forget).cls (m_y md_C_forget) (m_y md_C_forget) ∈ lw_tbl := ⟨List.mem_of_getElem? (i := 757) (by decide +kernel), List.mem_of_getElem? (i := 758) (by decide +kernel)⟩
def f_C_forget (a : aT) : Option (Int32 × aT) :=
  (f_G_empty a).bind fun q1 =>
    some (q1.1, q1.2)
set_option maxHeartbeats 4000000 in
set_option maxRecDepth 100000 in
theorem x_C_forget (E : eT) (a : aT) : XI qI E md_C_forget 0 [.ref 0] [] a (f_C_forget a) := by
  refine XI_go (pc' := 4) (ls' := [.ref 0]) (st' := [.ref 24]) (a' := a) [(.aload_n 0, 1, 0, .null), (.getfield 72, 3, 1008, .null)] (by decide +kernel) rfl ?_
  refine XI_VI (As := []) (rest := []) (b := 24) (idx := 233) (by decide +kernel) ok_G_empty mv_G_empty (n := 0) ⟨lk_C_233, by decide +kernel⟩ rfl rfl rfl rfl (Nat.le_of_ble_eq_true rfl) (Nat.le_of_ble_eq_true rfl) (qI_h rfl) (x_G_empty E a) (fun q1 => ?_)
  exact XI_retI (by decide +kernel)
/-! ChestnutSticksModel.forget()I -/
def md_M_forget : md_T := (yX11_forget, cX11_forget, 2, (some .int), 0, 0)
set_option maxRecDepth 100000 in
theorem ok_M_forget : m_ok md_M_forget := ⟨List.mem_of_getElem? (i := 1319) (by decide +kernel), by decide +kernel, List.mem_of_getElem? (i := 64) (by decide +kernel), by decide +kernel⟩
theorem mv_M_forget : Cond.instanceMethod (m_y md_M_forget) ∈ lw_tbl ∧ Cond.selects (m_y md_M_forget).cls (m_y md_M_forget) (m_y md_M_forget) ∈ lw_tbl := ⟨List.mem_of_getElem? (i := 1317) (by decide +kernel), List.mem_of_getElem? (i := 1318) (by decide +kernel)⟩
def f_M_forget (a : aT) : Option (Int32 × aT) :=
  some ((a 31 31), (upA a 31 31 0))
set_option maxHeartbeats 4000000 in
set_option maxRecDepth 100000 in
theorem x_M_forget (E : eT) (a : aT) : XI qI E md_M_forget 0 [.ref 31, .null] [] a (f_M_forget a) := by
  refine XI_go (pc' := 11) (ls' := [.ref 31, .int (a 31 31)]) (st' := [.int (a 31 31)]) (a' := (upA a 31 31 0)) [(.aload_n 0, 1, 0, .null), (.getfield 297, 3, 1131, .null), (.istore_n 1, 1, 1, .null), (.aload_n 0, 1, 0, .null), (.iconst 0, 1, 0, .int 0), (.putfield 297, 3, 1131, .int 0), (.iload_n 1, 1, 1, .null)] (by decide +kernel) rfl ?_
  exact XI_retI (by decide +kernel)
/-! ChestnutSticks$Sightings.fit(LChestnutSticks$Play;I)Z -/
def md_G_fit : md_T := (yX5_fit, cX5_fit, 4, (some .boolean), 2, 42)
set_option maxRecDepth 100000 in
theorem ok_G_fit : m_ok md_G_fit := ⟨List.mem_of_getElem? (i := 771) (by decide +kernel), by decide +kernel, List.mem_of_getElem? (i := 62) (by decide +kernel), by decide +kernel⟩
theorem mv_G_fit : Cond.instanceMethod (m_y md_G_fit) ∈ lw_tbl ∧ Cond.selects (m_y md_G_fit).cls (m_y md_G_fit) (m_y md_G_fit) ∈ lw_tbl := ⟨List.mem_of_getElem? (i := 769) (by decide +kernel), List.mem_of_getElem? (i := 770) (by decide +kernel)⟩
def f_G_fit_2 (N : Nat) (a : aT) : Nat → Int32 → Int32 → Option Int32
  | 0 => fun _ _ => none
  | n + 1 => fun x2 x3 =>
    if (a 24 2) ≤ x3 then
      some 1
    else
      if 8 ≤ x3 then
        some 1
      else
        if inb x3 8 then
          if x2 ≤ (a 25 (ix x3)) then
            f_G_fit_2 N a n x2 (x3 + 1)
          else
            if inb x3 8 then
              (f_P_broughtBy (a 25 (ix x3)) a).bind fun q1 =>
                if inb x3 8 then
                  if q1 = (a 26 (ix x3)) then
                    f_G_fit_2 N a n x2 (x3 + 1)
                  else
                    some 0
                else none
            else none
        else none
def f_G_fit (N : Nat) (p1 : Int32) (a : aT) : Option Int32 :=
  f_G_fit_2 N a N p1 0
set_option maxHeartbeats 4000000 in
set_option maxRecDepth 100000 in
theorem x_G_fit_2 (E : eT) (N : Nat) (a : aT) : ∀ (n : Nat) (x2 : Int32) (x3 : Int32), XP qZ E md_G_fit 2 [.ref 24, .ref 14, .int x2, .int x3] [] a (f_G_fit_2 N a n x2 x3)
  | 0, _, _ => XP_no rfl
  | n + 1, x2, x3 => by
    refine XP_br (c := (a 24 2) ≤ x3) (t := 53) (e := 10) (ls' := [.ref 24, .ref 14, .int x2, .int x3]) (st' := []) (a' := a) [(.iload_n 3, 1, 3, .null), (.aload_n 0, 1, 0, .null), (.getfield 18, 3, 502, .null), (.if_icmp .ge 46, 3, 53, .null)] (by decide +kernel) rfl ?_ ?_
    · refine XP_go (pc' := 54) (ls' := [.ref 24, .ref 14, .int x2, .int x3]) (st' := [.int 1]) (a' := a) [(.iconst 1, 1, 0, .int 1)] (by decide +kernel) rfl ?_
      exact XP_retZ (by decide +kernel) rfl
    · refine XP_br (c := 8 ≤ x3) (t := 53) (e := 16) (ls' := [.ref 24, .ref 14, .int x2, .int x3]) (st' := []) (a' := a) [(.iload_n 3, 1, 3, .null), (.bipush 8, 2, 0, .int 8), (.if_icmp .ge 40, 3, 53, .null)] (by decide +kernel) rfl ?_ ?_
      · refine XP_go (pc' := 54) (ls' := [.ref 24, .ref 14, .int x2, .int x3]) (st' := [.int 1]) (a' := a) [(.iconst 1, 1, 0, .int 1)] (by decide +kernel) rfl ?_
        exact XP_retZ (by decide +kernel) rfl
      · refine XP_ck (c := inb x3 8) (pc' := 22) (ls' := [.ref 24, .ref 14, .int x2, .int x3]) (st' := [.int (a 25 (ix x3))]) (a' := a) [(.aload_n 0, 1, 0, .null), (.getfield 9, 3, 500, .null), (.iload_n 3, 1, 3, .null), (.iaload, 1, 0, .null)] (by decide +kernel) rfl ?_
        refine XP_br (c := x2 ≤ (a 25 (ix x3))) (t := 47) (e := 26) (ls' := [.ref 24, .ref 14, .int x2, .int x3]) (st' := []) (a' := a) [(.iload_n 2, 1, 2, .null), (.if_icmp .ge 24, 3, 47, .null)] (by decide +kernel) rfl ?_ ?_
        · refine XP_go (pc' := 2) (ls' := [.ref 24, .ref 14, .int x2, .int (x3 + 1)]) (st' := []) (a' := a) [(.iinc 3 1, 3, 3, .int 1), (.goto (-48), 3, 2, .null)] (by decide +kernel) rfl ?_
          refine XP_fg [true, true, true, true] ?_
          exact x_G_fit_2 E N a n x2 (x3 + 1)
        · refine XP_ck (c := inb x3 8) (pc' := 33) (ls' := [.ref 24, .ref 14, .int x2, .int x3]) (st' := [.int (a 25 (ix x3)), .ref 14]) (a' := a) [(.aload_n 1, 1, 1, .null), (.aload_n 0, 1, 0, .null), (.getfield 9, 3, 500, .null), (.iload_n 3, 1, 3, .null), (.iaload, 1, 0, .null)] (by decide +kernel) rfl ?_
          refine XP_VP (As := [.int (a 25 (ix x3))]) (rest := []) (b := 14) (idx := 26) (by decide +kernel) ok_P_broughtBy mv_P_broughtBy (n := 1) ⟨lk_G_26, by decide +kernel⟩ rfl rfl rfl rfl (Nat.le_of_ble_eq_true rfl) (Nat.le_of_ble_eq_true rfl) (qI_h rfl) (x_P_broughtBy E (a 25 (ix x3)) a) (fun q1 => ?_)
          refine XP_ck (c := inb x3 8) (pc' := 42) (ls' := [.ref 24, .ref 14, .int x2, .int x3]) (st' := [.int (a 26 (ix x3)), .int q1]) (a' := a) [(.aload_n 0, 1, 0, .null), (.getfield 15, 3, 501, .null), (.iload_n 3, 1, 3, .null), (.iaload, 1, 0, .null)] (by decide +kernel) rfl ?_
          refine XP_br (c := q1 = (a 26 (ix x3))) (t := 47) (e := 45) (ls' := [.ref 24, .ref 14, .int x2, .int x3]) (st' := []) (a' := a) [(.if_icmp .eq 5, 3, 47, .null)] (by decide +kernel) rfl ?_ ?_
          · refine XP_go (pc' := 2) (ls' := [.ref 24, .ref 14, .int x2, .int (x3 + 1)]) (st' := []) (a' := a) [(.iinc 3 1, 3, 3, .int 1), (.goto (-48), 3, 2, .null)] (by decide +kernel) rfl ?_
            refine XP_fg [true, true, true, true] ?_
            exact x_G_fit_2 E N a n x2 (x3 + 1)
          · refine XP_go (pc' := 46) (ls' := [.ref 24, .ref 14, .int x2, .int x3]) (st' := [.int 0]) (a' := a) [(.iconst 0, 1, 0, .int 0)] (by decide +kernel) rfl ?_
            exact XP_retZ (by decide +kernel) rfl
set_option maxHeartbeats 4000000 in
set_option maxRecDepth 100000 in
theorem x_G_fit (E : eT) (N : Nat) (p1 : Int32) (a : aT) : XP qZ E md_G_fit 0 [.ref 24, .ref 14, .int p1, .null] [] a (f_G_fit N p1 a) := by
  refine XP_go (pc' := 2) (ls' := [.ref 24, .ref 14, .int p1, .int 0]) (st' := []) (a' := a) [(.iconst 0, 1, 0, .int 0), (.istore_n 3, 1, 3, .null)] (by decide +kernel) rfl ?_
  refine XP_fg [true, true, true, true] ?_
  exact x_G_fit_2 E N a N p1 0
/-! ChestnutSticks.seeds()I -/
def md_C_seeds : md_T := (yX10_seeds, cX10_seeds, 3, (some .int), 5, 122)
set_option maxRecDepth 100000 in
theorem ok_C_seeds : m_ok md_C_seeds := ⟨List.mem_of_getElem? (i := 767) (by decide +kernel), by decide +kernel, List.mem_of_getElem? (i := 53) (by decide +kernel), by decide +kernel⟩
theorem mv_C_seeds : Cond.instanceMethod (m_y md_C_seeds) ∈ lw_tbl ∧ Cond.selects (m_y md_C_seeds).cls (m_y md_C_seeds) (m_y md_C_seeds) ∈ lw_tbl := ⟨List.mem_of_getElem? (i := 765) (by decide +kernel), List.mem_of_getElem? (i := 766) (by decide +kernel)⟩
def f_C_seeds_4 (N : Nat) : Nat → Int32 → Int32 → aT → Option (Int32 × aT)
  | 0 => fun _ _ _ => none
  | n + 1 => fun x1 x2 a =>
    if 31 ≤ x2 then
      some (x1, a)
    else
      (f_P_replay N (f_O_size a) x2 a).bind fun q2 =>
        (f_G_fit N (f_O_size q2.2) q2.2).bind fun q4 =>
          if q4 = 0 then
            f_C_seeds_4 N n x1 (x2 + 1) q2.2
          else
            f_C_seeds_4 N n (x1 ||| (i_shl 1 x2)) (x2 + 1) q2.2
def f_C_seeds (N : Nat) (a : aT) : Option (Int32 × aT) :=
  f_C_seeds_4 N N 0 0 a
set_option maxHeartbeats 4000000 in
set_option maxRecDepth 100000 in
theorem x_C_seeds_4 (E : eT) (N : Nat) : ∀ (n : Nat) (x1 : Int32) (x2 : Int32) (a : aT), XI qI E md_C_seeds 4 [.ref 0, .int x1, .int x2] [] a (f_C_seeds_4 N n x1 x2 a)
  | 0, _, _, _ => XI_no rfl
  | n + 1, x1, x2, a => by
    refine XI_br (c := 31 ≤ x2) (t := 58) (e := 10) (ls' := [.ref 0, .int x1, .int x2]) (st' := []) (a' := a) [(.iload_n 2, 1, 2, .null), (.bipush 31, 2, 0, .int 31), (.if_icmp .ge 51, 3, 58, .null)] (by decide +kernel) rfl ?_ ?_
    · refine XI_go (pc' := 59) (ls' := [.ref 0, .int x1, .int x2]) (st' := [.int x1]) (a' := a) [(.iload_n 1, 1, 1, .null)] (by decide +kernel) rfl ?_
      exact XI_retI (by decide +kernel)
    · refine XI_go (pc' := 18) (ls' := [.ref 0, .int x1, .int x2]) (st' := [.ref 10, .ref 14]) (a' := a) [(.aload_n 0, 1, 0, .null), (.getfield 49, 3, 1005, .null), (.aload_n 0, 1, 0, .null), (.getfield 40, 3, 1004, .null)] (by decide +kernel) rfl ?_
      refine XI_VT (As := []) (rest := [.ref 14]) (b := 10) (idx := 141) (by decide +kernel) ok_O_size mv_O_size (n := 0) ⟨lk_C_141, by decide +kernel⟩ rfl rfl rfl rfl (Nat.le_of_ble_eq_true rfl) (Nat.le_of_ble_eq_true rfl) (qI_h rfl) (x_O_size E a) ?_
      refine XI_go (pc' := 22) (ls' := [.ref 0, .int x1, .int x2]) (st' := [.int x2, .int (f_O_size a), .ref 14]) (a' := a) [(.iload_n 2, 1, 2, .null)] (by decide +kernel) rfl ?_
      refine XI_VI (As := [.int (f_O_size a), .int x2]) (rest := []) (b := 14) (idx := 147) (by decide +kernel) ok_P_replay mv_P_replay (n := 2) ⟨lk_C_147, by decide +kernel⟩ rfl rfl rfl rfl (Nat.le_of_ble_eq_true rfl) (Nat.le_of_ble_eq_true rfl) (qV_h rfl) (x_P_replay E N (f_O_size a) x2 a) (fun q2 => ?_)
      refine XI_go (pc' := 37) (ls' := [.ref 0, .int x1, .int x2]) (st' := [.ref 10, .ref 14, .ref 24]) (a' := q2.2) [(.aload_n 0, 1, 0, .null), (.getfield 72, 3, 1008, .null), (.aload_n 0, 1, 0, .null), (.getfield 49, 3, 1005, .null), (.aload_n 0, 1, 0, .null), (.getfield 40, 3, 1004, .null)] (by decide +kernel) rfl ?_
      refine XI_VT (As := []) (rest := [.ref 14, .ref 24]) (b := 10) (idx := 141) (by decide +kernel) ok_O_size mv_O_size (n := 0) ⟨lk_C_141, by decide +kernel⟩ rfl rfl rfl rfl (Nat.le_of_ble_eq_true rfl) (Nat.le_of_ble_eq_true rfl) (qI_h rfl) (x_O_size E q2.2) ?_
      refine XI_VP (As := [.ref 14, .int (f_O_size q2.2)]) (rest := []) (b := 24) (idx := 234) (by decide +kernel) ok_G_fit mv_G_fit (n := 2) ⟨lk_C_234, by decide +kernel⟩ rfl rfl rfl rfl (Nat.le_of_ble_eq_true rfl) (Nat.le_of_ble_eq_true rfl) (qZ_h rfl) (x_G_fit E N (f_O_size q2.2) q2.2) (fun q4 => ?_)
      refine XI_br (c := q4 = 0) (t := 52) (e := 46) (ls' := [.ref 0, .int x1, .int x2]) (st' := []) (a' := q2.2) [(.ifCond .eq 9, 3, 52, .null)] (by decide +kernel) rfl ?_ ?_
      · refine XI_go (pc' := 4) (ls' := [.ref 0, .int x1, .int (x2 + 1)]) (st' := []) (a' := q2.2) [(.iinc 2 1, 3, 2, .int 1), (.goto (-51), 3, 4, .null)] (by decide +kernel) rfl ?_
        refine XI_fg [true, true, true] ?_
        exact x_C_seeds_4 E N n x1 (x2 + 1) q2.2
      · refine XI_go (pc' := 4) (ls' := [.ref 0, .int (x1 ||| (i_shl 1 x2)), .int (x2 + 1)]) (st' := []) (a' := q2.2) [(.iload_n 1, 1, 1, .null), (.iconst 1, 1, 0, .int 1), (.iload_n 2, 1, 2, .null), (.ishl, 1, 0, .null), (.ior, 1, 0, .null), (.istore_n 1, 1, 1, .null), (.iinc 2 1, 3, 2, .int 1), (.goto (-51), 3, 4, .null)] (by decide +kernel) rfl ?_
        refine XI_fg [true, true, true] ?_
        exact x_C_seeds_4 E N n (x1 ||| (i_shl 1 x2)) (x2 + 1) q2.2
set_option maxHeartbeats 4000000 in
set_option maxRecDepth 100000 in
theorem x_C_seeds (E : eT) (N : Nat) (a : aT) : XI qI E md_C_seeds 0 [.ref 0, .null, .null] [] a (f_C_seeds N a) := by
  refine XI_go (pc' := 4) (ls' := [.ref 0, .int 0, .int 0]) (st' := []) (a' := a) [(.iconst 0, 1, 0, .int 0), (.istore_n 1, 1, 1, .null), (.iconst 0, 1, 0, .int 0), (.istore_n 2, 1, 2, .null)] (by decide +kernel) rfl ?_
  refine XI_fg [true, true, true] ?_
  exact x_C_seeds_4 E N N 0 0 a
/-! ChestnutSticksModel.seedsNow()I -/
def md_M_seedsNow : md_T := (yX11_seedsNow, cX11_seedsNow, 5, (some .int), 6, 138)
set_option maxRecDepth 100000 in
theorem ok_M_seedsNow : m_ok md_M_seedsNow := ⟨List.mem_of_getElem? (i := 1327) (by decide +kernel), by decide +kernel, List.mem_of_getElem? (i := 64) (by decide +kernel), by decide +kernel⟩
theorem mv_M_seedsNow : Cond.instanceMethod (m_y md_M_seedsNow) ∈ lw_tbl ∧ Cond.selects (m_y md_M_seedsNow).cls (m_y md_M_seedsNow) (m_y md_M_seedsNow) ∈ lw_tbl := ⟨List.mem_of_getElem? (i := 1326) (by decide +kernel), List.mem_of_getElem? (i := 51) (by decide +kernel)⟩
def f_M_seedsNow_24 (N : Nat) (k4 : Int32 → Int32 → aT → Option (Int32 × aT)) : Nat → Int32 → Int32 → Int32 → Int32 → aT → Option (Int32 × aT)
  | 0 => fun _ _ _ _ _ => none
  | n + 1 => fun x1 x2 x3 x4 a =>
    if (a 31 31) ≤ x4 then
      if x3 = 0 then
        k4 (x1 ||| 0) (x2 + 1) a
      else
        k4 (x1 ||| (i_shl 1 x2)) (x2 + 1) a
    else
      if x3 = 0 then
        f_M_seedsNow_24 N k4 n x1 x2 0 (x4 + 1) a
      else
        if inb (2 * x4) 16 then
          if (a 31 18) ≤ (a 50 (ix (2 * x4))) then
            f_M_seedsNow_24 N k4 n x1 x2 1 (x4 + 1) a
          else
            if inb (2 * x4) 16 then
              if inb (a 50 (ix (2 * x4))) 20 then
                if inb ((2 * x4) + 1) 16 then
                  if (a 48 (ix (a 50 (ix (2 * x4))))) = (a 50 (ix ((2 * x4) + 1))) then
                    f_M_seedsNow_24 N k4 n x1 x2 1 (x4 + 1) a
                  else
                    f_M_seedsNow_24 N k4 n x1 x2 0 (x4 + 1) a
                else none
              else none
            else none
        else none
def f_M_seedsNow_4 (N : Nat) : Nat → Int32 → Int32 → aT → Option (Int32 × aT)
  | 0 => fun _ _ _ => none
  | n + 1 => fun x1 x2 a =>
    if 31 ≤ x2 then
      some (x1, a)
    else
      (f_M_throwsAll N x2 (a 31 18) a).bind fun q1 =>
        f_M_seedsNow_24 N (f_M_seedsNow_4 N n) N x1 x2 1 0 q1.2
def f_M_seedsNow (N : Nat) (a : aT) : Option (Int32 × aT) :=
  f_M_seedsNow_4 N N 0 0 a
set_option maxHeartbeats 4000000 in
set_option maxRecDepth 100000 in
theorem x_M_seedsNow_24 (E : eT) (N : Nat) (k4 : Int32 → Int32 → aT → Option (Int32 × aT)) (h4 : ∀ (x1 : Int32) (x2 : Int32) (a : aT), XI qI E md_M_seedsNow 4 [.ref 31, .int x1, .int x2, .null, .null] [] a (k4 x1 x2 a)) : ∀ (n : Nat) (x1 : Int32) (x2 : Int32) (x3 : Int32) (x4 : Int32) (a : aT), XI qI E md_M_seedsNow 24 [.ref 31, .int x1, .int x2, .int x3, .int x4] [] a (f_M_seedsNow_24 N k4 n x1 x2 x3 x4 a)
  | 0, _, _, _, _, _ => XI_no rfl
  | n + 1, x1, x2, x3, x4, a => by
    refine XI_br (c := (a 31 31) ≤ x4) (t := 93) (e := 33) (ls' := [.ref 31, .int x1, .int x2, .int x3, .int x4]) (st' := []) (a' := a) [(.iload 4, 2, 4, .null), (.aload_n 0, 1, 0, .null), (.getfield 297, 3, 1131, .null), (.if_icmp .ge 63, 3, 93, .null)] (by decide +kernel) rfl ?_ ?_
    · refine XI_br (c := x3 = 0) (t := 104) (e := 98) (ls' := [.ref 31, .int x1, .int x2, .int x3, .int x4]) (st' := [.int x1]) (a' := a) [(.iload_n 1, 1, 1, .null), (.iload_n 3, 1, 3, .null), (.ifCond .eq 9, 3, 104, .null)] (by decide +kernel) rfl ?_ ?_
      · refine XI_go (pc' := 4) (ls' := [.ref 31, .int (x1 ||| 0), .int (x2 + 1), .int x3, .int x4]) (st' := []) (a' := a) [(.iconst 0, 1, 0, .int 0), (.ior, 1, 0, .null), (.istore_n 1, 1, 1, .null), (.iinc 2 1, 3, 2, .int 1), (.goto (-106), 3, 4, .null)] (by decide +kernel) rfl ?_
        refine XI_fg [true, true, true, false, false] ?_
        exact h4 (x1 ||| 0) (x2 + 1) a
      · refine XI_go (pc' := 4) (ls' := [.ref 31, .int (x1 ||| (i_shl 1 x2)), .int (x2 + 1), .int x3, .int x4]) (st' := []) (a' := a) [(.iconst 1, 1, 0, .int 1), (.iload_n 2, 1, 2, .null), (.ishl, 1, 0, .null), (.goto 4, 3, 105, .null), (.ior, 1, 0, .null), (.istore_n 1, 1, 1, .null), (.iinc 2 1, 3, 2, .int 1), (.goto (-106), 3, 4, .null)] (by decide +kernel) rfl ?_
        refine XI_fg [true, true, true, false, false] ?_
        exact h4 (x1 ||| (i_shl 1 x2)) (x2 + 1) a
    · refine XI_br (c := x3 = 0) (t := 85) (e := 37) (ls' := [.ref 31, .int x1, .int x2, .int x3, .int x4]) (st' := []) (a' := a) [(.iload_n 3, 1, 3, .null), (.ifCond .eq 51, 3, 85, .null)] (by decide +kernel) rfl ?_ ?_
      · refine XI_go (pc' := 24) (ls' := [.ref 31, .int x1, .int x2, .int 0, .int (x4 + 1)]) (st' := []) (a' := a) [(.iconst 0, 1, 0, .int 0), (.istore_n 3, 1, 3, .null), (.iinc 4 1, 3, 4, .int 1), (.goto (-66), 3, 24, .null)] (by decide +kernel) rfl ?_
        refine XI_fg [true, true, true, true, true] ?_
        exact x_M_seedsNow_24 E N k4 h4 n x1 x2 0 (x4 + 1) a
      · refine XI_ck (c := inb (2 * x4) 16) (pc' := 46) (ls' := [.ref 31, .int x1, .int x2, .int x3, .int x4]) (st' := [.int (a 50 (ix (2 * x4)))]) (a' := a) [(.aload_n 0, 1, 0, .null), (.getfield 65, 3, 1132, .null), (.iconst 2, 1, 0, .int 2), (.iload 4, 2, 4, .null), (.imul, 1, 0, .null), (.iaload, 1, 0, .null)] (by decide +kernel) rfl ?_
        refine XI_br (c := (a 31 18) ≤ (a 50 (ix (2 * x4)))) (t := 81) (e := 53) (ls' := [.ref 31, .int x1, .int x2, .int x3, .int x4]) (st' := []) (a' := a) [(.aload_n 0, 1, 0, .null), (.getfield 150, 3, 1118, .null), (.if_icmp .ge 31, 3, 81, .null)] (by decide +kernel) rfl ?_ ?_
        · refine XI_go (pc' := 24) (ls' := [.ref 31, .int x1, .int x2, .int 1, .int (x4 + 1)]) (st' := []) (a' := a) [(.iconst 1, 1, 0, .int 1), (.goto 4, 3, 86, .null), (.istore_n 3, 1, 3, .null), (.iinc 4 1, 3, 4, .int 1), (.goto (-66), 3, 24, .null)] (by decide +kernel) rfl ?_
          refine XI_fg [true, true, true, true, true] ?_
          exact x_M_seedsNow_24 E N k4 h4 n x1 x2 1 (x4 + 1) a
        · refine XI_ck (c := inb (2 * x4) 16) (pc' := 66) (ls' := [.ref 31, .int x1, .int x2, .int x3, .int x4]) (st' := [.int (a 50 (ix (2 * x4))), .ref 48]) (a' := a) [(.aload_n 0, 1, 0, .null), (.getfield 59, 3, 1123, .null), (.aload_n 0, 1, 0, .null), (.getfield 65, 3, 1132, .null), (.iconst 2, 1, 0, .int 2), (.iload 4, 2, 4, .null), (.imul, 1, 0, .null), (.iaload, 1, 0, .null)] (by decide +kernel) rfl ?_
          refine XI_ck (c := inb (a 50 (ix (2 * x4))) 20) (pc' := 67) (ls' := [.ref 31, .int x1, .int x2, .int x3, .int x4]) (st' := [.int (a 48 (ix (a 50 (ix (2 * x4)))))]) (a' := a) [(.iaload, 1, 0, .null)] (by decide +kernel) rfl ?_
          refine XI_ck (c := inb ((2 * x4) + 1) 16) (pc' := 78) (ls' := [.ref 31, .int x1, .int x2, .int x3, .int x4]) (st' := [.int (a 50 (ix ((2 * x4) + 1))), .int (a 48 (ix (a 50 (ix (2 * x4)))))]) (a' := a) [(.aload_n 0, 1, 0, .null), (.getfield 65, 3, 1132, .null), (.iconst 2, 1, 0, .int 2), (.iload 4, 2, 4, .null), (.imul, 1, 0, .null), (.iconst 1, 1, 0, .int 1), (.iadd, 1, 0, .null), (.iaload, 1, 0, .null)] (by decide +kernel) rfl ?_
          refine XI_br (c := (a 48 (ix (a 50 (ix (2 * x4))))) = (a 50 (ix ((2 * x4) + 1)))) (t := 81) (e := 85) (ls' := [.ref 31, .int x1, .int x2, .int x3, .int x4]) (st' := []) (a' := a) [(.if_icmp .ne 7, 3, 85, .null)] (by decide +kernel) rfl ?_ ?_
          · refine XI_go (pc' := 24) (ls' := [.ref 31, .int x1, .int x2, .int 1, .int (x4 + 1)]) (st' := []) (a' := a) [(.iconst 1, 1, 0, .int 1), (.goto 4, 3, 86, .null), (.istore_n 3, 1, 3, .null), (.iinc 4 1, 3, 4, .int 1), (.goto (-66), 3, 24, .null)] (by decide +kernel) rfl ?_
            refine XI_fg [true, true, true, true, true] ?_
            exact x_M_seedsNow_24 E N k4 h4 n x1 x2 1 (x4 + 1) a
          · refine XI_go (pc' := 24) (ls' := [.ref 31, .int x1, .int x2, .int 0, .int (x4 + 1)]) (st' := []) (a' := a) [(.iconst 0, 1, 0, .int 0), (.istore_n 3, 1, 3, .null), (.iinc 4 1, 3, 4, .int 1), (.goto (-66), 3, 24, .null)] (by decide +kernel) rfl ?_
            refine XI_fg [true, true, true, true, true] ?_
            exact x_M_seedsNow_24 E N k4 h4 n x1 x2 0 (x4 + 1) a
set_option maxHeartbeats 4000000 in
set_option maxRecDepth 100000 in
theorem x_M_seedsNow_4 (E : eT) (N : Nat) : ∀ (n : Nat) (x1 : Int32) (x2 : Int32) (a : aT), XI qI E md_M_seedsNow 4 [.ref 31, .int x1, .int x2, .null, .null] [] a (f_M_seedsNow_4 N n x1 x2 a)
  | 0, _, _, _ => XI_no rfl
  | n + 1, x1, x2, a => by
    refine XI_br (c := 31 ≤ x2) (t := 113) (e := 10) (ls' := [.ref 31, .int x1, .int x2, .null, .null]) (st' := []) (a' := a) [(.iload_n 2, 1, 2, .null), (.bipush 31, 2, 0, .int 31), (.if_icmp .ge 106, 3, 113, .null)] (by decide +kernel) rfl ?_ ?_
    · refine XI_go (pc' := 114) (ls' := [.ref 31, .int x1, .int x2, .null, .null]) (st' := [.int x1]) (a' := a) [(.iload_n 1, 1, 1, .null)] (by decide +kernel) rfl ?_
      exact XI_retI (by decide +kernel)
    · refine XI_go (pc' := 16) (ls' := [.ref 31, .int x1, .int x2, .null, .null]) (st' := [.int (a 31 18), .int x2, .ref 31]) (a' := a) [(.aload_n 0, 1, 0, .null), (.iload_n 2, 1, 2, .null), (.aload_n 0, 1, 0, .null), (.getfield 150, 3, 1118, .null)] (by decide +kernel) rfl ?_
      refine XI_VI (As := [.int x2, .int (a 31 18)]) (rest := []) (b := 31) (idx := 201) (by decide +kernel) ok_M_throwsAll mv_M_throwsAll (n := 2) ⟨lk_M_201, by decide +kernel⟩ rfl rfl rfl rfl (Nat.le_of_ble_eq_true rfl) (Nat.le_of_ble_eq_true rfl) (qV_h rfl) (x_M_throwsAll E N x2 (a 31 18) a) (fun q1 => ?_)
      refine XI_go (pc' := 24) (ls' := [.ref 31, .int x1, .int x2, .int 1, .int 0]) (st' := []) (a' := q1.2) [(.iconst 1, 1, 0, .int 1), (.istore_n 3, 1, 3, .null), (.iconst 0, 1, 0, .int 0), (.istore 4, 2, 4, .null)] (by decide +kernel) rfl ?_
      refine XI_fg [true, true, true, true, true] ?_
      exact x_M_seedsNow_24 E N (f_M_seedsNow_4 N n) (x_M_seedsNow_4 E N n) N x1 x2 1 0 q1.2
set_option maxHeartbeats 4000000 in
set_option maxRecDepth 100000 in
theorem x_M_seedsNow (E : eT) (N : Nat) (a : aT) : XI qI E md_M_seedsNow 0 [.ref 31, .null, .null, .null, .null] [] a (f_M_seedsNow N a) := by
  refine XI_go (pc' := 4) (ls' := [.ref 31, .int 0, .int 0, .null, .null]) (st' := []) (a' := a) [(.iconst 0, 1, 0, .int 0), (.istore_n 1, 1, 1, .null), (.iconst 0, 1, 0, .int 0), (.istore_n 2, 1, 2, .null)] (by decide +kernel) rfl ?_
  refine XI_fg [true, true, true, false, false] ?_
  exact x_M_seedsNow_4 E N N 0 0 a
/-! ChestnutSticksModel.seeds()I -/
def md_M_seeds : md_T := (yX11_seeds, cX11_seeds, 1, (some .int), 7, 162)
set_option maxRecDepth 100000 in
theorem ok_M_seeds : m_ok md_M_seeds := ⟨List.mem_of_getElem? (i := 1323) (by decide +kernel), by decide +kernel, List.mem_of_getElem? (i := 64) (by decide +kernel), by decide +kernel⟩
theorem mv_M_seeds : Cond.instanceMethod (m_y md_M_seeds) ∈ lw_tbl ∧ Cond.selects (m_y md_M_seeds).cls (m_y md_M_seeds) (m_y md_M_seeds) ∈ lw_tbl := ⟨List.mem_of_getElem? (i := 1321) (by decide +kernel), List.mem_of_getElem? (i := 1322) (by decide +kernel)⟩
def f_M_seeds (N : Nat) (a : aT) : Option (Int32 × aT) :=
  (f_M_seedsNow N a).bind fun q1 =>
    some (q1.1, q1.2)
set_option maxHeartbeats 4000000 in
set_option maxRecDepth 100000 in
theorem x_M_seeds (E : eT) (N : Nat) (a : aT) : XI qI E md_M_seeds 0 [.ref 31] [] a (f_M_seeds N a) := by
  refine XI_go (pc' := 1) (ls' := [.ref 31]) (st' := [.ref 31]) (a' := a) [(.aload_n 0, 1, 0, .null)] (by decide +kernel) rfl ?_
  refine XI_VI (As := []) (rest := []) (b := 31) (idx := 300) (by decide +kernel) ok_M_seedsNow mv_M_seedsNow (n := 0) ⟨lk_M_300, by decide +kernel⟩ rfl rfl rfl rfl (Nat.le_of_ble_eq_true rfl) (Nat.le_of_ble_eq_true rfl) (qI_h rfl) (x_M_seedsNow E N a) (fun q1 => ?_)
  exact XI_retI (by decide +kernel)
/-! ChestnutSticks$Sheets.makeNew(III)V -/
def md_H_makeNew : md_T := (yX4_makeNew, cX4_makeNew, 5, none, 1, 21)
set_option maxRecDepth 100000 in
theorem ok_H_makeNew : m_ok md_H_makeNew := ⟨List.mem_of_getElem? (i := 780) (by decide +kernel), by decide +kernel, List.mem_of_getElem? (i := 63) (by decide +kernel), by decide +kernel⟩
theorem mv_H_makeNew : Cond.instanceMethod (m_y md_H_makeNew) ∈ lw_tbl ∧ Cond.selects (m_y md_H_makeNew).cls (m_y md_H_makeNew) (m_y md_H_makeNew) ∈ lw_tbl := ⟨List.mem_of_getElem? (i := 778) (by decide +kernel), List.mem_of_getElem? (i := 779) (by decide +kernel)⟩
def f_H_makeNew_35 (N : Nat) : Nat → Int32 → Int32 → aT → Option (Unit × aT)
  | 0 => fun _ _ _ => none
  | n + 1 => fun x1 x4 a =>
    if 60 ≤ x4 then
      some ((), a)
    else
      if inb ((60 * x1) + x4) 240 then
        f_H_makeNew_35 N n x1 (x4 + 1) (upA a 30 (ix ((60 * x1) + x4)) 0)
      else none
def f_H_makeNew (N : Nat) (p1 : Int32) (p2 : Int32) (p3 : Int32) (a : aT) : Option (Unit × aT) :=
  if (f_C_isBelow p1 4) = 0 then
    some ((), a)
  else
    if p3 < 0 then
      some ((), a)
    else
      if 60 < p3 then
        some ((), a)
      else
        if inb p1 4 then
          if inb p1 4 then
            f_H_makeNew_35 N N p1 0 (upA (upA a 28 (ix p1) p2) 29 (ix p1) p3)
          else none
        else none
set_option maxHeartbeats 4000000 in
set_option maxRecDepth 100000 in
theorem x_H_makeNew_35 (E : eT) (N : Nat) : ∀ (n : Nat) (x1 : Int32) (x4 : Int32) (a : aT), XI qV E md_H_makeNew 35 [.ref 27, .int x1, .null, .null, .int x4] [] a (f_H_makeNew_35 N n x1 x4 a)
  | 0, _, _, _ => XI_no rfl
  | n + 1, x1, x4, a => by
    refine XI_br (c := 60 ≤ x4) (t := 61) (e := 42) (ls' := [.ref 27, .int x1, .null, .null, .int x4]) (st' := []) (a' := a) [(.iload 4, 2, 4, .null), (.bipush 60, 2, 0, .int 60), (.if_icmp .ge 22, 3, 61, .null)] (by decide +kernel) rfl ?_ ?_
    · exact XI_retV (by decide +kernel)
    · refine XI_ck (c := inb ((60 * x1) + x4) 240) (pc' := 55) (ls' := [.ref 27, .int x1, .null, .null, .int x4]) (st' := []) (a' := (upA a 30 (ix ((60 * x1) + x4)) 0)) [(.aload_n 0, 1, 0, .null), (.getfield 18, 3, 402, .null), (.bipush 60, 2, 0, .int 60), (.iload_n 1, 1, 1, .null), (.imul, 1, 0, .null), (.iload 4, 2, 4, .null), (.iadd, 1, 0, .null), (.iconst 0, 1, 0, .int 0), (.iastore, 1, 0, .null)] (by decide +kernel) rfl ?_
      refine XI_go (pc' := 35) (ls' := [.ref 27, .int x1, .null, .null, .int (x4 + 1)]) (st' := []) (a' := (upA a 30 (ix ((60 * x1) + x4)) 0)) [(.iinc 4 1, 3, 4, .int 1), (.goto (-23), 3, 35, .null)] (by decide +kernel) rfl ?_
      refine XI_fg [true, true, false, false, true] ?_
      exact x_H_makeNew_35 E N n x1 (x4 + 1) (upA a 30 (ix ((60 * x1) + x4)) 0)
set_option maxHeartbeats 4000000 in
set_option maxRecDepth 100000 in
theorem x_H_makeNew (E : eT) (N : Nat) (p1 : Int32) (p2 : Int32) (p3 : Int32) (a : aT) : XI qV E md_H_makeNew 0 [.ref 27, .int p1, .int p2, .int p3, .null] [] a (f_H_makeNew N p1 p2 p3 a) := by
  refine XI_go (pc' := 2) (ls' := [.ref 27, .int p1, .int p2, .int p3, .null]) (st' := [.int 4, .int p1]) (a' := a) [(.iload_n 1, 1, 1, .null), (.iconst 4, 1, 0, .int 4)] (by decide +kernel) rfl ?_
  refine XI_SNT (As := [.int p1, .int 4]) (rest := []) (idx := 29) (by decide +kernel) ok_C_isBelow mv_C_isBelow (n := 2) ⟨lk_H_29, by decide +kernel⟩ rfl (Nat.le_of_ble_eq_true rfl) (Nat.le_of_ble_eq_true rfl) (qZ_h rfl) (x_C_isBelow E p1 4 a) ?_
  refine XI_br (c := (f_C_isBelow p1 4) = 0) (t := 61) (e := 8) (ls' := [.ref 27, .int p1, .int p2, .int p3, .null]) (st' := []) (a' := a) [(.ifCond .eq 56, 3, 61, .null)] (by decide +kernel) rfl ?_ ?_
  · exact XI_retV (by decide +kernel)
  · refine XI_br (c := p3 < 0) (t := 61) (e := 12) (ls' := [.ref 27, .int p1, .int p2, .int p3, .null]) (st' := []) (a' := a) [(.iload_n 3, 1, 3, .null), (.ifCond .lt 52, 3, 61, .null)] (by decide +kernel) rfl ?_ ?_
    · exact XI_retV (by decide +kernel)
    · refine XI_br (c := 60 < p3) (t := 61) (e := 18) (ls' := [.ref 27, .int p1, .int p2, .int p3, .null]) (st' := []) (a' := a) [(.iload_n 3, 1, 3, .null), (.bipush 60, 2, 0, .int 60), (.if_icmp .gt 46, 3, 61, .null)] (by decide +kernel) rfl ?_ ?_
      · exact XI_retV (by decide +kernel)
      · refine XI_ck (c := inb p1 4) (pc' := 25) (ls' := [.ref 27, .int p1, .int p2, .int p3, .null]) (st' := []) (a' := (upA a 28 (ix p1) p2)) [(.aload_n 0, 1, 0, .null), (.getfield 9, 3, 400, .null), (.iload_n 1, 1, 1, .null), (.iload_n 2, 1, 2, .null), (.iastore, 1, 0, .null)] (by decide +kernel) rfl ?_
        refine XI_ck (c := inb p1 4) (pc' := 32) (ls' := [.ref 27, .int p1, .int p2, .int p3, .null]) (st' := []) (a' := (upA (upA a 28 (ix p1) p2) 29 (ix p1) p3)) [(.aload_n 0, 1, 0, .null), (.getfield 15, 3, 401, .null), (.iload_n 1, 1, 1, .null), (.iload_n 3, 1, 3, .null), (.iastore, 1, 0, .null)] (by decide +kernel) rfl ?_
        refine XI_go (pc' := 35) (ls' := [.ref 27, .int p1, .int p2, .int p3, .int 0]) (st' := []) (a' := (upA (upA a 28 (ix p1) p2) 29 (ix p1) p3)) [(.iconst 0, 1, 0, .int 0), (.istore 4, 2, 4, .null)] (by decide +kernel) rfl ?_
        refine XI_fg [true, true, false, false, true] ?_
        exact x_H_makeNew_35 E N N p1 0 (upA (upA a 28 (ix p1) p2) 29 (ix p1) p3)
/-! ChestnutSticks.sheet(III)I -/
def md_C_sheet : md_T := (yX10_sheet, cX10_sheet, 4, (some .int), 2, 45)
set_option maxRecDepth 100000 in
theorem ok_C_sheet : m_ok md_C_sheet := ⟨List.mem_of_getElem? (i := 776) (by decide +kernel), by decide +kernel, List.mem_of_getElem? (i := 53) (by decide +kernel), by decide +kernel⟩
theorem mv_C_sheet : Cond.instanceMethod (m_y md_C_sheet) ∈ lw_tbl ∧ Cond.selects (m_y md_C_sheet).cls (m_y md_C_sheet) (m_y md_C_sheet) ∈ lw_tbl := ⟨List.mem_of_getElem? (i := 774) (by decide +kernel), List.mem_of_getElem? (i := 775) (by decide +kernel)⟩
def f_C_sheet (N : Nat) (p1 : Int32) (p2 : Int32) (p3 : Int32) (a : aT) : Option (Int32 × aT) :=
  if (f_C_isBelow p1 4) = 0 then
    some ((-2), a)
  else
    if (f_C_isBelow p2 3) = 0 then
      some ((-2), a)
    else
      if p3 ≤ 60 then
        if 0 ≤ p3 then
          (f_H_makeNew N p1 p2 p3 a).bind fun q3 =>
            some (p3, q3.2)
        else
          (f_H_find 5 a).bind fun q4 =>
            some (q4.1, q4.2)
      else
        some ((-2), a)
set_option maxHeartbeats 4000000 in
set_option maxRecDepth 100000 in
theorem x_C_sheet (E : eT) (N : Nat) (p1 : Int32) (p2 : Int32) (p3 : Int32) (a : aT) : XI qI E md_C_sheet 0 [.ref 0, .int p1, .int p2, .int p3] [] a (f_C_sheet N p1 p2 p3 a) := by
  refine XI_go (pc' := 2) (ls' := [.ref 0, .int p1, .int p2, .int p3]) (st' := [.int 4, .int p1]) (a' := a) [(.iload_n 1, 1, 1, .null), (.iconst 4, 1, 0, .int 4)] (by decide +kernel) rfl ?_
  refine XI_ST (As := [.int p1, .int 4]) (rest := []) (idx := 110) (by decide +kernel) ok_C_isBelow mv_C_isBelow (n := 2) ⟨lk_C_110, by decide +kernel⟩ rfl (Nat.le_of_ble_eq_true rfl) (Nat.le_of_ble_eq_true rfl) (qZ_h rfl) (x_C_isBelow E p1 4 a) ?_
  refine XI_br (c := (f_C_isBelow p1 4) = 0) (t := 22) (e := 8) (ls' := [.ref 0, .int p1, .int p2, .int p3]) (st' := []) (a' := a) [(.ifCond .eq 17, 3, 22, .null)] (by decide +kernel) rfl ?_ ?_
  · refine XI_go (pc' := 24) (ls' := [.ref 0, .int p1, .int p2, .int p3]) (st' := [.int (-2)]) (a' := a) [(.bipush (-2), 2, 0, .int (-2))] (by decide +kernel) rfl ?_
    exact XI_retI (by decide +kernel)
  · refine XI_go (pc' := 10) (ls' := [.ref 0, .int p1, .int p2, .int p3]) (st' := [.int 3, .int p2]) (a' := a) [(.iload_n 2, 1, 2, .null), (.iconst 3, 1, 0, .int 3)] (by decide +kernel) rfl ?_
    refine XI_ST (As := [.int p2, .int 3]) (rest := []) (idx := 110) (by decide +kernel) ok_C_isBelow mv_C_isBelow (n := 2) ⟨lk_C_110, by decide +kernel⟩ rfl (Nat.le_of_ble_eq_true rfl) (Nat.le_of_ble_eq_true rfl) (qZ_h rfl) (x_C_isBelow E p2 3 a) ?_
    refine XI_br (c := (f_C_isBelow p2 3) = 0) (t := 22) (e := 16) (ls' := [.ref 0, .int p1, .int p2, .int p3]) (st' := []) (a' := a) [(.ifCond .eq 9, 3, 22, .null)] (by decide +kernel) rfl ?_ ?_
    · refine XI_go (pc' := 24) (ls' := [.ref 0, .int p1, .int p2, .int p3]) (st' := [.int (-2)]) (a' := a) [(.bipush (-2), 2, 0, .int (-2))] (by decide +kernel) rfl ?_
      exact XI_retI (by decide +kernel)
    · refine XI_br (c := p3 ≤ 60) (t := 25) (e := 22) (ls' := [.ref 0, .int p1, .int p2, .int p3]) (st' := []) (a' := a) [(.iload_n 3, 1, 3, .null), (.bipush 60, 2, 0, .int 60), (.if_icmp .le 6, 3, 25, .null)] (by decide +kernel) rfl ?_ ?_
      · refine XI_br (c := 0 ≤ p3) (t := 38) (e := 29) (ls' := [.ref 0, .int p1, .int p2, .int p3]) (st' := []) (a' := a) [(.iload_n 3, 1, 3, .null), (.ifCond .ge 12, 3, 38, .null)] (by decide +kernel) rfl ?_ ?_
        · refine XI_go (pc' := 45) (ls' := [.ref 0, .int p1, .int p2, .int p3]) (st' := [.int p3, .int p2, .int p1, .ref 27]) (a' := a) [(.aload_n 0, 1, 0, .null), (.getfield 79, 3, 1009, .null), (.iload_n 1, 1, 1, .null), (.iload_n 2, 1, 2, .null), (.iload_n 3, 1, 3, .null)] (by decide +kernel) rfl ?_
          refine XI_VI (As := [.int p1, .int p2, .int p3]) (rest := []) (b := 27) (idx := 238) (by decide +kernel) ok_H_makeNew mv_H_makeNew (n := 3) ⟨lk_C_238, by decide +kernel⟩ rfl rfl rfl rfl (Nat.le_of_ble_eq_true rfl) (Nat.le_of_ble_eq_true rfl) (qV_h rfl) (x_H_makeNew E N p1 p2 p3 a) (fun q3 => ?_)
          refine XI_go (pc' := 49) (ls' := [.ref 0, .int p1, .int p2, .int p3]) (st' := [.int p3]) (a' := q3.2) [(.iload_n 3, 1, 3, .null)] (by decide +kernel) rfl ?_
          exact XI_retI (by decide +kernel)
        · refine XI_go (pc' := 34) (ls' := [.ref 0, .int p1, .int p2, .int p3]) (st' := [.int 5, .ref 27]) (a' := a) [(.aload_n 0, 1, 0, .null), (.getfield 79, 3, 1009, .null), (.iconst 5, 1, 0, .int 5)] (by decide +kernel) rfl ?_
          refine XI_VI (As := [.int 5]) (rest := []) (b := 27) (idx := 118) (by decide +kernel) ok_H_find mv_H_find (n := 1) ⟨lk_C_118, by decide +kernel⟩ rfl rfl rfl rfl (Nat.le_of_ble_eq_true rfl) (Nat.le_of_ble_eq_true rfl) (qI_h rfl) (x_H_find E 5 a) (fun q4 => ?_)
          exact XI_retI (by decide +kernel)
      · refine XI_go (pc' := 24) (ls' := [.ref 0, .int p1, .int p2, .int p3]) (st' := [.int (-2)]) (a' := a) [(.bipush (-2), 2, 0, .int (-2))] (by decide +kernel) rfl ?_
        exact XI_retI (by decide +kernel)
/-! ChestnutSticksModel.sheet(III)I -/
def md_M_sheet : md_T := (yX11_sheet, cX11_sheet, 5, (some .int), 2, 45)
set_option maxRecDepth 100000 in
theorem ok_M_sheet : m_ok md_M_sheet := ⟨List.mem_of_getElem? (i := 996) (by decide +kernel), by decide +kernel, List.mem_of_getElem? (i := 64) (by decide +kernel), by decide +kernel⟩
theorem mv_M_sheet : Cond.instanceMethod (m_y md_M_sheet) ∈ lw_tbl ∧ Cond.selects (m_y md_M_sheet).cls (m_y md_M_sheet) (m_y md_M_sheet) ∈ lw_tbl := ⟨List.mem_of_getElem? (i := 994) (by decide +kernel), List.mem_of_getElem? (i := 995) (by decide +kernel)⟩
def f_M_sheet_55 (N : Nat) : Nat → Int32 → Int32 → Int32 → aT → Option (Int32 × aT)
  | 0 => fun _ _ _ _ => none
  | n + 1 => fun x1 x3 x4 a =>
    if x3 ≤ x4 then
      some (x3, a)
    else
      if inb ((60 * x1) + x4) 240 then
        f_M_sheet_55 N n x1 x3 (x4 + 1) (upA a 34 (ix ((60 * x1) + x4)) 0)
      else none
def f_M_sheet (N : Nat) (p1 : Int32) (p2 : Int32) (p3 : Int32) (a : aT) : Option (Int32 × aT) :=
  if (f_M_isSheet p1) = 0 then
    some ((-2), a)
  else
    if (f_M_in p2.toInt64 0 2) = 0 then
      some ((-2), a)
    else
      if p3 ≤ 60 then
        if 0 ≤ p3 then
          if inb p1 4 then
            if inb p1 4 then
              f_M_sheet_55 N N p1 p3 0 (upA (upA a 32 (ix p1) p2) 33 (ix p1) p3)
            else none
          else none
        else
          (f_M_met 5 a).bind fun q3 =>
            some (q3.1, q3.2)
      else
        some ((-2), a)
set_option maxHeartbeats 4000000 in
set_option maxRecDepth 100000 in
theorem x_M_sheet_55 (E : eT) (N : Nat) : ∀ (n : Nat) (x1 : Int32) (x3 : Int32) (x4 : Int32) (a : aT), XI qI E md_M_sheet 55 [.ref 31, .int x1, .null, .int x3, .int x4] [] a (f_M_sheet_55 N n x1 x3 x4 a)
  | 0, _, _, _, _ => XI_no rfl
  | n + 1, x1, x3, x4, a => by
    refine XI_br (c := x3 ≤ x4) (t := 80) (e := 61) (ls' := [.ref 31, .int x1, .null, .int x3, .int x4]) (st' := []) (a' := a) [(.iload 4, 2, 4, .null), (.iload_n 3, 1, 3, .null), (.if_icmp .ge 22, 3, 80, .null)] (by decide +kernel) rfl ?_ ?_
    · refine XI_go (pc' := 81) (ls' := [.ref 31, .int x1, .null, .int x3, .int x4]) (st' := [.int x3]) (a' := a) [(.iload_n 3, 1, 3, .null)] (by decide +kernel) rfl ?_
      exact XI_retI (by decide +kernel)
    · refine XI_ck (c := inb ((60 * x1) + x4) 240) (pc' := 74) (ls' := [.ref 31, .int x1, .null, .int x3, .int x4]) (st' := []) (a' := (upA a 34 (ix ((60 * x1) + x4)) 0)) [(.aload_n 0, 1, 0, .null), (.getfield 16, 3, 1102, .null), (.bipush 60, 2, 0, .int 60), (.iload_n 1, 1, 1, .null), (.imul, 1, 0, .null), (.iload 4, 2, 4, .null), (.iadd, 1, 0, .null), (.iconst 0, 1, 0, .int 0), (.iastore, 1, 0, .null)] (by decide +kernel) rfl ?_
      refine XI_go (pc' := 55) (ls' := [.ref 31, .int x1, .null, .int x3, .int (x4 + 1)]) (st' := []) (a' := (upA a 34 (ix ((60 * x1) + x4)) 0)) [(.iinc 4 1, 3, 4, .int 1), (.goto (-22), 3, 55, .null)] (by decide +kernel) rfl ?_
      refine XI_fg [true, true, false, true, true] ?_
      exact x_M_sheet_55 E N n x1 x3 (x4 + 1) (upA a 34 (ix ((60 * x1) + x4)) 0)
set_option maxHeartbeats 4000000 in
set_option maxRecDepth 100000 in
theorem x_M_sheet (E : eT) (N : Nat) (p1 : Int32) (p2 : Int32) (p3 : Int32) (a : aT) : XI qI E md_M_sheet 0 [.ref 31, .int p1, .int p2, .int p3, .null] [] a (f_M_sheet N p1 p2 p3 a) := by
  refine XI_go (pc' := 1) (ls' := [.ref 31, .int p1, .int p2, .int p3, .null]) (st' := [.int p1]) (a' := a) [(.iload_n 1, 1, 1, .null)] (by decide +kernel) rfl ?_
  refine XI_ST (As := [.int p1]) (rest := []) (idx := 83) (by decide +kernel) ok_M_isSheet mv_M_isSheet (n := 1) ⟨lk_M_83, by decide +kernel⟩ rfl (Nat.le_of_ble_eq_true rfl) (Nat.le_of_ble_eq_true rfl) (qZ_h rfl) (x_M_isSheet E p1 a) ?_
  refine XI_br (c := (f_M_isSheet p1) = 0) (t := 25) (e := 7) (ls' := [.ref 31, .int p1, .int p2, .int p3, .null]) (st' := []) (a' := a) [(.ifCond .eq 21, 3, 25, .null)] (by decide +kernel) rfl ?_ ?_
  · refine XI_go (pc' := 27) (ls' := [.ref 31, .int p1, .int p2, .int p3, .null]) (st' := [.int (-2)]) (a' := a) [(.bipush (-2), 2, 0, .int (-2))] (by decide +kernel) rfl ?_
    exact XI_retI (by decide +kernel)
  · refine XI_go (pc' := 13) (ls' := [.ref 31, .int p1, .int p2, .int p3, .null]) (st' := [.long 2, .long 0, .long p2.toInt64]) (a' := a) [(.iload_n 2, 1, 2, .null), (.i2l, 1, 0, .null), (.lconst 0, 1, 0, .long 0), (.ldc2_w 87, 3, 0, .long 2)] (by decide +kernel) rfl ?_
    refine XI_ST (As := [.long p2.toInt64, .long 0, .long 2]) (rest := []) (idx := 74) (by decide +kernel) ok_M_in mv_M_in (n := 3) ⟨lk_M_74, by decide +kernel⟩ rfl (Nat.le_of_ble_eq_true rfl) (Nat.le_of_ble_eq_true rfl) (qZ_h rfl) (x_M_in E p2.toInt64 0 2 a) ?_
    refine XI_br (c := (f_M_in p2.toInt64 0 2) = 0) (t := 25) (e := 19) (ls' := [.ref 31, .int p1, .int p2, .int p3, .null]) (st' := []) (a' := a) [(.ifCond .eq 9, 3, 25, .null)] (by decide +kernel) rfl ?_ ?_
    · refine XI_go (pc' := 27) (ls' := [.ref 31, .int p1, .int p2, .int p3, .null]) (st' := [.int (-2)]) (a' := a) [(.bipush (-2), 2, 0, .int (-2))] (by decide +kernel) rfl ?_
      exact XI_retI (by decide +kernel)
    · refine XI_br (c := p3 ≤ 60) (t := 28) (e := 25) (ls' := [.ref 31, .int p1, .int p2, .int p3, .null]) (st' := []) (a' := a) [(.iload_n 3, 1, 3, .null), (.bipush 60, 2, 0, .int 60), (.if_icmp .le 6, 3, 28, .null)] (by decide +kernel) rfl ?_ ?_
      · refine XI_br (c := 0 ≤ p3) (t := 38) (e := 32) (ls' := [.ref 31, .int p1, .int p2, .int p3, .null]) (st' := []) (a' := a) [(.iload_n 3, 1, 3, .null), (.ifCond .ge 9, 3, 38, .null)] (by decide +kernel) rfl ?_ ?_
        · refine XI_ck (c := inb p1 4) (pc' := 45) (ls' := [.ref 31, .int p1, .int p2, .int p3, .null]) (st' := []) (a' := (upA a 32 (ix p1) p2)) [(.aload_n 0, 1, 0, .null), (.getfield 7, 3, 1100, .null), (.iload_n 1, 1, 1, .null), (.iload_n 2, 1, 2, .null), (.iastore, 1, 0, .null)] (by decide +kernel) rfl ?_
          refine XI_ck (c := inb p1 4) (pc' := 52) (ls' := [.ref 31, .int p1, .int p2, .int p3, .null]) (st' := []) (a' := (upA (upA a 32 (ix p1) p2) 33 (ix p1) p3)) [(.aload_n 0, 1, 0, .null), (.getfield 13, 3, 1101, .null), (.iload_n 1, 1, 1, .null), (.iload_n 3, 1, 3, .null), (.iastore, 1, 0, .null)] (by decide +kernel) rfl ?_
          refine XI_go (pc' := 55) (ls' := [.ref 31, .int p1, .int p2, .int p3, .int 0]) (st' := []) (a' := (upA (upA a 32 (ix p1) p2) 33 (ix p1) p3)) [(.iconst 0, 1, 0, .int 0), (.istore 4, 2, 4, .null)] (by decide +kernel) rfl ?_
          refine XI_fg [true, true, false, true, true] ?_
          exact x_M_sheet_55 E N N p1 p3 0 (upA (upA a 32 (ix p1) p2) 33 (ix p1) p3)
        · refine XI_go (pc' := 34) (ls' := [.ref 31, .int p1, .int p2, .int p3, .null]) (st' := [.int 5, .ref 31]) (a' := a) [(.aload_n 0, 1, 0, .null), (.iconst 5, 1, 0, .int 5)] (by decide +kernel) rfl ?_
          refine XI_VI (As := [.int 5]) (rest := []) (b := 31) (idx := 89) (by decide +kernel) ok_M_met mv_M_met (n := 1) ⟨lk_M_89, by decide +kernel⟩ rfl rfl rfl rfl (Nat.le_of_ble_eq_true rfl) (Nat.le_of_ble_eq_true rfl) (qI_h rfl) (x_M_met E 5 a) (fun q3 => ?_)
          exact XI_retI (by decide +kernel)
      · refine XI_go (pc' := 27) (ls' := [.ref 31, .int p1, .int p2, .int p3, .null]) (st' := [.int (-2)]) (a' := a) [(.bipush (-2), 2, 0, .int (-2))] (by decide +kernel) rfl ?_
        exact XI_retI (by decide +kernel)
/-! ChestnutSticks$Sheets.makeLost(I)I -/
def md_H_makeLost : md_T := (yX4_makeLost, cX4_makeLost, 3, (some .int), 2, 42)
set_option maxRecDepth 100000 in
theorem ok_H_makeLost : m_ok md_H_makeLost := ⟨List.mem_of_getElem? (i := 788) (by decide +kernel), by decide +kernel, List.mem_of_getElem? (i := 63) (by decide +kernel), by decide +kernel⟩
theorem mv_H_makeLost : Cond.instanceMethod (m_y md_H_makeLost) ∈ lw_tbl ∧ Cond.selects (m_y md_H_makeLost).cls (m_y md_H_makeLost) (m_y md_H_makeLost) ∈ lw_tbl := ⟨List.mem_of_getElem? (i := 786) (by decide +kernel), List.mem_of_getElem? (i := 787) (by decide +kernel)⟩
def f_H_makeLost (p1 : Int32) (a : aT) : Option (Int32 × aT) :=
  (f_H_sizeOf p1 a).bind fun q1 =>
    if (f_C_isBelow p1 4) = 0 then
      some (q1, a)
    else
      if inb p1 4 then
        if inb p1 4 then
          some (q1, (upA (upA a 28 (ix p1) (-1)) 29 (ix p1) 0))
        else none
      else none
set_option maxHeartbeats 4000000 in
set_option maxRecDepth 100000 in
theorem x_H_makeLost (E : eT) (p1 : Int32) (a : aT) : XI qI E md_H_makeLost 0 [.ref 27, .int p1, .null] [] a (f_H_makeLost p1 a) := by
  refine XI_go (pc' := 2) (ls' := [.ref 27, .int p1, .null]) (st' := [.int p1, .ref 27]) (a' := a) [(.aload_n 0, 1, 0, .null), (.iload_n 1, 1, 1, .null)] (by decide +kernel) rfl ?_
  refine XI_VP (As := [.int p1]) (rest := []) (b := 27) (idx := 37) (by decide +kernel) ok_H_sizeOf mv_H_sizeOf (n := 1) ⟨lk_H_37, by decide +kernel⟩ rfl rfl rfl rfl (Nat.le_of_ble_eq_true rfl) (Nat.le_of_ble_eq_true rfl) (qI_h rfl) (x_H_sizeOf E p1 a) (fun q1 => ?_)
  refine XI_go (pc' := 8) (ls' := [.ref 27, .int p1, .int q1]) (st' := [.int 4, .int p1]) (a' := a) [(.istore_n 2, 1, 2, .null), (.iload_n 1, 1, 1, .null), (.iconst 4, 1, 0, .int 4)] (by decide +kernel) rfl ?_
  refine XI_SNT (As := [.int p1, .int 4]) (rest := []) (idx := 29) (by decide +kernel) ok_C_isBelow mv_C_isBelow (n := 2) ⟨lk_H_29, by decide +kernel⟩ rfl (Nat.le_of_ble_eq_true rfl) (Nat.le_of_ble_eq_true rfl) (qZ_h rfl) (x_C_isBelow E p1 4 a) ?_
  refine XI_br (c := (f_C_isBelow p1 4) = 0) (t := 28) (e := 14) (ls' := [.ref 27, .int p1, .int q1]) (st' := []) (a' := a) [(.ifCond .eq 17, 3, 28, .null)] (by decide +kernel) rfl ?_ ?_
  · refine XI_go (pc' := 29) (ls' := [.ref 27, .int p1, .int q1]) (st' := [.int q1]) (a' := a) [(.iload_n 2, 1, 2, .null)] (by decide +kernel) rfl ?_
    exact XI_retI (by decide +kernel)
  · refine XI_ck (c := inb p1 4) (pc' := 21) (ls' := [.ref 27, .int p1, .int q1]) (st' := []) (a' := (upA a 28 (ix p1) (-1))) [(.aload_n 0, 1, 0, .null), (.getfield 9, 3, 400, .null), (.iload_n 1, 1, 1, .null), (.iconst (-1), 1, 0, .int (-1)), (.iastore, 1, 0, .null)] (by decide +kernel) rfl ?_
    refine XI_ck (c := inb p1 4) (pc' := 28) (ls' := [.ref 27, .int p1, .int q1]) (st' := []) (a' := (upA (upA a 28 (ix p1) (-1)) 29 (ix p1) 0)) [(.aload_n 0, 1, 0, .null), (.getfield 15, 3, 401, .null), (.iload_n 1, 1, 1, .null), (.iconst 0, 1, 0, .int 0), (.iastore, 1, 0, .null)] (by decide +kernel) rfl ?_
    refine XI_go (pc' := 29) (ls' := [.ref 27, .int p1, .int q1]) (st' := [.int q1]) (a' := (upA (upA a 28 (ix p1) (-1)) 29 (ix p1) 0)) [(.iload_n 2, 1, 2, .null)] (by decide +kernel) rfl ?_
    exact XI_retI (by decide +kernel)
/-! ChestnutSticks.lose(I)I -/
def md_C_lose : md_T := (yX10_lose, cX10_lose, 2, (some .int), 3, 64)
set_option maxRecDepth 100000 in
theorem ok_C_lose : m_ok md_C_lose := ⟨List.mem_of_getElem? (i := 784) (by decide +kernel), by decide +kernel, List.mem_of_getElem? (i := 53) (by decide +kernel), by decide +kernel⟩
theorem mv_C_lose : Cond.instanceMethod (m_y md_C_lose) ∈ lw_tbl ∧ Cond.selects (m_y md_C_lose).cls (m_y md_C_lose) (m_y md_C_lose) ∈ lw_tbl := ⟨List.mem_of_getElem? (i := 782) (by decide +kernel), List.mem_of_getElem? (i := 783) (by decide +kernel)⟩
def f_C_lose (p1 : Int32) (a : aT) : Option (Int32 × aT) :=
  if (f_C_isBelow p1 4) = 0 then
    some ((-2), a)
  else
    (f_H_isLost p1 a).bind fun q2 =>
      if q2 = 0 then
        (f_H_makeLost p1 a).bind fun q3 =>
          some (q3.1, q3.2)
      else
        (f_H_find 1 a).bind fun q4 =>
          some (q4.1, q4.2)
set_option maxHeartbeats 4000000 in
set_option maxRecDepth 100000 in
theorem x_C_lose (E : eT) (p1 : Int32) (a : aT) : XI qI E md_C_lose 0 [.ref 0, .int p1] [] a (f_C_lose p1 a) := by
  refine XI_go (pc' := 2) (ls' := [.ref 0, .int p1]) (st' := [.int 4, .int p1]) (a' := a) [(.iload_n 1, 1, 1, .null), (.iconst 4, 1, 0, .int 4)] (by decide +kernel) rfl ?_
  refine XI_ST (As := [.int p1, .int 4]) (rest := []) (idx := 110) (by decide +kernel) ok_C_isBelow mv_C_isBelow (n := 2) ⟨lk_C_110, by decide +kernel⟩ rfl (Nat.le_of_ble_eq_true rfl) (Nat.le_of_ble_eq_true rfl) (qZ_h rfl) (x_C_isBelow E p1 4 a) ?_
  refine XI_br (c := (f_C_isBelow p1 4) = 0) (t := 8) (e := 11) (ls' := [.ref 0, .int p1]) (st' := []) (a' := a) [(.ifCond .ne 6, 3, 11, .null)] (by decide +kernel) rfl ?_ ?_
  · refine XI_go (pc' := 10) (ls' := [.ref 0, .int p1]) (st' := [.int (-2)]) (a' := a) [(.bipush (-2), 2, 0, .int (-2))] (by decide +kernel) rfl ?_
    exact XI_retI (by decide +kernel)
  · refine XI_go (pc' := 16) (ls' := [.ref 0, .int p1]) (st' := [.int p1, .ref 27]) (a' := a) [(.aload_n 0, 1, 0, .null), (.getfield 79, 3, 1009, .null), (.iload_n 1, 1, 1, .null)] (by decide +kernel) rfl ?_
    refine XI_VP (As := [.int p1]) (rest := []) (b := 27) (idx := 114) (by decide +kernel) ok_H_isLost mv_H_isLost (n := 1) ⟨lk_C_114, by decide +kernel⟩ rfl rfl rfl rfl (Nat.le_of_ble_eq_true rfl) (Nat.le_of_ble_eq_true rfl) (qZ_h rfl) (x_H_isLost E p1 a) (fun q2 => ?_)
    refine XI_br (c := q2 = 0) (t := 33) (e := 22) (ls' := [.ref 0, .int p1]) (st' := []) (a' := a) [(.ifCond .eq 14, 3, 33, .null)] (by decide +kernel) rfl ?_ ?_
    · refine XI_go (pc' := 38) (ls' := [.ref 0, .int p1]) (st' := [.int p1, .ref 27]) (a' := a) [(.aload_n 0, 1, 0, .null), (.getfield 79, 3, 1009, .null), (.iload_n 1, 1, 1, .null)] (by decide +kernel) rfl ?_
      refine XI_VI (As := [.int p1]) (rest := []) (b := 27) (idx := 242) (by decide +kernel) ok_H_makeLost mv_H_makeLost (n := 1) ⟨lk_C_242, by decide +kernel⟩ rfl rfl rfl rfl (Nat.le_of_ble_eq_true rfl) (Nat.le_of_ble_eq_true rfl) (qI_h rfl) (x_H_makeLost E p1 a) (fun q3 => ?_)
      exact XI_retI (by decide +kernel)
    · refine XI_go (pc' := 27) (ls' := [.ref 0, .int p1]) (st' := [.int 1, .ref 27]) (a' := a) [(.aload_n 0, 1, 0, .null), (.getfield 79, 3, 1009, .null), (.iconst 1, 1, 0, .int 1)] (by decide +kernel) rfl ?_
      refine XI_VI (As := [.int 1]) (rest := []) (b := 27) (idx := 118) (by decide +kernel) ok_H_find mv_H_find (n := 1) ⟨lk_C_118, by decide +kernel⟩ rfl rfl rfl rfl (Nat.le_of_ble_eq_true rfl) (Nat.le_of_ble_eq_true rfl) (qI_h rfl) (x_H_find E 1 a) (fun q4 => ?_)
      refine XI_go (pc' := 41) (ls' := [.ref 0, .int p1]) (st' := [.int q4.1]) (a' := q4.2) [(.goto 11, 3, 41, .null)] (by decide +kernel) rfl ?_
      exact XI_retI (by decide +kernel)
/-! ChestnutSticksModel.lose(I)I -/
def md_M_lose : md_T := (yX11_lose, cX11_lose, 2, (some .int), 2, 45)
set_option maxRecDepth 100000 in
theorem ok_M_lose : m_ok md_M_lose := ⟨List.mem_of_getElem? (i := 1012) (by decide +kernel), by decide +kernel, List.mem_of_getElem? (i := 64) (by decide +kernel), by decide +kernel⟩
theorem mv_M_lose : Cond.instanceMethod (m_y md_M_lose) ∈ lw_tbl ∧ Cond.selects (m_y md_M_lose).cls (m_y md_M_lose) (m_y md_M_lose) ∈ lw_tbl := ⟨List.mem_of_getElem? (i := 1010) (by decide +kernel), List.mem_of_getElem? (i := 1011) (by decide +kernel)⟩
def f_M_lose (p1 : Int32) (a : aT) : Option (Int32 × aT) :=
  if (f_M_isSheet p1) = 0 then
    some ((-2), a)
  else
    if inb p1 4 then
      if 0 ≤ (a 32 (ix p1)) then
        if inb p1 4 then
          if inb p1 4 then
            some ((a 33 (ix p1)), (upA a 32 (ix p1) (-1)))
          else none
        else none
      else
        (f_M_met 1 a).bind fun q2 =>
          some (q2.1, q2.2)
    else none
set_option maxHeartbeats 4000000 in
set_option maxRecDepth 100000 in
theorem x_M_lose (E : eT) (p1 : Int32) (a : aT) : XI qI E md_M_lose 0 [.ref 31, .int p1] [] a (f_M_lose p1 a) := by
  refine XI_go (pc' := 1) (ls' := [.ref 31, .int p1]) (st' := [.int p1]) (a' := a) [(.iload_n 1, 1, 1, .null)] (by decide +kernel) rfl ?_
  refine XI_ST (As := [.int p1]) (rest := []) (idx := 83) (by decide +kernel) ok_M_isSheet mv_M_isSheet (n := 1) ⟨lk_M_83, by decide +kernel⟩ rfl (Nat.le_of_ble_eq_true rfl) (Nat.le_of_ble_eq_true rfl) (qZ_h rfl) (x_M_isSheet E p1 a) ?_
  refine XI_br (c := (f_M_isSheet p1) = 0) (t := 7) (e := 10) (ls' := [.ref 31, .int p1]) (st' := []) (a' := a) [(.ifCond .ne 6, 3, 10, .null)] (by decide +kernel) rfl ?_ ?_
  · refine XI_go (pc' := 9) (ls' := [.ref 31, .int p1]) (st' := [.int (-2)]) (a' := a) [(.bipush (-2), 2, 0, .int (-2))] (by decide +kernel) rfl ?_
    exact XI_retI (by decide +kernel)
  · refine XI_ck (c := inb p1 4) (pc' := 16) (ls' := [.ref 31, .int p1]) (st' := [.int (a 32 (ix p1))]) (a' := a) [(.aload_n 0, 1, 0, .null), (.getfield 7, 3, 1100, .null), (.iload_n 1, 1, 1, .null), (.iaload, 1, 0, .null)] (by decide +kernel) rfl ?_
    refine XI_br (c := 0 ≤ (a 32 (ix p1))) (t := 25) (e := 19) (ls' := [.ref 31, .int p1]) (st' := []) (a' := a) [(.ifCond .ge 9, 3, 25, .null)] (by decide +kernel) rfl ?_ ?_
    · refine XI_ck (c := inb p1 4) (pc' := 32) (ls' := [.ref 31, .int p1]) (st' := []) (a' := (upA a 32 (ix p1) (-1))) [(.aload_n 0, 1, 0, .null), (.getfield 7, 3, 1100, .null), (.iload_n 1, 1, 1, .null), (.iconst (-1), 1, 0, .int (-1)), (.iastore, 1, 0, .null)] (by decide +kernel) rfl ?_
      refine XI_ck (c := inb p1 4) (pc' := 38) (ls' := [.ref 31, .int p1]) (st' := [.int (a 33 (ix p1))]) (a' := (upA a 32 (ix p1) (-1))) [(.aload_n 0, 1, 0, .null), (.getfield 13, 3, 1101, .null), (.iload_n 1, 1, 1, .null), (.iaload, 1, 0, .null)] (by decide +kernel) rfl ?_
      exact XI_retI (by decide +kernel)
    · refine XI_go (pc' := 21) (ls' := [.ref 31, .int p1]) (st' := [.int 1, .ref 31]) (a' := a) [(.aload_n 0, 1, 0, .null), (.iconst 1, 1, 0, .int 1)] (by decide +kernel) rfl ?_
      refine XI_VI (As := [.int 1]) (rest := []) (b := 31) (idx := 89) (by decide +kernel) ok_M_met mv_M_met (n := 1) ⟨lk_M_89, by decide +kernel⟩ rfl rfl rfl rfl (Nat.le_of_ble_eq_true rfl) (Nat.le_of_ble_eq_true rfl) (qI_h rfl) (x_M_met E 1 a) (fun q2 => ?_)
      exact XI_retI (by decide +kernel)
/-! ChestnutSticks$Sheets.whyNot(III)I -/
def md_H_whyNot : md_T := (yX4_whyNot, cX4_whyNot, 4, (some .int), 3, 63)
set_option maxRecDepth 100000 in
theorem ok_H_whyNot : m_ok md_H_whyNot := ⟨List.mem_of_getElem? (i := 797) (by decide +kernel), by decide +kernel, List.mem_of_getElem? (i := 63) (by decide +kernel), by decide +kernel⟩
theorem mv_H_whyNot : Cond.instanceMethod (m_y md_H_whyNot) ∈ lw_tbl ∧ Cond.selects (m_y md_H_whyNot).cls (m_y md_H_whyNot) (m_y md_H_whyNot) ∈ lw_tbl := ⟨List.mem_of_getElem? (i := 795) (by decide +kernel), List.mem_of_getElem? (i := 796) (by decide +kernel)⟩
def f_H_whyNot (p1 : Int32) (p2 : Int32) (p3 : Int32) (a : aT) : Option Int32 :=
  (f_H_isLost p1 a).bind fun q1 =>
    if q1 = 0 then
      (f_H_formOf p1 a).bind fun q2 =>
        if q2 = p2 then
          (f_H_sizeOf p1 a).bind fun q3 =>
            if (f_C_isBelow p3 q3) = 0 then
              some 2
            else
              some 0
        else
          some 3
    else
      some 1
set_option maxHeartbeats 4000000 in
set_option maxRecDepth 100000 in
theorem x_H_whyNot (E : eT) (p1 : Int32) (p2 : Int32) (p3 : Int32) (a : aT) : XP qI E md_H_whyNot 0 [.ref 27, .int p1, .int p2, .int p3] [] a (f_H_whyNot p1 p2 p3 a) := by
  refine XP_go (pc' := 2) (ls' := [.ref 27, .int p1, .int p2, .int p3]) (st' := [.int p1, .ref 27]) (a' := a) [(.aload_n 0, 1, 0, .null), (.iload_n 1, 1, 1, .null)] (by decide +kernel) rfl ?_
  refine XP_VP (As := [.int p1]) (rest := []) (b := 27) (idx := 33) (by decide +kernel) ok_H_isLost mv_H_isLost (n := 1) ⟨lk_H_33, by decide +kernel⟩ rfl rfl rfl rfl (Nat.le_of_ble_eq_true rfl) (Nat.le_of_ble_eq_true rfl) (qZ_h rfl) (x_H_isLost E p1 a) (fun q1 => ?_)
  refine XP_br (c := q1 = 0) (t := 10) (e := 8) (ls' := [.ref 27, .int p1, .int p2, .int p3]) (st' := []) (a' := a) [(.ifCond .eq 5, 3, 10, .null)] (by decide +kernel) rfl ?_ ?_
  · refine XP_go (pc' := 12) (ls' := [.ref 27, .int p1, .int p2, .int p3]) (st' := [.int p1, .ref 27]) (a' := a) [(.aload_n 0, 1, 0, .null), (.iload_n 1, 1, 1, .null)] (by decide +kernel) rfl ?_
    refine XP_VP (As := [.int p1]) (rest := []) (b := 27) (idx := 25) (by decide +kernel) ok_H_formOf mv_H_formOf (n := 1) ⟨lk_H_25, by decide +kernel⟩ rfl rfl rfl rfl (Nat.le_of_ble_eq_true rfl) (Nat.le_of_ble_eq_true rfl) (qI_h rfl) (x_H_formOf E p1 a) (fun q2 => ?_)
    refine XP_br (c := q2 = p2) (t := 21) (e := 19) (ls' := [.ref 27, .int p1, .int p2, .int p3]) (st' := []) (a' := a) [(.iload_n 2, 1, 2, .null), (.if_icmp .eq 5, 3, 21, .null)] (by decide +kernel) rfl ?_ ?_
    · refine XP_go (pc' := 24) (ls' := [.ref 27, .int p1, .int p2, .int p3]) (st' := [.int p1, .ref 27, .int p3]) (a' := a) [(.iload_n 3, 1, 3, .null), (.aload_n 0, 1, 0, .null), (.iload_n 1, 1, 1, .null)] (by decide +kernel) rfl ?_
      refine XP_VP (As := [.int p1]) (rest := [.int p3]) (b := 27) (idx := 37) (by decide +kernel) ok_H_sizeOf mv_H_sizeOf (n := 1) ⟨lk_H_37, by decide +kernel⟩ rfl rfl rfl rfl (Nat.le_of_ble_eq_true rfl) (Nat.le_of_ble_eq_true rfl) (qI_h rfl) (x_H_sizeOf E p1 a) (fun q3 => ?_)
      refine XP_SNT (As := [.int p3, .int q3]) (rest := []) (idx := 29) (by decide +kernel) ok_C_isBelow mv_C_isBelow (n := 2) ⟨lk_H_29, by decide +kernel⟩ rfl (Nat.le_of_ble_eq_true rfl) (Nat.le_of_ble_eq_true rfl) (qZ_h rfl) (x_C_isBelow E p3 q3 a) ?_
      refine XP_br (c := (f_C_isBelow p3 q3) = 0) (t := 37) (e := 33) (ls' := [.ref 27, .int p1, .int p2, .int p3]) (st' := []) (a' := a) [(.ifCond .eq 7, 3, 37, .null)] (by decide +kernel) rfl ?_ ?_
      · refine XP_go (pc' := 38) (ls' := [.ref 27, .int p1, .int p2, .int p3]) (st' := [.int 2]) (a' := a) [(.iconst 2, 1, 0, .int 2)] (by decide +kernel) rfl ?_
        exact XP_retI (by decide +kernel)
      · refine XP_go (pc' := 38) (ls' := [.ref 27, .int p1, .int p2, .int p3]) (st' := [.int 0]) (a' := a) [(.iconst 0, 1, 0, .int 0), (.goto 4, 3, 38, .null)] (by decide +kernel) rfl ?_
        exact XP_retI (by decide +kernel)
    · refine XP_go (pc' := 20) (ls' := [.ref 27, .int p1, .int p2, .int p3]) (st' := [.int 3]) (a' := a) [(.iconst 3, 1, 0, .int 3)] (by decide +kernel) rfl ?_
      exact XP_retI (by decide +kernel)
  · refine XP_go (pc' := 9) (ls' := [.ref 27, .int p1, .int p2, .int p3]) (st' := [.int 1]) (a' := a) [(.iconst 1, 1, 0, .int 1)] (by decide +kernel) rfl ?_
    exact XP_retI (by decide +kernel)
