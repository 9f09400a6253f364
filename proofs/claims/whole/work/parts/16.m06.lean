/-! ChestnutSticksModel.throwsOne(III)I -/
def md_M_throwsOne : md_T := (yX11_throwsOne, cX11_throwsOne, 9, (some .int), 4, 85)
set_option maxRecDepth 100000 in
theorem ok_M_throwsOne : m_ok md_M_throwsOne := ⟨List.mem_of_getElem? (i := 1123) (by decide +kernel), by decide +kernel, List.mem_of_getElem? (i := 64) (by decide +kernel), by decide +kernel⟩
theorem mv_M_throwsOne : Cond.instanceMethod (m_y md_M_throwsOne) ∈ lw_tbl ∧ Cond.selects (m_y md_M_throwsOne).cls (m_y md_M_throwsOne) (m_y md_M_throwsOne) ∈ lw_tbl := ⟨List.mem_of_getElem? (i := 1122) (by decide +kernel), List.mem_of_getElem? (i := 26) (by decide +kernel)⟩
def f_M_throwsOne_202 (N : Nat) (x2 : Int32) (x4 : Int32) (x6 : Int32) (x7 : Int32) (y1 : Int32) (a : aT) : Option (Int32 × aT) :=
  if y1 = 0 then
    if inb x2 4 then
      if inb x2 4 then
        some (x7, (upA a 46 (ix x2) (a 46 (ix x2))))
      else none
    else none
  else
    if (f_M_in x6.toInt64 0 7) = 0 then
      if inb x2 4 then
        if inb x2 4 then
          some (x7, (upA a 46 (ix x2) (a 46 (ix x2))))
        else none
      else none
    else
      if inb ((8 * x4) + x6) 48 then
        if (a 37 (ix ((8 * x4) + x6))) = 0 then
          if inb x2 4 then
            if inb x2 4 then
              some (x7, (upA a 46 (ix x2) (a 46 (ix x2))))
            else none
          else none
        else
          if inb x2 4 then
            some (x7, (upA a 46 (ix x2) ((8 * x4) + x6)))
          else none
      else none
def f_M_throwsOne_124 (N : Nat) : Nat → Int32 → Int32 → Int32 → Int32 → Int32 → aT → Option (Int32 × aT)
  | 0 => fun _ _ _ _ _ _ => none
  | n + 1 => fun x2 x4 x6 x7 x8 a =>
    if 4 ≤ x8 then
      (f_M_lot a).bind fun q5 =>
        if inb x2 4 then
          if (q5.2 41 (ix x2)) ≤ q5.1 then
            f_M_throwsOne_202 N x2 x4 x6 x7 0 q5.2
          else
            f_M_throwsOne_202 N x2 x4 x6 x7 1 q5.2
        else none
    else
      if inb x8 4 then
        if (a 46 (ix x8)) = (-1) then
          if inb x8 4 then
            if inb x8 4 then
              f_M_throwsOne_124 N n x2 x4 x6 x7 (x8 + 1) (upA a 46 (ix x8) (a 46 (ix x8)))
            else none
          else none
        else
          if inb x8 4 then
            (f_M_strikes x2 x4 x6 (a 46 (ix x8)) a).bind fun q6 =>
              if q6 = 0 then
                if inb x8 4 then
                  if inb x8 4 then
                    f_M_throwsOne_124 N n x2 x4 x6 x7 (x8 + 1) (upA a 46 (ix x8) (a 46 (ix x8)))
                  else none
                else none
              else
                if inb x8 4 then
                  f_M_throwsOne_124 N n x2 x4 x6 x7 (x8 + 1) (upA a 46 (ix x8) (-1))
                else none
          else none
      else none
def f_M_throwsOne_59 (N : Nat) : Nat → Int32 → Int32 → Int32 → Int32 → Int32 → Int32 → aT → Option (Int32 × aT)
  | 0 => fun _ _ _ _ _ _ _ => none
  | n + 1 => fun x1 x2 x4 x6 x7 x8 a =>
    if 48 ≤ x8 then
      f_M_throwsOne_124 N N x2 x4 x6 x7 0 a
    else
      if inb x8 48 then
        if (a 45 (ix x8)) = 0 then
          f_M_throwsOne_59 N n x1 x2 x4 x6 x7 (x8 + 1) a
        else
          (f_M_strikes x2 x4 x6 x8 a).bind fun q2 =>
            if q2 = 0 then
              f_M_throwsOne_59 N n x1 x2 x4 x6 x7 (x8 + 1) a
            else
              (f_M_hangsNow x8 a).bind fun q3 =>
                if inb x2 4 then
                  if (a 39 (ix x2)) ≤ q3 then
                    f_M_throwsOne_59 N n x1 x2 x4 x6 x7 (x8 + 1) a
                  else
                    (f_M_falls N x1 x8 a).bind fun q4 =>
                      f_M_throwsOne_59 N n x1 x2 x4 x6 (x7 + 1) (x8 + 1) q4.2
                else none
      else none
def f_M_throwsOne (N : Nat) (p1 : Int32) (p2 : Int32) (p3 : Int32) (a : aT) : Option (Int32 × aT) :=
  (f_M_lot a).bind fun q1 =>
    if (q1.2 42 0) ≤ q1.1 then
      if q1.1 < (16 - (q1.2 42 0)) then
        f_M_throwsOne_59 N N p1 p2 (p3 / 8) ((i_rem p3 8) + 0) 0 0 q1.2
      else
        f_M_throwsOne_59 N N p1 p2 (p3 / 8) ((i_rem p3 8) + 1) 0 0 q1.2
    else
      f_M_throwsOne_59 N N p1 p2 (p3 / 8) ((i_rem p3 8) + (-1)) 0 0 q1.2
set_option maxHeartbeats 4000000 in
set_option maxRecDepth 100000 in
theorem x_M_throwsOne_202 (E : eT) (N : Nat) (x2 : Int32) (x4 : Int32) (x6 : Int32) (x7 : Int32) (y1 : Int32) (a : aT) : XI qI E md_M_throwsOne 202 [.ref 31, .null, .int x2, .null, .int x4, .null, .int x6, .int x7, .null] [.int y1] a (f_M_throwsOne_202 N x2 x4 x6 x7 y1 a) := by
  refine XI_br (c := y1 = 0) (t := 254) (e := 214) (ls' := [.ref 31, .null, .int x2, .null, .int x4, .null, .int x6, .int x7, .int y1]) (st' := [.int x2, .ref 46]) (a' := a) [(.istore 8, 2, 8, .null), (.aload_n 0, 1, 0, .null), (.getfield 53, 3, 1121, .null), (.iload_n 2, 1, 2, .null), (.iload 8, 2, 8, .null), (.ifCond .eq 43, 3, 254, .null)] (by decide +kernel) rfl ?_ ?_
  · refine XI_ck (c := inb x2 4) (pc' := 260) (ls' := [.ref 31, .null, .int x2, .null, .int x4, .null, .int x6, .int x7, .int y1]) (st' := [.int (a 46 (ix x2)), .int x2, .ref 46]) (a' := a) [(.aload_n 0, 1, 0, .null), (.getfield 53, 3, 1121, .null), (.iload_n 2, 1, 2, .null), (.iaload, 1, 0, .null)] (by decide +kernel) rfl ?_
    refine XI_ck (c := inb x2 4) (pc' := 261) (ls' := [.ref 31, .null, .int x2, .null, .int x4, .null, .int x6, .int x7, .int y1]) (st' := []) (a' := (upA a 46 (ix x2) (a 46 (ix x2)))) [(.iastore, 1, 0, .null)] (by decide +kernel) rfl ?_
    refine XI_go (pc' := 263) (ls' := [.ref 31, .null, .int x2, .null, .int x4, .null, .int x6, .int x7, .int y1]) (st' := [.int x7]) (a' := (upA a 46 (ix x2) (a 46 (ix x2)))) [(.iload 7, 2, 7, .null)] (by decide +kernel) rfl ?_
    exact XI_retI (by decide +kernel)
  · refine XI_go (pc' := 221) (ls' := [.ref 31, .null, .int x2, .null, .int x4, .null, .int x6, .int x7, .int y1]) (st' := [.long 7, .long 0, .long x6.toInt64, .int x2, .ref 46]) (a' := a) [(.iload 6, 2, 6, .null), (.i2l, 1, 0, .null), (.lconst 0, 1, 0, .long 0), (.ldc2_w 145, 3, 0, .long 7)] (by decide +kernel) rfl ?_
    refine XI_ST (As := [.long x6.toInt64, .long 0, .long 7]) (rest := [.int x2, .ref 46]) (idx := 74) (by decide +kernel) ok_M_in mv_M_in (n := 3) ⟨lk_M_74, by decide +kernel⟩ rfl (Nat.le_of_ble_eq_true rfl) (Nat.le_of_ble_eq_true rfl) (qZ_h rfl) (x_M_in E x6.toInt64 0 7 a) ?_
    refine XI_br (c := (f_M_in x6.toInt64 0 7) = 0) (t := 254) (e := 227) (ls' := [.ref 31, .null, .int x2, .null, .int x4, .null, .int x6, .int x7, .int y1]) (st' := [.int x2, .ref 46]) (a' := a) [(.ifCond .eq 30, 3, 254, .null)] (by decide +kernel) rfl ?_ ?_
    · refine XI_ck (c := inb x2 4) (pc' := 260) (ls' := [.ref 31, .null, .int x2, .null, .int x4, .null, .int x6, .int x7, .int y1]) (st' := [.int (a 46 (ix x2)), .int x2, .ref 46]) (a' := a) [(.aload_n 0, 1, 0, .null), (.getfield 53, 3, 1121, .null), (.iload_n 2, 1, 2, .null), (.iaload, 1, 0, .null)] (by decide +kernel) rfl ?_
      refine XI_ck (c := inb x2 4) (pc' := 261) (ls' := [.ref 31, .null, .int x2, .null, .int x4, .null, .int x6, .int x7, .int y1]) (st' := []) (a' := (upA a 46 (ix x2) (a 46 (ix x2)))) [(.iastore, 1, 0, .null)] (by decide +kernel) rfl ?_
      refine XI_go (pc' := 263) (ls' := [.ref 31, .null, .int x2, .null, .int x4, .null, .int x6, .int x7, .int y1]) (st' := [.int x7]) (a' := (upA a 46 (ix x2) (a 46 (ix x2)))) [(.iload 7, 2, 7, .null)] (by decide +kernel) rfl ?_
      exact XI_retI (by decide +kernel)
    · refine XI_ck (c := inb ((8 * x4) + x6) 48) (pc' := 240) (ls' := [.ref 31, .null, .int x2, .null, .int x4, .null, .int x6, .int x7, .int y1]) (st' := [.int (a 37 (ix ((8 * x4) + x6))), .int x2, .ref 46]) (a' := a) [(.aload_n 0, 1, 0, .null), (.getfield 25, 3, 1108, .null), (.bipush 8, 2, 0, .int 8), (.iload 4, 2, 4, .null), (.imul, 1, 0, .null), (.iload 6, 2, 6, .null), (.iadd, 1, 0, .null), (.baload, 1, 0, .null)] (by decide +kernel) rfl ?_
      refine XI_br (c := (a 37 (ix ((8 * x4) + x6))) = 0) (t := 254) (e := 243) (ls' := [.ref 31, .null, .int x2, .null, .int x4, .null, .int x6, .int x7, .int y1]) (st' := [.int x2, .ref 46]) (a' := a) [(.ifCond .eq 14, 3, 254, .null)] (by decide +kernel) rfl ?_ ?_
      · refine XI_ck (c := inb x2 4) (pc' := 260) (ls' := [.ref 31, .null, .int x2, .null, .int x4, .null, .int x6, .int x7, .int y1]) (st' := [.int (a 46 (ix x2)), .int x2, .ref 46]) (a' := a) [(.aload_n 0, 1, 0, .null), (.getfield 53, 3, 1121, .null), (.iload_n 2, 1, 2, .null), (.iaload, 1, 0, .null)] (by decide +kernel) rfl ?_
        refine XI_ck (c := inb x2 4) (pc' := 261) (ls' := [.ref 31, .null, .int x2, .null, .int x4, .null, .int x6, .int x7, .int y1]) (st' := []) (a' := (upA a 46 (ix x2) (a 46 (ix x2)))) [(.iastore, 1, 0, .null)] (by decide +kernel) rfl ?_
        refine XI_go (pc' := 263) (ls' := [.ref 31, .null, .int x2, .null, .int x4, .null, .int x6, .int x7, .int y1]) (st' := [.int x7]) (a' := (upA a 46 (ix x2) (a 46 (ix x2)))) [(.iload 7, 2, 7, .null)] (by decide +kernel) rfl ?_
        exact XI_retI (by decide +kernel)
      · refine XI_ck (c := inb x2 4) (pc' := 261) (ls' := [.ref 31, .null, .int x2, .null, .int x4, .null, .int x6, .int x7, .int y1]) (st' := []) (a' := (upA a 46 (ix x2) ((8 * x4) + x6))) [(.bipush 8, 2, 0, .int 8), (.iload 4, 2, 4, .null), (.imul, 1, 0, .null), (.iload 6, 2, 6, .null), (.iadd, 1, 0, .null), (.goto 9, 3, 260, .null), (.iastore, 1, 0, .null)] (by decide +kernel) rfl ?_
        refine XI_go (pc' := 263) (ls' := [.ref 31, .null, .int x2, .null, .int x4, .null, .int x6, .int x7, .int y1]) (st' := [.int x7]) (a' := (upA a 46 (ix x2) ((8 * x4) + x6))) [(.iload 7, 2, 7, .null)] (by decide +kernel) rfl ?_
        exact XI_retI (by decide +kernel)
set_option maxHeartbeats 4000000 in
set_option maxRecDepth 100000 in
theorem x_M_throwsOne_124 (E : eT) (N : Nat) : ∀ (n : Nat) (x2 : Int32) (x4 : Int32) (x6 : Int32) (x7 : Int32) (x8 : Int32) (a : aT), XI qI E md_M_throwsOne 124 [.ref 31, .null, .int x2, .null, .int x4, .null, .int x6, .int x7, .int x8] [] a (f_M_throwsOne_124 N n x2 x4 x6 x7 x8 a)
  | 0, _, _, _, _, _, _ => XI_no rfl
  | n + 1, x2, x4, x6, x7, x8, a => by
    refine XI_br (c := 4 ≤ x8) (t := 184) (e := 130) (ls' := [.ref 31, .null, .int x2, .null, .int x4, .null, .int x6, .int x7, .int x8]) (st' := []) (a' := a) [(.iload 8, 2, 8, .null), (.iconst 4, 1, 0, .int 4), (.if_icmp .ge 57, 3, 184, .null)] (by decide +kernel) rfl ?_ ?_
    · refine XI_go (pc' := 185) (ls' := [.ref 31, .null, .int x2, .null, .int x4, .null, .int x6, .int x7, .int x8]) (st' := [.ref 31]) (a' := a) [(.aload_n 0, 1, 0, .null)] (by decide +kernel) rfl ?_
      refine XI_VI (As := []) (rest := []) (b := 31) (idx := 178) (by decide +kernel) ok_M_lot mv_M_lot (n := 0) ⟨lk_M_178, by decide +kernel⟩ rfl rfl rfl rfl (Nat.le_of_ble_eq_true rfl) (Nat.le_of_ble_eq_true rfl) (qI_h rfl) (x_M_lot E a) (fun q5 => ?_)
      refine XI_ck (c := inb x2 4) (pc' := 194) (ls' := [.ref 31, .null, .int x2, .null, .int x4, .null, .int x6, .int x7, .int x8]) (st' := [.int (q5.2 41 (ix x2)), .int q5.1]) (a' := q5.2) [(.aload_n 0, 1, 0, .null), (.getfield 38, 3, 1114, .null), (.iload_n 2, 1, 2, .null), (.iaload, 1, 0, .null)] (by decide +kernel) rfl ?_
      refine XI_br (c := (q5.2 41 (ix x2)) ≤ q5.1) (t := 201) (e := 197) (ls' := [.ref 31, .null, .int x2, .null, .int x4, .null, .int x6, .int x7, .int x8]) (st' := []) (a' := q5.2) [(.if_icmp .ge 7, 3, 201, .null)] (by decide +kernel) rfl ?_ ?_
      · refine XI_go (pc' := 202) (ls' := [.ref 31, .null, .int x2, .null, .int x4, .null, .int x6, .int x7, .int x8]) (st' := [.int 0]) (a' := q5.2) [(.iconst 0, 1, 0, .int 0)] (by decide +kernel) rfl ?_
        refine XI_fg [true, false, true, false, true, false, true, true, false] ?_
        exact x_M_throwsOne_202 E N x2 x4 x6 x7 0 q5.2
      · refine XI_go (pc' := 202) (ls' := [.ref 31, .null, .int x2, .null, .int x4, .null, .int x6, .int x7, .int x8]) (st' := [.int 1]) (a' := q5.2) [(.iconst 1, 1, 0, .int 1), (.goto 4, 3, 202, .null)] (by decide +kernel) rfl ?_
        refine XI_fg [true, false, true, false, true, false, true, true, false] ?_
        exact x_M_throwsOne_202 E N x2 x4 x6 x7 1 q5.2
    · refine XI_ck (c := inb x8 4) (pc' := 143) (ls' := [.ref 31, .null, .int x2, .null, .int x4, .null, .int x6, .int x7, .int x8]) (st' := [.int (a 46 (ix x8)), .int x8, .ref 46]) (a' := a) [(.aload_n 0, 1, 0, .null), (.getfield 53, 3, 1121, .null), (.iload 8, 2, 8, .null), (.aload_n 0, 1, 0, .null), (.getfield 53, 3, 1121, .null), (.iload 8, 2, 8, .null), (.iaload, 1, 0, .null)] (by decide +kernel) rfl ?_
      refine XI_br (c := (a 46 (ix x8)) = (-1)) (t := 170) (e := 147) (ls' := [.ref 31, .null, .int x2, .null, .int x4, .null, .int x6, .int x7, .int x8]) (st' := [.int x8, .ref 46]) (a' := a) [(.iconst (-1), 1, 0, .int (-1)), (.if_icmp .eq 26, 3, 170, .null)] (by decide +kernel) rfl ?_ ?_
      · refine XI_ck (c := inb x8 4) (pc' := 177) (ls' := [.ref 31, .null, .int x2, .null, .int x4, .null, .int x6, .int x7, .int x8]) (st' := [.int (a 46 (ix x8)), .int x8, .ref 46]) (a' := a) [(.aload_n 0, 1, 0, .null), (.getfield 53, 3, 1121, .null), (.iload 8, 2, 8, .null), (.iaload, 1, 0, .null)] (by decide +kernel) rfl ?_
        refine XI_ck (c := inb x8 4) (pc' := 178) (ls' := [.ref 31, .null, .int x2, .null, .int x4, .null, .int x6, .int x7, .int x8]) (st' := []) (a' := (upA a 46 (ix x8) (a 46 (ix x8)))) [(.iastore, 1, 0, .null)] (by decide +kernel) rfl ?_
        refine XI_go (pc' := 124) (ls' := [.ref 31, .null, .int x2, .null, .int x4, .null, .int x6, .int x7, .int (x8 + 1)]) (st' := []) (a' := (upA a 46 (ix x8) (a 46 (ix x8)))) [(.iinc 8 1, 3, 8, .int 1), (.goto (-57), 3, 124, .null)] (by decide +kernel) rfl ?_
        refine XI_fg [true, false, true, false, true, false, true, true, true] ?_
        exact x_M_throwsOne_124 E N n x2 x4 x6 x7 (x8 + 1) (upA a 46 (ix x8) (a 46 (ix x8)))
      · refine XI_ck (c := inb x8 4) (pc' := 160) (ls' := [.ref 31, .null, .int x2, .null, .int x4, .null, .int x6, .int x7, .int x8]) (st' := [.int (a 46 (ix x8)), .int x6, .int x4, .int x2, .ref 31, .int x8, .ref 46]) (a' := a) [(.aload_n 0, 1, 0, .null), (.iload_n 2, 1, 2, .null), (.iload 4, 2, 4, .null), (.iload 6, 2, 6, .null), (.aload_n 0, 1, 0, .null), (.getfield 53, 3, 1121, .null), (.iload 8, 2, 8, .null), (.iaload, 1, 0, .null)] (by decide +kernel) rfl ?_
        refine XI_VP (As := [.int x2, .int x4, .int x6, .int (a 46 (ix x8))]) (rest := [.int x8, .ref 46]) (b := 31) (idx := 181) (by decide +kernel) ok_M_strikes mv_M_strikes (n := 4) ⟨lk_M_181, by decide +kernel⟩ rfl rfl rfl rfl (Nat.le_of_ble_eq_true rfl) (Nat.le_of_ble_eq_true rfl) (qZ_h rfl) (x_M_strikes E x2 x4 x6 (a 46 (ix x8)) a) (fun q6 => ?_)
        refine XI_br (c := q6 = 0) (t := 170) (e := 166) (ls' := [.ref 31, .null, .int x2, .null, .int x4, .null, .int x6, .int x7, .int x8]) (st' := [.int x8, .ref 46]) (a' := a) [(.ifCond .eq 7, 3, 170, .null)] (by decide +kernel) rfl ?_ ?_
        · refine XI_ck (c := inb x8 4) (pc' := 177) (ls' := [.ref 31, .null, .int x2, .null, .int x4, .null, .int x6, .int x7, .int x8]) (st' := [.int (a 46 (ix x8)), .int x8, .ref 46]) (a' := a) [(.aload_n 0, 1, 0, .null), (.getfield 53, 3, 1121, .null), (.iload 8, 2, 8, .null), (.iaload, 1, 0, .null)] (by decide +kernel) rfl ?_
          refine XI_ck (c := inb x8 4) (pc' := 178) (ls' := [.ref 31, .null, .int x2, .null, .int x4, .null, .int x6, .int x7, .int x8]) (st' := []) (a' := (upA a 46 (ix x8) (a 46 (ix x8)))) [(.iastore, 1, 0, .null)] (by decide +kernel) rfl ?_
          refine XI_go (pc' := 124) (ls' := [.ref 31, .null, .int x2, .null, .int x4, .null, .int x6, .int x7, .int (x8 + 1)]) (st' := []) (a' := (upA a 46 (ix x8) (a 46 (ix x8)))) [(.iinc 8 1, 3, 8, .int 1), (.goto (-57), 3, 124, .null)] (by decide +kernel) rfl ?_
          refine XI_fg [true, false, true, false, true, false, true, true, true] ?_
          exact x_M_throwsOne_124 E N n x2 x4 x6 x7 (x8 + 1) (upA a 46 (ix x8) (a 46 (ix x8)))
        · refine XI_ck (c := inb x8 4) (pc' := 178) (ls' := [.ref 31, .null, .int x2, .null, .int x4, .null, .int x6, .int x7, .int x8]) (st' := []) (a' := (upA a 46 (ix x8) (-1))) [(.iconst (-1), 1, 0, .int (-1)), (.goto 10, 3, 177, .null), (.iastore, 1, 0, .null)] (by decide +kernel) rfl ?_
          refine XI_go (pc' := 124) (ls' := [.ref 31, .null, .int x2, .null, .int x4, .null, .int x6, .int x7, .int (x8 + 1)]) (st' := []) (a' := (upA a 46 (ix x8) (-1))) [(.iinc 8 1, 3, 8, .int 1), (.goto (-57), 3, 124, .null)] (by decide +kernel) rfl ?_
          refine XI_fg [true, false, true, false, true, false, true, true, true] ?_
          exact x_M_throwsOne_124 E N n x2 x4 x6 x7 (x8 + 1) (upA a 46 (ix x8) (-1))
set_option maxHeartbeats 4000000 in
set_option maxRecDepth 100000 in
theorem x_M_throwsOne_59 (E : eT) (N : Nat) : ∀ (n : Nat) (x1 : Int32) (x2 : Int32) (x4 : Int32) (x6 : Int32) (x7 : Int32) (x8 : Int32) (a : aT), XI qI E md_M_throwsOne 59 [.ref 31, .int x1, .int x2, .null, .int x4, .null, .int x6, .int x7, .int x8] [] a (f_M_throwsOne_59 N n x1 x2 x4 x6 x7 x8 a)
  | 0, _, _, _, _, _, _, _ => XI_no rfl
  | n + 1, x1, x2, x4, x6, x7, x8, a => by
    refine XI_br (c := 48 ≤ x8) (t := 121) (e := 66) (ls' := [.ref 31, .int x1, .int x2, .null, .int x4, .null, .int x6, .int x7, .int x8]) (st' := []) (a' := a) [(.iload 8, 2, 8, .null), (.bipush 48, 2, 0, .int 48), (.if_icmp .ge 58, 3, 121, .null)] (by decide +kernel) rfl ?_ ?_
    · refine XI_go (pc' := 124) (ls' := [.ref 31, .int x1, .int x2, .null, .int x4, .null, .int x6, .int x7, .int 0]) (st' := []) (a' := a) [(.iconst 0, 1, 0, .int 0), (.istore 8, 2, 8, .null)] (by decide +kernel) rfl ?_
      refine XI_fg [true, false, true, false, true, false, true, true, true] ?_
      exact x_M_throwsOne_124 E N N x2 x4 x6 x7 0 a
    · refine XI_ck (c := inb x8 48) (pc' := 73) (ls' := [.ref 31, .int x1, .int x2, .null, .int x4, .null, .int x6, .int x7, .int x8]) (st' := [.int (a 45 (ix x8))]) (a' := a) [(.aload_n 0, 1, 0, .null), (.getfield 50, 3, 1120, .null), (.iload 8, 2, 8, .null), (.baload, 1, 0, .null)] (by decide +kernel) rfl ?_
      refine XI_br (c := (a 45 (ix x8)) = 0) (t := 115) (e := 76) (ls' := [.ref 31, .int x1, .int x2, .null, .int x4, .null, .int x6, .int x7, .int x8]) (st' := []) (a' := a) [(.ifCond .eq 42, 3, 115, .null)] (by decide +kernel) rfl ?_ ?_
      · refine XI_go (pc' := 59) (ls' := [.ref 31, .int x1, .int x2, .null, .int x4, .null, .int x6, .int x7, .int (x8 + 1)]) (st' := []) (a' := a) [(.iinc 8 1, 3, 8, .int 1), (.goto (-59), 3, 59, .null)] (by decide +kernel) rfl ?_
        refine XI_fg [true, true, true, false, true, false, true, true, true] ?_
        exact x_M_throwsOne_59 E N n x1 x2 x4 x6 x7 (x8 + 1) a
      · refine XI_go (pc' := 84) (ls' := [.ref 31, .int x1, .int x2, .null, .int x4, .null, .int x6, .int x7, .int x8]) (st' := [.int x8, .int x6, .int x4, .int x2, .ref 31]) (a' := a) [(.aload_n 0, 1, 0, .null), (.iload_n 2, 1, 2, .null), (.iload 4, 2, 4, .null), (.iload 6, 2, 6, .null), (.iload 8, 2, 8, .null)] (by decide +kernel) rfl ?_
        refine XI_VP (As := [.int x2, .int x4, .int x6, .int x8]) (rest := []) (b := 31) (idx := 181) (by decide +kernel) ok_M_strikes mv_M_strikes (n := 4) ⟨lk_M_181, by decide +kernel⟩ rfl rfl rfl rfl (Nat.le_of_ble_eq_true rfl) (Nat.le_of_ble_eq_true rfl) (qZ_h rfl) (x_M_strikes E x2 x4 x6 x8 a) (fun q2 => ?_)
        refine XI_br (c := q2 = 0) (t := 115) (e := 90) (ls' := [.ref 31, .int x1, .int x2, .null, .int x4, .null, .int x6, .int x7, .int x8]) (st' := []) (a' := a) [(.ifCond .eq 28, 3, 115, .null)] (by decide +kernel) rfl ?_ ?_
        · refine XI_go (pc' := 59) (ls' := [.ref 31, .int x1, .int x2, .null, .int x4, .null, .int x6, .int x7, .int (x8 + 1)]) (st' := []) (a' := a) [(.iinc 8 1, 3, 8, .int 1), (.goto (-59), 3, 59, .null)] (by decide +kernel) rfl ?_
          refine XI_fg [true, true, true, false, true, false, true, true, true] ?_
          exact x_M_throwsOne_59 E N n x1 x2 x4 x6 x7 (x8 + 1) a
        · refine XI_go (pc' := 93) (ls' := [.ref 31, .int x1, .int x2, .null, .int x4, .null, .int x6, .int x7, .int x8]) (st' := [.int x8, .ref 31]) (a' := a) [(.aload_n 0, 1, 0, .null), (.iload 8, 2, 8, .null)] (by decide +kernel) rfl ?_
          refine XI_VP (As := [.int x8]) (rest := []) (b := 31) (idx := 166) (by decide +kernel) ok_M_hangsNow mv_M_hangsNow (n := 1) ⟨lk_M_166, by decide +kernel⟩ rfl rfl rfl rfl (Nat.le_of_ble_eq_true rfl) (Nat.le_of_ble_eq_true rfl) (qI_h rfl) (x_M_hangsNow E x8 a) (fun q3 => ?_)
          refine XI_ck (c := inb x2 4) (pc' := 102) (ls' := [.ref 31, .int x1, .int x2, .null, .int x4, .null, .int x6, .int x7, .int x8]) (st' := [.int (a 39 (ix x2)), .int q3]) (a' := a) [(.aload_n 0, 1, 0, .null), (.getfield 32, 3, 1112, .null), (.iload_n 2, 1, 2, .null), (.iaload, 1, 0, .null)] (by decide +kernel) rfl ?_
          refine XI_br (c := (a 39 (ix x2)) ≤ q3) (t := 115) (e := 105) (ls' := [.ref 31, .int x1, .int x2, .null, .int x4, .null, .int x6, .int x7, .int x8]) (st' := []) (a' := a) [(.if_icmp .ge 13, 3, 115, .null)] (by decide +kernel) rfl ?_ ?_
          · refine XI_go (pc' := 59) (ls' := [.ref 31, .int x1, .int x2, .null, .int x4, .null, .int x6, .int x7, .int (x8 + 1)]) (st' := []) (a' := a) [(.iinc 8 1, 3, 8, .int 1), (.goto (-59), 3, 59, .null)] (by decide +kernel) rfl ?_
            refine XI_fg [true, true, true, false, true, false, true, true, true] ?_
            exact x_M_throwsOne_59 E N n x1 x2 x4 x6 x7 (x8 + 1) a
          · refine XI_go (pc' := 109) (ls' := [.ref 31, .int x1, .int x2, .null, .int x4, .null, .int x6, .int x7, .int x8]) (st' := [.int x8, .int x1, .ref 31]) (a' := a) [(.aload_n 0, 1, 0, .null), (.iload_n 1, 1, 1, .null), (.iload 8, 2, 8, .null)] (by decide +kernel) rfl ?_
            refine XI_VI (As := [.int x1, .int x8]) (rest := []) (b := 31) (idx := 185) (by decide +kernel) ok_M_falls mv_M_falls (n := 2) ⟨lk_M_185, by decide +kernel⟩ rfl rfl rfl rfl (Nat.le_of_ble_eq_true rfl) (Nat.le_of_ble_eq_true rfl) (qV_h rfl) (x_M_falls E N x1 x8 a) (fun q4 => ?_)
            refine XI_go (pc' := 59) (ls' := [.ref 31, .int x1, .int x2, .null, .int x4, .null, .int x6, .int (x7 + 1), .int (x8 + 1)]) (st' := []) (a' := q4.2) [(.iinc 7 1, 3, 7, .int 1), (.iinc 8 1, 3, 8, .int 1), (.goto (-59), 3, 59, .null)] (by decide +kernel) rfl ?_
            refine XI_fg [true, true, true, false, true, false, true, true, true] ?_
            exact x_M_throwsOne_59 E N n x1 x2 x4 x6 (x7 + 1) (x8 + 1) q4.2
set_option maxHeartbeats 4000000 in
set_option maxRecDepth 100000 in
theorem x_M_throwsOne (E : eT) (N : Nat) (p1 : Int32) (p2 : Int32) (p3 : Int32) (a : aT) : XI qI E md_M_throwsOne 0 [.ref 31, .int p1, .int p2, .int p3, .null, .null, .null, .null, .null] [] a (f_M_throwsOne N p1 p2 p3 a) := by
  refine XI_go (pc' := 7) (ls' := [.ref 31, .int p1, .int p2, .int p3, .int (p3 / 8), .null, .null, .null, .null]) (st' := [.ref 31]) (a' := a) [(.iload_n 3, 1, 3, .null), (.bipush 8, 2, 0, .int 8), (.idiv, 1, 0, .null), (.istore 4, 2, 4, .null), (.aload_n 0, 1, 0, .null)] (by decide +kernel) rfl ?_
  refine XI_VI (As := []) (rest := []) (b := 31) (idx := 178) (by decide +kernel) ok_M_lot mv_M_lot (n := 0) ⟨lk_M_178, by decide +kernel⟩ rfl rfl rfl rfl (Nat.le_of_ble_eq_true rfl) (Nat.le_of_ble_eq_true rfl) (qI_h rfl) (x_M_lot E a) (fun q1 => ?_)
  refine XI_br (c := (q1.2 42 0) ≤ q1.1) (t := 31) (e := 27) (ls' := [.ref 31, .int p1, .int p2, .int p3, .int (p3 / 8), .int q1.1, .null, .null, .null]) (st' := [.int (i_rem p3 8)]) (a' := q1.2) [(.istore 5, 2, 5, .null), (.iload_n 3, 1, 3, .null), (.bipush 8, 2, 0, .int 8), (.irem, 1, 0, .null), (.iload 5, 2, 5, .null), (.aload_n 0, 1, 0, .null), (.getfield 41, 3, 1115, .null), (.iconst 0, 1, 0, .int 0), (.iaload, 1, 0, .null), (.if_icmp .ge 7, 3, 31, .null)] (by decide +kernel) rfl ?_ ?_
  · refine XI_br (c := q1.1 < (16 - (q1.2 42 0))) (t := 49) (e := 45) (ls' := [.ref 31, .int p1, .int p2, .int p3, .int (p3 / 8), .int q1.1, .null, .null, .null]) (st' := [.int (i_rem p3 8)]) (a' := q1.2) [(.iload 5, 2, 5, .null), (.bipush 16, 2, 0, .int 16), (.aload_n 0, 1, 0, .null), (.getfield 41, 3, 1115, .null), (.iconst 0, 1, 0, .int 0), (.iaload, 1, 0, .null), (.isub, 1, 0, .null), (.if_icmp .lt 7, 3, 49, .null)] (by decide +kernel) rfl ?_ ?_
    · refine XI_go (pc' := 59) (ls' := [.ref 31, .int p1, .int p2, .int p3, .int (p3 / 8), .int q1.1, .int ((i_rem p3 8) + 0), .int 0, .int 0]) (st' := []) (a' := q1.2) [(.iconst 0, 1, 0, .int 0), (.iadd, 1, 0, .null), (.istore 6, 2, 6, .null), (.iconst 0, 1, 0, .int 0), (.istore 7, 2, 7, .null), (.iconst 0, 1, 0, .int 0), (.istore 8, 2, 8, .null)] (by decide +kernel) rfl ?_
      refine XI_fg [true, true, true, false, true, false, true, true, true] ?_
      exact x_M_throwsOne_59 E N N p1 p2 (p3 / 8) ((i_rem p3 8) + 0) 0 0 q1.2
    · refine XI_go (pc' := 59) (ls' := [.ref 31, .int p1, .int p2, .int p3, .int (p3 / 8), .int q1.1, .int ((i_rem p3 8) + 1), .int 0, .int 0]) (st' := []) (a' := q1.2) [(.iconst 1, 1, 0, .int 1), (.goto 4, 3, 50, .null), (.iadd, 1, 0, .null), (.istore 6, 2, 6, .null), (.iconst 0, 1, 0, .int 0), (.istore 7, 2, 7, .null), (.iconst 0, 1, 0, .int 0), (.istore 8, 2, 8, .null)] (by decide +kernel) rfl ?_
      refine XI_fg [true, true, true, false, true, false, true, true, true] ?_
      exact x_M_throwsOne_59 E N N p1 p2 (p3 / 8) ((i_rem p3 8) + 1) 0 0 q1.2
  · refine XI_go (pc' := 59) (ls' := [.ref 31, .int p1, .int p2, .int p3, .int (p3 / 8), .int q1.1, .int ((i_rem p3 8) + (-1)), .int 0, .int 0]) (st' := []) (a' := q1.2) [(.iconst (-1), 1, 0, .int (-1)), (.goto 22, 3, 50, .null), (.iadd, 1, 0, .null), (.istore 6, 2, 6, .null), (.iconst 0, 1, 0, .int 0), (.istore 7, 2, 7, .null), (.iconst 0, 1, 0, .int 0), (.istore 8, 2, 8, .null)] (by decide +kernel) rfl ?_
    refine XI_fg [true, true, true, false, true, false, true, true, true] ?_
    exact x_M_throwsOne_59 E N N p1 p2 (p3 / 8) ((i_rem p3 8) + (-1)) 0 0 q1.2
/-! ChestnutSticksModel.throwsAll(II)V -/
def md_M_throwsAll : md_T := (yX11_throwsAll, cX11_throwsAll, 6, none, 5, 113)
set_option maxRecDepth 100000 in
theorem ok_M_throwsAll : m_ok md_M_throwsAll := ⟨List.mem_of_getElem? (i := 1115) (by decide +kernel), by decide +kernel, List.mem_of_getElem? (i := 64) (by decide +kernel), by decide +kernel⟩
theorem mv_M_throwsAll : Cond.instanceMethod (m_y md_M_throwsAll) ∈ lw_tbl ∧ Cond.selects (m_y md_M_throwsAll).cls (m_y md_M_throwsAll) (m_y md_M_throwsAll) ∈ lw_tbl := ⟨List.mem_of_getElem? (i := 1114) (by decide +kernel), List.mem_of_getElem? (i := 24) (by decide +kernel)⟩
def f_M_throwsAll_185 (N : Nat) (k94 : Int32 → Int32 → aT → Option (Unit × aT)) (x2 : Int32) (x3 : Int32) (a : aT) : Option (Unit × aT) :=
  if (a 31 28) = (-1) then
    k94 x2 (x3 + 1) (upA a 31 28 x3)
  else
    k94 x2 (x3 + 1) (upA a 31 28 (a 31 28))
def f_M_throwsAll_94 (N : Nat) : Nat → Int32 → Int32 → aT → Option (Unit × aT)
  | 0 => fun _ _ _ => none
  | n + 1 => fun x2 x3 a =>
    if x2 ≤ x3 then
      some ((), a)
    else
      if inb ((3 * x3) + 1) 60 then
        if inb ((3 * x3) + 2) 60 then
          if inb x3 20 then
            (f_M_isCell (a 44 (ix ((3 * x3) + 2))) (upA a 48 (ix x3) 0)).bind fun q2 =>
              if q2 = 0 then
                f_M_throwsAll_185 N (f_M_throwsAll_94 N n) x2 x3 (upA a 48 (ix x3) 0)
              else
                if inb (a 44 (ix ((3 * x3) + 1))) 4 then
                  if (a 46 (ix (a 44 (ix ((3 * x3) + 1))))) = (-1) then
                    if inb (3 * x3) 60 then
                      (f_M_throwsOne N (a 44 (ix (3 * x3))) (a 44 (ix ((3 * x3) + 1))) (a 44 (ix ((3 * x3) + 2))) (upA a 48 (ix x3) 0)).bind fun q3 =>
                        if inb x3 20 then
                          f_M_throwsAll_94 N n x2 (x3 + 1) (upA (upA q3.2 48 (ix x3) q3.1) 31 27 ((q3.2 31 27) + 1))
                        else none
                    else none
                  else
                    f_M_throwsAll_185 N (f_M_throwsAll_94 N n) x2 x3 (upA a 48 (ix x3) 0)
                else none
          else none
        else none
      else none
def f_M_throwsAll_42 (N : Nat) : Nat → Int32 → Int32 → Int32 → aT → Option (Unit × aT)
  | 0 => fun _ _ _ _ => none
  | n + 1 => fun x1 x2 x3 a =>
    if 4 ≤ x3 then
      f_M_throwsAll_94 N N x2 0 (upA (upA (upA (upA (upA a 31 24 x1) 31 25 0) 31 26 0) 31 27 0) 31 28 (-1))
    else
      if inb x3 4 then
        if inb x3 4 then
          f_M_throwsAll_42 N n x1 x2 (x3 + 1) (upA (upA a 46 (ix x3) (-1)) 47 (ix x3) 0)
        else none
      else none
def f_M_throwsAll_7 (N : Nat) : Nat → Int32 → Int32 → Int32 → aT → Option (Unit × aT)
  | 0 => fun _ _ _ _ => none
  | n + 1 => fun x1 x2 x3 a =>
    if 48 ≤ x3 then
      f_M_throwsAll_42 N N x1 x2 0 a
    else
      if inb x3 48 then
        if (a 38 (ix x3)) = (-1) then
          if inb x3 48 then
            f_M_throwsAll_7 N n x1 x2 (x3 + 1) (upA a 45 (ix x3) 0)
          else none
        else
          if inb x3 48 then
            f_M_throwsAll_7 N n x1 x2 (x3 + 1) (upA a 45 (ix x3) 1)
          else none
      else none
def f_M_throwsAll (N : Nat) (p1 : Int32) (p2 : Int32) (a : aT) : Option (Unit × aT) :=
  (f_M_reads N a).bind fun q1 =>
    f_M_throwsAll_7 N N p1 p2 0 q1.2
set_option maxHeartbeats 4000000 in
set_option maxRecDepth 100000 in
theorem x_M_throwsAll_185 (E : eT) (N : Nat) (k94 : Int32 → Int32 → aT → Option (Unit × aT)) (h94 : ∀ (x2 : Int32) (x3 : Int32) (a : aT), XI qV E md_M_throwsAll 94 [.ref 31, .null, .int x2, .int x3, .null, .null] [] a (k94 x2 x3 a)) (x2 : Int32) (x3 : Int32) (a : aT) : XI qV E md_M_throwsAll 185 [.ref 31, .null, .int x2, .int x3, .null, .null] [] a (f_M_throwsAll_185 N k94 x2 x3 a) := by
  refine XI_br (c := (a 31 28) = (-1)) (t := 194) (e := 198) (ls' := [.ref 31, .null, .int x2, .int x3, .null, .null]) (st' := [.ref 31]) (a' := a) [(.aload_n 0, 1, 0, .null), (.aload_n 0, 1, 0, .null), (.getfield 192, 3, 1128, .null), (.iconst (-1), 1, 0, .int (-1)), (.if_icmp .ne 7, 3, 198, .null)] (by decide +kernel) rfl ?_ ?_
  · refine XI_go (pc' := 94) (ls' := [.ref 31, .null, .int x2, .int (x3 + 1), .null, .null]) (st' := []) (a' := (upA a 31 28 x3)) [(.iload_n 3, 1, 3, .null), (.goto 7, 3, 202, .null), (.putfield 192, 3, 1128, .int 0), (.iinc 3 1, 3, 3, .int 1), (.goto (-114), 3, 94, .null)] (by decide +kernel) rfl ?_
    refine XI_fg [true, false, true, true, false, false] ?_
    exact h94 x2 (x3 + 1) (upA a 31 28 x3)
  · refine XI_go (pc' := 94) (ls' := [.ref 31, .null, .int x2, .int (x3 + 1), .null, .null]) (st' := []) (a' := (upA a 31 28 (a 31 28))) [(.aload_n 0, 1, 0, .null), (.getfield 192, 3, 1128, .null), (.putfield 192, 3, 1128, .int 0), (.iinc 3 1, 3, 3, .int 1), (.goto (-114), 3, 94, .null)] (by decide +kernel) rfl ?_
    refine XI_fg [true, false, true, true, false, false] ?_
    exact h94 x2 (x3 + 1) (upA a 31 28 (a 31 28))
set_option maxHeartbeats 4000000 in
set_option maxRecDepth 100000 in
theorem x_M_throwsAll_94 (E : eT) (N : Nat) : ∀ (n : Nat) (x2 : Int32) (x3 : Int32) (a : aT), XI qV E md_M_throwsAll 94 [.ref 31, .null, .int x2, .int x3, .null, .null] [] a (f_M_throwsAll_94 N n x2 x3 a)
  | 0, _, _, _ => XI_no rfl
  | n + 1, x2, x3, a => by
    refine XI_br (c := x2 ≤ x3) (t := 211) (e := 99) (ls' := [.ref 31, .null, .int x2, .int x3, .null, .null]) (st' := []) (a' := a) [(.iload_n 3, 1, 3, .null), (.iload_n 2, 1, 2, .null), (.if_icmp .ge 115, 3, 211, .null)] (by decide +kernel) rfl ?_ ?_
    · exact XI_retV (by decide +kernel)
    · refine XI_ck (c := inb ((3 * x3) + 1) 60) (pc' := 109) (ls' := [.ref 31, .null, .int x2, .int x3, .null, .null]) (st' := [.int (a 44 (ix ((3 * x3) + 1)))]) (a' := a) [(.aload_n 0, 1, 0, .null), (.getfield 47, 3, 1119, .null), (.iconst 3, 1, 0, .int 3), (.iload_n 3, 1, 3, .null), (.imul, 1, 0, .null), (.iconst 1, 1, 0, .int 1), (.iadd, 1, 0, .null), (.iaload, 1, 0, .null)] (by decide +kernel) rfl ?_
      refine XI_ck (c := inb ((3 * x3) + 2) 60) (pc' := 121) (ls' := [.ref 31, .null, .int x2, .int x3, .int (a 44 (ix ((3 * x3) + 1))), .null]) (st' := [.int (a 44 (ix ((3 * x3) + 2)))]) (a' := a) [(.istore 4, 2, 4, .null), (.aload_n 0, 1, 0, .null), (.getfield 47, 3, 1119, .null), (.iconst 3, 1, 0, .int 3), (.iload_n 3, 1, 3, .null), (.imul, 1, 0, .null), (.iconst 2, 1, 0, .int 2), (.iadd, 1, 0, .null), (.iaload, 1, 0, .null)] (by decide +kernel) rfl ?_
      refine XI_ck (c := inb x3 20) (pc' := 130) (ls' := [.ref 31, .null, .int x2, .int x3, .int (a 44 (ix ((3 * x3) + 1))), .int (a 44 (ix ((3 * x3) + 2)))]) (st' := []) (a' := (upA a 48 (ix x3) 0)) [(.istore 5, 2, 5, .null), (.aload_n 0, 1, 0, .null), (.getfield 59, 3, 1123, .null), (.iload_n 3, 1, 3, .null), (.iconst 0, 1, 0, .int 0), (.iastore, 1, 0, .null)] (by decide +kernel) rfl ?_
      refine XI_go (pc' := 133) (ls' := [.ref 31, .null, .int x2, .int x3, .int (a 44 (ix ((3 * x3) + 1))), .int (a 44 (ix ((3 * x3) + 2)))]) (st' := [.int (a 44 (ix ((3 * x3) + 2))), .ref 31]) (a' := (upA a 48 (ix x3) 0)) [(.aload_n 0, 1, 0, .null), (.iload 5, 2, 5, .null)] (by decide +kernel) rfl ?_
      refine XI_VP (As := [.int (a 44 (ix ((3 * x3) + 2)))]) (rest := []) (b := 31) (idx := 195) (by decide +kernel) ok_M_isCell mv_M_isCell (n := 1) ⟨lk_M_195, by decide +kernel⟩ rfl rfl rfl rfl (Nat.le_of_ble_eq_true rfl) (Nat.le_of_ble_eq_true rfl) (qZ_h rfl) (x_M_isCell E (a 44 (ix ((3 * x3) + 2))) (upA a 48 (ix x3) 0)) (fun q2 => ?_)
      refine XI_br (c := q2 = 0) (t := 185) (e := 139) (ls' := [.ref 31, .null, .int x2, .int x3, .int (a 44 (ix ((3 * x3) + 1))), .int (a 44 (ix ((3 * x3) + 2)))]) (st' := []) (a' := (upA a 48 (ix x3) 0)) [(.ifCond .eq 49, 3, 185, .null)] (by decide +kernel) rfl ?_ ?_
      · refine XI_fg [true, false, true, true, false, false] ?_
        exact x_M_throwsAll_185 E N (f_M_throwsAll_94 N n) (x_M_throwsAll_94 E N n) x2 x3 (upA a 48 (ix x3) 0)
      · refine XI_ck (c := inb (a 44 (ix ((3 * x3) + 1))) 4) (pc' := 146) (ls' := [.ref 31, .null, .int x2, .int x3, .int (a 44 (ix ((3 * x3) + 1))), .int (a 44 (ix ((3 * x3) + 2)))]) (st' := [.int (a 46 (ix (a 44 (ix ((3 * x3) + 1)))))]) (a' := (upA a 48 (ix x3) 0)) [(.aload_n 0, 1, 0, .null), (.getfield 53, 3, 1121, .null), (.iload 4, 2, 4, .null), (.iaload, 1, 0, .null)] (by decide +kernel) rfl ?_
        refine XI_br (c := (a 46 (ix (a 44 (ix ((3 * x3) + 1))))) = (-1)) (t := 150) (e := 185) (ls' := [.ref 31, .null, .int x2, .int x3, .int (a 44 (ix ((3 * x3) + 1))), .int (a 44 (ix ((3 * x3) + 2)))]) (st' := []) (a' := (upA a 48 (ix x3) 0)) [(.iconst (-1), 1, 0, .int (-1)), (.if_icmp .ne 38, 3, 185, .null)] (by decide +kernel) rfl ?_ ?_
        · refine XI_ck (c := inb (3 * x3) 60) (pc' := 164) (ls' := [.ref 31, .null, .int x2, .int x3, .int (a 44 (ix ((3 * x3) + 1))), .int (a 44 (ix ((3 * x3) + 2)))]) (st' := [.int (a 44 (ix (3 * x3))), .ref 31, .int x3, .ref 48]) (a' := (upA a 48 (ix x3) 0)) [(.aload_n 0, 1, 0, .null), (.getfield 59, 3, 1123, .null), (.iload_n 3, 1, 3, .null), (.aload_n 0, 1, 0, .null), (.aload_n 0, 1, 0, .null), (.getfield 47, 3, 1119, .null), (.iconst 3, 1, 0, .int 3), (.iload_n 3, 1, 3, .null), (.imul, 1, 0, .null), (.iaload, 1, 0, .null)] (by decide +kernel) rfl ?_
          refine XI_go (pc' := 168) (ls' := [.ref 31, .null, .int x2, .int x3, .int (a 44 (ix ((3 * x3) + 1))), .int (a 44 (ix ((3 * x3) + 2)))]) (st' := [.int (a 44 (ix ((3 * x3) + 2))), .int (a 44 (ix ((3 * x3) + 1))), .int (a 44 (ix (3 * x3))), .ref 31, .int x3, .ref 48]) (a' := (upA a 48 (ix x3) 0)) [(.iload 4, 2, 4, .null), (.iload 5, 2, 5, .null)] (by decide +kernel) rfl ?_
          refine XI_VI (As := [.int (a 44 (ix (3 * x3))), .int (a 44 (ix ((3 * x3) + 1))), .int (a 44 (ix ((3 * x3) + 2)))]) (rest := [.int x3, .ref 48]) (b := 31) (idx := 198) (by decide +kernel) ok_M_throwsOne mv_M_throwsOne (n := 3) ⟨lk_M_198, by decide +kernel⟩ rfl rfl rfl rfl (Nat.le_of_ble_eq_true rfl) (Nat.le_of_ble_eq_true rfl) (qI_h rfl) (x_M_throwsOne E N (a 44 (ix (3 * x3))) (a 44 (ix ((3 * x3) + 1))) (a 44 (ix ((3 * x3) + 2))) (upA a 48 (ix x3) 0)) (fun q3 => ?_)
          refine XI_ck (c := inb x3 20) (pc' := 172) (ls' := [.ref 31, .null, .int x2, .int x3, .int (a 44 (ix ((3 * x3) + 1))), .int (a 44 (ix ((3 * x3) + 2)))]) (st' := []) (a' := (upA q3.2 48 (ix x3) q3.1)) [(.iastore, 1, 0, .null)] (by decide +kernel) rfl ?_
          refine XI_go (pc' := 94) (ls' := [.ref 31, .null, .int x2, .int (x3 + 1), .int (a 44 (ix ((3 * x3) + 1))), .int (a 44 (ix ((3 * x3) + 2)))]) (st' := []) (a' := (upA (upA q3.2 48 (ix x3) q3.1) 31 27 ((q3.2 31 27) + 1))) [(.aload_n 0, 1, 0, .null), (.dup, 1, 0, .null), (.getfield 189, 3, 1127, .null), (.iconst 1, 1, 0, .int 1), (.iadd, 1, 0, .null), (.putfield 189, 3, 1127, .int 0), (.goto 23, 3, 205, .null), (.iinc 3 1, 3, 3, .int 1), (.goto (-114), 3, 94, .null)] (by decide +kernel) rfl ?_
          refine XI_fg [true, false, true, true, false, false] ?_
          exact x_M_throwsAll_94 E N n x2 (x3 + 1) (upA (upA q3.2 48 (ix x3) q3.1) 31 27 ((q3.2 31 27) + 1))
        · refine XI_fg [true, false, true, true, false, false] ?_
          exact x_M_throwsAll_185 E N (f_M_throwsAll_94 N n) (x_M_throwsAll_94 E N n) x2 x3 (upA a 48 (ix x3) 0)
set_option maxHeartbeats 4000000 in
set_option maxRecDepth 100000 in
theorem x_M_throwsAll_42 (E : eT) (N : Nat) : ∀ (n : Nat) (x1 : Int32) (x2 : Int32) (x3 : Int32) (a : aT), XI qV E md_M_throwsAll 42 [.ref 31, .int x1, .int x2, .int x3, .null, .null] [] a (f_M_throwsAll_42 N n x1 x2 x3 a)
  | 0, _, _, _, _ => XI_no rfl
  | n + 1, x1, x2, x3, a => by
    refine XI_br (c := 4 ≤ x3) (t := 67) (e := 47) (ls' := [.ref 31, .int x1, .int x2, .int x3, .null, .null]) (st' := []) (a' := a) [(.iload_n 3, 1, 3, .null), (.iconst 4, 1, 0, .int 4), (.if_icmp .ge 23, 3, 67, .null)] (by decide +kernel) rfl ?_ ?_
    · refine XI_go (pc' := 94) (ls' := [.ref 31, .int x1, .int x2, .int 0, .null, .null]) (st' := []) (a' := (upA (upA (upA (upA (upA a 31 24 x1) 31 25 0) 31 26 0) 31 27 0) 31 28 (-1))) [(.aload_n 0, 1, 0, .null), (.iload_n 1, 1, 1, .null), (.putfield 160, 3, 1124, .int 0), (.aload_n 0, 1, 0, .null), (.iconst 0, 1, 0, .int 0), (.putfield 169, 3, 1125, .int 0), (.aload_n 0, 1, 0, .null), (.iconst 0, 1, 0, .int 0), (.putfield 175, 3, 1126, .int 0), (.aload_n 0, 1, 0, .null), (.iconst 0, 1, 0, .int 0), (.putfield 189, 3, 1127, .int 0), (.aload_n 0, 1, 0, .null), (.iconst (-1), 1, 0, .int (-1)), (.putfield 192, 3, 1128, .int 0), (.iconst 0, 1, 0, .int 0), (.istore_n 3, 1, 3, .null)] (by decide +kernel) rfl ?_
      refine XI_fg [true, false, true, true, false, false] ?_
      exact x_M_throwsAll_94 E N N x2 0 (upA (upA (upA (upA (upA a 31 24 x1) 31 25 0) 31 26 0) 31 27 0) 31 28 (-1))
    · refine XI_ck (c := inb x3 4) (pc' := 54) (ls' := [.ref 31, .int x1, .int x2, .int x3, .null, .null]) (st' := []) (a' := (upA a 46 (ix x3) (-1))) [(.aload_n 0, 1, 0, .null), (.getfield 53, 3, 1121, .null), (.iload_n 3, 1, 3, .null), (.iconst (-1), 1, 0, .int (-1)), (.iastore, 1, 0, .null)] (by decide +kernel) rfl ?_
      refine XI_ck (c := inb x3 4) (pc' := 61) (ls' := [.ref 31, .int x1, .int x2, .int x3, .null, .null]) (st' := []) (a' := (upA (upA a 46 (ix x3) (-1)) 47 (ix x3) 0)) [(.aload_n 0, 1, 0, .null), (.getfield 56, 3, 1122, .null), (.iload_n 3, 1, 3, .null), (.iconst 0, 1, 0, .int 0), (.iastore, 1, 0, .null)] (by decide +kernel) rfl ?_
      refine XI_go (pc' := 42) (ls' := [.ref 31, .int x1, .int x2, .int (x3 + 1), .null, .null]) (st' := []) (a' := (upA (upA a 46 (ix x3) (-1)) 47 (ix x3) 0)) [(.iinc 3 1, 3, 3, .int 1), (.goto (-22), 3, 42, .null)] (by decide +kernel) rfl ?_
      refine XI_fg [true, true, true, true, false, false] ?_
      exact x_M_throwsAll_42 E N n x1 x2 (x3 + 1) (upA (upA a 46 (ix x3) (-1)) 47 (ix x3) 0)
set_option maxHeartbeats 4000000 in
set_option maxRecDepth 100000 in
theorem x_M_throwsAll_7 (E : eT) (N : Nat) : ∀ (n : Nat) (x1 : Int32) (x2 : Int32) (x3 : Int32) (a : aT), XI qV E md_M_throwsAll 7 [.ref 31, .int x1, .int x2, .int x3, .null, .null] [] a (f_M_throwsAll_7 N n x1 x2 x3 a)
  | 0, _, _, _, _ => XI_no rfl
  | n + 1, x1, x2, x3, a => by
    refine XI_br (c := 48 ≤ x3) (t := 40) (e := 13) (ls' := [.ref 31, .int x1, .int x2, .int x3, .null, .null]) (st' := []) (a' := a) [(.iload_n 3, 1, 3, .null), (.bipush 48, 2, 0, .int 48), (.if_icmp .ge 30, 3, 40, .null)] (by decide +kernel) rfl ?_ ?_
    · refine XI_go (pc' := 42) (ls' := [.ref 31, .int x1, .int x2, .int 0, .null, .null]) (st' := []) (a' := a) [(.iconst 0, 1, 0, .int 0), (.istore_n 3, 1, 3, .null)] (by decide +kernel) rfl ?_
      refine XI_fg [true, true, true, true, false, false] ?_
      exact x_M_throwsAll_42 E N N x1 x2 0 a
    · refine XI_ck (c := inb x3 48) (pc' := 24) (ls' := [.ref 31, .int x1, .int x2, .int x3, .null, .null]) (st' := [.int (a 38 (ix x3)), .int x3, .ref 45]) (a' := a) [(.aload_n 0, 1, 0, .null), (.getfield 50, 3, 1120, .null), (.iload_n 3, 1, 3, .null), (.aload_n 0, 1, 0, .null), (.getfield 29, 3, 1109, .null), (.iload_n 3, 1, 3, .null), (.iaload, 1, 0, .null)] (by decide +kernel) rfl ?_
      refine XI_br (c := (a 38 (ix x3)) = (-1)) (t := 32) (e := 28) (ls' := [.ref 31, .int x1, .int x2, .int x3, .null, .null]) (st' := [.int x3, .ref 45]) (a' := a) [(.iconst (-1), 1, 0, .int (-1)), (.if_icmp .eq 7, 3, 32, .null)] (by decide +kernel) rfl ?_ ?_
      · refine XI_ck (c := inb x3 48) (pc' := 34) (ls' := [.ref 31, .int x1, .int x2, .int x3, .null, .null]) (st' := []) (a' := (upA a 45 (ix x3) 0)) [(.iconst 0, 1, 0, .int 0), (.bastore, 1, 0, .null)] (by decide +kernel) rfl ?_
        refine XI_go (pc' := 7) (ls' := [.ref 31, .int x1, .int x2, .int (x3 + 1), .null, .null]) (st' := []) (a' := (upA a 45 (ix x3) 0)) [(.iinc 3 1, 3, 3, .int 1), (.goto (-30), 3, 7, .null)] (by decide +kernel) rfl ?_
        refine XI_fg [true, true, true, true, false, false] ?_
        exact x_M_throwsAll_7 E N n x1 x2 (x3 + 1) (upA a 45 (ix x3) 0)
      · refine XI_ck (c := inb x3 48) (pc' := 34) (ls' := [.ref 31, .int x1, .int x2, .int x3, .null, .null]) (st' := []) (a' := (upA a 45 (ix x3) 1)) [(.iconst 1, 1, 0, .int 1), (.goto 4, 3, 33, .null), (.bastore, 1, 0, .null)] (by decide +kernel) rfl ?_
        refine XI_go (pc' := 7) (ls' := [.ref 31, .int x1, .int x2, .int (x3 + 1), .null, .null]) (st' := []) (a' := (upA a 45 (ix x3) 1)) [(.iinc 3 1, 3, 3, .int 1), (.goto (-30), 3, 7, .null)] (by decide +kernel) rfl ?_
        refine XI_fg [true, true, true, true, false, false] ?_
        exact x_M_throwsAll_7 E N n x1 x2 (x3 + 1) (upA a 45 (ix x3) 1)
set_option maxHeartbeats 4000000 in
set_option maxRecDepth 100000 in
theorem x_M_throwsAll (E : eT) (N : Nat) (p1 : Int32) (p2 : Int32) (a : aT) : XI qV E md_M_throwsAll 0 [.ref 31, .int p1, .int p2, .null, .null, .null] [] a (f_M_throwsAll N p1 p2 a) := by
  refine XI_go (pc' := 1) (ls' := [.ref 31, .int p1, .int p2, .null, .null, .null]) (st' := [.ref 31]) (a' := a) [(.aload_n 0, 1, 0, .null)] (by decide +kernel) rfl ?_
  refine XI_VI (As := []) (rest := []) (b := 31) (idx := 127) (by decide +kernel) ok_M_reads mv_M_reads (n := 0) ⟨lk_M_127, by decide +kernel⟩ rfl rfl rfl rfl (Nat.le_of_ble_eq_true rfl) (Nat.le_of_ble_eq_true rfl) (qI_h rfl) (x_M_reads E N a) (fun q1 => ?_)
  refine XI_go (pc' := 7) (ls' := [.ref 31, .int p1, .int p2, .int 0, .null, .null]) (st' := []) (a' := q1.2) [(.pop, 1, 0, .null), (.iconst 0, 1, 0, .int 0), (.istore_n 3, 1, 3, .null)] (by decide +kernel) rfl ?_
  refine XI_fg [true, true, true, true, false, false] ?_
  exact x_M_throwsAll_7 E N N p1 p2 0 q1.2
/-! ChestnutSticksModel.find()V -/
def md_M_find : md_T := (yX11_find, cX11_find, 1, none, 6, 138)
set_option maxRecDepth 100000 in
theorem ok_M_find : m_ok md_M_find := ⟨List.mem_of_getElem? (i := 1111) (by decide +kernel), by decide +kernel, List.mem_of_getElem? (i := 64) (by decide +kernel), by decide +kernel⟩
theorem mv_M_find : Cond.instanceMethod (m_y md_M_find) ∈ lw_tbl ∧ Cond.selects (m_y md_M_find).cls (m_y md_M_find) (m_y md_M_find) ∈ lw_tbl := ⟨List.mem_of_getElem? (i := 1110) (by decide +kernel), List.mem_of_getElem? (i := 23) (by decide +kernel)⟩
def f_M_find (N : Nat) (a : aT) : Option (Unit × aT) :=
  (f_M_throwsAll N (a 31 16) (a 31 18) a).bind fun q1 =>
    some ((), q1.2)
set_option maxHeartbeats 4000000 in
set_option maxRecDepth 100000 in
theorem x_M_find (E : eT) (N : Nat) (a : aT) : XI qV E md_M_find 0 [.ref 31] [] a (f_M_find N a) := by
  refine XI_go (pc' := 9) (ls' := [.ref 31]) (st' := [.int (a 31 18), .int (a 31 16), .ref 31]) (a' := a) [(.aload_n 0, 1, 0, .null), (.aload_n 0, 1, 0, .null), (.getfield 68, 3, 1116, .null), (.aload_n 0, 1, 0, .null), (.getfield 150, 3, 1118, .null)] (by decide +kernel) rfl ?_
  refine XI_VI (As := [.int (a 31 16), .int (a 31 18)]) (rest := []) (b := 31) (idx := 201) (by decide +kernel) ok_M_throwsAll mv_M_throwsAll (n := 2) ⟨lk_M_201, by decide +kernel⟩ rfl rfl rfl rfl (Nat.le_of_ble_eq_true rfl) (Nat.le_of_ble_eq_true rfl) (qV_h rfl) (x_M_throwsAll E N (a 31 16) (a 31 18) a) (fun q1 => ?_)
  exact XI_retV (by decide +kernel)
/-! ChestnutSticksModel.judged()I -/
def md_M_judged : md_T := (yX11_judged, cX11_judged, 1, (some .int), 7, 158)
set_option maxRecDepth 100000 in
theorem ok_M_judged : m_ok md_M_judged := ⟨List.mem_of_getElem? (i := 1107) (by decide +kernel), by decide +kernel, List.mem_of_getElem? (i := 64) (by decide +kernel), by decide +kernel⟩
theorem mv_M_judged : Cond.instanceMethod (m_y md_M_judged) ∈ lw_tbl ∧ Cond.selects (m_y md_M_judged).cls (m_y md_M_judged) (m_y md_M_judged) ∈ lw_tbl := ⟨List.mem_of_getElem? (i := 1105) (by decide +kernel), List.mem_of_getElem? (i := 1106) (by decide +kernel)⟩
def f_M_judged (N : Nat) (a : aT) : Option (Int32 × aT) :=
  (f_M_find N a).bind fun q1 =>
    some ((q1.2 31 28), q1.2)
set_option maxHeartbeats 4000000 in
set_option maxRecDepth 100000 in
theorem x_M_judged (E : eT) (N : Nat) (a : aT) : XI qI E md_M_judged 0 [.ref 31] [] a (f_M_judged N a) := by
  refine XI_go (pc' := 1) (ls' := [.ref 31]) (st' := [.ref 31]) (a' := a) [(.aload_n 0, 1, 0, .null)] (by decide +kernel) rfl ?_
  refine XI_VI (As := []) (rest := []) (b := 31) (idx := 204) (by decide +kernel) ok_M_find mv_M_find (n := 0) ⟨lk_M_204, by decide +kernel⟩ rfl rfl rfl rfl (Nat.le_of_ble_eq_true rfl) (Nat.le_of_ble_eq_true rfl) (qV_h rfl) (x_M_find E N a) (fun q1 => ?_)
  refine XI_go (pc' := 8) (ls' := [.ref 31]) (st' := [.int (q1.2 31 28)]) (a' := q1.2) [(.aload_n 0, 1, 0, .null), (.getfield 192, 3, 1128, .null)] (by decide +kernel) rfl ?_
  exact XI_retI (by decide +kernel)
/-! ChestnutSticks$Play.ballsUp()I -/
def md_P_ballsUp : md_T := (yX1_ballsUp, cX1_ballsUp, 3, (some .int), 0, 0)
set_option maxRecDepth 100000 in
theorem ok_P_ballsUp : m_ok md_P_ballsUp := ⟨List.mem_of_getElem? (i := 556) (by decide +kernel), by decide +kernel, List.mem_of_getElem? (i := 59) (by decide +kernel), by decide +kernel⟩
theorem mv_P_ballsUp : Cond.instanceMethod (m_y md_P_ballsUp) ∈ lw_tbl ∧ Cond.selects (m_y md_P_ballsUp).cls (m_y md_P_ballsUp) (m_y md_P_ballsUp) ∈ lw_tbl := ⟨List.mem_of_getElem? (i := 554) (by decide +kernel), List.mem_of_getElem? (i := 555) (by decide +kernel)⟩
def f_P_ballsUp_4 (N : Nat) (a : aT) : Nat → Int32 → Int32 → Option Int32
  | 0 => fun _ _ => none
  | n + 1 => fun x1 x2 =>
    if 48 ≤ x2 then
      some x1
    else
      if inb x2 48 then
        if (a 15 (ix x2)) = (-1) then
          f_P_ballsUp_4 N a n (x1 + 0) (x2 + 1)
        else
          f_P_ballsUp_4 N a n (x1 + 1) (x2 + 1)
      else none
def f_P_ballsUp (N : Nat) (a : aT) : Option Int32 :=
  f_P_ballsUp_4 N a N 0 0
set_option maxHeartbeats 4000000 in
set_option maxRecDepth 100000 in
theorem x_P_ballsUp_4 (E : eT) (N : Nat) (a : aT) : ∀ (n : Nat) (x1 : Int32) (x2 : Int32), XP qI E md_P_ballsUp 4 [.ref 14, .int x1, .int x2] [] a (f_P_ballsUp_4 N a n x1 x2)
  | 0, _, _ => XP_no rfl
  | n + 1, x1, x2 => by
    refine XP_br (c := 48 ≤ x2) (t := 34) (e := 10) (ls' := [.ref 14, .int x1, .int x2]) (st' := []) (a' := a) [(.iload_n 2, 1, 2, .null), (.bipush 48, 2, 0, .int 48), (.if_icmp .ge 27, 3, 34, .null)] (by decide +kernel) rfl ?_ ?_
    · refine XP_go (pc' := 35) (ls' := [.ref 14, .int x1, .int x2]) (st' := [.int x1]) (a' := a) [(.iload_n 1, 1, 1, .null)] (by decide +kernel) rfl ?_
      exact XP_retI (by decide +kernel)
    · refine XP_ck (c := inb x2 48) (pc' := 17) (ls' := [.ref 14, .int x1, .int x2]) (st' := [.int (a 15 (ix x2)), .int x1]) (a' := a) [(.iload_n 1, 1, 1, .null), (.aload_n 0, 1, 0, .null), (.getfield 9, 3, 105, .null), (.iload_n 2, 1, 2, .null), (.iaload, 1, 0, .null)] (by decide +kernel) rfl ?_
      refine XP_br (c := (a 15 (ix x2)) = (-1)) (t := 21) (e := 25) (ls' := [.ref 14, .int x1, .int x2]) (st' := [.int x1]) (a' := a) [(.iconst (-1), 1, 0, .int (-1)), (.if_icmp .ne 7, 3, 25, .null)] (by decide +kernel) rfl ?_ ?_
      · refine XP_go (pc' := 4) (ls' := [.ref 14, .int (x1 + 0), .int (x2 + 1)]) (st' := []) (a' := a) [(.iconst 0, 1, 0, .int 0), (.goto 4, 3, 26, .null), (.iadd, 1, 0, .null), (.istore_n 1, 1, 1, .null), (.iinc 2 1, 3, 2, .int 1), (.goto (-27), 3, 4, .null)] (by decide +kernel) rfl ?_
        refine XP_fg [true, true, true] ?_
        exact x_P_ballsUp_4 E N a n (x1 + 0) (x2 + 1)
      · refine XP_go (pc' := 4) (ls' := [.ref 14, .int (x1 + 1), .int (x2 + 1)]) (st' := []) (a' := a) [(.iconst 1, 1, 0, .int 1), (.iadd, 1, 0, .null), (.istore_n 1, 1, 1, .null), (.iinc 2 1, 3, 2, .int 1), (.goto (-27), 3, 4, .null)] (by decide +kernel) rfl ?_
        refine XP_fg [true, true, true] ?_
        exact x_P_ballsUp_4 E N a n (x1 + 1) (x2 + 1)
set_option maxHeartbeats 4000000 in
set_option maxRecDepth 100000 in
theorem x_P_ballsUp (E : eT) (N : Nat) (a : aT) : XP qI E md_P_ballsUp 0 [.ref 14, .null, .null] [] a (f_P_ballsUp N a) := by
  refine XP_go (pc' := 4) (ls' := [.ref 14, .int 0, .int 0]) (st' := []) (a' := a) [(.iconst 0, 1, 0, .int 0), (.istore_n 1, 1, 1, .null), (.iconst 0, 1, 0, .int 0), (.istore_n 2, 1, 2, .null)] (by decide +kernel) rfl ?_
  refine XP_fg [true, true, true] ?_
  exact x_P_ballsUp_4 E N a N 0 0
/-! ChestnutSticks$Play.ripeDown()I -/
def md_P_ripeDown : md_T := (yX1_ripeDown, cX1_ripeDown, 1, (some .int), 0, 0)
set_option maxRecDepth 100000 in
theorem ok_P_ripeDown : m_ok md_P_ripeDown := ⟨List.mem_of_getElem? (i := 560) (by decide +kernel), by decide +kernel, List.mem_of_getElem? (i := 59) (by decide +kernel), by decide +kernel⟩
theorem mv_P_ripeDown : Cond.instanceMethod (m_y md_P_ripeDown) ∈ lw_tbl ∧ Cond.selects (m_y md_P_ripeDown).cls (m_y md_P_ripeDown) (m_y md_P_ripeDown) ∈ lw_tbl := ⟨List.mem_of_getElem? (i := 558) (by decide +kernel), List.mem_of_getElem? (i := 559) (by decide +kernel)⟩
def f_P_ripeDown (a : aT) : Int32 :=
  (a 14 10)
set_option maxHeartbeats 4000000 in
set_option maxRecDepth 100000 in
theorem x_P_ripeDown (E : eT) (a : aT) : XT qI E md_P_ripeDown 0 [.ref 14] [] a (f_P_ripeDown a) := by
  refine XT_go (pc' := 4) (ls' := [.ref 14]) (st' := [.int (a 14 10)]) (a' := a) [(.aload_n 0, 1, 0, .null), (.getfield 28, 3, 110, .null)] (by decide +kernel) rfl ?_
  exact XT_retI (by decide +kernel)
/-! ChestnutSticks$Play.greenDown()I -/
def md_P_greenDown : md_T := (yX1_greenDown, cX1_greenDown, 1, (some .int), 0, 0)
set_option maxRecDepth 100000 in
theorem ok_P_greenDown : m_ok md_P_greenDown := ⟨List.mem_of_getElem? (i := 564) (by decide +kernel), by decide +kernel, List.mem_of_getElem? (i := 59) (by decide +kernel), by decide +kernel⟩
theorem mv_P_greenDown : Cond.instanceMethod (m_y md_P_greenDown) ∈ lw_tbl ∧ Cond.selects (m_y md_P_greenDown).cls (m_y md_P_greenDown) (m_y md_P_greenDown) ∈ lw_tbl := ⟨List.mem_of_getElem? (i := 562) (by decide +kernel), List.mem_of_getElem? (i := 563) (by decide +kernel)⟩
def f_P_greenDown (a : aT) : Int32 :=
  (a 14 11)
set_option maxHeartbeats 4000000 in
set_option maxRecDepth 100000 in
theorem x_P_greenDown (E : eT) (a : aT) : XT qI E md_P_greenDown 0 [.ref 14] [] a (f_P_greenDown a) := by
  refine XT_go (pc' := 4) (ls' := [.ref 14]) (st' := [.int (a 14 11)]) (a' := a) [(.aload_n 0, 1, 0, .null), (.getfield 31, 3, 111, .null)] (by decide +kernel) rfl ?_
  exact XT_retI (by decide +kernel)
/-! ChestnutSticks$Play.lodgedBits()I -/
def md_P_lodgedBits : md_T := (yX1_lodgedBits, cX1_lodgedBits, 3, (some .int), 0, 0)
set_option maxRecDepth 100000 in
theorem ok_P_lodgedBits : m_ok md_P_lodgedBits := ⟨List.mem_of_getElem? (i := 568) (by decide +kernel), by decide +kernel, List.mem_of_getElem? (i := 59) (by decide +kernel), by decide +kernel⟩
theorem mv_P_lodgedBits : Cond.instanceMethod (m_y md_P_lodgedBits) ∈ lw_tbl ∧ Cond.selects (m_y md_P_lodgedBits).cls (m_y md_P_lodgedBits) (m_y md_P_lodgedBits) ∈ lw_tbl := ⟨List.mem_of_getElem? (i := 566) (by decide +kernel), List.mem_of_getElem? (i := 567) (by decide +kernel)⟩
def f_P_lodgedBits_4 (N : Nat) (a : aT) : Nat → Int32 → Int32 → Option Int32
  | 0 => fun _ _ => none
  | n + 1 => fun x1 x2 =>
    if 4 ≤ x2 then
      some x1
    else
      if inb x2 4 then
        if (a 16 (ix x2)) = (-1) then
          f_P_lodgedBits_4 N a n (x1 ||| 0) (x2 + 1)
        else
          f_P_lodgedBits_4 N a n (x1 ||| (i_shl 1 x2)) (x2 + 1)
      else none
def f_P_lodgedBits (N : Nat) (a : aT) : Option Int32 :=
  f_P_lodgedBits_4 N a N 0 0
set_option maxHeartbeats 4000000 in
set_option maxRecDepth 100000 in
theorem x_P_lodgedBits_4 (E : eT) (N : Nat) (a : aT) : ∀ (n : Nat) (x1 : Int32) (x2 : Int32), XP qI E md_P_lodgedBits 4 [.ref 14, .int x1, .int x2] [] a (f_P_lodgedBits_4 N a n x1 x2)
  | 0, _, _ => XP_no rfl
  | n + 1, x1, x2 => by
    refine XP_br (c := 4 ≤ x2) (t := 35) (e := 9) (ls' := [.ref 14, .int x1, .int x2]) (st' := []) (a' := a) [(.iload_n 2, 1, 2, .null), (.iconst 4, 1, 0, .int 4), (.if_icmp .ge 29, 3, 35, .null)] (by decide +kernel) rfl ?_ ?_
    · refine XP_go (pc' := 36) (ls' := [.ref 14, .int x1, .int x2]) (st' := [.int x1]) (a' := a) [(.iload_n 1, 1, 1, .null)] (by decide +kernel) rfl ?_
      exact XP_retI (by decide +kernel)
    · refine XP_ck (c := inb x2 4) (pc' := 16) (ls' := [.ref 14, .int x1, .int x2]) (st' := [.int (a 16 (ix x2)), .int x1]) (a' := a) [(.iload_n 1, 1, 1, .null), (.aload_n 0, 1, 0, .null), (.getfield 15, 3, 106, .null), (.iload_n 2, 1, 2, .null), (.iaload, 1, 0, .null)] (by decide +kernel) rfl ?_
      refine XP_br (c := (a 16 (ix x2)) = (-1)) (t := 20) (e := 24) (ls' := [.ref 14, .int x1, .int x2]) (st' := [.int x1]) (a' := a) [(.iconst (-1), 1, 0, .int (-1)), (.if_icmp .ne 7, 3, 24, .null)] (by decide +kernel) rfl ?_ ?_
      · refine XP_go (pc' := 4) (ls' := [.ref 14, .int (x1 ||| 0), .int (x2 + 1)]) (st' := []) (a' := a) [(.iconst 0, 1, 0, .int 0), (.goto 6, 3, 27, .null), (.ior, 1, 0, .null), (.istore_n 1, 1, 1, .null), (.iinc 2 1, 3, 2, .int 1), (.goto (-28), 3, 4, .null)] (by decide +kernel) rfl ?_
        refine XP_fg [true, true, true] ?_
        exact x_P_lodgedBits_4 E N a n (x1 ||| 0) (x2 + 1)
      · refine XP_go (pc' := 4) (ls' := [.ref 14, .int (x1 ||| (i_shl 1 x2)), .int (x2 + 1)]) (st' := []) (a' := a) [(.iconst 1, 1, 0, .int 1), (.iload_n 2, 1, 2, .null), (.ishl, 1, 0, .null), (.ior, 1, 0, .null), (.istore_n 1, 1, 1, .null), (.iinc 2 1, 3, 2, .int 1), (.goto (-28), 3, 4, .null)] (by decide +kernel) rfl ?_
        refine XP_fg [true, true, true] ?_
        exact x_P_lodgedBits_4 E N a n (x1 ||| (i_shl 1 x2)) (x2 + 1)
set_option maxHeartbeats 4000000 in
set_option maxRecDepth 100000 in
theorem x_P_lodgedBits (E : eT) (N : Nat) (a : aT) : XP qI E md_P_lodgedBits 0 [.ref 14, .null, .null] [] a (f_P_lodgedBits N a) := by
  refine XP_go (pc' := 4) (ls' := [.ref 14, .int 0, .int 0]) (st' := []) (a' := a) [(.iconst 0, 1, 0, .int 0), (.istore_n 1, 1, 1, .null), (.iconst 0, 1, 0, .int 0), (.istore_n 2, 1, 2, .null)] (by decide +kernel) rfl ?_
  refine XP_fg [true, true, true] ?_
  exact x_P_lodgedBits_4 E N a N 0 0
/-! ChestnutSticks$Play.broughtBy(I)I -/
def md_P_broughtBy : md_T := (yX1_broughtBy, cX1_broughtBy, 2, (some .int), 1, 21)
set_option maxRecDepth 100000 in
theorem ok_P_broughtBy : m_ok md_P_broughtBy := ⟨List.mem_of_getElem? (i := 572) (by decide +kernel), by decide +kernel, List.mem_of_getElem? (i := 59) (by decide +kernel), by decide +kernel⟩
theorem mv_P_broughtBy : Cond.instanceMethod (m_y md_P_broughtBy) ∈ lw_tbl ∧ Cond.selects (m_y md_P_broughtBy).cls (m_y md_P_broughtBy) (m_y md_P_broughtBy) ∈ lw_tbl := ⟨List.mem_of_getElem? (i := 570) (by decide +kernel), List.mem_of_getElem? (i := 571) (by decide +kernel)⟩
def f_P_broughtBy (p1 : Int32) (a : aT) : Option Int32 :=
  if (f_C_isBelow p1 20) = 0 then
    some 0
  else
    if inb p1 20 then
      some (a 18 (ix p1))
    else none
set_option maxHeartbeats 4000000 in
set_option maxRecDepth 100000 in
theorem x_P_broughtBy (E : eT) (p1 : Int32) (a : aT) : XP qI E md_P_broughtBy 0 [.ref 14, .int p1] [] a (f_P_broughtBy p1 a) := by
  refine XP_go (pc' := 3) (ls' := [.ref 14, .int p1]) (st' := [.int 20, .int p1]) (a' := a) [(.iload_n 1, 1, 1, .null), (.bipush 20, 2, 0, .int 20)] (by decide +kernel) rfl ?_
  refine XP_SNT (As := [.int p1, .int 20]) (rest := []) (idx := 82) (by decide +kernel) ok_C_isBelow mv_C_isBelow (n := 2) ⟨lk_P_82, by decide +kernel⟩ rfl (Nat.le_of_ble_eq_true rfl) (Nat.le_of_ble_eq_true rfl) (qZ_h rfl) (x_C_isBelow E p1 20 a) ?_
  refine XP_br (c := (f_C_isBelow p1 20) = 0) (t := 18) (e := 9) (ls' := [.ref 14, .int p1]) (st' := []) (a' := a) [(.ifCond .eq 12, 3, 18, .null)] (by decide +kernel) rfl ?_ ?_
  · refine XP_go (pc' := 19) (ls' := [.ref 14, .int p1]) (st' := [.int 0]) (a' := a) [(.iconst 0, 1, 0, .int 0)] (by decide +kernel) rfl ?_
    exact XP_retI (by decide +kernel)
  · refine XP_ck (c := inb p1 20) (pc' := 15) (ls' := [.ref 14, .int p1]) (st' := [.int (a 18 (ix p1))]) (a' := a) [(.aload_n 0, 1, 0, .null), (.getfield 21, 3, 108, .null), (.iload_n 1, 1, 1, .null), (.iaload, 1, 0, .null)] (by decide +kernel) rfl ?_
    refine XP_go (pc' := 19) (ls' := [.ref 14, .int p1]) (st' := [.int (a 18 (ix p1))]) (a' := a) [(.goto 4, 3, 19, .null)] (by decide +kernel) rfl ?_
    exact XP_retI (by decide +kernel)
/-! ChestnutSticks.state(II)I -/
def md_C_state : md_T := (yX10_state, cX10_state, 3, (some .int), 5, 122)
set_option maxRecDepth 100000 in
theorem ok_C_state : m_ok md_C_state := ⟨List.mem_of_getElem? (i := 549) (by decide +kernel), by decide +kernel, List.mem_of_getElem? (i := 53) (by decide +kernel), by decide +kernel⟩
theorem mv_C_state : Cond.instanceMethod (m_y md_C_state) ∈ lw_tbl ∧ Cond.selects (m_y md_C_state).cls (m_y md_C_state) (m_y md_C_state) ∈ lw_tbl := ⟨List.mem_of_getElem? (i := 547) (by decide +kernel), List.mem_of_getElem? (i := 548) (by decide +kernel)⟩
def f_C_state (N : Nat) (p1 : Int32) (p2 : Int32) (a : aT) : Option (Int32 × aT) :=
  if p1 < 0 then
    some ((-2), a)
  else
    if (f_O_size a) < p1 then
      some ((-2), a)
    else
      if (f_C_isBelow p2 5) = 0 then
        some ((-2), a)
      else
        (f_P_replay N p1 (f_R_seedNow a) a).bind fun q4 =>
          if p2 = 0 then
            (f_P_ballsUp N q4.2).bind fun q5 =>
              some (q5, q4.2)
          else if p2 = 1 then
            some ((f_P_ripeDown q4.2), q4.2)
          else if p2 = 2 then
            some ((f_P_greenDown q4.2), q4.2)
          else if p2 = 3 then
            (f_P_lodgedBits N q4.2).bind fun q8 =>
              some (q8, q4.2)
          else 
            (f_P_broughtBy (p1 - 1) q4.2).bind fun q9 =>
              some (q9, q4.2)
set_option maxHeartbeats 4000000 in
set_option maxRecDepth 100000 in
theorem x_C_state (E : eT) (N : Nat) (p1 : Int32) (p2 : Int32) (a : aT) : XI qI E md_C_state 0 [.ref 0, .int p1, .int p2] [] a (f_C_state N p1 p2 a) := by
  refine XI_br (c := p1 < 0) (t := 23) (e := 4) (ls' := [.ref 0, .int p1, .int p2]) (st' := []) (a' := a) [(.iload_n 1, 1, 1, .null), (.ifCond .lt 22, 3, 23, .null)] (by decide +kernel) rfl ?_ ?_
  · refine XI_go (pc' := 25) (ls' := [.ref 0, .int p1, .int p2]) (st' := [.int (-2)]) (a' := a) [(.bipush (-2), 2, 0, .int (-2))] (by decide +kernel) rfl ?_
    exact XI_retI (by decide +kernel)
  · refine XI_go (pc' := 9) (ls' := [.ref 0, .int p1, .int p2]) (st' := [.ref 10, .int p1]) (a' := a) [(.iload_n 1, 1, 1, .null), (.aload_n 0, 1, 0, .null), (.getfield 40, 3, 1004, .null)] (by decide +kernel) rfl ?_
    refine XI_VT (As := []) (rest := [.int p1]) (b := 10) (idx := 141) (by decide +kernel) ok_O_size mv_O_size (n := 0) ⟨lk_C_141, by decide +kernel⟩ rfl rfl rfl rfl (Nat.le_of_ble_eq_true rfl) (Nat.le_of_ble_eq_true rfl) (qI_h rfl) (x_O_size E a) ?_
    refine XI_br (c := (f_O_size a) < p1) (t := 23) (e := 15) (ls' := [.ref 0, .int p1, .int p2]) (st' := []) (a' := a) [(.if_icmp .gt 11, 3, 23, .null)] (by decide +kernel) rfl ?_ ?_
    · refine XI_go (pc' := 25) (ls' := [.ref 0, .int p1, .int p2]) (st' := [.int (-2)]) (a' := a) [(.bipush (-2), 2, 0, .int (-2))] (by decide +kernel) rfl ?_
      exact XI_retI (by decide +kernel)
    · refine XI_go (pc' := 17) (ls' := [.ref 0, .int p1, .int p2]) (st' := [.int 5, .int p2]) (a' := a) [(.iload_n 2, 1, 2, .null), (.iconst 5, 1, 0, .int 5)] (by decide +kernel) rfl ?_
      refine XI_ST (As := [.int p2, .int 5]) (rest := []) (idx := 110) (by decide +kernel) ok_C_isBelow mv_C_isBelow (n := 2) ⟨lk_C_110, by decide +kernel⟩ rfl (Nat.le_of_ble_eq_true rfl) (Nat.le_of_ble_eq_true rfl) (qZ_h rfl) (x_C_isBelow E p2 5 a) ?_
      refine XI_br (c := (f_C_isBelow p2 5) = 0) (t := 23) (e := 26) (ls' := [.ref 0, .int p1, .int p2]) (st' := []) (a' := a) [(.ifCond .ne 6, 3, 26, .null)] (by decide +kernel) rfl ?_ ?_
      · refine XI_go (pc' := 25) (ls' := [.ref 0, .int p1, .int p2]) (st' := [.int (-2)]) (a' := a) [(.bipush (-2), 2, 0, .int (-2))] (by decide +kernel) rfl ?_
        exact XI_retI (by decide +kernel)
      · refine XI_go (pc' := 35) (ls' := [.ref 0, .int p1, .int p2]) (st' := [.ref 6, .int p1, .ref 14]) (a' := a) [(.aload_n 0, 1, 0, .null), (.getfield 49, 3, 1005, .null), (.iload_n 1, 1, 1, .null), (.aload_n 0, 1, 0, .null), (.getfield 26, 3, 1002, .null)] (by decide +kernel) rfl ?_
        refine XI_VT (As := []) (rest := [.int p1, .ref 14]) (b := 6) (idx := 144) (by decide +kernel) ok_R_seedNow mv_R_seedNow (n := 0) ⟨lk_C_144, by decide +kernel⟩ rfl rfl rfl rfl (Nat.le_of_ble_eq_true rfl) (Nat.le_of_ble_eq_true rfl) (qI_h rfl) (x_R_seedNow E a) ?_
        refine XI_VI (As := [.int p1, .int (f_R_seedNow a)]) (rest := []) (b := 14) (idx := 147) (by decide +kernel) ok_P_replay mv_P_replay (n := 2) ⟨lk_C_147, by decide +kernel⟩ rfl rfl rfl rfl (Nat.le_of_ble_eq_true rfl) (Nat.le_of_ble_eq_true rfl) (qV_h rfl) (x_P_replay E N p1 (f_R_seedNow a) a) (fun q4 => ?_)
        refine XI_go (pc' := 42) (ls' := [.ref 0, .int p1, .int p2]) (st' := [.int p2]) (a' := q4.2) [(.iload_n 2, 1, 2, .null)] (by decide +kernel) rfl ?_
        refine XI_if (c := p2 = 0) (fun w0 => ?_) (fun w0 => ?_)
        · refine XI_tabIn (dflt := 62) (lo := 0) (hi := 3) (offs := #[30, 38, 46, 54]) (len := 30) (off := 30) (tgt := 72) (x0 := 0) w0 (by decide +kernel) (by decide +kernel) (by decide +kernel) (by decide +kernel) (by decide) ?_
          refine XI_go (pc' := 76) (ls' := [.ref 0, .int p1, .int p2]) (st' := [.ref 14]) (a' := q4.2) [(.aload_n 0, 1, 0, .null), (.getfield 49, 3, 1005, .null)] (by decide +kernel) rfl ?_
          refine XI_VP (As := []) (rest := []) (b := 14) (idx := 151) (by decide +kernel) ok_P_ballsUp mv_P_ballsUp (n := 0) ⟨lk_C_151, by decide +kernel⟩ rfl rfl rfl rfl (Nat.le_of_ble_eq_true rfl) (Nat.le_of_ble_eq_true rfl) (qI_h rfl) (x_P_ballsUp E N q4.2) (fun q5 => ?_)
          exact XI_retI (by decide +kernel)
        refine XI_if (c := p2 = 1) (fun w1 => ?_) (fun w1 => ?_)
        · refine XI_tabIn (dflt := 62) (lo := 0) (hi := 3) (offs := #[30, 38, 46, 54]) (len := 30) (off := 38) (tgt := 80) (x0 := 1) w1 (by decide +kernel) (by decide +kernel) (by decide +kernel) (by decide +kernel) (by decide) ?_
          refine XI_go (pc' := 84) (ls' := [.ref 0, .int p1, .int p2]) (st' := [.ref 14]) (a' := q4.2) [(.aload_n 0, 1, 0, .null), (.getfield 49, 3, 1005, .null)] (by decide +kernel) rfl ?_
          refine XI_VT (As := []) (rest := []) (b := 14) (idx := 154) (by decide +kernel) ok_P_ripeDown mv_P_ripeDown (n := 0) ⟨lk_C_154, by decide +kernel⟩ rfl rfl rfl rfl (Nat.le_of_ble_eq_true rfl) (Nat.le_of_ble_eq_true rfl) (qI_h rfl) (x_P_ripeDown E q4.2) ?_
          exact XI_retI (by decide +kernel)
        refine XI_if (c := p2 = 2) (fun w2 => ?_) (fun w2 => ?_)
        · refine XI_tabIn (dflt := 62) (lo := 0) (hi := 3) (offs := #[30, 38, 46, 54]) (len := 30) (off := 46) (tgt := 88) (x0 := 2) w2 (by decide +kernel) (by decide +kernel) (by decide +kernel) (by decide +kernel) (by decide) ?_
          refine XI_go (pc' := 92) (ls' := [.ref 0, .int p1, .int p2]) (st' := [.ref 14]) (a' := q4.2) [(.aload_n 0, 1, 0, .null), (.getfield 49, 3, 1005, .null)] (by decide +kernel) rfl ?_
          refine XI_VT (As := []) (rest := []) (b := 14) (idx := 157) (by decide +kernel) ok_P_greenDown mv_P_greenDown (n := 0) ⟨lk_C_157, by decide +kernel⟩ rfl rfl rfl rfl (Nat.le_of_ble_eq_true rfl) (Nat.le_of_ble_eq_true rfl) (qI_h rfl) (x_P_greenDown E q4.2) ?_
          exact XI_retI (by decide +kernel)
        refine XI_if (c := p2 = 3) (fun w3 => ?_) (fun w3 => ?_)
        · refine XI_tabIn (dflt := 62) (lo := 0) (hi := 3) (offs := #[30, 38, 46, 54]) (len := 30) (off := 54) (tgt := 96) (x0 := 3) w3 (by decide +kernel) (by decide +kernel) (by decide +kernel) (by decide +kernel) (by decide) ?_
          refine XI_go (pc' := 100) (ls' := [.ref 0, .int p1, .int p2]) (st' := [.ref 14]) (a' := q4.2) [(.aload_n 0, 1, 0, .null), (.getfield 49, 3, 1005, .null)] (by decide +kernel) rfl ?_
          refine XI_VP (As := []) (rest := []) (b := 14) (idx := 160) (by decide +kernel) ok_P_lodgedBits mv_P_lodgedBits (n := 0) ⟨lk_C_160, by decide +kernel⟩ rfl rfl rfl rfl (Nat.le_of_ble_eq_true rfl) (Nat.le_of_ble_eq_true rfl) (qI_h rfl) (x_P_lodgedBits E N q4.2) (fun q8 => ?_)
          exact XI_retI (by decide +kernel)
        refine XI_tabOut (dflt := 62) (lo := 0) (hi := 3) (offs := #[30, 38, 46, 54]) (len := 30) (tgt := 104) (n := 4) (by decide +kernel) (fun i hi => match i, hi with | 0, _ => w0 | 1, _ => w1 | 2, _ => w2 | 3, _ => w3 | i + 4, hi => absurd hi (by omega)) (by decide +kernel) (by decide) ?_
        refine XI_go (pc' := 111) (ls' := [.ref 0, .int p1, .int p2]) (st' := [.int (p1 - 1), .ref 14]) (a' := q4.2) [(.aload_n 0, 1, 0, .null), (.getfield 49, 3, 1005, .null), (.iload_n 1, 1, 1, .null), (.iconst 1, 1, 0, .int 1), (.isub, 1, 0, .null)] (by decide +kernel) rfl ?_
        refine XI_VP (As := [.int (p1 - 1)]) (rest := []) (b := 14) (idx := 163) (by decide +kernel) ok_P_broughtBy mv_P_broughtBy (n := 1) ⟨lk_C_163, by decide +kernel⟩ rfl rfl rfl rfl (Nat.le_of_ble_eq_true rfl) (Nat.le_of_ble_eq_true rfl) (qI_h rfl) (x_P_broughtBy E (p1 - 1) q4.2) (fun q9 => ?_)
        exact XI_retI (by decide +kernel)
/-! ChestnutSticksModel.upNow()I -/
def md_M_upNow : md_T := (yX11_upNow, cX11_upNow, 3, (some .int), 0, 0)
set_option maxRecDepth 100000 in
theorem ok_M_upNow : m_ok md_M_upNow := ⟨List.mem_of_getElem? (i := 1166) (by decide +kernel), by decide +kernel, List.mem_of_getElem? (i := 64) (by decide +kernel), by decide +kernel⟩
theorem mv_M_upNow : Cond.instanceMethod (m_y md_M_upNow) ∈ lw_tbl ∧ Cond.selects (m_y md_M_upNow).cls (m_y md_M_upNow) (m_y md_M_upNow) ∈ lw_tbl := ⟨List.mem_of_getElem? (i := 1165) (by decide +kernel), List.mem_of_getElem? (i := 33) (by decide +kernel)⟩
def f_M_upNow_4 (N : Nat) (a : aT) : Nat → Int32 → Int32 → Option Int32
  | 0 => fun _ _ => none
  | n + 1 => fun x1 x2 =>
    if 48 ≤ x2 then
      some x1
    else
      if inb x2 48 then
        if (a 45 (ix x2)) = 0 then
          f_M_upNow_4 N a n (x1 + 0) (x2 + 1)
        else
          f_M_upNow_4 N a n (x1 + 1) (x2 + 1)
      else none
def f_M_upNow (N : Nat) (a : aT) : Option Int32 :=
  f_M_upNow_4 N a N 0 0
set_option maxHeartbeats 4000000 in
set_option maxRecDepth 100000 in
theorem x_M_upNow_4 (E : eT) (N : Nat) (a : aT) : ∀ (n : Nat) (x1 : Int32) (x2 : Int32), XP qI E md_M_upNow 4 [.ref 31, .int x1, .int x2] [] a (f_M_upNow_4 N a n x1 x2)
  | 0, _, _ => XP_no rfl
  | n + 1, x1, x2 => by
    refine XP_br (c := 48 ≤ x2) (t := 33) (e := 10) (ls' := [.ref 31, .int x1, .int x2]) (st' := []) (a' := a) [(.iload_n 2, 1, 2, .null), (.bipush 48, 2, 0, .int 48), (.if_icmp .ge 26, 3, 33, .null)] (by decide +kernel) rfl ?_ ?_
    · refine XP_go (pc' := 34) (ls' := [.ref 31, .int x1, .int x2]) (st' := [.int x1]) (a' := a) [(.iload_n 1, 1, 1, .null)] (by decide +kernel) rfl ?_
      exact XP_retI (by decide +kernel)
    · refine XP_ck (c := inb x2 48) (pc' := 17) (ls' := [.ref 31, .int x1, .int x2]) (st' := [.int (a 45 (ix x2)), .int x1]) (a' := a) [(.iload_n 1, 1, 1, .null), (.aload_n 0, 1, 0, .null), (.getfield 50, 3, 1120, .null), (.iload_n 2, 1, 2, .null), (.baload, 1, 0, .null)] (by decide +kernel) rfl ?_
      refine XP_br (c := (a 45 (ix x2)) = 0) (t := 24) (e := 20) (ls' := [.ref 31, .int x1, .int x2]) (st' := [.int x1]) (a' := a) [(.ifCond .eq 7, 3, 24, .null)] (by decide +kernel) rfl ?_ ?_
      · refine XP_go (pc' := 4) (ls' := [.ref 31, .int (x1 + 0), .int (x2 + 1)]) (st' := []) (a' := a) [(.iconst 0, 1, 0, .int 0), (.iadd, 1, 0, .null), (.istore_n 1, 1, 1, .null), (.iinc 2 1, 3, 2, .int 1), (.goto (-26), 3, 4, .null)] (by decide +kernel) rfl ?_
        refine XP_fg [true, true, true] ?_
        exact x_M_upNow_4 E N a n (x1 + 0) (x2 + 1)
      · refine XP_go (pc' := 4) (ls' := [.ref 31, .int (x1 + 1), .int (x2 + 1)]) (st' := []) (a' := a) [(.iconst 1, 1, 0, .int 1), (.goto 4, 3, 25, .null), (.iadd, 1, 0, .null), (.istore_n 1, 1, 1, .null), (.iinc 2 1, 3, 2, .int 1), (.goto (-26), 3, 4, .null)] (by decide +kernel) rfl ?_
        refine XP_fg [true, true, true] ?_
        exact x_M_upNow_4 E N a n (x1 + 1) (x2 + 1)
set_option maxHeartbeats 4000000 in
set_option maxRecDepth 100000 in
theorem x_M_upNow (E : eT) (N : Nat) (a : aT) : XP qI E md_M_upNow 0 [.ref 31, .null, .null] [] a (f_M_upNow N a) := by
  refine XP_go (pc' := 4) (ls' := [.ref 31, .int 0, .int 0]) (st' := []) (a' := a) [(.iconst 0, 1, 0, .int 0), (.istore_n 1, 1, 1, .null), (.iconst 0, 1, 0, .int 0), (.istore_n 2, 1, 2, .null)] (by decide +kernel) rfl ?_
  refine XP_fg [true, true, true] ?_
  exact x_M_upNow_4 E N a N 0 0
/-! ChestnutSticksModel.lodgedNow()I -/
def md_M_lodgedNow : md_T := (yX11_lodgedNow, cX11_lodgedNow, 3, (some .int), 0, 0)
set_option maxRecDepth 100000 in
theorem ok_M_lodgedNow : m_ok md_M_lodgedNow := ⟨List.mem_of_getElem? (i := 1170) (by decide +kernel), by decide +kernel, List.mem_of_getElem? (i := 64) (by decide +kernel), by decide +kernel⟩
theorem mv_M_lodgedNow : Cond.instanceMethod (m_y md_M_lodgedNow) ∈ lw_tbl ∧ Cond.selects (m_y md_M_lodgedNow).cls (m_y md_M_lodgedNow) (m_y md_M_lodgedNow) ∈ lw_tbl := ⟨List.mem_of_getElem? (i := 1169) (by decide +kernel), List.mem_of_getElem? (i := 34) (by decide +kernel)⟩
def f_M_lodgedNow_4 (N : Nat) (a : aT) : Nat → Int32 → Int32 → Option Int32
  | 0 => fun _ _ => none
  | n + 1 => fun x1 x2 =>
    if 4 ≤ x2 then
      some x1
    else
      if inb x2 4 then
        if (a 46 (ix x2)) = (-1) then
          f_M_lodgedNow_4 N a n (x1 ||| 0) (x2 + 1)
        else
          f_M_lodgedNow_4 N a n (x1 ||| (i_shl 1 x2)) (x2 + 1)
      else none
def f_M_lodgedNow (N : Nat) (a : aT) : Option Int32 :=
  f_M_lodgedNow_4 N a N 0 0
set_option maxHeartbeats 4000000 in
set_option maxRecDepth 100000 in
theorem x_M_lodgedNow_4 (E : eT) (N : Nat) (a : aT) : ∀ (n : Nat) (x1 : Int32) (x2 : Int32), XP qI E md_M_lodgedNow 4 [.ref 31, .int x1, .int x2] [] a (f_M_lodgedNow_4 N a n x1 x2)
  | 0, _, _ => XP_no rfl
  | n + 1, x1, x2 => by
    refine XP_br (c := 4 ≤ x2) (t := 35) (e := 9) (ls' := [.ref 31, .int x1, .int x2]) (st' := []) (a' := a) [(.iload_n 2, 1, 2, .null), (.iconst 4, 1, 0, .int 4), (.if_icmp .ge 29, 3, 35, .null)] (by decide +kernel) rfl ?_ ?_
    · refine XP_go (pc' := 36) (ls' := [.ref 31, .int x1, .int x2]) (st' := [.int x1]) (a' := a) [(.iload_n 1, 1, 1, .null)] (by decide +kernel) rfl ?_
      exact XP_retI (by decide +kernel)
    · refine XP_ck (c := inb x2 4) (pc' := 16) (ls' := [.ref 31, .int x1, .int x2]) (st' := [.int (a 46 (ix x2)), .int x1]) (a' := a) [(.iload_n 1, 1, 1, .null), (.aload_n 0, 1, 0, .null), (.getfield 53, 3, 1121, .null), (.iload_n 2, 1, 2, .null), (.iaload, 1, 0, .null)] (by decide +kernel) rfl ?_
      refine XP_br (c := (a 46 (ix x2)) = (-1)) (t := 20) (e := 24) (ls' := [.ref 31, .int x1, .int x2]) (st' := [.int x1]) (a' := a) [(.iconst (-1), 1, 0, .int (-1)), (.if_icmp .ne 7, 3, 24, .null)] (by decide +kernel) rfl ?_ ?_
      · refine XP_go (pc' := 4) (ls' := [.ref 31, .int (x1 ||| 0), .int (x2 + 1)]) (st' := []) (a' := a) [(.iconst 0, 1, 0, .int 0), (.goto 6, 3, 27, .null), (.ior, 1, 0, .null), (.istore_n 1, 1, 1, .null), (.iinc 2 1, 3, 2, .int 1), (.goto (-28), 3, 4, .null)] (by decide +kernel) rfl ?_
        refine XP_fg [true, true, true] ?_
        exact x_M_lodgedNow_4 E N a n (x1 ||| 0) (x2 + 1)
      · refine XP_go (pc' := 4) (ls' := [.ref 31, .int (x1 ||| (i_shl 1 x2)), .int (x2 + 1)]) (st' := []) (a' := a) [(.iconst 1, 1, 0, .int 1), (.iload_n 2, 1, 2, .null), (.ishl, 1, 0, .null), (.ior, 1, 0, .null), (.istore_n 1, 1, 1, .null), (.iinc 2 1, 3, 2, .int 1), (.goto (-28), 3, 4, .null)] (by decide +kernel) rfl ?_
        refine XP_fg [true, true, true] ?_
        exact x_M_lodgedNow_4 E N a n (x1 ||| (i_shl 1 x2)) (x2 + 1)
set_option maxHeartbeats 4000000 in
set_option maxRecDepth 100000 in
theorem x_M_lodgedNow (E : eT) (N : Nat) (a : aT) : XP qI E md_M_lodgedNow 0 [.ref 31, .null, .null] [] a (f_M_lodgedNow N a) := by
  refine XP_go (pc' := 4) (ls' := [.ref 31, .int 0, .int 0]) (st' := []) (a' := a) [(.iconst 0, 1, 0, .int 0), (.istore_n 1, 1, 1, .null), (.iconst 0, 1, 0, .int 0), (.istore_n 2, 1, 2, .null)] (by decide +kernel) rfl ?_
  refine XP_fg [true, true, true] ?_
  exact x_M_lodgedNow_4 E N a N 0 0
/-! ChestnutSticksModel.stateOf(II)I -/
def md_M_stateOf : md_T := (yX11_stateOf, cX11_stateOf, 3, (some .int), 6, 138)
set_option maxRecDepth 100000 in
theorem ok_M_stateOf : m_ok md_M_stateOf := ⟨List.mem_of_getElem? (i := 1162) (by decide +kernel), by decide +kernel, List.mem_of_getElem? (i := 64) (by decide +kernel), by decide +kernel⟩
theorem mv_M_stateOf : Cond.instanceMethod (m_y md_M_stateOf) ∈ lw_tbl ∧ Cond.selects (m_y md_M_stateOf).cls (m_y md_M_stateOf) (m_y md_M_stateOf) ∈ lw_tbl := ⟨List.mem_of_getElem? (i := 1161) (by decide +kernel), List.mem_of_getElem? (i := 32) (by decide +kernel)⟩
def f_M_stateOf (N : Nat) (p1 : Int32) (p2 : Int32) (a : aT) : Option (Int32 × aT) :=
  (f_M_throwsAll N (a 31 16) p1 a).bind fun q1 =>
    if p2 = 0 then
      (f_M_upNow N q1.2).bind fun q2 =>
        some (q2, q1.2)
    else if p2 = 1 then
      some ((q1.2 31 25), q1.2)
    else if p2 = 2 then
      some ((q1.2 31 26), q1.2)
    else if p2 = 3 then
      (f_M_lodgedNow N q1.2).bind fun q3 =>
        some (q3, q1.2)
    else 
      if p1 = 0 then
        some (0, q1.2)
      else
        if inb (p1 - 1) 20 then
          some ((q1.2 48 (ix (p1 - 1))), q1.2)
        else none
set_option maxHeartbeats 4000000 in
set_option maxRecDepth 100000 in
theorem x_M_stateOf (E : eT) (N : Nat) (p1 : Int32) (p2 : Int32) (a : aT) : XI qI E md_M_stateOf 0 [.ref 31, .int p1, .int p2] [] a (f_M_stateOf N p1 p2 a) := by
  refine XI_go (pc' := 6) (ls' := [.ref 31, .int p1, .int p2]) (st' := [.int p1, .int (a 31 16), .ref 31]) (a' := a) [(.aload_n 0, 1, 0, .null), (.aload_n 0, 1, 0, .null), (.getfield 68, 3, 1116, .null), (.iload_n 1, 1, 1, .null)] (by decide +kernel) rfl ?_
  refine XI_VI (As := [.int (a 31 16), .int p1]) (rest := []) (b := 31) (idx := 201) (by decide +kernel) ok_M_throwsAll mv_M_throwsAll (n := 2) ⟨lk_M_201, by decide +kernel⟩ rfl rfl rfl rfl (Nat.le_of_ble_eq_true rfl) (Nat.le_of_ble_eq_true rfl) (qV_h rfl) (x_M_throwsAll E N (a 31 16) p1 a) (fun q1 => ?_)
  refine XI_go (pc' := 10) (ls' := [.ref 31, .int p1, .int p2]) (st' := [.int p2]) (a' := q1.2) [(.iload_n 2, 1, 2, .null)] (by decide +kernel) rfl ?_
  refine XI_if (c := p2 = 0) (fun w0 => ?_) (fun w0 => ?_)
  · refine XI_tabIn (dflt := 50) (lo := 0) (hi := 3) (offs := #[30, 35, 40, 45]) (len := 30) (off := 30) (tgt := 40) (x0 := 0) w0 (by decide +kernel) (by decide +kernel) (by decide +kernel) (by decide +kernel) (by decide) ?_
    refine XI_go (pc' := 41) (ls' := [.ref 31, .int p1, .int p2]) (st' := [.ref 31]) (a' := q1.2) [(.aload_n 0, 1, 0, .null)] (by decide +kernel) rfl ?_
    refine XI_VP (As := []) (rest := []) (b := 31) (idx := 207) (by decide +kernel) ok_M_upNow mv_M_upNow (n := 0) ⟨lk_M_207, by decide +kernel⟩ rfl rfl rfl rfl (Nat.le_of_ble_eq_true rfl) (Nat.le_of_ble_eq_true rfl) (qI_h rfl) (x_M_upNow E N q1.2) (fun q2 => ?_)
    exact XI_retI (by decide +kernel)
  refine XI_if (c := p2 = 1) (fun w1 => ?_) (fun w1 => ?_)
  · refine XI_tabIn (dflt := 50) (lo := 0) (hi := 3) (offs := #[30, 35, 40, 45]) (len := 30) (off := 35) (tgt := 45) (x0 := 1) w1 (by decide +kernel) (by decide +kernel) (by decide +kernel) (by decide +kernel) (by decide) ?_
    refine XI_go (pc' := 49) (ls' := [.ref 31, .int p1, .int p2]) (st' := [.int (q1.2 31 25)]) (a' := q1.2) [(.aload_n 0, 1, 0, .null), (.getfield 169, 3, 1125, .null)] (by decide +kernel) rfl ?_
    exact XI_retI (by decide +kernel)
  refine XI_if (c := p2 = 2) (fun w2 => ?_) (fun w2 => ?_)
  · refine XI_tabIn (dflt := 50) (lo := 0) (hi := 3) (offs := #[30, 35, 40, 45]) (len := 30) (off := 40) (tgt := 50) (x0 := 2) w2 (by decide +kernel) (by decide +kernel) (by decide +kernel) (by decide +kernel) (by decide) ?_
    refine XI_go (pc' := 54) (ls' := [.ref 31, .int p1, .int p2]) (st' := [.int (q1.2 31 26)]) (a' := q1.2) [(.aload_n 0, 1, 0, .null), (.getfield 175, 3, 1126, .null)] (by decide +kernel) rfl ?_
    exact XI_retI (by decide +kernel)
  refine XI_if (c := p2 = 3) (fun w3 => ?_) (fun w3 => ?_)
  · refine XI_tabIn (dflt := 50) (lo := 0) (hi := 3) (offs := #[30, 35, 40, 45]) (len := 30) (off := 45) (tgt := 55) (x0 := 3) w3 (by decide +kernel) (by decide +kernel) (by decide +kernel) (by decide +kernel) (by decide) ?_
    refine XI_go (pc' := 56) (ls' := [.ref 31, .int p1, .int p2]) (st' := [.ref 31]) (a' := q1.2) [(.aload_n 0, 1, 0, .null)] (by decide +kernel) rfl ?_
    refine XI_VP (As := []) (rest := []) (b := 31) (idx := 210) (by decide +kernel) ok_M_lodgedNow mv_M_lodgedNow (n := 0) ⟨lk_M_210, by decide +kernel⟩ rfl rfl rfl rfl (Nat.le_of_ble_eq_true rfl) (Nat.le_of_ble_eq_true rfl) (qI_h rfl) (x_M_lodgedNow E N q1.2) (fun q3 => ?_)
    exact XI_retI (by decide +kernel)
  refine XI_tabOut (dflt := 50) (lo := 0) (hi := 3) (offs := #[30, 35, 40, 45]) (len := 30) (tgt := 60) (n := 4) (by decide +kernel) (fun i hi => match i, hi with | 0, _ => w0 | 1, _ => w1 | 2, _ => w2 | 3, _ => w3 | i + 4, hi => absurd hi (by omega)) (by decide +kernel) (by decide) ?_
  refine XI_br (c := p1 = 0) (t := 64) (e := 68) (ls' := [.ref 31, .int p1, .int p2]) (st' := []) (a' := q1.2) [(.iload_n 1, 1, 1, .null), (.ifCond .ne 7, 3, 68, .null)] (by decide +kernel) rfl ?_ ?_
  · refine XI_go (pc' := 76) (ls' := [.ref 31, .int p1, .int p2]) (st' := [.int 0]) (a' := q1.2) [(.iconst 0, 1, 0, .int 0), (.goto 11, 3, 76, .null)] (by decide +kernel) rfl ?_
    exact XI_retI (by decide +kernel)
  · refine XI_ck (c := inb (p1 - 1) 20) (pc' := 76) (ls' := [.ref 31, .int p1, .int p2]) (st' := [.int (q1.2 48 (ix (p1 - 1)))]) (a' := q1.2) [(.aload_n 0, 1, 0, .null), (.getfield 59, 3, 1123, .null), (.iload_n 1, 1, 1, .null), (.iconst 1, 1, 0, .int 1), (.isub, 1, 0, .null), (.iaload, 1, 0, .null)] (by decide +kernel) rfl ?_
    exact XI_retI (by decide +kernel)
/-! ChestnutSticksModel.state(II)I -/
def md_M_state : md_T := (yX11_state, cX11_state, 3, (some .int), 7, 160)
set_option maxRecDepth 100000 in
theorem ok_M_state : m_ok md_M_state := ⟨List.mem_of_getElem? (i := 1157) (by decide +kernel), by decide +kernel, List.mem_of_getElem? (i := 64) (by decide +kernel), by decide +kernel⟩
theorem mv_M_state : Cond.instanceMethod (m_y md_M_state) ∈ lw_tbl ∧ Cond.selects (m_y md_M_state).cls (m_y md_M_state) (m_y md_M_state) ∈ lw_tbl := ⟨List.mem_of_getElem? (i := 1155) (by decide +kernel), List.mem_of_getElem? (i := 1156) (by decide +kernel)⟩
def f_M_state (N : Nat) (p1 : Int32) (p2 : Int32) (a : aT) : Option (Int32 × aT) :=
  if (f_M_in p1.toInt64 0 (a 31 18).toInt64) = 0 then
    some ((-2), a)
  else
    if (f_M_in p2.toInt64 0 4) = 0 then
      some ((-2), a)
    else
      (f_M_stateOf N p1 p2 a).bind fun q3 =>
        some (q3.1, q3.2)
set_option maxHeartbeats 4000000 in
set_option maxRecDepth 100000 in
theorem x_M_state (E : eT) (N : Nat) (p1 : Int32) (p2 : Int32) (a : aT) : XI qI E md_M_state 0 [.ref 31, .int p1, .int p2] [] a (f_M_state N p1 p2 a) := by
  refine XI_go (pc' := 8) (ls' := [.ref 31, .int p1, .int p2]) (st' := [.long (a 31 18).toInt64, .long 0, .long p1.toInt64]) (a' := a) [(.iload_n 1, 1, 1, .null), (.i2l, 1, 0, .null), (.lconst 0, 1, 0, .long 0), (.aload_n 0, 1, 0, .null), (.getfield 150, 3, 1118, .null), (.i2l, 1, 0, .null)] (by decide +kernel) rfl ?_
  refine XI_ST (As := [.long p1.toInt64, .long 0, .long (a 31 18).toInt64]) (rest := []) (idx := 74) (by decide +kernel) ok_M_in mv_M_in (n := 3) ⟨lk_M_74, by decide +kernel⟩ rfl (Nat.le_of_ble_eq_true rfl) (Nat.le_of_ble_eq_true rfl) (qZ_h rfl) (x_M_in E p1.toInt64 0 (a 31 18).toInt64 a) ?_
  refine XI_br (c := (f_M_in p1.toInt64 0 (a 31 18).toInt64) = 0) (t := 35) (e := 14) (ls' := [.ref 31, .int p1, .int p2]) (st' := []) (a' := a) [(.ifCond .eq 24, 3, 35, .null)] (by decide +kernel) rfl ?_ ?_
  · refine XI_go (pc' := 37) (ls' := [.ref 31, .int p1, .int p2]) (st' := [.int (-2)]) (a' := a) [(.bipush (-2), 2, 0, .int (-2))] (by decide +kernel) rfl ?_
    exact XI_retI (by decide +kernel)
  · refine XI_go (pc' := 20) (ls' := [.ref 31, .int p1, .int p2]) (st' := [.long 4, .long 0, .long p2.toInt64]) (a' := a) [(.iload_n 2, 1, 2, .null), (.i2l, 1, 0, .null), (.lconst 0, 1, 0, .long 0), (.ldc2_w 213, 3, 0, .long 4)] (by decide +kernel) rfl ?_
    refine XI_ST (As := [.long p2.toInt64, .long 0, .long 4]) (rest := []) (idx := 74) (by decide +kernel) ok_M_in mv_M_in (n := 3) ⟨lk_M_74, by decide +kernel⟩ rfl (Nat.le_of_ble_eq_true rfl) (Nat.le_of_ble_eq_true rfl) (qZ_h rfl) (x_M_in E p2.toInt64 0 4 a) ?_
    refine XI_br (c := (f_M_in p2.toInt64 0 4) = 0) (t := 35) (e := 26) (ls' := [.ref 31, .int p1, .int p2]) (st' := []) (a' := a) [(.ifCond .eq 12, 3, 35, .null)] (by decide +kernel) rfl ?_ ?_
    · refine XI_go (pc' := 37) (ls' := [.ref 31, .int p1, .int p2]) (st' := [.int (-2)]) (a' := a) [(.bipush (-2), 2, 0, .int (-2))] (by decide +kernel) rfl ?_
      exact XI_retI (by decide +kernel)
    · refine XI_go (pc' := 29) (ls' := [.ref 31, .int p1, .int p2]) (st' := [.int p2, .int p1, .ref 31]) (a' := a) [(.aload_n 0, 1, 0, .null), (.iload_n 1, 1, 1, .null), (.iload_n 2, 1, 2, .null)] (by decide +kernel) rfl ?_
      refine XI_VI (As := [.int p1, .int p2]) (rest := []) (b := 31) (idx := 215) (by decide +kernel) ok_M_stateOf mv_M_stateOf (n := 2) ⟨lk_M_215, by decide +kernel⟩ rfl rfl rfl rfl (Nat.le_of_ble_eq_true rfl) (Nat.le_of_ble_eq_true rfl) (qI_h rfl) (x_M_stateOf E N p1 p2 a) (fun q3 => ?_)
      refine XI_go (pc' := 37) (ls' := [.ref 31, .int p1, .int p2]) (st' := [.int q3.1]) (a' := q3.2) [(.goto 5, 3, 37, .null)] (by decide +kernel) rfl ?_
      exact XI_retI (by decide +kernel)
/-! ChestnutSticks$Play.hangsNow(I)I -/
def md_P_hangsNow : md_T := (yX1_hangsNow, cX1_hangsNow, 2, (some .int), 1, 21)
set_option maxRecDepth 100000 in
theorem ok_P_hangsNow : m_ok md_P_hangsNow := ⟨List.mem_of_getElem? (i := 581) (by decide +kernel), by decide +kernel, List.mem_of_getElem? (i := 59) (by decide +kernel), by decide +kernel⟩
theorem mv_P_hangsNow : Cond.instanceMethod (m_y md_P_hangsNow) ∈ lw_tbl ∧ Cond.selects (m_y md_P_hangsNow).cls (m_y md_P_hangsNow) (m_y md_P_hangsNow) ∈ lw_tbl := ⟨List.mem_of_getElem? (i := 579) (by decide +kernel), List.mem_of_getElem? (i := 580) (by decide +kernel)⟩
def f_P_hangsNow (p1 : Int32) (a : aT) : Option Int32 :=
  if (f_C_isBelow p1 48) = 0 then
    some (-1)
  else
    if inb p1 48 then
      some (a 15 (ix p1))
    else none
set_option maxHeartbeats 4000000 in
set_option maxRecDepth 100000 in
theorem x_P_hangsNow (E : eT) (p1 : Int32) (a : aT) : XP qI E md_P_hangsNow 0 [.ref 14, .int p1] [] a (f_P_hangsNow p1 a) := by
  refine XP_go (pc' := 3) (ls' := [.ref 14, .int p1]) (st' := [.int 48, .int p1]) (a' := a) [(.iload_n 1, 1, 1, .null), (.bipush 48, 2, 0, .int 48)] (by decide +kernel) rfl ?_
  refine XP_SNT (As := [.int p1, .int 48]) (rest := []) (idx := 82) (by decide +kernel) ok_C_isBelow mv_C_isBelow (n := 2) ⟨lk_P_82, by decide +kernel⟩ rfl (Nat.le_of_ble_eq_true rfl) (Nat.le_of_ble_eq_true rfl) (qZ_h rfl) (x_C_isBelow E p1 48 a) ?_
  refine XP_br (c := (f_C_isBelow p1 48) = 0) (t := 18) (e := 9) (ls' := [.ref 14, .int p1]) (st' := []) (a' := a) [(.ifCond .eq 12, 3, 18, .null)] (by decide +kernel) rfl ?_ ?_
  · refine XP_go (pc' := 19) (ls' := [.ref 14, .int p1]) (st' := [.int (-1)]) (a' := a) [(.iconst (-1), 1, 0, .int (-1))] (by decide +kernel) rfl ?_
    exact XP_retI (by decide +kernel)
  · refine XP_ck (c := inb p1 48) (pc' := 15) (ls' := [.ref 14, .int p1]) (st' := [.int (a 15 (ix p1))]) (a' := a) [(.aload_n 0, 1, 0, .null), (.getfield 9, 3, 105, .null), (.iload_n 1, 1, 1, .null), (.iaload, 1, 0, .null)] (by decide +kernel) rfl ?_
    refine XP_go (pc' := 19) (ls' := [.ref 14, .int p1]) (st' := [.int (a 15 (ix p1))]) (a' := a) [(.goto 4, 3, 19, .null)] (by decide +kernel) rfl ?_
    exact XP_retI (by decide +kernel)
