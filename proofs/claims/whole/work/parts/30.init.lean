def z_0 : ac_H := []
def md_E_init : md_T := (yX9_init, cX9_init, 1, none, 1, 21)
set_option maxRecDepth 100000 in
theorem ok_E_init : m_ok md_E_init := ⟨List.mem_of_getElem? (i := 78) (by decide +kernel), by decide +kernel, List.mem_of_getElem? (i := 54) (by decide +kernel), by decide +kernel⟩
theorem mv_E_init : (m_y md_E_init).name = "<init>" ∧ Cond.instanceMethod (m_y md_E_init) ∈ lw_tbl := ⟨rfl, List.mem_of_getElem? (i := 77) (by decide +kernel)⟩
def md_T_init : md_T := (yX6_init, cX6_init, 1, none, 1, 20)
set_option maxRecDepth 100000 in
theorem ok_T_init : m_ok md_T_init := ⟨List.mem_of_getElem? (i := 102) (by decide +kernel), by decide +kernel, List.mem_of_getElem? (i := 55) (by decide +kernel), by decide +kernel⟩
theorem mv_T_init : (m_y md_T_init).name = "<init>" ∧ Cond.instanceMethod (m_y md_T_init) ∈ lw_tbl := ⟨rfl, List.mem_of_getElem? (i := 101) (by decide +kernel)⟩
def md_R_init : md_T := (yX2_init, cX2_init, 1, none, 1, 20)
set_option maxRecDepth 100000 in
theorem ok_R_init : m_ok md_R_init := ⟨List.mem_of_getElem? (i := 112) (by decide +kernel), by decide +kernel, List.mem_of_getElem? (i := 56) (by decide +kernel), by decide +kernel⟩
theorem mv_R_init : (m_y md_R_init).name = "<init>" ∧ Cond.instanceMethod (m_y md_R_init) ∈ lw_tbl := ⟨rfl, List.mem_of_getElem? (i := 111) (by decide +kernel)⟩
def md_K_init : md_T := (yX0_init, cX0_init, 1, none, 1, 20)
set_option maxRecDepth 100000 in
theorem ok_K_init : m_ok md_K_init := ⟨List.mem_of_getElem? (i := 125) (by decide +kernel), by decide +kernel, List.mem_of_getElem? (i := 57) (by decide +kernel), by decide +kernel⟩
theorem mv_K_init : (m_y md_K_init).name = "<init>" ∧ Cond.instanceMethod (m_y md_K_init) ∈ lw_tbl := ⟨rfl, List.mem_of_getElem? (i := 124) (by decide +kernel)⟩
def md_O_init : md_T := (yX8_init, cX8_init, 1, none, 1, 20)
set_option maxRecDepth 100000 in
theorem ok_O_init : m_ok md_O_init := ⟨List.mem_of_getElem? (i := 135) (by decide +kernel), by decide +kernel, List.mem_of_getElem? (i := 58) (by decide +kernel), by decide +kernel⟩
theorem mv_O_init : (m_y md_O_init).name = "<init>" ∧ Cond.instanceMethod (m_y md_O_init) ∈ lw_tbl := ⟨rfl, List.mem_of_getElem? (i := 134) (by decide +kernel)⟩
def md_P_init : md_T := (yX1_init, cX1_init, 6, none, 1, 20)
set_option maxRecDepth 100000 in
theorem ok_P_init : m_ok md_P_init := ⟨List.mem_of_getElem? (i := 154) (by decide +kernel), by decide +kernel, List.mem_of_getElem? (i := 59) (by decide +kernel), by decide +kernel⟩
theorem mv_P_init : (m_y md_P_init).name = "<init>" ∧ Cond.instanceMethod (m_y md_P_init) ∈ lw_tbl := ⟨rfl, List.mem_of_getElem? (i := 153) (by decide +kernel)⟩
def md_S_init : md_T := (yX3_init, cX3_init, 2, none, 1, 20)
set_option maxRecDepth 100000 in
theorem ok_S_init : m_ok md_S_init := ⟨List.mem_of_getElem? (i := 203) (by decide +kernel), by decide +kernel, List.mem_of_getElem? (i := 60) (by decide +kernel), by decide +kernel⟩
theorem mv_S_init : (m_y md_S_init).name = "<init>" ∧ Cond.instanceMethod (m_y md_S_init) ∈ lw_tbl := ⟨rfl, List.mem_of_getElem? (i := 202) (by decide +kernel)⟩
def md_W_init : md_T := (yX7_init, cX7_init, 1, none, 1, 20)
set_option maxRecDepth 100000 in
theorem ok_W_init : m_ok md_W_init := ⟨List.mem_of_getElem? (i := 216) (by decide +kernel), by decide +kernel, List.mem_of_getElem? (i := 61) (by decide +kernel), by decide +kernel⟩
theorem mv_W_init : (m_y md_W_init).name = "<init>" ∧ Cond.instanceMethod (m_y md_W_init) ∈ lw_tbl := ⟨rfl, List.mem_of_getElem? (i := 215) (by decide +kernel)⟩
def md_G_init : md_T := (yX5_init, cX5_init, 1, none, 1, 20)
set_option maxRecDepth 100000 in
theorem ok_G_init : m_ok md_G_init := ⟨List.mem_of_getElem? (i := 232) (by decide +kernel), by decide +kernel, List.mem_of_getElem? (i := 62) (by decide +kernel), by decide +kernel⟩
theorem mv_G_init : (m_y md_G_init).name = "<init>" ∧ Cond.instanceMethod (m_y md_G_init) ∈ lw_tbl := ⟨rfl, List.mem_of_getElem? (i := 231) (by decide +kernel)⟩
def md_H_init : md_T := (yX4_init, cX4_init, 1, none, 1, 20)
set_option maxRecDepth 100000 in
theorem ok_H_init : m_ok md_H_init := ⟨List.mem_of_getElem? (i := 248) (by decide +kernel), by decide +kernel, List.mem_of_getElem? (i := 63) (by decide +kernel), by decide +kernel⟩
theorem mv_H_init : (m_y md_H_init).name = "<init>" ∧ Cond.instanceMethod (m_y md_H_init) ∈ lw_tbl := ⟨rfl, List.mem_of_getElem? (i := 247) (by decide +kernel)⟩
def md_C_init : md_T := (yX10_init, cX10_init, 1, none, 2, 45)
set_option maxRecDepth 100000 in
theorem ok_C_init : m_ok md_C_init := ⟨List.mem_of_getElem? (i := 70) (by decide +kernel), by decide +kernel, List.mem_of_getElem? (i := 53) (by decide +kernel), by decide +kernel⟩
theorem mv_C_init : (m_y md_C_init).name = "<init>" ∧ Cond.instanceMethod (m_y md_C_init) ∈ lw_tbl := ⟨rfl, List.mem_of_getElem? (i := 69) (by decide +kernel)⟩
def md_M_init : md_T := (yX11_init, cX11_init, 2, none, 1, 20)
set_option maxRecDepth 100000 in
theorem ok_M_init : m_ok md_M_init := ⟨List.mem_of_getElem? (i := 890) (by decide +kernel), by decide +kernel, List.mem_of_getElem? (i := 64) (by decide +kernel), by decide +kernel⟩
theorem mv_M_init : (m_y md_M_init).name = "<init>" ∧ Cond.instanceMethod (m_y md_M_init) ∈ lw_tbl := ⟨rfl, List.mem_of_getElem? (i := 889) (by decide +kernel)⟩
theorem z_arr : Cond.arrayClass .int ∈ lw_tbl ∧ Cond.arrayClass .boolean ∈ lw_tbl := by decide +kernel
theorem z_obj : Cond.instanceMethod Lib.objectInit ∈ lw_tbl ∧ Cond.code Lib.objectInit ⟨#[0xb1]⟩ 1 none ∈ lw_tbl := ⟨List.mem_of_getElem? (i := 72) (by decide +kernel), List.mem_of_getElem? (i := 73) (by decide +kernel)⟩
theorem z_fit {M : md_T} {z : ac_H} (h : m_r M = none) : r_fit M (fun r hp => r = none ∧ hp = z) := by
  rintro r hp ⟨rfl, -⟩
  rw [h]
  trivial
def z_1 : ac_H := z_0 ++ [.inr (10, [.null, .null, .null, .null, .null, .null, .null, .null, .null, .null])]
def z_2 : ac_H := z_1 ++ [.inr (9, [.null, .null, .int 0, .int 0])]
def z_3 : ac_H := z_2 ++ [.inl (false, 53, (fun _ => 0))]
def z_4 : ac_H := (z_3.set 1 (.inr (9, [.ref 2, .null, .int 0, .int 0])))
def z_5 : ac_H := z_4 ++ [.inl (false, 48, (fun _ => 0))]
def z_6 : ac_H := (z_5.set 1 (.inr (9, [.ref 2, .ref 3, .int 0, .int (-1)])))
def z_7 : ac_H := (z_6.set 3 (.inl (false, 48, (upd (upd (upd (upd (upd (upd (upd (upd (upd (upd (upd (upd (upd (upd (upd (upd (upd (upd (upd (upd (upd (upd (upd (upd (upd (upd (upd (upd (upd (upd (upd (upd (upd (upd (upd (upd (upd (upd (upd (upd (upd (upd (upd (upd (upd (upd (upd (upd (fun _ => 0) 0 (-2)) 1 (-2)) 2 (-2)) 3 (-2)) 4 (-2)) 5 (-2)) 6 (-2)) 7 (-2)) 8 (-2)) 9 (-2)) 10 (-2)) 11 (-2)) 12 (-2)) 13 (-2)) 14 (-2)) 15 (-2)) 16 (-2)) 17 (-2)) 18 (-2)) 19 (-2)) 20 (-2)) 21 (-2)) 22 (-2)) 23 (-2)) 24 (-2)) 25 (-2)) 26 (-2)) 27 (-2)) 28 (-2)) 29 (-2)) 30 (-2)) 31 (-2)) 32 (-2)) 33 (-2)) 34 (-2)) 35 (-2)) 36 (-2)) 37 (-2)) 38 (-2)) 39 (-2)) 40 (-2)) 41 (-2)) 42 (-2)) 43 (-2)) 44 (-2)) 45 (-2)) 46 (-2)) 47 (-2)))))
set_option maxHeartbeats 4000000 in
set_option maxRecDepth 100000 in
theorem zc_1 (E : eT) : RW (gE E) md_E_clearCells 0 0 0 (l_ent [.ref 1] (m_L md_E_clearCells)) [] z_6 (fun r hp => r = none ∧ hp = z_7) := by
  refine RW_seg (pc' := 22) (ls' := [.ref 1, .int 48]) (st' := []) (hp' := z_7) [(.iconst 0, 1, 0, .int 0), (.istore_n 1, 1, 1, .null), (.iload_n 1, 1, 1, .null), (.bipush 48, 2, 0, .int 48), (.if_icmp .ge 17, 3, 22, .null), (.aload_n 0, 1, 0, .null), (.getfield 15, 3, 901, .null), (.iload_n 1, 1, 1, .null), (.bipush (-2), 2, 0, .int (-2)), (.iastore, 1, 0, .null), (.iinc 1 1, 3, 1, .int 1), (.goto (-17), 3, 2, .null), (.iload_n 1, 1, 1, .null), (.bipush 48, 2, 0, .int 48), (.if_icmp .ge 17, 3, 22, .null), (.aload_n 0, 1, 0, .null), (.getfield 15, 3, 901, .null), (.iload_n 1, 1, 1, .null), (.bipush (-2), 2, 0, .int (-2)), (.iastore, 1, 0, .null), (.iinc 1 1, 3, 1, .int 1), (.goto (-17), 3, 2, .null), (.iload_n 1, 1, 1, .null), (.bipush 48, 2, 0, .int 48), (.if_icmp .ge 17, 3, 22, .null), (.aload_n 0, 1, 0, .null), (.getfield 15, 3, 901, .null), (.iload_n 1, 1, 1, .null), (.bipush (-2), 2, 0, .int (-2)), (.iastore, 1, 0, .null), (.iinc 1 1, 3, 1, .int 1), (.goto (-17), 3, 2, .null), (.iload_n 1, 1, 1, .null), (.bipush 48, 2, 0, .int 48), (.if_icmp .ge 17, 3, 22, .null), (.aload_n 0, 1, 0, .null), (.getfield 15, 3, 901, .null), (.iload_n 1, 1, 1, .null), (.bipush (-2), 2, 0, .int (-2)), (.iastore, 1, 0, .null), (.iinc 1 1, 3, 1, .int 1), (.goto (-17), 3, 2, .null), (.iload_n 1, 1, 1, .null), (.bipush 48, 2, 0, .int 48), (.if_icmp .ge 17, 3, 22, .null), (.aload_n 0, 1, 0, .null), (.getfield 15, 3, 901, .null), (.iload_n 1, 1, 1, .null), (.bipush (-2), 2, 0, .int (-2)), (.iastore, 1, 0, .null), (.iinc 1 1, 3, 1, .int 1), (.goto (-17), 3, 2, .null), (.iload_n 1, 1, 1, .null), (.bipush 48, 2, 0, .int 48), (.if_icmp .ge 17, 3, 22, .null), (.aload_n 0, 1, 0, .null), (.getfield 15, 3, 901, .null), (.iload_n 1, 1, 1, .null), (.bipush (-2), 2, 0, .int (-2)), (.iastore, 1, 0, .null), (.iinc 1 1, 3, 1, .int 1), (.goto (-17), 3, 2, .null), (.iload_n 1, 1, 1, .null), (.bipush 48, 2, 0, .int 48), (.if_icmp .ge 17, 3, 22, .null), (.aload_n 0, 1, 0, .null), (.getfield 15, 3, 901, .null), (.iload_n 1, 1, 1, .null), (.bipush (-2), 2, 0, .int (-2)), (.iastore, 1, 0, .null), (.iinc 1 1, 3, 1, .int 1), (.goto (-17), 3, 2, .null), (.iload_n 1, 1, 1, .null), (.bipush 48, 2, 0, .int 48), (.if_icmp .ge 17, 3, 22, .null), (.aload_n 0, 1, 0, .null), (.getfield 15, 3, 901, .null), (.iload_n 1, 1, 1, .null), (.bipush (-2), 2, 0, .int (-2)), (.iastore, 1, 0, .null), (.iinc 1 1, 3, 1, .int 1), (.goto (-17), 3, 2, .null), (.iload_n 1, 1, 1, .null), (.bipush 48, 2, 0, .int 48), (.if_icmp .ge 17, 3, 22, .null), (.aload_n 0, 1, 0, .null), (.getfield 15, 3, 901, .null), (.iload_n 1, 1, 1, .null), (.bipush (-2), 2, 0, .int (-2)), (.iastore, 1, 0, .null), (.iinc 1 1, 3, 1, .int 1), (.goto (-17), 3, 2, .null), (.iload_n 1, 1, 1, .null), (.bipush 48, 2, 0, .int 48), (.if_icmp .ge 17, 3, 22, .null), (.aload_n 0, 1, 0, .null), (.getfield 15, 3, 901, .null), (.iload_n 1, 1, 1, .null), (.bipush (-2), 2, 0, .int (-2)), (.iastore, 1, 0, .null), (.iinc 1 1, 3, 1, .int 1), (.goto (-17), 3, 2, .null), (.iload_n 1, 1, 1, .null), (.bipush 48, 2, 0, .int 48), (.if_icmp .ge 17, 3, 22, .null), (.aload_n 0, 1, 0, .null), (.getfield 15, 3, 901, .null), (.iload_n 1, 1, 1, .null), (.bipush (-2), 2, 0, .int (-2)), (.iastore, 1, 0, .null), (.iinc 1 1, 3, 1, .int 1), (.goto (-17), 3, 2, .null), (.iload_n 1, 1, 1, .null), (.bipush 48, 2, 0, .int 48), (.if_icmp .ge 17, 3, 22, .null), (.aload_n 0, 1, 0, .null), (.getfield 15, 3, 901, .null), (.iload_n 1, 1, 1, .null), (.bipush (-2), 2, 0, .int (-2)), (.iastore, 1, 0, .null), (.iinc 1 1, 3, 1, .int 1), (.goto (-17), 3, 2, .null), (.iload_n 1, 1, 1, .null), (.bipush 48, 2, 0, .int 48), (.if_icmp .ge 17, 3, 22, .null), (.aload_n 0, 1, 0, .null), (.getfield 15, 3, 901, .null), (.iload_n 1, 1, 1, .null), (.bipush (-2), 2, 0, .int (-2)), (.iastore, 1, 0, .null), (.iinc 1 1, 3, 1, .int 1), (.goto (-17), 3, 2, .null), (.iload_n 1, 1, 1, .null), (.bipush 48, 2, 0, .int 48), (.if_icmp .ge 17, 3, 22, .null), (.aload_n 0, 1, 0, .null), (.getfield 15, 3, 901, .null), (.iload_n 1, 1, 1, .null), (.bipush (-2), 2, 0, .int (-2)), (.iastore, 1, 0, .null), (.iinc 1 1, 3, 1, .int 1), (.goto (-17), 3, 2, .null), (.iload_n 1, 1, 1, .null), (.bipush 48, 2, 0, .int 48), (.if_icmp .ge 17, 3, 22, .null), (.aload_n 0, 1, 0, .null), (.getfield 15, 3, 901, .null), (.iload_n 1, 1, 1, .null), (.bipush (-2), 2, 0, .int (-2)), (.iastore, 1, 0, .null), (.iinc 1 1, 3, 1, .int 1), (.goto (-17), 3, 2, .null), (.iload_n 1, 1, 1, .null), (.bipush 48, 2, 0, .int 48), (.if_icmp .ge 17, 3, 22, .null), (.aload_n 0, 1, 0, .null), (.getfield 15, 3, 901, .null), (.iload_n 1, 1, 1, .null), (.bipush (-2), 2, 0, .int (-2)), (.iastore, 1, 0, .null), (.iinc 1 1, 3, 1, .int 1), (.goto (-17), 3, 2, .null), (.iload_n 1, 1, 1, .null), (.bipush 48, 2, 0, .int 48), (.if_icmp .ge 17, 3, 22, .null), (.aload_n 0, 1, 0, .null), (.getfield 15, 3, 901, .null), (.iload_n 1, 1, 1, .null), (.bipush (-2), 2, 0, .int (-2)), (.iastore, 1, 0, .null), (.iinc 1 1, 3, 1, .int 1), (.goto (-17), 3, 2, .null), (.iload_n 1, 1, 1, .null), (.bipush 48, 2, 0, .int 48), (.if_icmp .ge 17, 3, 22, .null), (.aload_n 0, 1, 0, .null), (.getfield 15, 3, 901, .null), (.iload_n 1, 1, 1, .null), (.bipush (-2), 2, 0, .int (-2)), (.iastore, 1, 0, .null), (.iinc 1 1, 3, 1, .int 1), (.goto (-17), 3, 2, .null), (.iload_n 1, 1, 1, .null), (.bipush 48, 2, 0, .int 48), (.if_icmp .ge 17, 3, 22, .null), (.aload_n 0, 1, 0, .null), (.getfield 15, 3, 901, .null), (.iload_n 1, 1, 1, .null), (.bipush (-2), 2, 0, .int (-2)), (.iastore, 1, 0, .null), (.iinc 1 1, 3, 1, .int 1), (.goto (-17), 3, 2, .null), (.iload_n 1, 1, 1, .null), (.bipush 48, 2, 0, .int 48), (.if_icmp .ge 17, 3, 22, .null), (.aload_n 0, 1, 0, .null), (.getfield 15, 3, 901, .null), (.iload_n 1, 1, 1, .null), (.bipush (-2), 2, 0, .int (-2)), (.iastore, 1, 0, .null), (.iinc 1 1, 3, 1, .int 1), (.goto (-17), 3, 2, .null), (.iload_n 1, 1, 1, .null), (.bipush 48, 2, 0, .int 48), (.if_icmp .ge 17, 3, 22, .null), (.aload_n 0, 1, 0, .null), (.getfield 15, 3, 901, .null), (.iload_n 1, 1, 1, .null), (.bipush (-2), 2, 0, .int (-2)), (.iastore, 1, 0, .null), (.iinc 1 1, 3, 1, .int 1), (.goto (-17), 3, 2, .null), (.iload_n 1, 1, 1, .null), (.bipush 48, 2, 0, .int 48), (.if_icmp .ge 17, 3, 22, .null), (.aload_n 0, 1, 0, .null), (.getfield 15, 3, 901, .null), (.iload_n 1, 1, 1, .null), (.bipush (-2), 2, 0, .int (-2)), (.iastore, 1, 0, .null), (.iinc 1 1, 3, 1, .int 1), (.goto (-17), 3, 2, .null), (.iload_n 1, 1, 1, .null), (.bipush 48, 2, 0, .int 48), (.if_icmp .ge 17, 3, 22, .null), (.aload_n 0, 1, 0, .null), (.getfield 15, 3, 901, .null), (.iload_n 1, 1, 1, .null), (.bipush (-2), 2, 0, .int (-2)), (.iastore, 1, 0, .null), (.iinc 1 1, 3, 1, .int 1), (.goto (-17), 3, 2, .null), (.iload_n 1, 1, 1, .null), (.bipush 48, 2, 0, .int 48), (.if_icmp .ge 17, 3, 22, .null), (.aload_n 0, 1, 0, .null), (.getfield 15, 3, 901, .null), (.iload_n 1, 1, 1, .null), (.bipush (-2), 2, 0, .int (-2)), (.iastore, 1, 0, .null), (.iinc 1 1, 3, 1, .int 1), (.goto (-17), 3, 2, .null), (.iload_n 1, 1, 1, .null), (.bipush 48, 2, 0, .int 48), (.if_icmp .ge 17, 3, 22, .null), (.aload_n 0, 1, 0, .null), (.getfield 15, 3, 901, .null), (.iload_n 1, 1, 1, .null), (.bipush (-2), 2, 0, .int (-2)), (.iastore, 1, 0, .null), (.iinc 1 1, 3, 1, .int 1), (.goto (-17), 3, 2, .null), (.iload_n 1, 1, 1, .null), (.bipush 48, 2, 0, .int 48), (.if_icmp .ge 17, 3, 22, .null), (.aload_n 0, 1, 0, .null), (.getfield 15, 3, 901, .null), (.iload_n 1, 1, 1, .null), (.bipush (-2), 2, 0, .int (-2)), (.iastore, 1, 0, .null), (.iinc 1 1, 3, 1, .int 1), (.goto (-17), 3, 2, .null), (.iload_n 1, 1, 1, .null), (.bipush 48, 2, 0, .int 48), (.if_icmp .ge 17, 3, 22, .null), (.aload_n 0, 1, 0, .null), (.getfield 15, 3, 901, .null), (.iload_n 1, 1, 1, .null), (.bipush (-2), 2, 0, .int (-2)), (.iastore, 1, 0, .null), (.iinc 1 1, 3, 1, .int 1), (.goto (-17), 3, 2, .null), (.iload_n 1, 1, 1, .null), (.bipush 48, 2, 0, .int 48), (.if_icmp .ge 17, 3, 22, .null), (.aload_n 0, 1, 0, .null), (.getfield 15, 3, 901, .null), (.iload_n 1, 1, 1, .null), (.bipush (-2), 2, 0, .int (-2)), (.iastore, 1, 0, .null), (.iinc 1 1, 3, 1, .int 1), (.goto (-17), 3, 2, .null), (.iload_n 1, 1, 1, .null), (.bipush 48, 2, 0, .int 48), (.if_icmp .ge 17, 3, 22, .null), (.aload_n 0, 1, 0, .null), (.getfield 15, 3, 901, .null), (.iload_n 1, 1, 1, .null), (.bipush (-2), 2, 0, .int (-2)), (.iastore, 1, 0, .null), (.iinc 1 1, 3, 1, .int 1), (.goto (-17), 3, 2, .null), (.iload_n 1, 1, 1, .null), (.bipush 48, 2, 0, .int 48), (.if_icmp .ge 17, 3, 22, .null), (.aload_n 0, 1, 0, .null), (.getfield 15, 3, 901, .null), (.iload_n 1, 1, 1, .null), (.bipush (-2), 2, 0, .int (-2)), (.iastore, 1, 0, .null), (.iinc 1 1, 3, 1, .int 1), (.goto (-17), 3, 2, .null), (.iload_n 1, 1, 1, .null), (.bipush 48, 2, 0, .int 48), (.if_icmp .ge 17, 3, 22, .null), (.aload_n 0, 1, 0, .null), (.getfield 15, 3, 901, .null), (.iload_n 1, 1, 1, .null), (.bipush (-2), 2, 0, .int (-2)), (.iastore, 1, 0, .null), (.iinc 1 1, 3, 1, .int 1), (.goto (-17), 3, 2, .null), (.iload_n 1, 1, 1, .null), (.bipush 48, 2, 0, .int 48), (.if_icmp .ge 17, 3, 22, .null), (.aload_n 0, 1, 0, .null), (.getfield 15, 3, 901, .null), (.iload_n 1, 1, 1, .null), (.bipush (-2), 2, 0, .int (-2)), (.iastore, 1, 0, .null), (.iinc 1 1, 3, 1, .int 1), (.goto (-17), 3, 2, .null), (.iload_n 1, 1, 1, .null), (.bipush 48, 2, 0, .int 48), (.if_icmp .ge 17, 3, 22, .null), (.aload_n 0, 1, 0, .null), (.getfield 15, 3, 901, .null), (.iload_n 1, 1, 1, .null), (.bipush (-2), 2, 0, .int (-2)), (.iastore, 1, 0, .null), (.iinc 1 1, 3, 1, .int 1), (.goto (-17), 3, 2, .null), (.iload_n 1, 1, 1, .null), (.bipush 48, 2, 0, .int 48), (.if_icmp .ge 17, 3, 22, .null), (.aload_n 0, 1, 0, .null), (.getfield 15, 3, 901, .null), (.iload_n 1, 1, 1, .null), (.bipush (-2), 2, 0, .int (-2)), (.iastore, 1, 0, .null), (.iinc 1 1, 3, 1, .int 1), (.goto (-17), 3, 2, .null), (.iload_n 1, 1, 1, .null), (.bipush 48, 2, 0, .int 48), (.if_icmp .ge 17, 3, 22, .null), (.aload_n 0, 1, 0, .null), (.getfield 15, 3, 901, .null), (.iload_n 1, 1, 1, .null), (.bipush (-2), 2, 0, .int (-2)), (.iastore, 1, 0, .null), (.iinc 1 1, 3, 1, .int 1), (.goto (-17), 3, 2, .null), (.iload_n 1, 1, 1, .null), (.bipush 48, 2, 0, .int 48), (.if_icmp .ge 17, 3, 22, .null), (.aload_n 0, 1, 0, .null), (.getfield 15, 3, 901, .null), (.iload_n 1, 1, 1, .null), (.bipush (-2), 2, 0, .int (-2)), (.iastore, 1, 0, .null), (.iinc 1 1, 3, 1, .int 1), (.goto (-17), 3, 2, .null), (.iload_n 1, 1, 1, .null), (.bipush 48, 2, 0, .int 48), (.if_icmp .ge 17, 3, 22, .null), (.aload_n 0, 1, 0, .null), (.getfield 15, 3, 901, .null), (.iload_n 1, 1, 1, .null), (.bipush (-2), 2, 0, .int (-2)), (.iastore, 1, 0, .null), (.iinc 1 1, 3, 1, .int 1), (.goto (-17), 3, 2, .null), (.iload_n 1, 1, 1, .null), (.bipush 48, 2, 0, .int 48), (.if_icmp .ge 17, 3, 22, .null), (.aload_n 0, 1, 0, .null), (.getfield 15, 3, 901, .null), (.iload_n 1, 1, 1, .null), (.bipush (-2), 2, 0, .int (-2)), (.iastore, 1, 0, .null), (.iinc 1 1, 3, 1, .int 1), (.goto (-17), 3, 2, .null), (.iload_n 1, 1, 1, .null), (.bipush 48, 2, 0, .int 48), (.if_icmp .ge 17, 3, 22, .null), (.aload_n 0, 1, 0, .null), (.getfield 15, 3, 901, .null), (.iload_n 1, 1, 1, .null), (.bipush (-2), 2, 0, .int (-2)), (.iastore, 1, 0, .null), (.iinc 1 1, 3, 1, .int 1), (.goto (-17), 3, 2, .null), (.iload_n 1, 1, 1, .null), (.bipush 48, 2, 0, .int 48), (.if_icmp .ge 17, 3, 22, .null), (.aload_n 0, 1, 0, .null), (.getfield 15, 3, 901, .null), (.iload_n 1, 1, 1, .null), (.bipush (-2), 2, 0, .int (-2)), (.iastore, 1, 0, .null), (.iinc 1 1, 3, 1, .int 1), (.goto (-17), 3, 2, .null), (.iload_n 1, 1, 1, .null), (.bipush 48, 2, 0, .int 48), (.if_icmp .ge 17, 3, 22, .null), (.aload_n 0, 1, 0, .null), (.getfield 15, 3, 901, .null), (.iload_n 1, 1, 1, .null), (.bipush (-2), 2, 0, .int (-2)), (.iastore, 1, 0, .null), (.iinc 1 1, 3, 1, .int 1), (.goto (-17), 3, 2, .null), (.iload_n 1, 1, 1, .null), (.bipush 48, 2, 0, .int 48), (.if_icmp .ge 17, 3, 22, .null), (.aload_n 0, 1, 0, .null), (.getfield 15, 3, 901, .null), (.iload_n 1, 1, 1, .null), (.bipush (-2), 2, 0, .int (-2)), (.iastore, 1, 0, .null), (.iinc 1 1, 3, 1, .int 1), (.goto (-17), 3, 2, .null), (.iload_n 1, 1, 1, .null), (.bipush 48, 2, 0, .int 48), (.if_icmp .ge 17, 3, 22, .null), (.aload_n 0, 1, 0, .null), (.getfield 15, 3, 901, .null), (.iload_n 1, 1, 1, .null), (.bipush (-2), 2, 0, .int (-2)), (.iastore, 1, 0, .null), (.iinc 1 1, 3, 1, .int 1), (.goto (-17), 3, 2, .null), (.iload_n 1, 1, 1, .null), (.bipush 48, 2, 0, .int 48), (.if_icmp .ge 17, 3, 22, .null), (.aload_n 0, 1, 0, .null), (.getfield 15, 3, 901, .null), (.iload_n 1, 1, 1, .null), (.bipush (-2), 2, 0, .int (-2)), (.iastore, 1, 0, .null), (.iinc 1 1, 3, 1, .int 1), (.goto (-17), 3, 2, .null), (.iload_n 1, 1, 1, .null), (.bipush 48, 2, 0, .int 48), (.if_icmp .ge 17, 3, 22, .null), (.aload_n 0, 1, 0, .null), (.getfield 15, 3, 901, .null), (.iload_n 1, 1, 1, .null), (.bipush (-2), 2, 0, .int (-2)), (.iastore, 1, 0, .null), (.iinc 1 1, 3, 1, .int 1), (.goto (-17), 3, 2, .null), (.iload_n 1, 1, 1, .null), (.bipush 48, 2, 0, .int 48), (.if_icmp .ge 17, 3, 22, .null), (.aload_n 0, 1, 0, .null), (.getfield 15, 3, 901, .null), (.iload_n 1, 1, 1, .null), (.bipush (-2), 2, 0, .int (-2)), (.iastore, 1, 0, .null), (.iinc 1 1, 3, 1, .int 1), (.goto (-17), 3, 2, .null), (.iload_n 1, 1, 1, .null), (.bipush 48, 2, 0, .int 48), (.if_icmp .ge 17, 3, 22, .null), (.aload_n 0, 1, 0, .null), (.getfield 15, 3, 901, .null), (.iload_n 1, 1, 1, .null), (.bipush (-2), 2, 0, .int (-2)), (.iastore, 1, 0, .null), (.iinc 1 1, 3, 1, .int 1), (.goto (-17), 3, 2, .null), (.iload_n 1, 1, 1, .null), (.bipush 48, 2, 0, .int 48), (.if_icmp .ge 17, 3, 22, .null), (.aload_n 0, 1, 0, .null), (.getfield 15, 3, 901, .null), (.iload_n 1, 1, 1, .null), (.bipush (-2), 2, 0, .int (-2)), (.iastore, 1, 0, .null), (.iinc 1 1, 3, 1, .int 1), (.goto (-17), 3, 2, .null), (.iload_n 1, 1, 1, .null), (.bipush 48, 2, 0, .int 48), (.if_icmp .ge 17, 3, 22, .null)] (by decide +kernel) rfl ?_
  exact RW_ret none (fun a q => by cases q) (by decide +kernel) ⟨rfl, rfl⟩
set_option maxHeartbeats 4000000 in
set_option maxRecDepth 100000 in
theorem zc_2 (E : eT) : RW (gE E) md_E_init 2 101 0 (l_ent [.ref 1] (m_L md_E_init)) [] z_2 (fun r hp => r = none ∧ hp = z_7) := by
  refine RW_seg (pc' := 1) (ls' := [.ref 1]) (st' := [.ref 1]) (hp' := z_2) [(.aload_n 0, 1, 0, .null)] (by decide +kernel) rfl ?_
  refine RW_obj (idx := 3) (by decide +kernel) ⟨lk_E_3, z_obj⟩ (by decide +kernel) (by decide +kernel) ?_
  refine RW_seg (pc' := 4) (ls' := [.ref 1]) (st' := []) (hp' := z_2) [] rfl rfl ?_
  refine RW_seg (pc' := 7) (ls' := [.ref 1]) (st' := [.int 53, .ref 1]) (hp' := z_2) [(.aload_n 0, 1, 0, .null), (.bipush 53, 2, 0, .int 53)] (by decide +kernel) rfl ?_
  refine RW_newa (cb := 1) (sb := 48) (hp := z_2) (n := 53) (N := 53) false (by decide +kernel) (by decide) (by decide +kernel) (by decide) (by decide +kernel) z_arr ?_
  refine RW_seg (pc' := 9) (ls' := [.ref 1]) (st' := [.ref 2, .ref 1]) (hp' := z_3) [] rfl rfl ?_
  refine RW_seg (pc' := 15) (ls' := [.ref 1]) (st' := [.int 48, .ref 1]) (hp' := z_4) [(.putfield 9, 3, 900, .null), (.aload_n 0, 1, 0, .null), (.bipush 48, 2, 0, .int 48)] (by decide +kernel) rfl ?_
  refine RW_newa (cb := 0) (sb := 0) (hp := z_4) (n := 48) (N := 48) false (by decide +kernel) (by decide) (by decide +kernel) (by decide) (by decide +kernel) z_arr ?_
  refine RW_seg (pc' := 17) (ls' := [.ref 1]) (st' := [.ref 3, .ref 1]) (hp' := z_5) [] rfl rfl ?_
  refine RW_seg (pc' := 31) (ls' := [.ref 1]) (st' := [.ref 1]) (hp' := z_6) [(.putfield 15, 3, 901, .null), (.aload_n 0, 1, 0, .null), (.iconst 0, 1, 0, .int 0), (.putfield 18, 3, 902, .int 0), (.aload_n 0, 1, 0, .null), (.iconst (-1), 1, 0, .int (-1)), (.putfield 22, 3, 903, .int 0), (.aload_n 0, 1, 0, .null)] (by decide +kernel) rfl ?_
  refine RW_callV (cb := 0) (sb := 0) (cb1 := 0) (sb1 := 0) (hp := z_6) (As := []) (rest := []) (a := 1) (idx := 25) (by decide +kernel) ok_E_clearCells mv_E_clearCells ⟨lk_E_25, by decide +kernel⟩ (by rfl) rfl rfl (Nat.le_of_ble_eq_true rfl) (Nat.le_of_ble_eq_true rfl) (z_fit rfl) (fun r hp' h => by obtain ⟨-, rfl⟩ := h; decide +kernel) (zc_1 E) (fun r hp' h => ?_)
  obtain ⟨rfl, rfl⟩ := h
  refine RW_seg (pc' := 34) (ls' := [.ref 1]) (st' := []) (hp' := z_7) [] rfl rfl ?_
  exact RW_ret none (fun a q => by cases q) (by decide +kernel) ⟨rfl, rfl⟩
def z_8 : ac_H := (z_7.set 0 (.inr (10, [.ref 1, .null, .null, .null, .null, .null, .null, .null, .null, .null])))
def z_9 : ac_H := z_8 ++ [.inr (6, [.null])]
def z_10 : ac_H := z_9 ++ [.inl (false, 12, (fun _ => 0))]
def z_11 : ac_H := ((z_10.set 5 (.inl (false, 12, (upd (upd (upd (upd (upd (upd (upd (upd (upd (upd (upd (upd (fun _ => 0) 0 3) 1 1) 2 0) 3 3) 4 1) 5 0) 6 3) 7 1) 8 0) 9 3) 10 1) 11 0)))).set 4 (.inr (6, [.ref 5])))
set_option maxHeartbeats 4000000 in
set_option maxRecDepth 100000 in
theorem zc_3 (E : eT) : RW (gE E) md_T_init 1 12 0 (l_ent [.ref 4] (m_L md_T_init)) [] z_9 (fun r hp => r = none ∧ hp = z_11) := by
  refine RW_seg (pc' := 1) (ls' := [.ref 4]) (st' := [.ref 4]) (hp' := z_9) [(.aload_n 0, 1, 0, .null)] (by decide +kernel) rfl ?_
  refine RW_obj (idx := 3) (by decide +kernel) ⟨lk_T_3, z_obj⟩ (by decide +kernel) (by decide +kernel) ?_
  refine RW_seg (pc' := 4) (ls' := [.ref 4]) (st' := []) (hp' := z_9) [] rfl rfl ?_
  refine RW_seg (pc' := 7) (ls' := [.ref 4]) (st' := [.int 12, .ref 4]) (hp' := z_9) [(.aload_n 0, 1, 0, .null), (.bipush 12, 2, 0, .int 12)] (by decide +kernel) rfl ?_
  refine RW_newa (cb := 0) (sb := 0) (hp := z_9) (n := 12) (N := 12) false (by decide +kernel) (by decide) (by decide +kernel) (by decide) (by decide +kernel) z_arr ?_
  refine RW_seg (pc' := 9) (ls' := [.ref 4]) (st' := [.ref 5, .ref 4]) (hp' := z_10) [] rfl rfl ?_
  refine RW_seg (pc' := 66) (ls' := [.ref 4]) (st' := []) (hp' := z_11) [(.dup, 1, 0, .null), (.iconst 0, 1, 0, .int 0), (.iconst 3, 1, 0, .int 3), (.iastore, 1, 0, .null), (.dup, 1, 0, .null), (.iconst 1, 1, 0, .int 1), (.iconst 1, 1, 0, .int 1), (.iastore, 1, 0, .null), (.dup, 1, 0, .null), (.iconst 2, 1, 0, .int 2), (.iconst 0, 1, 0, .int 0), (.iastore, 1, 0, .null), (.dup, 1, 0, .null), (.iconst 3, 1, 0, .int 3), (.iconst 3, 1, 0, .int 3), (.iastore, 1, 0, .null), (.dup, 1, 0, .null), (.iconst 4, 1, 0, .int 4), (.iconst 1, 1, 0, .int 1), (.iastore, 1, 0, .null), (.dup, 1, 0, .null), (.iconst 5, 1, 0, .int 5), (.iconst 0, 1, 0, .int 0), (.iastore, 1, 0, .null), (.dup, 1, 0, .null), (.bipush 6, 2, 0, .int 6), (.iconst 3, 1, 0, .int 3), (.iastore, 1, 0, .null), (.dup, 1, 0, .null), (.bipush 7, 2, 0, .int 7), (.iconst 1, 1, 0, .int 1), (.iastore, 1, 0, .null), (.dup, 1, 0, .null), (.bipush 8, 2, 0, .int 8), (.iconst 0, 1, 0, .int 0), (.iastore, 1, 0, .null), (.dup, 1, 0, .null), (.bipush 9, 2, 0, .int 9), (.iconst 3, 1, 0, .int 3), (.iastore, 1, 0, .null), (.dup, 1, 0, .null), (.bipush 10, 2, 0, .int 10), (.iconst 1, 1, 0, .int 1), (.iastore, 1, 0, .null), (.dup, 1, 0, .null), (.bipush 11, 2, 0, .int 11), (.iconst 0, 1, 0, .int 0), (.iastore, 1, 0, .null), (.putfield 9, 3, 600, .null)] (by decide +kernel) rfl ?_
  exact RW_ret none (fun a q => by cases q) (by decide +kernel) ⟨rfl, rfl⟩
def z_12 : ac_H := (z_11.set 0 (.inr (10, [.ref 1, .ref 4, .null, .null, .null, .null, .null, .null, .null, .null])))
def z_13 : ac_H := z_12 ++ [.inr (2, [.null, .int 0])]
def z_14 : ac_H := z_13 ++ [.inl (false, 6, (fun _ => 0))]
def z_15 : ac_H := ((z_14.set 7 (.inl (false, 6, (upd (upd (upd (upd (upd (upd (fun _ => 0) 0 0) 1 20) 2 1) 3 0) 4 5) 5 4)))).set 6 (.inr (2, [.ref 7, .int 1])))
set_option maxHeartbeats 4000000 in
set_option maxRecDepth 100000 in
theorem zc_4 (E : eT) : RW (gE E) md_R_init 1 6 0 (l_ent [.ref 6] (m_L md_R_init)) [] z_13 (fun r hp => r = none ∧ hp = z_15) := by
  refine RW_seg (pc' := 1) (ls' := [.ref 6]) (st' := [.ref 6]) (hp' := z_13) [(.aload_n 0, 1, 0, .null)] (by decide +kernel) rfl ?_
  refine RW_obj (idx := 3) (by decide +kernel) ⟨lk_R_3, z_obj⟩ (by decide +kernel) (by decide +kernel) ?_
  refine RW_seg (pc' := 4) (ls' := [.ref 6]) (st' := []) (hp' := z_13) [] rfl rfl ?_
  refine RW_seg (pc' := 7) (ls' := [.ref 6]) (st' := [.int 6, .ref 6]) (hp' := z_13) [(.aload_n 0, 1, 0, .null), (.bipush 6, 2, 0, .int 6)] (by decide +kernel) rfl ?_
  refine RW_newa (cb := 0) (sb := 0) (hp := z_13) (n := 6) (N := 6) false (by decide +kernel) (by decide) (by decide +kernel) (by decide) (by decide +kernel) z_arr ?_
  refine RW_seg (pc' := 9) (ls' := [.ref 6]) (st' := [.ref 7, .ref 6]) (hp' := z_14) [] rfl rfl ?_
  refine RW_seg (pc' := 42) (ls' := [.ref 6]) (st' := []) (hp' := z_15) [(.dup, 1, 0, .null), (.iconst 0, 1, 0, .int 0), (.iconst 0, 1, 0, .int 0), (.iastore, 1, 0, .null), (.dup, 1, 0, .null), (.iconst 1, 1, 0, .int 1), (.bipush 20, 2, 0, .int 20), (.iastore, 1, 0, .null), (.dup, 1, 0, .null), (.iconst 2, 1, 0, .int 2), (.iconst 1, 1, 0, .int 1), (.iastore, 1, 0, .null), (.dup, 1, 0, .null), (.iconst 3, 1, 0, .int 3), (.iconst 0, 1, 0, .int 0), (.iastore, 1, 0, .null), (.dup, 1, 0, .null), (.iconst 4, 1, 0, .int 4), (.iconst 5, 1, 0, .int 5), (.iastore, 1, 0, .null), (.dup, 1, 0, .null), (.iconst 5, 1, 0, .int 5), (.iconst 4, 1, 0, .int 4), (.iastore, 1, 0, .null), (.putfield 9, 3, 200, .null), (.aload_n 0, 1, 0, .null), (.iconst 1, 1, 0, .int 1), (.putfield 15, 3, 201, .int 0)] (by decide +kernel) rfl ?_
  exact RW_ret none (fun a q => by cases q) (by decide +kernel) ⟨rfl, rfl⟩
def z_16 : ac_H := (z_15.set 0 (.inr (10, [.ref 1, .ref 4, .ref 6, .null, .null, .null, .null, .null, .null, .null])))
def z_17 : ac_H := z_16 ++ [.inr (0, [.null])]
def z_18 : ac_H := z_17 ++ [.inl (false, 4, (fun _ => 0))]
def z_19 : ac_H := (z_18.set 8 (.inr (0, [.ref 9])))
set_option maxHeartbeats 4000000 in
set_option maxRecDepth 100000 in
theorem zc_5 (E : eT) : RW (gE E) md_K_init 1 4 0 (l_ent [.ref 8] (m_L md_K_init)) [] z_17 (fun r hp => r = none ∧ hp = z_19) := by
  refine RW_seg (pc' := 1) (ls' := [.ref 8]) (st' := [.ref 8]) (hp' := z_17) [(.aload_n 0, 1, 0, .null)] (by decide +kernel) rfl ?_
  refine RW_obj (idx := 3) (by decide +kernel) ⟨lk_K_3, z_obj⟩ (by decide +kernel) (by decide +kernel) ?_
  refine RW_seg (pc' := 4) (ls' := [.ref 8]) (st' := []) (hp' := z_17) [] rfl rfl ?_
  refine RW_seg (pc' := 6) (ls' := [.ref 8]) (st' := [.int 4, .ref 8]) (hp' := z_17) [(.aload_n 0, 1, 0, .null), (.iconst 4, 1, 0, .int 4)] (by decide +kernel) rfl ?_
  refine RW_newa (cb := 0) (sb := 0) (hp := z_17) (n := 4) (N := 4) false (by decide +kernel) (by decide) (by decide +kernel) (by decide) (by decide +kernel) z_arr ?_
  refine RW_seg (pc' := 8) (ls' := [.ref 8]) (st' := [.ref 9, .ref 8]) (hp' := z_18) [] rfl rfl ?_
  refine RW_seg (pc' := 11) (ls' := [.ref 8]) (st' := []) (hp' := z_19) [(.putfield 9, 3, 0, .null)] (by decide +kernel) rfl ?_
  exact RW_ret none (fun a q => by cases q) (by decide +kernel) ⟨rfl, rfl⟩
def z_20 : ac_H := (z_19.set 0 (.inr (10, [.ref 1, .ref 4, .ref 6, .ref 8, .null, .null, .null, .null, .null, .null])))
def z_21 : ac_H := z_20 ++ [.inr (8, [.null, .null, .null, .int 0])]
def z_22 : ac_H := z_21 ++ [.inl (false, 20, (fun _ => 0))]
def z_23 : ac_H := (z_22.set 10 (.inr (8, [.ref 11, .null, .null, .int 0])))
def z_24 : ac_H := z_23 ++ [.inl (false, 20, (fun _ => 0))]
def z_25 : ac_H := (z_24.set 10 (.inr (8, [.ref 11, .ref 12, .null, .int 0])))
def z_26 : ac_H := z_25 ++ [.inl (false, 20, (fun _ => 0))]
def z_27 : ac_H := (z_26.set 10 (.inr (8, [.ref 11, .ref 12, .ref 13, .int 0])))
set_option maxHeartbeats 4000000 in
set_option maxRecDepth 100000 in
theorem zc_6 (E : eT) : RW (gE E) md_O_init 3 60 0 (l_ent [.ref 10] (m_L md_O_init)) [] z_21 (fun r hp => r = none ∧ hp = z_27) := by
  refine RW_seg (pc' := 1) (ls' := [.ref 10]) (st' := [.ref 10]) (hp' := z_21) [(.aload_n 0, 1, 0, .null)] (by decide +kernel) rfl ?_
  refine RW_obj (idx := 3) (by decide +kernel) ⟨lk_O_3, z_obj⟩ (by decide +kernel) (by decide +kernel) ?_
  refine RW_seg (pc' := 4) (ls' := [.ref 10]) (st' := []) (hp' := z_21) [] rfl rfl ?_
  refine RW_seg (pc' := 7) (ls' := [.ref 10]) (st' := [.int 20, .ref 10]) (hp' := z_21) [(.aload_n 0, 1, 0, .null), (.bipush 20, 2, 0, .int 20)] (by decide +kernel) rfl ?_
  refine RW_newa (cb := 2) (sb := 40) (hp := z_21) (n := 20) (N := 20) false (by decide +kernel) (by decide) (by decide +kernel) (by decide) (by decide +kernel) z_arr ?_
  refine RW_seg (pc' := 9) (ls' := [.ref 10]) (st' := [.ref 11, .ref 10]) (hp' := z_22) [] rfl rfl ?_
  refine RW_seg (pc' := 15) (ls' := [.ref 10]) (st' := [.int 20, .ref 10]) (hp' := z_23) [(.putfield 9, 3, 800, .null), (.aload_n 0, 1, 0, .null), (.bipush 20, 2, 0, .int 20)] (by decide +kernel) rfl ?_
  refine RW_newa (cb := 1) (sb := 20) (hp := z_23) (n := 20) (N := 20) false (by decide +kernel) (by decide) (by decide +kernel) (by decide) (by decide +kernel) z_arr ?_
  refine RW_seg (pc' := 17) (ls' := [.ref 10]) (st' := [.ref 12, .ref 10]) (hp' := z_24) [] rfl rfl ?_
  refine RW_seg (pc' := 23) (ls' := [.ref 10]) (st' := [.int 20, .ref 10]) (hp' := z_25) [(.putfield 15, 3, 801, .null), (.aload_n 0, 1, 0, .null), (.bipush 20, 2, 0, .int 20)] (by decide +kernel) rfl ?_
  refine RW_newa (cb := 0) (sb := 0) (hp := z_25) (n := 20) (N := 20) false (by decide +kernel) (by decide) (by decide +kernel) (by decide) (by decide +kernel) z_arr ?_
  refine RW_seg (pc' := 25) (ls' := [.ref 10]) (st' := [.ref 13, .ref 10]) (hp' := z_26) [] rfl rfl ?_
  refine RW_seg (pc' := 33) (ls' := [.ref 10]) (st' := []) (hp' := z_27) [(.putfield 18, 3, 802, .null), (.aload_n 0, 1, 0, .null), (.iconst 0, 1, 0, .int 0), (.putfield 21, 3, 803, .int 0)] (by decide +kernel) rfl ?_
  exact RW_ret none (fun a q => by cases q) (by decide +kernel) ⟨rfl, rfl⟩
def z_28 : ac_H := (z_27.set 0 (.inr (10, [.ref 1, .ref 4, .ref 6, .ref 8, .ref 10, .null, .null, .null, .null, .null])))
def z_29 : ac_H := z_28 ++ [.inr (1, [.null, .null, .null, .null, .null, .null, .null, .null, .null, .int 0, .int 0, .int 0, .int 0, .int 0])]
def z_30 : ac_H := z_29 ++ [.inl (false, 48, (fun _ => 0))]
def z_31 : ac_H := (z_30.set 14 (.inr (1, [.null, .null, .null, .null, .null, .ref 15, .null, .null, .null, .int 0, .int 0, .int 0, .int 0, .int 0])))
def z_32 : ac_H := z_31 ++ [.inl (false, 4, (fun _ => 0))]
def z_33 : ac_H := (z_32.set 14 (.inr (1, [.null, .null, .null, .null, .null, .ref 15, .ref 16, .null, .null, .int 0, .int 0, .int 0, .int 0, .int 0])))
def z_34 : ac_H := z_33 ++ [.inl (false, 4, (fun _ => 0))]
def z_35 : ac_H := (z_34.set 14 (.inr (1, [.null, .null, .null, .null, .null, .ref 15, .ref 16, .ref 17, .null, .int 0, .int 0, .int 0, .int 0, .int 0])))
def z_36 : ac_H := z_35 ++ [.inl (false, 20, (fun _ => 0))]
def z_37 : ac_H := (z_36.set 14 (.inr (1, [.ref 1, .ref 4, .ref 6, .ref 8, .ref 10, .ref 15, .ref 16, .ref 17, .ref 18, .int 0, .int 0, .int 0, .int 0, .int (-1)])))
set_option maxHeartbeats 4000000 in
set_option maxRecDepth 100000 in
theorem zc_7 (E : eT) : RW (gE E) md_P_init 4 76 0 (l_ent [.ref 14, .ref 1, .ref 4, .ref 6, .ref 8, .ref 10] (m_L md_P_init)) [] z_29 (fun r hp => r = none ∧ hp = z_37) := by
  refine RW_seg (pc' := 1) (ls' := [.ref 14, .ref 1, .ref 4, .ref 6, .ref 8, .ref 10]) (st' := [.ref 14]) (hp' := z_29) [(.aload_n 0, 1, 0, .null)] (by decide +kernel) rfl ?_
  refine RW_obj (idx := 3) (by decide +kernel) ⟨lk_P_3, z_obj⟩ (by decide +kernel) (by decide +kernel) ?_
  refine RW_seg (pc' := 4) (ls' := [.ref 14, .ref 1, .ref 4, .ref 6, .ref 8, .ref 10]) (st' := []) (hp' := z_29) [] rfl rfl ?_
  refine RW_seg (pc' := 7) (ls' := [.ref 14, .ref 1, .ref 4, .ref 6, .ref 8, .ref 10]) (st' := [.int 48, .ref 14]) (hp' := z_29) [(.aload_n 0, 1, 0, .null), (.bipush 48, 2, 0, .int 48)] (by decide +kernel) rfl ?_
  refine RW_newa (cb := 3) (sb := 28) (hp := z_29) (n := 48) (N := 48) false (by decide +kernel) (by decide) (by decide +kernel) (by decide) (by decide +kernel) z_arr ?_
  refine RW_seg (pc' := 9) (ls' := [.ref 14, .ref 1, .ref 4, .ref 6, .ref 8, .ref 10]) (st' := [.ref 15, .ref 14]) (hp' := z_30) [] rfl rfl ?_
  refine RW_seg (pc' := 14) (ls' := [.ref 14, .ref 1, .ref 4, .ref 6, .ref 8, .ref 10]) (st' := [.int 4, .ref 14]) (hp' := z_31) [(.putfield 9, 3, 105, .null), (.aload_n 0, 1, 0, .null), (.iconst 4, 1, 0, .int 4)] (by decide +kernel) rfl ?_
  refine RW_newa (cb := 2) (sb := 24) (hp := z_31) (n := 4) (N := 4) false (by decide +kernel) (by decide) (by decide +kernel) (by decide) (by decide +kernel) z_arr ?_
  refine RW_seg (pc' := 16) (ls' := [.ref 14, .ref 1, .ref 4, .ref 6, .ref 8, .ref 10]) (st' := [.ref 16, .ref 14]) (hp' := z_32) [] rfl rfl ?_
  refine RW_seg (pc' := 21) (ls' := [.ref 14, .ref 1, .ref 4, .ref 6, .ref 8, .ref 10]) (st' := [.int 4, .ref 14]) (hp' := z_33) [(.putfield 15, 3, 106, .null), (.aload_n 0, 1, 0, .null), (.iconst 4, 1, 0, .int 4)] (by decide +kernel) rfl ?_
  refine RW_newa (cb := 1) (sb := 20) (hp := z_33) (n := 4) (N := 4) false (by decide +kernel) (by decide) (by decide +kernel) (by decide) (by decide +kernel) z_arr ?_
  refine RW_seg (pc' := 23) (ls' := [.ref 14, .ref 1, .ref 4, .ref 6, .ref 8, .ref 10]) (st' := [.ref 17, .ref 14]) (hp' := z_34) [] rfl rfl ?_
  refine RW_seg (pc' := 29) (ls' := [.ref 14, .ref 1, .ref 4, .ref 6, .ref 8, .ref 10]) (st' := [.int 20, .ref 14]) (hp' := z_35) [(.putfield 18, 3, 107, .null), (.aload_n 0, 1, 0, .null), (.bipush 20, 2, 0, .int 20)] (by decide +kernel) rfl ?_
  refine RW_newa (cb := 0) (sb := 0) (hp := z_35) (n := 20) (N := 20) false (by decide +kernel) (by decide) (by decide +kernel) (by decide) (by decide +kernel) z_arr ?_
  refine RW_seg (pc' := 31) (ls' := [.ref 14, .ref 1, .ref 4, .ref 6, .ref 8, .ref 10]) (st' := [.ref 18, .ref 14]) (hp' := z_36) [] rfl rfl ?_
  refine RW_seg (pc' := 86) (ls' := [.ref 14, .ref 1, .ref 4, .ref 6, .ref 8, .ref 10]) (st' := []) (hp' := z_37) [(.putfield 21, 3, 108, .null), (.aload_n 0, 1, 0, .null), (.iconst 0, 1, 0, .int 0), (.putfield 24, 3, 109, .int 0), (.aload_n 0, 1, 0, .null), (.iconst 0, 1, 0, .int 0), (.putfield 28, 3, 110, .int 0), (.aload_n 0, 1, 0, .null), (.iconst 0, 1, 0, .int 0), (.putfield 31, 3, 111, .int 0), (.aload_n 0, 1, 0, .null), (.iconst 0, 1, 0, .int 0), (.putfield 34, 3, 112, .int 0), (.aload_n 0, 1, 0, .null), (.iconst (-1), 1, 0, .int (-1)), (.putfield 37, 3, 113, .int 0), (.aload_n 0, 1, 0, .null), (.aload_n 1, 1, 1, .null), (.putfield 40, 3, 100, .null), (.aload_n 0, 1, 0, .null), (.aload_n 2, 1, 2, .null), (.putfield 44, 3, 101, .null), (.aload_n 0, 1, 0, .null), (.aload_n 3, 1, 3, .null), (.putfield 48, 3, 102, .null), (.aload_n 0, 1, 0, .null), (.aload 4, 2, 4, .null), (.putfield 52, 3, 103, .null), (.aload_n 0, 1, 0, .null), (.aload 5, 2, 5, .null), (.putfield 56, 3, 104, .null)] (by decide +kernel) rfl ?_
  exact RW_ret none (fun a q => by cases q) (by decide +kernel) ⟨rfl, rfl⟩
def z_38 : ac_H := (z_37.set 0 (.inr (10, [.ref 1, .ref 4, .ref 6, .ref 8, .ref 10, .ref 14, .null, .null, .null, .null])))
def z_39 : ac_H := z_38 ++ [.inr (3, [.null, .null])]
def z_40 : ac_H := z_39 ++ [.inl (false, 30, (fun _ => 0))]
def z_41 : ac_H := (z_40.set 19 (.inr (3, [.ref 1, .ref 20])))
set_option maxHeartbeats 4000000 in
set_option maxRecDepth 100000 in
theorem zc_8 (E : eT) : RW (gE E) md_S_init 1 30 0 (l_ent [.ref 19, .ref 1] (m_L md_S_init)) [] z_39 (fun r hp => r = none ∧ hp = z_41) := by
  refine RW_seg (pc' := 1) (ls' := [.ref 19, .ref 1]) (st' := [.ref 19]) (hp' := z_39) [(.aload_n 0, 1, 0, .null)] (by decide +kernel) rfl ?_
  refine RW_obj (idx := 3) (by decide +kernel) ⟨lk_S_3, z_obj⟩ (by decide +kernel) (by decide +kernel) ?_
  refine RW_seg (pc' := 4) (ls' := [.ref 19, .ref 1]) (st' := []) (hp' := z_39) [] rfl rfl ?_
  refine RW_seg (pc' := 7) (ls' := [.ref 19, .ref 1]) (st' := [.int 30, .ref 19]) (hp' := z_39) [(.aload_n 0, 1, 0, .null), (.bipush 30, 2, 0, .int 30)] (by decide +kernel) rfl ?_
  refine RW_newa (cb := 0) (sb := 0) (hp := z_39) (n := 30) (N := 30) false (by decide +kernel) (by decide) (by decide +kernel) (by decide) (by decide +kernel) z_arr ?_
  refine RW_seg (pc' := 9) (ls' := [.ref 19, .ref 1]) (st' := [.ref 20, .ref 19]) (hp' := z_40) [] rfl rfl ?_
  refine RW_seg (pc' := 17) (ls' := [.ref 19, .ref 1]) (st' := []) (hp' := z_41) [(.putfield 9, 3, 301, .null), (.aload_n 0, 1, 0, .null), (.aload_n 1, 1, 1, .null), (.putfield 15, 3, 300, .null)] (by decide +kernel) rfl ?_
  exact RW_ret none (fun a q => by cases q) (by decide +kernel) ⟨rfl, rfl⟩
def z_42 : ac_H := (z_41.set 0 (.inr (10, [.ref 1, .ref 4, .ref 6, .ref 8, .ref 10, .ref 14, .ref 19, .null, .null, .null])))
def z_43 : ac_H := z_42 ++ [.inr (7, [.null, .null, .int 0])]
def z_44 : ac_H := z_43 ++ [.inl (false, 3, (fun _ => 0))]
def z_45 : ac_H := (z_44.set 21 (.inr (7, [.ref 22, .null, .int 0])))
def z_46 : ac_H := z_45 ++ [.inl (false, 3, (fun _ => 0))]
def z_47 : ac_H := (z_46.set 21 (.inr (7, [.ref 22, .ref 23, .int 0])))
set_option maxHeartbeats 4000000 in
set_option maxRecDepth 100000 in
theorem zc_9 (E : eT) : RW (gE E) md_W_init 2 6 0 (l_ent [.ref 21] (m_L md_W_init)) [] z_43 (fun r hp => r = none ∧ hp = z_47) := by
  refine RW_seg (pc' := 1) (ls' := [.ref 21]) (st' := [.ref 21]) (hp' := z_43) [(.aload_n 0, 1, 0, .null)] (by decide +kernel) rfl ?_
  refine RW_obj (idx := 3) (by decide +kernel) ⟨lk_W_3, z_obj⟩ (by decide +kernel) (by decide +kernel) ?_
  refine RW_seg (pc' := 4) (ls' := [.ref 21]) (st' := []) (hp' := z_43) [] rfl rfl ?_
  refine RW_seg (pc' := 6) (ls' := [.ref 21]) (st' := [.int 3, .ref 21]) (hp' := z_43) [(.aload_n 0, 1, 0, .null), (.iconst 3, 1, 0, .int 3)] (by decide +kernel) rfl ?_
  refine RW_newa (cb := 1) (sb := 3) (hp := z_43) (n := 3) (N := 3) false (by decide +kernel) (by decide) (by decide +kernel) (by decide) (by decide +kernel) z_arr ?_
  refine RW_seg (pc' := 8) (ls' := [.ref 21]) (st' := [.ref 22, .ref 21]) (hp' := z_44) [] rfl rfl ?_
  refine RW_seg (pc' := 13) (ls' := [.ref 21]) (st' := [.int 3, .ref 21]) (hp' := z_45) [(.putfield 9, 3, 700, .null), (.aload_n 0, 1, 0, .null), (.iconst 3, 1, 0, .int 3)] (by decide +kernel) rfl ?_
  refine RW_newa (cb := 0) (sb := 0) (hp := z_45) (n := 3) (N := 3) false (by decide +kernel) (by decide) (by decide +kernel) (by decide) (by decide +kernel) z_arr ?_
  refine RW_seg (pc' := 15) (ls' := [.ref 21]) (st' := [.ref 23, .ref 21]) (hp' := z_46) [] rfl rfl ?_
  refine RW_seg (pc' := 23) (ls' := [.ref 21]) (st' := []) (hp' := z_47) [(.putfield 15, 3, 701, .null), (.aload_n 0, 1, 0, .null), (.iconst 0, 1, 0, .int 0), (.putfield 18, 3, 702, .int 0)] (by decide +kernel) rfl ?_
  exact RW_ret none (fun a q => by cases q) (by decide +kernel) ⟨rfl, rfl⟩
def z_48 : ac_H := (z_47.set 0 (.inr (10, [.ref 1, .ref 4, .ref 6, .ref 8, .ref 10, .ref 14, .ref 19, .ref 21, .null, .null])))
def z_49 : ac_H := z_48 ++ [.inr (5, [.null, .null, .int 0])]
def z_50 : ac_H := z_49 ++ [.inl (false, 8, (fun _ => 0))]
def z_51 : ac_H := (z_50.set 24 (.inr (5, [.ref 25, .null, .int 0])))
def z_52 : ac_H := z_51 ++ [.inl (false, 8, (fun _ => 0))]
def z_53 : ac_H := (z_52.set 24 (.inr (5, [.ref 25, .ref 26, .int 0])))
set_option maxHeartbeats 4000000 in
set_option maxRecDepth 100000 in
theorem zc_10 (E : eT) : RW (gE E) md_G_init 2 16 0 (l_ent [.ref 24] (m_L md_G_init)) [] z_49 (fun r hp => r = none ∧ hp = z_53) := by
  refine RW_seg (pc' := 1) (ls' := [.ref 24]) (st' := [.ref 24]) (hp' := z_49) [(.aload_n 0, 1, 0, .null)] (by decide +kernel) rfl ?_
  refine RW_obj (idx := 3) (by decide +kernel) ⟨lk_G_3, z_obj⟩ (by decide +kernel) (by decide +kernel) ?_
  refine RW_seg (pc' := 4) (ls' := [.ref 24]) (st' := []) (hp' := z_49) [] rfl rfl ?_
  refine RW_seg (pc' := 7) (ls' := [.ref 24]) (st' := [.int 8, .ref 24]) (hp' := z_49) [(.aload_n 0, 1, 0, .null), (.bipush 8, 2, 0, .int 8)] (by decide +kernel) rfl ?_
  refine RW_newa (cb := 1) (sb := 8) (hp := z_49) (n := 8) (N := 8) false (by decide +kernel) (by decide) (by decide +kernel) (by decide) (by decide +kernel) z_arr ?_
  refine RW_seg (pc' := 9) (ls' := [.ref 24]) (st' := [.ref 25, .ref 24]) (hp' := z_50) [] rfl rfl ?_
  refine RW_seg (pc' := 15) (ls' := [.ref 24]) (st' := [.int 8, .ref 24]) (hp' := z_51) [(.putfield 9, 3, 500, .null), (.aload_n 0, 1, 0, .null), (.bipush 8, 2, 0, .int 8)] (by decide +kernel) rfl ?_
  refine RW_newa (cb := 0) (sb := 0) (hp := z_51) (n := 8) (N := 8) false (by decide +kernel) (by decide) (by decide +kernel) (by decide) (by decide +kernel) z_arr ?_
  refine RW_seg (pc' := 17) (ls' := [.ref 24]) (st' := [.ref 26, .ref 24]) (hp' := z_52) [] rfl rfl ?_
  refine RW_seg (pc' := 25) (ls' := [.ref 24]) (st' := []) (hp' := z_53) [(.putfield 15, 3, 501, .null), (.aload_n 0, 1, 0, .null), (.iconst 0, 1, 0, .int 0), (.putfield 18, 3, 502, .int 0)] (by decide +kernel) rfl ?_
  exact RW_ret none (fun a q => by cases q) (by decide +kernel) ⟨rfl, rfl⟩
def z_54 : ac_H := (z_53.set 0 (.inr (10, [.ref 1, .ref 4, .ref 6, .ref 8, .ref 10, .ref 14, .ref 19, .ref 21, .ref 24, .null])))
def z_55 : ac_H := z_54 ++ [.inr (4, [.null, .null, .null, .int 0])]
def z_56 : ac_H := z_55 ++ [.inl (false, 4, (fun _ => 0))]
def z_57 : ac_H := ((z_56.set 28 (.inl (false, 4, (upd (upd (upd (upd (fun _ => 0) 0 (-1)) 1 (-1)) 2 (-1)) 3 (-1))))).set 27 (.inr (4, [.ref 28, .null, .null, .int 0])))
def z_58 : ac_H := z_57 ++ [.inl (false, 4, (fun _ => 0))]
def z_59 : ac_H := (z_58.set 27 (.inr (4, [.ref 28, .ref 29, .null, .int 0])))
def z_60 : ac_H := z_59 ++ [.inl (false, 240, (fun _ => 0))]
def z_61 : ac_H := (z_60.set 27 (.inr (4, [.ref 28, .ref 29, .ref 30, .int 0])))
set_option maxHeartbeats 4000000 in
set_option maxRecDepth 100000 in
theorem zc_11 (E : eT) : RW (gE E) md_H_init 3 248 0 (l_ent [.ref 27] (m_L md_H_init)) [] z_55 (fun r hp => r = none ∧ hp = z_61) := by
  refine RW_seg (pc' := 1) (ls' := [.ref 27]) (st' := [.ref 27]) (hp' := z_55) [(.aload_n 0, 1, 0, .null)] (by decide +kernel) rfl ?_
  refine RW_obj (idx := 3) (by decide +kernel) ⟨lk_H_3, z_obj⟩ (by decide +kernel) (by decide +kernel) ?_
  refine RW_seg (pc' := 4) (ls' := [.ref 27]) (st' := []) (hp' := z_55) [] rfl rfl ?_
  refine RW_seg (pc' := 6) (ls' := [.ref 27]) (st' := [.int 4, .ref 27]) (hp' := z_55) [(.aload_n 0, 1, 0, .null), (.iconst 4, 1, 0, .int 4)] (by decide +kernel) rfl ?_
  refine RW_newa (cb := 2) (sb := 244) (hp := z_55) (n := 4) (N := 4) false (by decide +kernel) (by decide) (by decide +kernel) (by decide) (by decide +kernel) z_arr ?_
  refine RW_seg (pc' := 8) (ls' := [.ref 27]) (st' := [.ref 28, .ref 27]) (hp' := z_56) [] rfl rfl ?_
  refine RW_seg (pc' := 29) (ls' := [.ref 27]) (st' := [.int 4, .ref 27]) (hp' := z_57) [(.dup, 1, 0, .null), (.iconst 0, 1, 0, .int 0), (.iconst (-1), 1, 0, .int (-1)), (.iastore, 1, 0, .null), (.dup, 1, 0, .null), (.iconst 1, 1, 0, .int 1), (.iconst (-1), 1, 0, .int (-1)), (.iastore, 1, 0, .null), (.dup, 1, 0, .null), (.iconst 2, 1, 0, .int 2), (.iconst (-1), 1, 0, .int (-1)), (.iastore, 1, 0, .null), (.dup, 1, 0, .null), (.iconst 3, 1, 0, .int 3), (.iconst (-1), 1, 0, .int (-1)), (.iastore, 1, 0, .null), (.putfield 9, 3, 400, .null), (.aload_n 0, 1, 0, .null), (.iconst 4, 1, 0, .int 4)] (by decide +kernel) rfl ?_
  refine RW_newa (cb := 1) (sb := 240) (hp := z_57) (n := 4) (N := 4) false (by decide +kernel) (by decide) (by decide +kernel) (by decide) (by decide +kernel) z_arr ?_
  refine RW_seg (pc' := 31) (ls' := [.ref 27]) (st' := [.ref 29, .ref 27]) (hp' := z_58) [] rfl rfl ?_
  refine RW_seg (pc' := 38) (ls' := [.ref 27]) (st' := [.int 240, .ref 27]) (hp' := z_59) [(.putfield 15, 3, 401, .null), (.aload_n 0, 1, 0, .null), (.sipush 240, 3, 0, .int 240)] (by decide +kernel) rfl ?_
  refine RW_newa (cb := 0) (sb := 0) (hp := z_59) (n := 240) (N := 240) false (by decide +kernel) (by decide) (by decide +kernel) (by decide) (by decide +kernel) z_arr ?_
  refine RW_seg (pc' := 40) (ls' := [.ref 27]) (st' := [.ref 30, .ref 27]) (hp' := z_60) [] rfl rfl ?_
  refine RW_seg (pc' := 48) (ls' := [.ref 27]) (st' := []) (hp' := z_61) [(.putfield 18, 3, 402, .null), (.aload_n 0, 1, 0, .null), (.iconst 0, 1, 0, .int 0), (.putfield 21, 3, 403, .int 0)] (by decide +kernel) rfl ?_
  exact RW_ret none (fun a q => by cases q) (by decide +kernel) ⟨rfl, rfl⟩
def z_62 : ac_H := (z_61.set 0 (.inr (10, [.ref 1, .ref 4, .ref 6, .ref 8, .ref 10, .ref 14, .ref 19, .ref 21, .ref 24, .ref 27])))
set_option maxHeartbeats 4000000 in
set_option maxRecDepth 100000 in
theorem zc_12 (E : eT) : RW (gE E) md_C_init 30 597 0 (l_ent [.ref 0] (m_L md_C_init)) [] z_1 (fun r hp => r = none ∧ hp = z_62) := by
  refine RW_seg (pc' := 1) (ls' := [.ref 0]) (st' := [.ref 0]) (hp' := z_1) [(.aload_n 0, 1, 0, .null)] (by decide +kernel) rfl ?_
  refine RW_obj (idx := 1) (by decide +kernel) ⟨lk_C_1, z_obj⟩ (by decide +kernel) (by decide +kernel) ?_
  refine RW_seg (pc' := 4) (ls' := [.ref 0]) (st' := []) (hp' := z_1) [] rfl rfl ?_
  refine RW_seg (pc' := 5) (ls' := [.ref 0]) (st' := [.ref 0]) (hp' := z_1) [(.aload_n 0, 1, 0, .null)] (by decide +kernel) rfl ?_
  refine RW_new (cb := 29) (sb := 593) (hp := z_1) (idx := 7) (ci := 9) (C := RX9) (T := TX9) (N := 4) [.null, .null, .int 0, .int 0] tyX9 (by decide +kernel) rfl tyX9_ok (by decide +kernel) rfl (by decide +kernel) (by decide +kernel) ?_
  refine RW_seg (pc' := 8) (ls' := [.ref 0]) (st' := [.ref 1, .ref 0]) (hp' := z_2) [] rfl rfl ?_
  refine RW_seg (pc' := 9) (ls' := [.ref 0]) (st' := [.ref 1, .ref 1, .ref 0]) (hp' := z_2) [(.dup, 1, 0, .null)] (by decide +kernel) rfl ?_
  refine RW_callI (cb := 27) (sb := 492) (cb1 := 2) (sb1 := 101) (hp := z_2) (As := []) (rest := [.ref 1, .ref 0]) (a := 1) (idx := 9) (by decide +kernel) ok_E_init rfl mv_E_init ⟨lk_C_9, by decide +kernel⟩ (Nat.le_of_ble_eq_true rfl) (Nat.le_of_ble_eq_true rfl) (z_fit rfl) (fun r hp' h => by obtain ⟨-, rfl⟩ := h; decide +kernel) (zc_2 E) (fun r hp' h => ?_)
  obtain ⟨rfl, rfl⟩ := h
  refine RW_seg (pc' := 12) (ls' := [.ref 0]) (st' := [.ref 1, .ref 0]) (hp' := z_7) [] rfl rfl ?_
  refine RW_seg (pc' := 16) (ls' := [.ref 0]) (st' := [.ref 0]) (hp' := z_8) [(.putfield 10, 3, 1000, .null), (.aload_n 0, 1, 0, .null)] (by decide +kernel) rfl ?_
  refine RW_new (cb := 26) (sb := 491) (hp := z_8) (idx := 16) (ci := 6) (C := RX6) (T := TX6) (N := 1) [.null] tyX6 (by decide +kernel) rfl tyX6_ok (by decide +kernel) rfl (by decide +kernel) (by decide +kernel) ?_
  refine RW_seg (pc' := 19) (ls' := [.ref 0]) (st' := [.ref 4, .ref 0]) (hp' := z_9) [] rfl rfl ?_
  refine RW_seg (pc' := 20) (ls' := [.ref 0]) (st' := [.ref 4, .ref 4, .ref 0]) (hp' := z_9) [(.dup, 1, 0, .null)] (by decide +kernel) rfl ?_
  refine RW_callIN (cb := 25) (sb := 479) (cb1 := 1) (sb1 := 12) (hp := z_9) (As := []) (rest := [.ref 4, .ref 0]) (a := 4) (idx := 18) (by decide +kernel) ok_T_init rfl mv_T_init ⟨lk_C_18, by decide +kernel⟩ (Nat.le_of_ble_eq_true rfl) (Nat.le_of_ble_eq_true rfl) (z_fit rfl) (fun r hp' h => by obtain ⟨-, rfl⟩ := h; decide +kernel) (zc_3 E) (fun r hp' h => ?_)
  obtain ⟨rfl, rfl⟩ := h
  refine RW_seg (pc' := 23) (ls' := [.ref 0]) (st' := [.ref 4, .ref 0]) (hp' := z_11) [] rfl rfl ?_
  refine RW_seg (pc' := 27) (ls' := [.ref 0]) (st' := [.ref 0]) (hp' := z_12) [(.putfield 19, 3, 1001, .null), (.aload_n 0, 1, 0, .null)] (by decide +kernel) rfl ?_
  refine RW_new (cb := 24) (sb := 477) (hp := z_12) (idx := 23) (ci := 2) (C := RX2) (T := TX2) (N := 2) [.null, .int 0] tyX2 (by decide +kernel) rfl tyX2_ok (by decide +kernel) rfl (by decide +kernel) (by decide +kernel) ?_
  refine RW_seg (pc' := 30) (ls' := [.ref 0]) (st' := [.ref 6, .ref 0]) (hp' := z_13) [] rfl rfl ?_
  refine RW_seg (pc' := 31) (ls' := [.ref 0]) (st' := [.ref 6, .ref 6, .ref 0]) (hp' := z_13) [(.dup, 1, 0, .null)] (by decide +kernel) rfl ?_
  refine RW_callIN (cb := 23) (sb := 471) (cb1 := 1) (sb1 := 6) (hp := z_13) (As := []) (rest := [.ref 6, .ref 0]) (a := 6) (idx := 25) (by decide +kernel) ok_R_init rfl mv_R_init ⟨lk_C_25, by decide +kernel⟩ (Nat.le_of_ble_eq_true rfl) (Nat.le_of_ble_eq_true rfl) (z_fit rfl) (fun r hp' h => by obtain ⟨-, rfl⟩ := h; decide +kernel) (zc_4 E) (fun r hp' h => ?_)
  obtain ⟨rfl, rfl⟩ := h
  refine RW_seg (pc' := 34) (ls' := [.ref 0]) (st' := [.ref 6, .ref 0]) (hp' := z_15) [] rfl rfl ?_
  refine RW_seg (pc' := 38) (ls' := [.ref 0]) (st' := [.ref 0]) (hp' := z_16) [(.putfield 26, 3, 1002, .null), (.aload_n 0, 1, 0, .null)] (by decide +kernel) rfl ?_
  refine RW_new (cb := 22) (sb := 470) (hp := z_16) (idx := 30) (ci := 0) (C := RX0) (T := TX0) (N := 1) [.null] tyX0 (by decide +kernel) rfl tyX0_ok (by decide +kernel) rfl (by decide +kernel) (by decide +kernel) ?_
  refine RW_seg (pc' := 41) (ls' := [.ref 0]) (st' := [.ref 8, .ref 0]) (hp' := z_17) [] rfl rfl ?_
  refine RW_seg (pc' := 42) (ls' := [.ref 0]) (st' := [.ref 8, .ref 8, .ref 0]) (hp' := z_17) [(.dup, 1, 0, .null)] (by decide +kernel) rfl ?_
  refine RW_callIN (cb := 21) (sb := 466) (cb1 := 1) (sb1 := 4) (hp := z_17) (As := []) (rest := [.ref 8, .ref 0]) (a := 8) (idx := 32) (by decide +kernel) ok_K_init rfl mv_K_init ⟨lk_C_32, by decide +kernel⟩ (Nat.le_of_ble_eq_true rfl) (Nat.le_of_ble_eq_true rfl) (z_fit rfl) (fun r hp' h => by obtain ⟨-, rfl⟩ := h; decide +kernel) (zc_5 E) (fun r hp' h => ?_)
  obtain ⟨rfl, rfl⟩ := h
  refine RW_seg (pc' := 45) (ls' := [.ref 0]) (st' := [.ref 8, .ref 0]) (hp' := z_19) [] rfl rfl ?_
  refine RW_seg (pc' := 49) (ls' := [.ref 0]) (st' := [.ref 0]) (hp' := z_20) [(.putfield 33, 3, 1003, .null), (.aload_n 0, 1, 0, .null)] (by decide +kernel) rfl ?_
  refine RW_new (cb := 20) (sb := 462) (hp := z_20) (idx := 37) (ci := 8) (C := RX8) (T := TX8) (N := 4) [.null, .null, .null, .int 0] tyX8 (by decide +kernel) rfl tyX8_ok (by decide +kernel) rfl (by decide +kernel) (by decide +kernel) ?_
  refine RW_seg (pc' := 52) (ls' := [.ref 0]) (st' := [.ref 10, .ref 0]) (hp' := z_21) [] rfl rfl ?_
  refine RW_seg (pc' := 53) (ls' := [.ref 0]) (st' := [.ref 10, .ref 10, .ref 0]) (hp' := z_21) [(.dup, 1, 0, .null)] (by decide +kernel) rfl ?_
  refine RW_callIN (cb := 17) (sb := 402) (cb1 := 3) (sb1 := 60) (hp := z_21) (As := []) (rest := [.ref 10, .ref 0]) (a := 10) (idx := 39) (by decide +kernel) ok_O_init rfl mv_O_init ⟨lk_C_39, by decide +kernel⟩ (Nat.le_of_ble_eq_true rfl) (Nat.le_of_ble_eq_true rfl) (z_fit rfl) (fun r hp' h => by obtain ⟨-, rfl⟩ := h; decide +kernel) (zc_6 E) (fun r hp' h => ?_)
  obtain ⟨rfl, rfl⟩ := h
  refine RW_seg (pc' := 56) (ls' := [.ref 0]) (st' := [.ref 10, .ref 0]) (hp' := z_27) [] rfl rfl ?_
  refine RW_seg (pc' := 60) (ls' := [.ref 0]) (st' := [.ref 0]) (hp' := z_28) [(.putfield 40, 3, 1004, .null), (.aload_n 0, 1, 0, .null)] (by decide +kernel) rfl ?_
  refine RW_new (cb := 16) (sb := 388) (hp := z_28) (idx := 44) (ci := 1) (C := RX1) (T := TX1) (N := 14) [.null, .null, .null, .null, .null, .null, .null, .null, .null, .int 0, .int 0, .int 0, .int 0, .int 0] tyX1 (by decide +kernel) rfl tyX1_ok (by decide +kernel) rfl (by decide +kernel) (by decide +kernel) ?_
  refine RW_seg (pc' := 63) (ls' := [.ref 0]) (st' := [.ref 14, .ref 0]) (hp' := z_29) [] rfl rfl ?_
  refine RW_seg (pc' := 84) (ls' := [.ref 0]) (st' := [.ref 10, .ref 8, .ref 6, .ref 4, .ref 1, .ref 14, .ref 14, .ref 0]) (hp' := z_29) [(.dup, 1, 0, .null), (.aload_n 0, 1, 0, .null), (.getfield 10, 3, 1000, .null), (.aload_n 0, 1, 0, .null), (.getfield 19, 3, 1001, .null), (.aload_n 0, 1, 0, .null), (.getfield 26, 3, 1002, .null), (.aload_n 0, 1, 0, .null), (.getfield 33, 3, 1003, .null), (.aload_n 0, 1, 0, .null), (.getfield 40, 3, 1004, .null)] (by decide +kernel) rfl ?_
  refine RW_callI (cb := 12) (sb := 312) (cb1 := 4) (sb1 := 76) (hp := z_29) (As := [.ref 1, .ref 4, .ref 6, .ref 8, .ref 10]) (rest := [.ref 14, .ref 0]) (a := 14) (idx := 46) (by decide +kernel) ok_P_init rfl mv_P_init ⟨lk_C_46, by decide +kernel⟩ (Nat.le_of_ble_eq_true rfl) (Nat.le_of_ble_eq_true rfl) (z_fit rfl) (fun r hp' h => by obtain ⟨-, rfl⟩ := h; decide +kernel) (zc_7 E) (fun r hp' h => ?_)
  obtain ⟨rfl, rfl⟩ := h
  refine RW_seg (pc' := 87) (ls' := [.ref 0]) (st' := [.ref 14, .ref 0]) (hp' := z_37) [] rfl rfl ?_
  refine RW_seg (pc' := 91) (ls' := [.ref 0]) (st' := [.ref 0]) (hp' := z_38) [(.putfield 49, 3, 1005, .null), (.aload_n 0, 1, 0, .null)] (by decide +kernel) rfl ?_
  refine RW_new (cb := 11) (sb := 310) (hp := z_38) (idx := 53) (ci := 3) (C := RX3) (T := TX3) (N := 2) [.null, .null] tyX3 (by decide +kernel) rfl tyX3_ok (by decide +kernel) rfl (by decide +kernel) (by decide +kernel) ?_
  refine RW_seg (pc' := 94) (ls' := [.ref 0]) (st' := [.ref 19, .ref 0]) (hp' := z_39) [] rfl rfl ?_
  refine RW_seg (pc' := 99) (ls' := [.ref 0]) (st' := [.ref 1, .ref 19, .ref 19, .ref 0]) (hp' := z_39) [(.dup, 1, 0, .null), (.aload_n 0, 1, 0, .null), (.getfield 10, 3, 1000, .null)] (by decide +kernel) rfl ?_
  refine RW_callI (cb := 10) (sb := 280) (cb1 := 1) (sb1 := 30) (hp := z_39) (As := [.ref 1]) (rest := [.ref 19, .ref 0]) (a := 19) (idx := 55) (by decide +kernel) ok_S_init rfl mv_S_init ⟨lk_C_55, by decide +kernel⟩ (Nat.le_of_ble_eq_true rfl) (Nat.le_of_ble_eq_true rfl) (z_fit rfl) (fun r hp' h => by obtain ⟨-, rfl⟩ := h; decide +kernel) (zc_8 E) (fun r hp' h => ?_)
  obtain ⟨rfl, rfl⟩ := h
  refine RW_seg (pc' := 102) (ls' := [.ref 0]) (st' := [.ref 19, .ref 0]) (hp' := z_41) [] rfl rfl ?_
  refine RW_seg (pc' := 106) (ls' := [.ref 0]) (st' := [.ref 0]) (hp' := z_42) [(.putfield 58, 3, 1006, .null), (.aload_n 0, 1, 0, .null)] (by decide +kernel) rfl ?_
  refine RW_new (cb := 9) (sb := 277) (hp := z_42) (idx := 62) (ci := 7) (C := RX7) (T := TX7) (N := 3) [.null, .null, .int 0] tyX7 (by decide +kernel) rfl tyX7_ok (by decide +kernel) rfl (by decide +kernel) (by decide +kernel) ?_
  refine RW_seg (pc' := 109) (ls' := [.ref 0]) (st' := [.ref 21, .ref 0]) (hp' := z_43) [] rfl rfl ?_
  refine RW_seg (pc' := 110) (ls' := [.ref 0]) (st' := [.ref 21, .ref 21, .ref 0]) (hp' := z_43) [(.dup, 1, 0, .null)] (by decide +kernel) rfl ?_
  refine RW_callIN (cb := 7) (sb := 271) (cb1 := 2) (sb1 := 6) (hp := z_43) (As := []) (rest := [.ref 21, .ref 0]) (a := 21) (idx := 64) (by decide +kernel) ok_W_init rfl mv_W_init ⟨lk_C_64, by decide +kernel⟩ (Nat.le_of_ble_eq_true rfl) (Nat.le_of_ble_eq_true rfl) (z_fit rfl) (fun r hp' h => by obtain ⟨-, rfl⟩ := h; decide +kernel) (zc_9 E) (fun r hp' h => ?_)
  obtain ⟨rfl, rfl⟩ := h
  refine RW_seg (pc' := 113) (ls' := [.ref 0]) (st' := [.ref 21, .ref 0]) (hp' := z_47) [] rfl rfl ?_
  refine RW_seg (pc' := 117) (ls' := [.ref 0]) (st' := [.ref 0]) (hp' := z_48) [(.putfield 65, 3, 1007, .null), (.aload_n 0, 1, 0, .null)] (by decide +kernel) rfl ?_
  refine RW_new (cb := 6) (sb := 268) (hp := z_48) (idx := 69) (ci := 5) (C := RX5) (T := TX5) (N := 3) [.null, .null, .int 0] tyX5 (by decide +kernel) rfl tyX5_ok (by decide +kernel) rfl (by decide +kernel) (by decide +kernel) ?_
  refine RW_seg (pc' := 120) (ls' := [.ref 0]) (st' := [.ref 24, .ref 0]) (hp' := z_49) [] rfl rfl ?_
  refine RW_seg (pc' := 121) (ls' := [.ref 0]) (st' := [.ref 24, .ref 24, .ref 0]) (hp' := z_49) [(.dup, 1, 0, .null)] (by decide +kernel) rfl ?_
  refine RW_callIN (cb := 4) (sb := 252) (cb1 := 2) (sb1 := 16) (hp := z_49) (As := []) (rest := [.ref 24, .ref 0]) (a := 24) (idx := 71) (by decide +kernel) ok_G_init rfl mv_G_init ⟨lk_C_71, by decide +kernel⟩ (Nat.le_of_ble_eq_true rfl) (Nat.le_of_ble_eq_true rfl) (z_fit rfl) (fun r hp' h => by obtain ⟨-, rfl⟩ := h; decide +kernel) (zc_10 E) (fun r hp' h => ?_)
  obtain ⟨rfl, rfl⟩ := h
  refine RW_seg (pc' := 124) (ls' := [.ref 0]) (st' := [.ref 24, .ref 0]) (hp' := z_53) [] rfl rfl ?_
  refine RW_seg (pc' := 128) (ls' := [.ref 0]) (st' := [.ref 0]) (hp' := z_54) [(.putfield 72, 3, 1008, .null), (.aload_n 0, 1, 0, .null)] (by decide +kernel) rfl ?_
  refine RW_new (cb := 3) (sb := 248) (hp := z_54) (idx := 76) (ci := 4) (C := RX4) (T := TX4) (N := 4) [.null, .null, .null, .int 0] tyX4 (by decide +kernel) rfl tyX4_ok (by decide +kernel) rfl (by decide +kernel) (by decide +kernel) ?_
  refine RW_seg (pc' := 131) (ls' := [.ref 0]) (st' := [.ref 27, .ref 0]) (hp' := z_55) [] rfl rfl ?_
  refine RW_seg (pc' := 132) (ls' := [.ref 0]) (st' := [.ref 27, .ref 27, .ref 0]) (hp' := z_55) [(.dup, 1, 0, .null)] (by decide +kernel) rfl ?_
  refine RW_callIN (cb := 0) (sb := 0) (cb1 := 3) (sb1 := 248) (hp := z_55) (As := []) (rest := [.ref 27, .ref 0]) (a := 27) (idx := 78) (by decide +kernel) ok_H_init rfl mv_H_init ⟨lk_C_78, by decide +kernel⟩ (Nat.le_of_ble_eq_true rfl) (Nat.le_of_ble_eq_true rfl) (z_fit rfl) (fun r hp' h => by obtain ⟨-, rfl⟩ := h; decide +kernel) (zc_11 E) (fun r hp' h => ?_)
  obtain ⟨rfl, rfl⟩ := h
  refine RW_seg (pc' := 135) (ls' := [.ref 0]) (st' := [.ref 27, .ref 0]) (hp' := z_61) [] rfl rfl ?_
  refine RW_seg (pc' := 138) (ls' := [.ref 0]) (st' := []) (hp' := z_62) [(.putfield 79, 3, 1009, .null)] (by decide +kernel) rfl ?_
  exact RW_ret none (fun a q => by cases q) (by decide +kernel) ⟨rfl, rfl⟩
def z_63 : ac_H := z_62 ++ [.inr (11, [.null, .null, .null, .null, .int 0, .null, .int 0, .int 0, .null, .null, .int 0, .int 0, .null, .null, .null, .null, .int 0, .null, .int 0, .null, .null, .null, .null, .null, .int 0, .int 0, .int 0, .int 0, .int 0, .int 0, .null, .int 0, .null])]
def z_64 : ac_H := z_63 ++ [.inl (false, 4, (fun _ => 0))]
def z_65 : ac_H := (z_64.set 31 (.inr (11, [.ref 32, .null, .null, .null, .int 0, .null, .int 0, .int 0, .null, .null, .int 0, .int 0, .null, .null, .null, .null, .int 0, .null, .int 0, .null, .null, .null, .null, .null, .int 0, .int 0, .int 0, .int 0, .int 0, .int 0, .null, .int 0, .null])))
def z_66 : ac_H := z_65 ++ [.inl (false, 4, (fun _ => 0))]
def z_67 : ac_H := (z_66.set 31 (.inr (11, [.ref 32, .ref 33, .null, .null, .int 0, .null, .int 0, .int 0, .null, .null, .int 0, .int 0, .null, .null, .null, .null, .int 0, .null, .int 0, .null, .null, .null, .null, .null, .int 0, .int 0, .int 0, .int 0, .int 0, .int 0, .null, .int 0, .null])))
def z_68 : ac_H := z_67 ++ [.inl (false, 240, (fun _ => 0))]
def z_69 : ac_H := (z_68.set 31 (.inr (11, [.ref 32, .ref 33, .ref 34, .null, .int 0, .null, .int 0, .int 0, .null, .null, .int 0, .int 0, .null, .null, .null, .null, .int 0, .null, .int 0, .null, .null, .null, .null, .null, .int 0, .int 0, .int 0, .int 0, .int 0, .int 0, .null, .int 0, .null])))
def z_70 : ac_H := z_69 ++ [.inl (false, 60, (fun _ => 0))]
def z_71 : ac_H := (z_70.set 31 (.inr (11, [.ref 32, .ref 33, .ref 34, .ref 35, .int 0, .null, .int 0, .int 0, .null, .null, .int 0, .int 0, .null, .null, .null, .null, .int 0, .null, .int 0, .null, .null, .null, .null, .null, .int 0, .int 0, .int 0, .int 0, .int 0, .int 0, .null, .int 0, .null])))
def z_72 : ac_H := z_71 ++ [.inl (false, 53, (fun _ => 0))]
def z_73 : ac_H := (z_72.set 31 (.inr (11, [.ref 32, .ref 33, .ref 34, .ref 35, .int 0, .ref 36, .int 0, .int 0, .null, .null, .int 0, .int 0, .null, .null, .null, .null, .int 0, .null, .int 0, .null, .null, .null, .null, .null, .int 0, .int 0, .int 0, .int 0, .int 0, .int 0, .null, .int 0, .null])))
def z_74 : ac_H := z_73 ++ [.inl (true, 48, (fun _ => 0))]
def z_75 : ac_H := (z_74.set 31 (.inr (11, [.ref 32, .ref 33, .ref 34, .ref 35, .int 0, .ref 36, .int 0, .int 0, .ref 37, .null, .int 0, .int 0, .null, .null, .null, .null, .int 0, .null, .int 0, .null, .null, .null, .null, .null, .int 0, .int 0, .int 0, .int 0, .int 0, .int 0, .null, .int 0, .null])))
def z_76 : ac_H := z_75 ++ [.inl (false, 48, (fun _ => 0))]
def z_77 : ac_H := (z_76.set 31 (.inr (11, [.ref 32, .ref 33, .ref 34, .ref 35, .int 0, .ref 36, .int 0, .int 0, .ref 37, .ref 38, .int 0, .int 0, .null, .null, .null, .null, .int 0, .null, .int 0, .null, .null, .null, .null, .null, .int 0, .int 0, .int 0, .int 0, .int 0, .int 0, .null, .int 0, .null])))
def z_78 : ac_H := z_77 ++ [.inl (false, 4, (fun _ => 0))]
def z_79 : ac_H := (z_78.set 31 (.inr (11, [.ref 32, .ref 33, .ref 34, .ref 35, .int 0, .ref 36, .int 0, .int 0, .ref 37, .ref 38, .int 0, .int 0, .ref 39, .null, .null, .null, .int 0, .null, .int 0, .null, .null, .null, .null, .null, .int 0, .int 0, .int 0, .int 0, .int 0, .int 0, .null, .int 0, .null])))
def z_80 : ac_H := z_79 ++ [.inl (false, 4, (fun _ => 0))]
def z_81 : ac_H := (z_80.set 31 (.inr (11, [.ref 32, .ref 33, .ref 34, .ref 35, .int 0, .ref 36, .int 0, .int 0, .ref 37, .ref 38, .int 0, .int 0, .ref 39, .ref 40, .null, .null, .int 0, .null, .int 0, .null, .null, .null, .null, .null, .int 0, .int 0, .int 0, .int 0, .int 0, .int 0, .null, .int 0, .null])))
def z_82 : ac_H := z_81 ++ [.inl (false, 4, (fun _ => 0))]
def z_83 : ac_H := (z_82.set 31 (.inr (11, [.ref 32, .ref 33, .ref 34, .ref 35, .int 0, .ref 36, .int 0, .int 0, .ref 37, .ref 38, .int 0, .int 0, .ref 39, .ref 40, .ref 41, .null, .int 0, .null, .int 0, .null, .null, .null, .null, .null, .int 0, .int 0, .int 0, .int 0, .int 0, .int 0, .null, .int 0, .null])))
def z_84 : ac_H := z_83 ++ [.inl (false, 6, (fun _ => 0))]
def z_85 : ac_H := (z_84.set 31 (.inr (11, [.ref 32, .ref 33, .ref 34, .ref 35, .int 0, .ref 36, .int 0, .int 0, .ref 37, .ref 38, .int 0, .int 0, .ref 39, .ref 40, .ref 41, .ref 42, .int 0, .null, .int 0, .null, .null, .null, .null, .null, .int 0, .int 0, .int 0, .int 0, .int 0, .int 0, .null, .int 0, .null])))
def z_86 : ac_H := z_85 ++ [.inl (false, 4, (fun _ => 0))]
def z_87 : ac_H := (z_86.set 31 (.inr (11, [.ref 32, .ref 33, .ref 34, .ref 35, .int 0, .ref 36, .int 0, .int 0, .ref 37, .ref 38, .int 0, .int 0, .ref 39, .ref 40, .ref 41, .ref 42, .int 0, .ref 43, .int 0, .null, .null, .null, .null, .null, .int 0, .int 0, .int 0, .int 0, .int 0, .int 0, .null, .int 0, .null])))
def z_88 : ac_H := z_87 ++ [.inl (false, 60, (fun _ => 0))]
def z_89 : ac_H := (z_88.set 31 (.inr (11, [.ref 32, .ref 33, .ref 34, .ref 35, .int 0, .ref 36, .int 0, .int 0, .ref 37, .ref 38, .int 0, .int 0, .ref 39, .ref 40, .ref 41, .ref 42, .int 0, .ref 43, .int 0, .ref 44, .null, .null, .null, .null, .int 0, .int 0, .int 0, .int 0, .int 0, .int 0, .null, .int 0, .null])))
def z_90 : ac_H := z_89 ++ [.inl (true, 48, (fun _ => 0))]
def z_91 : ac_H := (z_90.set 31 (.inr (11, [.ref 32, .ref 33, .ref 34, .ref 35, .int 0, .ref 36, .int 0, .int 0, .ref 37, .ref 38, .int 0, .int 0, .ref 39, .ref 40, .ref 41, .ref 42, .int 0, .ref 43, .int 0, .ref 44, .ref 45, .null, .null, .null, .int 0, .int 0, .int 0, .int 0, .int 0, .int 0, .null, .int 0, .null])))
def z_92 : ac_H := z_91 ++ [.inl (false, 4, (fun _ => 0))]
def z_93 : ac_H := (z_92.set 31 (.inr (11, [.ref 32, .ref 33, .ref 34, .ref 35, .int 0, .ref 36, .int 0, .int 0, .ref 37, .ref 38, .int 0, .int 0, .ref 39, .ref 40, .ref 41, .ref 42, .int 0, .ref 43, .int 0, .ref 44, .ref 45, .ref 46, .null, .null, .int 0, .int 0, .int 0, .int 0, .int 0, .int 0, .null, .int 0, .null])))
def z_94 : ac_H := z_93 ++ [.inl (false, 4, (fun _ => 0))]
def z_95 : ac_H := (z_94.set 31 (.inr (11, [.ref 32, .ref 33, .ref 34, .ref 35, .int 0, .ref 36, .int 0, .int 0, .ref 37, .ref 38, .int 0, .int 0, .ref 39, .ref 40, .ref 41, .ref 42, .int 0, .ref 43, .int 0, .ref 44, .ref 45, .ref 46, .ref 47, .null, .int 0, .int 0, .int 0, .int 0, .int 0, .int 0, .null, .int 0, .null])))
def z_96 : ac_H := z_95 ++ [.inl (false, 20, (fun _ => 0))]
def z_97 : ac_H := (z_96.set 31 (.inr (11, [.ref 32, .ref 33, .ref 34, .ref 35, .int 0, .ref 36, .int 0, .int 0, .ref 37, .ref 38, .int 0, .int 0, .ref 39, .ref 40, .ref 41, .ref 42, .int 0, .ref 43, .int 0, .ref 44, .ref 45, .ref 46, .ref 47, .ref 48, .int 0, .int 0, .int 0, .int 0, .int 0, .int 0, .null, .int 0, .null])))
def z_98 : ac_H := z_97 ++ [.inl (false, 6, (fun _ => 0))]
def z_99 : ac_H := (z_98.set 31 (.inr (11, [.ref 32, .ref 33, .ref 34, .ref 35, .int 0, .ref 36, .int 0, .int 0, .ref 37, .ref 38, .int 0, .int 0, .ref 39, .ref 40, .ref 41, .ref 42, .int 0, .ref 43, .int 0, .ref 44, .ref 45, .ref 46, .ref 47, .ref 48, .int 0, .int 0, .int 0, .int 0, .int 0, .int 0, .ref 49, .int 0, .null])))
def z_100 : ac_H := z_99 ++ [.inl (false, 16, (fun _ => 0))]
def z_101 : ac_H := ((((z_100.set 31 (.inr (11, [.ref 32, .ref 33, .ref 34, .ref 35, .int 0, .ref 36, .int 0, .int 0, .ref 37, .ref 38, .int 0, .int 0, .ref 39, .ref 40, .ref 41, .ref 42, .int 0, .ref 43, .int 0, .ref 44, .ref 45, .ref 46, .ref 47, .ref 48, .int 0, .int 0, .int 0, .int 0, .int 0, .int 0, .ref 49, .int 0, .ref 50]))).set 32 (.inl (false, 4, (upd (upd (upd (upd (fun _ => 0) 0 (-1)) 1 (-1)) 2 (-1)) 3 (-1))))).set 39 (.inl (false, 4, (upd (upd (upd (upd (fun _ => 0) 0 3) 1 3) 2 3) 3 3)))).set 40 (.inl (false, 4, (upd (upd (upd (upd (fun _ => 0) 0 1) 1 1) 2 1) 3 1))))
def z_102 : ac_H := ((z_101.set 42 (.inl (false, 6, (upd (upd (upd (upd (fun _ => 0) 1 20) 2 1) 4 5) 5 4)))).set 31 (.inr (11, [.ref 32, .ref 33, .ref 34, .ref 35, .int 0, .ref 36, .int 0, .int 0, .ref 37, .ref 38, .int 0, .int 0, .ref 39, .ref 40, .ref 41, .ref 42, .int 1, .ref 43, .int 0, .ref 44, .ref 45, .ref 46, .ref 47, .ref 48, .int 0, .int 0, .int 0, .int 0, .int 0, .int 0, .ref 49, .int 0, .ref 50])))
set_option maxHeartbeats 4000000 in
set_option maxRecDepth 100000 in
theorem zc_13 (E : eT) : RW (gE E) md_M_init 19 637 0 (l_ent [.ref 31] (m_L md_M_init)) [] z_63 (fun r hp => r = none ∧ hp = z_102) := by
  refine RW_seg (pc' := 1) (ls' := [.ref 31, .null]) (st' := [.ref 31]) (hp' := z_63) [(.aload_n 0, 1, 0, .null)] (by decide +kernel) rfl ?_
  refine RW_obj (idx := 1) (by decide +kernel) ⟨lk_M_1, z_obj⟩ (by decide +kernel) (by decide +kernel) ?_
  refine RW_seg (pc' := 4) (ls' := [.ref 31, .null]) (st' := []) (hp' := z_63) [] rfl rfl ?_
  refine RW_seg (pc' := 6) (ls' := [.ref 31, .null]) (st' := [.int 4, .ref 31]) (hp' := z_63) [(.aload_n 0, 1, 0, .null), (.iconst 4, 1, 0, .int 4)] (by decide +kernel) rfl ?_
  refine RW_newa (cb := 18) (sb := 633) (hp := z_63) (n := 4) (N := 4) false (by decide +kernel) (by decide) (by decide +kernel) (by decide) (by decide +kernel) z_arr ?_
  refine RW_seg (pc' := 8) (ls' := [.ref 31, .null]) (st' := [.ref 32, .ref 31]) (hp' := z_64) [] rfl rfl ?_
  refine RW_seg (pc' := 13) (ls' := [.ref 31, .null]) (st' := [.int 4, .ref 31]) (hp' := z_65) [(.putfield 7, 3, 1100, .null), (.aload_n 0, 1, 0, .null), (.iconst 4, 1, 0, .int 4)] (by decide +kernel) rfl ?_
  refine RW_newa (cb := 17) (sb := 629) (hp := z_65) (n := 4) (N := 4) false (by decide +kernel) (by decide) (by decide +kernel) (by decide) (by decide +kernel) z_arr ?_
  refine RW_seg (pc' := 15) (ls' := [.ref 31, .null]) (st' := [.ref 33, .ref 31]) (hp' := z_66) [] rfl rfl ?_
  refine RW_seg (pc' := 22) (ls' := [.ref 31, .null]) (st' := [.int 240, .ref 31]) (hp' := z_67) [(.putfield 13, 3, 1101, .null), (.aload_n 0, 1, 0, .null), (.sipush 240, 3, 0, .int 240)] (by decide +kernel) rfl ?_
  refine RW_newa (cb := 16) (sb := 389) (hp := z_67) (n := 240) (N := 240) false (by decide +kernel) (by decide) (by decide +kernel) (by decide) (by decide +kernel) z_arr ?_
  refine RW_seg (pc' := 24) (ls' := [.ref 31, .null]) (st' := [.ref 34, .ref 31]) (hp' := z_68) [] rfl rfl ?_
  refine RW_seg (pc' := 30) (ls' := [.ref 31, .null]) (st' := [.int 60, .ref 31]) (hp' := z_69) [(.putfield 16, 3, 1102, .null), (.aload_n 0, 1, 0, .null), (.bipush 60, 2, 0, .int 60)] (by decide +kernel) rfl ?_
  refine RW_newa (cb := 15) (sb := 329) (hp := z_69) (n := 60) (N := 60) false (by decide +kernel) (by decide) (by decide +kernel) (by decide) (by decide +kernel) z_arr ?_
  refine RW_seg (pc' := 32) (ls' := [.ref 31, .null]) (st' := [.ref 35, .ref 31]) (hp' := z_70) [] rfl rfl ?_
  refine RW_seg (pc' := 38) (ls' := [.ref 31, .null]) (st' := [.int 53, .ref 31]) (hp' := z_71) [(.putfield 19, 3, 1103, .null), (.aload_n 0, 1, 0, .null), (.bipush 53, 2, 0, .int 53)] (by decide +kernel) rfl ?_
  refine RW_newa (cb := 14) (sb := 276) (hp := z_71) (n := 53) (N := 53) false (by decide +kernel) (by decide) (by decide +kernel) (by decide) (by decide +kernel) z_arr ?_
  refine RW_seg (pc' := 40) (ls' := [.ref 31, .null]) (st' := [.ref 36, .ref 31]) (hp' := z_72) [] rfl rfl ?_
  refine RW_seg (pc' := 46) (ls' := [.ref 31, .null]) (st' := [.int 48, .ref 31]) (hp' := z_73) [(.putfield 22, 3, 1105, .null), (.aload_n 0, 1, 0, .null), (.bipush 48, 2, 0, .int 48)] (by decide +kernel) rfl ?_
  refine RW_newa (cb := 13) (sb := 228) (hp := z_73) (n := 48) (N := 48) true (by decide +kernel) (by decide) (by decide +kernel) (by decide) (by decide +kernel) z_arr ?_
  refine RW_seg (pc' := 48) (ls' := [.ref 31, .null]) (st' := [.ref 37, .ref 31]) (hp' := z_74) [] rfl rfl ?_
  refine RW_seg (pc' := 54) (ls' := [.ref 31, .null]) (st' := [.int 48, .ref 31]) (hp' := z_75) [(.putfield 25, 3, 1108, .null), (.aload_n 0, 1, 0, .null), (.bipush 48, 2, 0, .int 48)] (by decide +kernel) rfl ?_
  refine RW_newa (cb := 12) (sb := 180) (hp := z_75) (n := 48) (N := 48) false (by decide +kernel) (by decide) (by decide +kernel) (by decide) (by decide +kernel) z_arr ?_
  refine RW_seg (pc' := 56) (ls' := [.ref 31, .null]) (st' := [.ref 38, .ref 31]) (hp' := z_76) [] rfl rfl ?_
  refine RW_seg (pc' := 61) (ls' := [.ref 31, .null]) (st' := [.int 4, .ref 31]) (hp' := z_77) [(.putfield 29, 3, 1109, .null), (.aload_n 0, 1, 0, .null), (.iconst 4, 1, 0, .int 4)] (by decide +kernel) rfl ?_
  refine RW_newa (cb := 11) (sb := 176) (hp := z_77) (n := 4) (N := 4) false (by decide +kernel) (by decide) (by decide +kernel) (by decide) (by decide +kernel) z_arr ?_
  refine RW_seg (pc' := 63) (ls' := [.ref 31, .null]) (st' := [.ref 39, .ref 31]) (hp' := z_78) [] rfl rfl ?_
  refine RW_seg (pc' := 68) (ls' := [.ref 31, .null]) (st' := [.int 4, .ref 31]) (hp' := z_79) [(.putfield 32, 3, 1112, .null), (.aload_n 0, 1, 0, .null), (.iconst 4, 1, 0, .int 4)] (by decide +kernel) rfl ?_
  refine RW_newa (cb := 10) (sb := 172) (hp := z_79) (n := 4) (N := 4) false (by decide +kernel) (by decide) (by decide +kernel) (by decide) (by decide +kernel) z_arr ?_
  refine RW_seg (pc' := 70) (ls' := [.ref 31, .null]) (st' := [.ref 40, .ref 31]) (hp' := z_80) [] rfl rfl ?_
  refine RW_seg (pc' := 75) (ls' := [.ref 31, .null]) (st' := [.int 4, .ref 31]) (hp' := z_81) [(.putfield 35, 3, 1113, .null), (.aload_n 0, 1, 0, .null), (.iconst 4, 1, 0, .int 4)] (by decide +kernel) rfl ?_
  refine RW_newa (cb := 9) (sb := 168) (hp := z_81) (n := 4) (N := 4) false (by decide +kernel) (by decide) (by decide +kernel) (by decide) (by decide +kernel) z_arr ?_
  refine RW_seg (pc' := 77) (ls' := [.ref 31, .null]) (st' := [.ref 41, .ref 31]) (hp' := z_82) [] rfl rfl ?_
  refine RW_seg (pc' := 83) (ls' := [.ref 31, .null]) (st' := [.int 6, .ref 31]) (hp' := z_83) [(.putfield 38, 3, 1114, .null), (.aload_n 0, 1, 0, .null), (.bipush 6, 2, 0, .int 6)] (by decide +kernel) rfl ?_
  refine RW_newa (cb := 8) (sb := 162) (hp := z_83) (n := 6) (N := 6) false (by decide +kernel) (by decide) (by decide +kernel) (by decide) (by decide +kernel) z_arr ?_
  refine RW_seg (pc' := 85) (ls' := [.ref 31, .null]) (st' := [.ref 42, .ref 31]) (hp' := z_84) [] rfl rfl ?_
  refine RW_seg (pc' := 90) (ls' := [.ref 31, .null]) (st' := [.int 4, .ref 31]) (hp' := z_85) [(.putfield 41, 3, 1115, .null), (.aload_n 0, 1, 0, .null), (.iconst 4, 1, 0, .int 4)] (by decide +kernel) rfl ?_
  refine RW_newa (cb := 7) (sb := 158) (hp := z_85) (n := 4) (N := 4) false (by decide +kernel) (by decide) (by decide +kernel) (by decide) (by decide +kernel) z_arr ?_
  refine RW_seg (pc' := 92) (ls' := [.ref 31, .null]) (st' := [.ref 43, .ref 31]) (hp' := z_86) [] rfl rfl ?_
  refine RW_seg (pc' := 98) (ls' := [.ref 31, .null]) (st' := [.int 60, .ref 31]) (hp' := z_87) [(.putfield 44, 3, 1117, .null), (.aload_n 0, 1, 0, .null), (.bipush 60, 2, 0, .int 60)] (by decide +kernel) rfl ?_
  refine RW_newa (cb := 6) (sb := 98) (hp := z_87) (n := 60) (N := 60) false (by decide +kernel) (by decide) (by decide +kernel) (by decide) (by decide +kernel) z_arr ?_
  refine RW_seg (pc' := 100) (ls' := [.ref 31, .null]) (st' := [.ref 44, .ref 31]) (hp' := z_88) [] rfl rfl ?_
  refine RW_seg (pc' := 106) (ls' := [.ref 31, .null]) (st' := [.int 48, .ref 31]) (hp' := z_89) [(.putfield 47, 3, 1119, .null), (.aload_n 0, 1, 0, .null), (.bipush 48, 2, 0, .int 48)] (by decide +kernel) rfl ?_
  refine RW_newa (cb := 5) (sb := 50) (hp := z_89) (n := 48) (N := 48) true (by decide +kernel) (by decide) (by decide +kernel) (by decide) (by decide +kernel) z_arr ?_
  refine RW_seg (pc' := 108) (ls' := [.ref 31, .null]) (st' := [.ref 45, .ref 31]) (hp' := z_90) [] rfl rfl ?_
  refine RW_seg (pc' := 113) (ls' := [.ref 31, .null]) (st' := [.int 4, .ref 31]) (hp' := z_91) [(.putfield 50, 3, 1120, .null), (.aload_n 0, 1, 0, .null), (.iconst 4, 1, 0, .int 4)] (by decide +kernel) rfl ?_
  refine RW_newa (cb := 4) (sb := 46) (hp := z_91) (n := 4) (N := 4) false (by decide +kernel) (by decide) (by decide +kernel) (by decide) (by decide +kernel) z_arr ?_
  refine RW_seg (pc' := 115) (ls' := [.ref 31, .null]) (st' := [.ref 46, .ref 31]) (hp' := z_92) [] rfl rfl ?_
  refine RW_seg (pc' := 120) (ls' := [.ref 31, .null]) (st' := [.int 4, .ref 31]) (hp' := z_93) [(.putfield 53, 3, 1121, .null), (.aload_n 0, 1, 0, .null), (.iconst 4, 1, 0, .int 4)] (by decide +kernel) rfl ?_
  refine RW_newa (cb := 3) (sb := 42) (hp := z_93) (n := 4) (N := 4) false (by decide +kernel) (by decide) (by decide +kernel) (by decide) (by decide +kernel) z_arr ?_
  refine RW_seg (pc' := 122) (ls' := [.ref 31, .null]) (st' := [.ref 47, .ref 31]) (hp' := z_94) [] rfl rfl ?_
  refine RW_seg (pc' := 128) (ls' := [.ref 31, .null]) (st' := [.int 20, .ref 31]) (hp' := z_95) [(.putfield 56, 3, 1122, .null), (.aload_n 0, 1, 0, .null), (.bipush 20, 2, 0, .int 20)] (by decide +kernel) rfl ?_
  refine RW_newa (cb := 2) (sb := 22) (hp := z_95) (n := 20) (N := 20) false (by decide +kernel) (by decide) (by decide +kernel) (by decide) (by decide +kernel) z_arr ?_
  refine RW_seg (pc' := 130) (ls' := [.ref 31, .null]) (st' := [.ref 48, .ref 31]) (hp' := z_96) [] rfl rfl ?_
  refine RW_seg (pc' := 136) (ls' := [.ref 31, .null]) (st' := [.int 6, .ref 31]) (hp' := z_97) [(.putfield 59, 3, 1123, .null), (.aload_n 0, 1, 0, .null), (.bipush 6, 2, 0, .int 6)] (by decide +kernel) rfl ?_
  refine RW_newa (cb := 1) (sb := 16) (hp := z_97) (n := 6) (N := 6) false (by decide +kernel) (by decide) (by decide +kernel) (by decide) (by decide +kernel) z_arr ?_
  refine RW_seg (pc' := 138) (ls' := [.ref 31, .null]) (st' := [.ref 49, .ref 31]) (hp' := z_98) [] rfl rfl ?_
  refine RW_seg (pc' := 144) (ls' := [.ref 31, .null]) (st' := [.int 16, .ref 31]) (hp' := z_99) [(.putfield 62, 3, 1130, .null), (.aload_n 0, 1, 0, .null), (.bipush 16, 2, 0, .int 16)] (by decide +kernel) rfl ?_
  refine RW_newa (cb := 0) (sb := 0) (hp := z_99) (n := 16) (N := 16) false (by decide +kernel) (by decide) (by decide +kernel) (by decide) (by decide +kernel) z_arr ?_
  refine RW_seg (pc' := 146) (ls' := [.ref 31, .null]) (st' := [.ref 50, .ref 31]) (hp' := z_100) [] rfl rfl ?_
  refine RW_seg (pc' := 183) (ls' := [.ref 31, .int 4]) (st' := []) (hp' := z_101) [(.putfield 65, 3, 1132, .null), (.iconst 0, 1, 0, .int 0), (.istore_n 1, 1, 1, .null), (.iload_n 1, 1, 1, .null), (.iconst 4, 1, 0, .int 4), (.if_icmp .ge 30, 3, 183, .null), (.aload_n 0, 1, 0, .null), (.getfield 7, 3, 1100, .null), (.iload_n 1, 1, 1, .null), (.iconst (-1), 1, 0, .int (-1)), (.iastore, 1, 0, .null), (.aload_n 0, 1, 0, .null), (.getfield 32, 3, 1112, .null), (.iload_n 1, 1, 1, .null), (.iconst 3, 1, 0, .int 3), (.iastore, 1, 0, .null), (.aload_n 0, 1, 0, .null), (.getfield 35, 3, 1113, .null), (.iload_n 1, 1, 1, .null), (.iconst 1, 1, 0, .int 1), (.iastore, 1, 0, .null), (.iinc 1 1, 3, 1, .int 1), (.goto (-29), 3, 151, .null), (.iload_n 1, 1, 1, .null), (.iconst 4, 1, 0, .int 4), (.if_icmp .ge 30, 3, 183, .null), (.aload_n 0, 1, 0, .null), (.getfield 7, 3, 1100, .null), (.iload_n 1, 1, 1, .null), (.iconst (-1), 1, 0, .int (-1)), (.iastore, 1, 0, .null), (.aload_n 0, 1, 0, .null), (.getfield 32, 3, 1112, .null), (.iload_n 1, 1, 1, .null), (.iconst 3, 1, 0, .int 3), (.iastore, 1, 0, .null), (.aload_n 0, 1, 0, .null), (.getfield 35, 3, 1113, .null), (.iload_n 1, 1, 1, .null), (.iconst 1, 1, 0, .int 1), (.iastore, 1, 0, .null), (.iinc 1 1, 3, 1, .int 1), (.goto (-29), 3, 151, .null), (.iload_n 1, 1, 1, .null), (.iconst 4, 1, 0, .int 4), (.if_icmp .ge 30, 3, 183, .null), (.aload_n 0, 1, 0, .null), (.getfield 7, 3, 1100, .null), (.iload_n 1, 1, 1, .null), (.iconst (-1), 1, 0, .int (-1)), (.iastore, 1, 0, .null), (.aload_n 0, 1, 0, .null), (.getfield 32, 3, 1112, .null), (.iload_n 1, 1, 1, .null), (.iconst 3, 1, 0, .int 3), (.iastore, 1, 0, .null), (.aload_n 0, 1, 0, .null), (.getfield 35, 3, 1113, .null), (.iload_n 1, 1, 1, .null), (.iconst 1, 1, 0, .int 1), (.iastore, 1, 0, .null), (.iinc 1 1, 3, 1, .int 1), (.goto (-29), 3, 151, .null), (.iload_n 1, 1, 1, .null), (.iconst 4, 1, 0, .int 4), (.if_icmp .ge 30, 3, 183, .null), (.aload_n 0, 1, 0, .null), (.getfield 7, 3, 1100, .null), (.iload_n 1, 1, 1, .null), (.iconst (-1), 1, 0, .int (-1)), (.iastore, 1, 0, .null), (.aload_n 0, 1, 0, .null), (.getfield 32, 3, 1112, .null), (.iload_n 1, 1, 1, .null), (.iconst 3, 1, 0, .int 3), (.iastore, 1, 0, .null), (.aload_n 0, 1, 0, .null), (.getfield 35, 3, 1113, .null), (.iload_n 1, 1, 1, .null), (.iconst 1, 1, 0, .int 1), (.iastore, 1, 0, .null), (.iinc 1 1, 3, 1, .int 1), (.goto (-29), 3, 151, .null), (.iload_n 1, 1, 1, .null), (.iconst 4, 1, 0, .int 4), (.if_icmp .ge 30, 3, 183, .null)] (by decide +kernel) rfl ?_
  refine RW_seg (pc' := 217) (ls' := [.ref 31, .int 4]) (st' := []) (hp' := z_102) [(.aload_n 0, 1, 0, .null), (.getfield 41, 3, 1115, .null), (.iconst 1, 1, 0, .int 1), (.bipush 20, 2, 0, .int 20), (.iastore, 1, 0, .null), (.aload_n 0, 1, 0, .null), (.getfield 41, 3, 1115, .null), (.iconst 2, 1, 0, .int 2), (.iconst 1, 1, 0, .int 1), (.iastore, 1, 0, .null), (.aload_n 0, 1, 0, .null), (.getfield 41, 3, 1115, .null), (.iconst 4, 1, 0, .int 4), (.iconst 5, 1, 0, .int 5), (.iastore, 1, 0, .null), (.aload_n 0, 1, 0, .null), (.getfield 41, 3, 1115, .null), (.iconst 5, 1, 0, .int 5), (.iconst 4, 1, 0, .int 4), (.iastore, 1, 0, .null), (.aload_n 0, 1, 0, .null), (.iconst 1, 1, 0, .int 1), (.putfield 68, 3, 1116, .int 0)] (by decide +kernel) rfl ?_
  exact RW_ret none (fun a q => by cases q) (by decide +kernel) ⟨rfl, rfl⟩
def a_0 : aT := fun c => match c with
  | 0 => (fun _ => 0)
  | 1 => (upd (fun _ => 0) 3 (-1))
  | 2 => (fun _ => 0)
  | 3 => (upd (upd (upd (upd (upd (upd (upd (upd (upd (upd (upd (upd (upd (upd (upd (upd (upd (upd (upd (upd (upd (upd (upd (upd (upd (upd (upd (upd (upd (upd (upd (upd (upd (upd (upd (upd (upd (upd (upd (upd (upd (upd (upd (upd (upd (upd (upd (upd (fun _ => 0) 0 (-2)) 1 (-2)) 2 (-2)) 3 (-2)) 4 (-2)) 5 (-2)) 6 (-2)) 7 (-2)) 8 (-2)) 9 (-2)) 10 (-2)) 11 (-2)) 12 (-2)) 13 (-2)) 14 (-2)) 15 (-2)) 16 (-2)) 17 (-2)) 18 (-2)) 19 (-2)) 20 (-2)) 21 (-2)) 22 (-2)) 23 (-2)) 24 (-2)) 25 (-2)) 26 (-2)) 27 (-2)) 28 (-2)) 29 (-2)) 30 (-2)) 31 (-2)) 32 (-2)) 33 (-2)) 34 (-2)) 35 (-2)) 36 (-2)) 37 (-2)) 38 (-2)) 39 (-2)) 40 (-2)) 41 (-2)) 42 (-2)) 43 (-2)) 44 (-2)) 45 (-2)) 46 (-2)) 47 (-2))
  | 4 => (fun _ => 0)
  | 5 => (upd (upd (upd (upd (upd (upd (upd (upd (upd (upd (upd (upd (fun _ => 0) 0 3) 1 1) 2 0) 3 3) 4 1) 5 0) 6 3) 7 1) 8 0) 9 3) 10 1) 11 0)
  | 6 => (upd (fun _ => 0) 1 1)
  | 7 => (upd (upd (upd (upd (upd (upd (fun _ => 0) 0 0) 1 20) 2 1) 3 0) 4 5) 5 4)
  | 8 => (fun _ => 0)
  | 9 => (fun _ => 0)
  | 10 => (fun _ => 0)
  | 11 => (fun _ => 0)
  | 12 => (fun _ => 0)
  | 13 => (fun _ => 0)
  | 14 => (upd (fun _ => 0) 13 (-1))
  | 15 => (fun _ => 0)
  | 16 => (fun _ => 0)
  | 17 => (fun _ => 0)
  | 18 => (fun _ => 0)
  | 19 => (fun _ => 0)
  | 20 => (fun _ => 0)
  | 21 => (fun _ => 0)
  | 22 => (fun _ => 0)
  | 23 => (fun _ => 0)
  | 24 => (fun _ => 0)
  | 25 => (fun _ => 0)
  | 26 => (fun _ => 0)
  | 27 => (fun _ => 0)
  | 28 => (upd (upd (upd (upd (fun _ => 0) 0 (-1)) 1 (-1)) 2 (-1)) 3 (-1))
  | 29 => (fun _ => 0)
  | 30 => (fun _ => 0)
  | 31 => (upd (fun _ => 0) 16 1)
  | 32 => (upd (upd (upd (upd (fun _ => 0) 0 (-1)) 1 (-1)) 2 (-1)) 3 (-1))
  | 33 => (fun _ => 0)
  | 34 => (fun _ => 0)
  | 35 => (fun _ => 0)
  | 36 => (fun _ => 0)
  | 37 => (fun _ => 0)
  | 38 => (fun _ => 0)
  | 39 => (upd (upd (upd (upd (fun _ => 0) 0 3) 1 3) 2 3) 3 3)
  | 40 => (upd (upd (upd (upd (fun _ => 0) 0 1) 1 1) 2 1) 3 1)
  | 41 => (fun _ => 0)
  | 42 => (upd (upd (upd (upd (fun _ => 0) 1 20) 2 1) 4 5) 5 4)
  | 43 => (fun _ => 0)
  | 44 => (fun _ => 0)
  | 45 => (fun _ => 0)
  | 46 => (fun _ => 0)
  | 47 => (fun _ => 0)
  | 48 => (fun _ => 0)
  | 49 => (fun _ => 0)
  | 50 => (fun _ => 0)
  | _ => fun _ => 0
set_option maxHeartbeats 4000000 in
set_option maxRecDepth 100000 in
theorem z_fin : z_102 = hpOf a_0 := by
  rw [hpOf_eq]
  rfl
set_option maxHeartbeats 4000000 in
set_option maxRecDepth 100000 in
theorem z_law (E : eT) {Q : Option Value → ac_H → Prop} (k : RW (gE E) md_L_law 0 0 16 [.ref 1003, .ref 0, .ref 31, .null] [] (hpOf a_0) Q) : RW (gE E) md_L_law 51 1277 0 [.ref 1003, .null, .null, .null] [] [] Q := by
  refine RW_seg (pc' := 0) (ls' := [.ref 1003, .null, .null, .null]) (st' := []) (hp' := z_0) [] rfl rfl ?_
  refine RW_new (cb := 50) (sb := 1267) (hp := z_0) (idx := 7) (ci := 10) (C := RX10) (T := TX10) (N := 10) [.null, .null, .null, .null, .null, .null, .null, .null, .null, .null] tyX10 (by decide +kernel) rfl tyX10_ok (by decide +kernel) rfl (by decide +kernel) (by decide +kernel) ?_
  refine RW_seg (pc' := 3) (ls' := [.ref 1003, .null, .null, .null]) (st' := [.ref 0]) (hp' := z_1) [] rfl rfl ?_
  refine RW_seg (pc' := 4) (ls' := [.ref 1003, .null, .null, .null]) (st' := [.ref 0, .ref 0]) (hp' := z_1) [(.dup, 1, 0, .null)] (by decide +kernel) rfl ?_
  refine RW_callI (cb := 20) (sb := 670) (cb1 := 30) (sb1 := 597) (hp := z_1) (As := []) (rest := [.ref 0]) (a := 0) (idx := 9) (by decide +kernel) ok_C_init rfl mv_C_init ⟨lk_L_9, by decide +kernel⟩ (Nat.le_of_ble_eq_true rfl) (Nat.le_of_ble_eq_true rfl) (z_fit rfl) (fun r hp' h => by obtain ⟨-, rfl⟩ := h; decide +kernel) (zc_12 E) (fun r hp' h => ?_)
  obtain ⟨rfl, rfl⟩ := h
  refine RW_seg (pc' := 7) (ls' := [.ref 1003, .null, .null, .null]) (st' := [.ref 0]) (hp' := z_62) [] rfl rfl ?_
  refine RW_seg (pc' := 8) (ls' := [.ref 1003, .ref 0, .null, .null]) (st' := []) (hp' := z_62) [(.astore_n 1, 1, 1, .null)] (by decide +kernel) rfl ?_
  refine RW_new (cb := 19) (sb := 637) (hp := z_62) (idx := 10) (ci := 11) (C := RX11) (T := TX11) (N := 33) [.null, .null, .null, .null, .int 0, .null, .int 0, .int 0, .null, .null, .int 0, .int 0, .null, .null, .null, .null, .int 0, .null, .int 0, .null, .null, .null, .null, .null, .int 0, .int 0, .int 0, .int 0, .int 0, .int 0, .null, .int 0, .null] tyX11 (by decide +kernel) rfl tyX11_ok (by decide +kernel) rfl (by decide +kernel) (by decide +kernel) ?_
  refine RW_seg (pc' := 11) (ls' := [.ref 1003, .ref 0, .null, .null]) (st' := [.ref 31]) (hp' := z_63) [] rfl rfl ?_
  refine RW_seg (pc' := 12) (ls' := [.ref 1003, .ref 0, .null, .null]) (st' := [.ref 31, .ref 31]) (hp' := z_63) [(.dup, 1, 0, .null)] (by decide +kernel) rfl ?_
  refine RW_callI (cb := 0) (sb := 0) (cb1 := 19) (sb1 := 637) (hp := z_63) (As := []) (rest := [.ref 31]) (a := 31) (idx := 12) (by decide +kernel) ok_M_init rfl mv_M_init ⟨lk_L_12, by decide +kernel⟩ (Nat.le_of_ble_eq_true rfl) (Nat.le_of_ble_eq_true rfl) (z_fit rfl) (fun r hp' h => by obtain ⟨-, rfl⟩ := h; decide +kernel) (zc_13 E) (fun r hp' h => ?_)
  obtain ⟨rfl, rfl⟩ := h
  refine RW_seg (pc' := 15) (ls' := [.ref 1003, .ref 0, .null, .null]) (st' := [.ref 31]) (hp' := z_102) [] rfl rfl ?_
  refine RW_seg (pc' := 16) (ls' := [.ref 1003, .ref 0, .ref 31, .null]) (st' := []) (hp' := z_102) [(.astore_n 2, 1, 2, .null)] (by decide +kernel) rfl ?_
  rw [z_fin]
  exact k
