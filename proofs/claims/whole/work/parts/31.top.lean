/-! from the law's entry to the printed function -/
theorem cl_inst : ∀ (k : Nat) (q : vw_C), vwCl[k]? = some q → Cond.instantiable q.1 q.2.2 ∈ lw_tbl
  | 0, q, h => by cases h; decide +kernel
  | 1, q, h => by cases h; decide +kernel
  | 2, q, h => by cases h; decide +kernel
  | 3, q, h => by cases h; decide +kernel
  | 4, q, h => by cases h; decide +kernel
  | 5, q, h => by cases h; decide +kernel
  | 6, q, h => by cases h; decide +kernel
  | 7, q, h => by cases h; decide +kernel
  | 8, q, h => by cases h; decide +kernel
  | 9, q, h => by cases h; decide +kernel
  | 10, q, h => by cases h; decide +kernel
  | 11, q, h => by cases h; decide +kernel
  | n + 12, q, h => by simp [vwCl] at h
theorem top_static {s : State} {args : Array Value} {A : Nat → Prop} {nm : String} {N : Nat} {f : Nat → Int32} (hN : N < 2 ^ 31) (h1 : (Cond.arrayOf (.static "ChestnutSticks" nm "[I") .int).before args s = true) (h2 : (Cond.eq (.length (.static "ChestnutSticks" nm "[I")) (.int (Int32.ofNat N))).before args s = true)
    (h3 : ∀ j, j < N → (Cond.eq (.elem (.static "ChestnutSticks" nm "[I") (.int (Int32.ofNat j))) (.int (f j))).before args s = true) (h4 : (Cond.laysStatic "ChestnutSticks" nm "[I").before args s = true) (h5 : (Cond.initialized "ChestnutSticks").before args s = true) (hA : ∀ a : Nat, a < s.heap.size → ¬ A a) :
    ∃ t : Nat, va_T .int t N (fun i => .int (f i)) A s s.heap ∧ va_Z "ChestnutSticks" nm "[I" (.ref t) A s s.heap := by
  obtain ⟨t, ht, hT⟩ := va_Tof (f := fun i => .int (f i)) hN h1 (va_eqt h2) (fun j hj => va_eqt (h3 j hj)) hA
  exact ⟨t, hT, va_Zref h4 h5 ht hA⟩
theorem top_array {s : State} {args : Array Value} {ty : FieldType} (hty : ∀ C, ty ≠ .object C) (h : (Cond.arrayClass ty).before args s = true) : ∃ cA : ClassId, ArrOfT s cA ty ∧ va_RA s cA ty := by
  obtain ⟨cA, kA, comp, h1, h2, h3⟩ := Cond.arrayClass_spec h
  refine ⟨cA, fun n z => ⟨fun k h => (by cases h), kA, h2, comp, h3⟩, ?_⟩
  cases ty <;> first | exact absurd rfl (hty _) | exact h1
set_option maxHeartbeats 4000000 in
set_option maxRecDepth 100000 in
theorem whole_of (hpure : ∀ E : eT, e_L E ≤ 384 → ∃ N a', f_L_law N E a_0 = some (1, a')) {p : Program} {e : Env} {s : State} {m : MethodId} {below : List Frame} {meth : Method} {c : Code} (l : Launch) {b L : Nat} {xs : Nat → Int32} (hL : L ≤ 384) (C0 : lw_At p s m meth c b L xs) : W p l e room_1 s m #[Value.ref b] below meth c s.heap [] 0 0 (lw_Z below #[Value.ref b] s) (entryFrame m ([Value.ref b] : List Value).toArray 4) := by
  obtain ⟨hx, hb, hr, hml, hown, hts, hX, hbl, hlocks, hgv⟩ := id C0
  have hfl := flat_of_before _ hgv
  have hA : ∀ a : Nat, a < s.heap.size → ¬ (fun q : Nat => s.heap.size ≤ q) a := fun a h => Nat.not_le.mpr h
  have hini := hts (.initialized "ChestnutSticks") (by decide +kernel)
  obtain ⟨t0, hT0, hZ0⟩ := top_static (nm := "STICK_LEAST") (N := 3) (f := s_least) (by decide) (hfl _ (by decide +kernel)) (hfl _ (by decide +kernel)) (fun j hj => by rcases (show j = 0 ∨ j = 1 ∨ j = 2 by omega) with rfl | rfl | rfl <;> exact hfl _ (by decide +kernel)) (hts _ (by decide +kernel)) hini hA
  obtain ⟨t1, hT1, hZ1⟩ := top_static (nm := "STICK_MOST") (N := 3) (f := s_most) (by decide) (hfl _ (by decide +kernel)) (hfl _ (by decide +kernel)) (fun j hj => by rcases (show j = 0 ∨ j = 1 ∨ j = 2 by omega) with rfl | rfl | rfl <;> exact hfl _ (by decide +kernel)) (hts _ (by decide +kernel)) hini hA
  obtain ⟨t2, hT2, hZ2⟩ := top_static (nm := "RULE_MOST") (N := 6) (f := r_most) (by decide) (hfl _ (by decide +kernel)) (hfl _ (by decide +kernel)) (fun j hj => by rcases (show j = 0 ∨ j = 1 ∨ j = 2 ∨ j = 3 ∨ j = 4 ∨ j = 5 by omega) with rfl | rfl | rfl | rfl | rfl | rfl <;> exact hfl _ (by decide +kernel)) (hts _ (by decide +kernel)) hini hA
  obtain ⟨cI, hI1, hI2⟩ := top_array (s := s) (ty := .int) (fun C h => by cases h) (hts _ (z_arr.1))
  obtain ⟨cZ, hZ3, hZ4⟩ := top_array (s := s) (ty := .boolean) (fun C h => by cases h) (hts _ (z_arr.2))
  have hk : ∀ k : Nat, ∃ (r : ClassId × (Nat → Nat)), ∀ q, vwCl[k]? = some q → u_Kn s q.1 q.2.1 q.2.2 r.1 r.2 := by
    intro k
    cases h : vwCl[k]? with
    | none => exact ⟨(0, fun _ => 0), fun q hq => by cases hq⟩
    | some q =>
      obtain ⟨cC, iS, hK⟩ := u_known (C := q.1) (T := q.2.1) (N := q.2.2) (n := q.2.2) hts (fun w hw => (List.mem_filter.mp ((cl_facts k q h).1 w hw)).1) (hts _ (cl_inst k q h))
      exact ⟨(cC, iS), fun q' hq' => by cases hq'; exact hK⟩
  obtain ⟨D, hD⟩ : ∃ D : va_G, ∀ (k : Nat) (q : vw_C), vwCl[k]? = some q → u_Kn s q.1 q.2.1 q.2.2 (D.1 k) (D.2 k) := ⟨(fun k => (Classical.choose (hk k)).1, fun k => (Classical.choose (hk k)).2), fun k q hq => Classical.choose_spec (hk k) q hq⟩
  let E : eT := (D, (cI, cZ), s.heap.size, (fun j => match j with | 0 => t0 | 1 => t1 | 2 => t2 | _ => b), L, xs)
  have hXT : va_T .int b L (fun i => .int (xs i)) (fun q : Nat => s.heap.size ≤ q) s s.heap := by
    obtain ⟨scr, q1, q2, q3, q4, q5⟩ := hX
    exact ⟨scr, q1, q2, q3, Nat.le_of_eq q4.symm, by rw [q4], q5, Nat.not_le.mpr hbl⟩
  have hkx : kx (gE E) s := by
    refine ⟨⟨hD, ?_⟩, fun w hw => ?_, ?_, ?_, Nat.le_refl _⟩
    · intro k q hq
      match k, hq with
      | 0, hq => cases hq; exact ⟨hI1, hI2⟩
      | 1, hq => cases hq; exact ⟨hZ3, hZ4⟩
      | k + 2, hq => simp [g_tys] at hq
    · have h1 := List.mem_filter.mp hw
      have h2 := hts w h1.1
      have h3 := h1.2
      cases w <;> first | (simp at h3; done) | exact va_Nw.of rfl h2
    · intro j r hr
      match j, hr with
      | 0, hr => cases hr; exact hT0
      | 1, hr => cases hr; exact hT1
      | 2, hr => cases hr; exact hT2
      | 3, hr => cases hr; exact hXT
      | j + 4, hr => simp [gE, g_ro] at hr
    · intro j hj
      rcases (show j = 0 ∨ j = 1 ∨ j = 2 by omega) with rfl | rfl | rfl
      · exact hZ0
      · exact hZ1
      · exact hZ2
  obtain ⟨N, a', hf⟩ := hpure E hL
  have hR := z_law E (x_L_law E N a_0 1 a' hf)
  rw [lg_entry_eq]
  have e1 : ([Value.ref b] : List Value) = ([.ref 1003] : List Value).map (g_v (gE E)) := by
    simp [g_v, g_ad, g_aS, gE, E]
  rw [e1]
  refine hR p l e room_1 s m #[Value.ref b] below meth c s.heap [] 0 0 (lw_Z below #[Value.ref b] s) _ ⟨hx, hb, hml, hown, fun w hw => hts w (List.mem_filter.mp hw).1, hkx, by decide, by decide, fun h => absurd h (by decide)⟩ (lr_entry (av := [.ref 1003]) (by decide)) ⟨fun k q hq => by simp [g_w] at hq, by decide⟩ va_S.rf (by decide) (by decide) rfl ?_
  intro r hp' H' locs' Ls' pc' hq hP' hS' hd hnr hz'
  obtain ⟨a2, -, rfl, -⟩ := hq
  refine va_forget (fun q hq => hS'.2.2 q hq) ?_
  exact lw_ret hx hb hr hlocks hd
