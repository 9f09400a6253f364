theorem PL.up {X : Nat} {a b : aT} (h : PL X a b) {c : Nat} (hc : c < 48) : a 15 c = -1 ↔ b 45 c = 0 := by
  rcases h.1 c hc with z | z
  · exact ⟨fun _ => z.1, fun _ => z.2⟩
  · refine ⟨fun q => ?_, fun q => absurd q z.1⟩
    have := hg_0 (d := a 7 1) z.2.1
    rw [z.2.2] at q
    rw [q] at this
    exact absurd this (by decide)
theorem l_ups {N X : Nat} {a b : aT} (h : PL X a b) : ∀ (n j : Nat) (v : Int32), j ≤ 48 → 48 - j < n → ∃ w, f_P_ballsUp_4 N a n v (nI j) = some w ∧ f_M_upNow_4 N b n v (nI j) = some w := by
  intro n
  induction n with
  | zero => intro j v h1 h2; omega
  | succ n ih =>
    intro j v h1 h2
    unfold f_P_ballsUp_4 f_M_upNow_4
    by_cases hj : j = 48
    · subst hj
      rw [if_pos (show 48 ≤ nI 48 by decide), if_pos (show 48 ≤ nI 48 by decide)]
      exact ⟨v, rfl, rfl⟩
    · have e1 : ¬ 48 ≤ nI j := nI_ge (b := 48) (by omega) (by decide)
      rw [if_neg e1, if_neg e1, if_pos (inn (show j < 48 by omega) (by decide)), if_pos (inn (show j < 48 by omega) (by decide)), ixn (by omega), np1]
      have z := h.up (show j < 48 by omega)
      by_cases q : a 15 j = -1
      · rw [if_pos q, if_pos (z.mp q)]
        exact ih (j + 1) _ (by omega) (by omega)
      · rw [if_neg q, if_neg (mt z.mpr q)]
        exact ih (j + 1) _ (by omega) (by omega)
theorem l_lods {N X : Nat} {a b : aT} (h : PL X a b) : ∀ (n j : Nat) (v : Int32), j ≤ 4 → 4 - j < n → ∃ w, f_P_lodgedBits_4 N a n v (nI j) = some w ∧ f_M_lodgedNow_4 N b n v (nI j) = some w := by
  intro n
  induction n with
  | zero => intro j v h1 h2; omega
  | succ n ih =>
    intro j v h1 h2
    unfold f_P_lodgedBits_4 f_M_lodgedNow_4
    by_cases hj : j = 4
    · subst hj
      rw [if_pos (show 4 ≤ nI 4 by decide), if_pos (show 4 ≤ nI 4 by decide)]
      exact ⟨v, rfl, rfl⟩
    · have e1 : ¬ 4 ≤ nI j := nI_ge (b := 4) (by omega) (by decide)
      rw [if_neg e1, if_neg e1, if_pos (inn (show j < 4 by omega) (by decide)), if_pos (inn (show j < 4 by omega) (by decide)), ixn (by omega), np1, (h.2.1 j (by omega)).1]
      by_cases q : a 16 j = -1
      · rw [if_pos q, if_pos q]
        exact ih (j + 1) _ (by omega) (by omega)
      · rw [if_neg q, if_neg q]
        exact ih (j + 1) _ (by omega) (by omega)
theorem min_4 {p : Int32} : f_M_in p.toInt64 0 4 = 0 ↔ (p < 0 ∨ 5 ≤ p) := by
  rw [min_0 (lo := 0) (hi := 4) (by decide) (by decide)]; grind
/-- what a state says, by the reference without its tests -/
theorem q_stateOf {N X : Nat} {a b : aT} {p q : Int32} (hN : 10000 ≤ N) (h : Rel N a b) (hp : p = nI X) (hX : X ≤ 20) (hX2 : nI X ≤ a 10 3) (hq : ¬ (q < 0 ∨ 5 ≤ q)) : Same N (f_C_state N p q a) (f_M_stateOf N p q b) := by
  subst hp
  obtain ⟨a', b', k1, k2, k3, k4, k5⟩ := q_play hN (a 6 1) h hX
  unfold f_C_state f_M_stateOf f_R_seedNow f_O_size
  rw [if_neg (nI_pos (by omega)), if_neg (show ¬ a 10 3 < nI X by grind), if_neg (mt blw.mp hq), h.sd, k1, k2, bnd, bnd]
  dsimp only
  obtain ⟨w, hw, rfl⟩ := nof (p := q) 5 (by decide) hq
  rcases w with _ | _ | _ | _ | _ | w
  · obtain ⟨v, g1, g2⟩ := l_ups (N := N) k5 N 0 0 (by omega) (by omega)
    have e1 : f_P_ballsUp N a' = some v := g1
    have e2 : f_M_upNow N b' = some v := g2
    rw [if_pos (show nI 0 = 0 from rfl), if_pos (show nI 0 = 0 from rfl), e1, e2, bnd, bnd]
    exact ⟨_, _, _, rfl, rfl, k3⟩
  · refine ⟨a' 14 10, a', b', rfl, ?_, k3⟩
    rw [← k5.2.2.2.2.2.2.1]
    rfl
  · refine ⟨a' 14 11, a', b', rfl, ?_, k3⟩
    rw [← k5.2.2.2.2.2.2.2.1]
    rfl
  · obtain ⟨v, g1, g2⟩ := l_lods (N := N) k5 N 0 0 (by omega) (by omega)
    have e1 : f_P_lodgedBits N a' = some v := g1
    have e2 : f_M_lodgedNow N b' = some v := g2
    rw [e1, e2]
    exact ⟨v, a', b', rfl, rfl, k3⟩
  · rcases X with _ | X
    · exact ⟨0, a', b', rfl, rfl, k3⟩
    · have e1 : f_P_broughtBy (nI (X + 1) - 1) a' = some (a' 18 X) := by
        rw [nmm]
        unfold f_P_broughtBy
        rw [if_neg (show ¬ f_C_isBelow (nI X) 20 = 0 from mt blw.mp (nlt4 (n := 20) (L := 20) rfl (by decide) (by omega))), if_pos (inn (show X < 20 by omega) (by decide)), ixn (by omega)]
      refine ⟨a' 18 X, a', b', ?_, ?_, k3⟩
      · rw [e1]
        rfl
      · rw [if_neg (by decide), if_neg (by decide), if_neg (by decide), if_neg (by decide), if_neg (nI_ne0 (by omega) (by omega)), nmm, if_pos (inn (show X < 20 by omega) (by decide)), ixn (by omega), k5.2.2.2.1 X (by omega)]
  · omega
theorem q_state {N : Nat} {a b : aT} {p q : Int32} (hN : 10000 ≤ N) (h : Rel N a b) : Same N (f_C_state N p q a) (f_M_state N p q b) := by
  unfold f_M_state
  by_cases c1 : p < 0 ∨ a 10 3 < p
  · rw [if_pos (min_g.mpr (by rw [h.thn]; exact c1))]
    refine ⟨-2, a, b, ?_, rfl, h⟩
    unfold f_C_state f_O_size
    rcases c1 with c1 | c1
    · rw [if_pos c1]
    · by_cases c0 : p < 0
      · rw [if_pos c0]
      · rw [if_neg c0, if_pos c1]
  rw [if_neg (fun z => c1 (by have := min_g.mp z; rw [h.thn] at this; exact this))]
  by_cases c2 : q < 0 ∨ 5 ≤ q
  · rw [if_pos (min_4.mpr c2)]
    refine ⟨-2, a, b, ?_, rfl, h⟩
    unfold f_C_state f_O_size
    rw [if_neg (fun z => c1 (Or.inl z)), if_neg (fun z => c1 (Or.inr z)), if_pos (blw.mpr c2)]
  rw [if_neg (mt min_4.mp c2)]
  obtain ⟨X, hX, e⟩ := nofC (p := p) 20 (by decide) (by grind) (by have := h.thn1; have z : nI 20 = 20 := rfl; grind)
  obtain ⟨r, a', b', g1, g2, g3⟩ := q_stateOf hN h e hX (by rw [← e]; grind) c2
  exact ⟨r, a', b', g1, by rw [g2, bnd], g3⟩
theorem q_hangs {N : Nat} {a b : aT} {p : Int32} (hN : 10000 ≤ N) (h : Rel N a b) : Same N (f_C_hangs N p a) (f_M_hangs N p b) := by
  obtain ⟨a', b', X, hX, e, k1, k2, k3, k4, k5⟩ := q_playAll hN h
  have a3 : a' 3 = a 3 := funext fun i => (r_P_replayAll N a _ _ k1) 3 i (nwc (by decide))
  unfold f_C_hangs f_M_hangs
  rw [k2, bnd]
  dsimp only
  by_cases c1 : p < 0 ∨ 48 ≤ p
  · have x1 : f_E_isCell p a = some 0 := by unfold f_E_isCell; rw [if_pos (blw.mpr c1)]
    have x2 : f_M_isCell p b' = some 0 := by unfold f_M_isCell; rw [if_pos (min_47.mpr c1)]
    rw [x1, x2, bnd, bnd, if_pos rfl, if_pos rfl]
    refine ⟨_, _, _, rfl, rfl, ?_⟩
    exact h.fr (La := []) FA_rf (r_M_find N b _ _ k2) (by decide) (by decide)
  obtain ⟨c, hc, rfl⟩ := nof (p := p) 48 (by decide) c1
  rw [f_iscC hc, f_iscM k4.1 hc, bnd, bnd, a3]
  by_cases c3 : a 3 c = -2
  · rw [if_pos c3, if_pos rfl, if_pos rfl]
    refine ⟨_, _, _, rfl, rfl, ?_⟩
    exact h.fr (La := []) FA_rf (r_M_find N b _ _ k2) (by decide) (by decide)
  rw [if_neg c3, if_neg (show ¬ (1 : Int32) = 0 by decide), if_neg (show ¬ (1 : Int32) = 0 by decide), k1, bnd, if_pos (inn hc (by decide)), ixn (by omega)]
  dsimp only
  have x1 : f_P_hangsNow (nI c) a' = some (a' 15 c) := by
    unfold f_P_hangsNow
    rw [if_neg (show ¬ f_C_isBelow (nI c) 48 = 0 from mt blw.mp (nlt4 (n := 48) (L := 48) rfl (by decide) (by omega))), if_pos (inn hc (by decide)), ixn (by omega)]
  rw [x1, bnd]
  rcases k5.1 c hc with z | z
  · rw [if_pos z.1, z.2]
    exact ⟨_, _, _, rfl, rfl, k3⟩
  · have x2 : f_M_hangsNow (nI c) b' = some (a' 15 c) := by
      unfold f_M_hangsNow
      have h38 : b' 38 c = a' 3 c := by
        have := (k4.1 c hc).2.2.2
        rw [if_neg (by grind)] at this
        exact this
      rw [if_pos (inn hc (by decide)), ixn (by omega), h38, (k3.ru 1 (by omega)).1, ← hg_M z.2.1, z.2.2]
    rw [if_neg z.1, x2, bnd]
    exact ⟨_, _, _, rfl, rfl, k3⟩
theorem q_has {N : Nat} {a b : aT} {p : Int32} (hN : 10000 ≤ N) (h : Rel N a b) : Same N (f_C_has N p a) (f_M_has N p b) := by
  obtain ⟨a', b', X, hX, e, k1, k2, k3, k4, k5⟩ := q_playAll hN h
  unfold f_C_has f_M_has
  rw [k1, k2, bnd, bnd]
  dsimp only
  by_cases c1 : p < 0 ∨ 4 ≤ p
  · rw [if_pos (blw.mpr c1), if_pos (four_0.mpr c1)]
    refine ⟨_, _, _, rfl, rfl, ?_⟩
    exact h.fr (La := []) FA_rf (r_M_find N b _ _ k2) (by decide) (by decide)
  rw [if_neg (mt blw.mp c1), if_neg (mt four_0.mp c1)]
  obtain ⟨c, hc, rfl⟩ := nof (p := p) 4 (by decide) c1
  unfold f_P_ripeOf
  rw [if_neg (mt blw.mp c1), if_pos (inn hc (by decide)), if_pos (inn hc (by decide)), ixn (by omega), bnd]
  exact ⟨_, _, _, rfl, by rw [k5.2.2.1 c hc], k3⟩
