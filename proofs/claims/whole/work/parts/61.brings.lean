/-! lowest terms both ways; brings, frees -/
theorem cmp0 {x : Int64} : lg_cmp x 0 = 0 ↔ x = 0 := by
  unfold lg_cmp
  grind
theorem p63 {k : Nat} (h : k < 63) : 2 ^ k < 2 ^ 63 := Nat.pow_lt_pow_right (by omega) h
theorem l_low {N : Nat} {w : Int32} : ∀ (k A n j : Nat), A < 2 ^ 63 → k < 63 → j + k ≤ 64 → k < n → f_C_lowest_9 N n w (lN A) (lN (2 ^ k)) (nI j) = some (if w = 0 then lN (A / Nat.gcd A (2 ^ k)) else lN (2 ^ k / Nat.gcd A (2 ^ k))) := by
  intro k
  induction k with
  | zero =>
    intro A n j h1 h2 h3 h4
    obtain ⟨n, rfl⟩ : ∃ m, n = m + 1 := ⟨n - 1, by omega⟩
    have e : Nat.gcd A (2 ^ 0) = 1 := Nat.gcd_one_right A
    have e2 : f_C_lowest_60 N w (lN A) (lN (2 ^ 0)) = some (if w = 0 then lN A else lN (2 ^ 0)) := by
      unfold f_C_lowest_60
      by_cases c : w = 0
      · rw [if_pos c, if_pos c]
      · rw [if_neg c, if_neg c]
    unfold f_C_lowest_9
    rw [e, Nat.div_one, Nat.div_one, if_neg (show ¬ lg_cmp (l_rem (lN (2 ^ 0)) 2) 0 = 0 by decide), ite_self, ite_self]
    exact e2
  | succ k ih =>
    intro A n j h1 h2 h3 h4
    obtain ⟨n, rfl⟩ : ∃ m, n = m + 1 := ⟨n - 1, by omega⟩
    have hk := p63 h2
    have t2 : (2 : Int64) = lN 2 := rfl
    have m2 : l_rem (lN (2 ^ (k + 1))) 2 = lN 0 := by
      unfold l_rem
      rw [t2, pk_lRem hk (by omega) (by omega), Nat.pow_succ]
      congr 1
      omega
    have d2 : lN (2 ^ (k + 1)) / 2 = lN (2 ^ k) := by
      rw [t2, pk_lDiv hk (by omega) (by omega), Nat.pow_succ]
      congr 1
      omega
    have mA : l_rem (lN A) 2 = lN (A % 2) := by
      unfold l_rem
      rw [t2, pk_lRem h1 (by omega) (by omega)]
    have dA : lN A / 2 = lN (A / 2) := by rw [t2, pk_lDiv h1 (by omega) (by omega)]
    unfold f_C_lowest_9
    rw [if_neg (show ¬ 64 ≤ nI j from nI_ge (b := 64) (by omega) (by decide)), m2, mA, d2, dA, np1, if_pos (show lg_cmp (lN 0) 0 = 0 by decide)]
    by_cases c : A % 2 = 0
    · rw [c, if_pos (show lg_cmp (lN 0) 0 = 0 by decide), ih (A / 2) n (j + 1) (by omega) (by omega) (by omega) (by omega)]
      have eg : Nat.gcd A (2 ^ (k + 1)) = 2 * Nat.gcd (A / 2) (2 ^ k) := by
        rw [← Nat.gcd_mul_left, show 2 * (A / 2) = A by omega, Nat.pow_succ']
      have e1 : A / Nat.gcd A (2 ^ (k + 1)) = A / 2 / Nat.gcd (A / 2) (2 ^ k) := by rw [eg, Nat.div_div_eq_div_mul]
      have e2 : 2 ^ (k + 1) / Nat.gcd A (2 ^ (k + 1)) = 2 ^ k / Nat.gcd (A / 2) (2 ^ k) := by
        rw [eg, ← Nat.div_div_eq_div_mul, Nat.pow_succ', Nat.mul_div_cancel_left _ (by omega)]
      rw [e1, e2]
    · have c1 : A % 2 = 1 := by omega
      have g2 : Nat.Coprime A 2 := by
        unfold Nat.Coprime
        rw [Nat.gcd_comm, Nat.gcd_rec, c1]
        decide
      have g1 : Nat.gcd A (2 ^ (k + 1)) = 1 := Nat.Coprime.pow_right (k + 1) g2
      rw [c1, if_neg (show ¬ lg_cmp (lN 1) 0 = 0 by decide), g1, Nat.div_one, Nat.div_one]
      unfold f_C_lowest_60
      by_cases d : w = 0
      · rw [if_pos d, if_pos d]
      · rw [if_neg d, if_neg d]
theorem l_part {N A B : Nat} {w : Int32} (hA : A < 2 ^ 63) (hB : B < 2 ^ 63) : ∀ (n a b : Nat), b < n → a < 2 ^ 63 → b < 2 ^ 63 → 0 < Nat.gcd a b → f_M_part_6 N n (lN A) (lN B) w (lN a) (lN b) = some (if w = 0 then lN (A / Nat.gcd a b) else lN (B / Nat.gcd a b)) := by
  intro n
  induction n with
  | zero => intro a b h1; omega
  | succ n ih =>
    intro a b h1 ha hb hg
    have z0 : (0 : Int64) = lN 0 := rfl
    unfold f_M_part_6
    by_cases c : b = 0
    · subst c
      rw [Nat.gcd_zero_right] at hg ⊢
      have na : ¬ lN a = 0 := by
        rw [z0, pk_lEQ ha (by omega)]
        omega
      rw [if_pos (cmp0.mpr z0.symm), if_neg na, if_neg na, pk_lDiv hA hg ha, pk_lDiv hB hg ha]
      by_cases d : w = 0
      · rw [if_pos d, if_pos d]
      · rw [if_neg d, if_neg d]
    · have nb : ¬ lN b = 0 := by
        rw [z0, pk_lEQ hb (by omega)]
        omega
      have m1 : a % b < b := Nat.mod_lt _ (by omega)
      have er : l_rem (lN a) (lN b) = lN (a % b) := by
        unfold l_rem
        exact pk_lRem ha (by omega) hb
      have eg : Nat.gcd b (a % b) = Nat.gcd a b := by
        rw [Nat.gcd_comm a b, Nat.gcd_rec b a, Nat.gcd_comm]
      rw [if_neg (mt cmp0.mp nb), if_neg nb, er, ih b (a % b) (by omega) hb (by omega) (by rw [eg]; exact hg), eg]
theorem q_part {N A k : Nat} {u w : Int32} (hN : 2 ^ 49 ≤ N) (hA : A < 2 ^ 62) (hk : k ≤ 48) (huw : u = 0 ↔ w = 0) : ∃ z, f_C_lowest N (lN A) (lN (2 ^ k)) u = some z ∧ f_M_part N (lN A) (lN (2 ^ k)) w = some z := by
  have hk2 : 2 ^ k < 2 ^ 49 := Nat.pow_lt_pow_right (by omega) (by omega)
  have h0 : 0 < 2 ^ k := Nat.two_pow_pos k
  have e1 := l_low (N := N) (w := u) k A N 0 (by omega) (by omega) (by omega) (by omega)
  have e2 := l_part (N := N) (A := A) (B := 2 ^ k) (w := w) (by omega) (by omega) N A (2 ^ k) (by omega) (by omega) (by omega) (Nat.gcd_pos_of_pos_right _ h0)
  refine ⟨_, e1, e2.trans ?_⟩
  by_cases c : u = 0
  · rw [if_pos c, if_pos (huw.mp c)]
  · rw [if_neg c, if_neg (mt huw.mpr c)]
theorem br71 {N z : Nat} {x4 y4 y3 y2 : Int32} {a : aT} {r : Int64} (h1 : f_P_sixteenths N y2 y3 y4 a = some (nI z)) (hz : z ≤ 2000) (h2 : f_C_lowest N (lN z) (lN (2 ^ 4)) x4 = some r) : f_C_brings_71 N x4 y4 y3 y2 a = some (r, a) := by
  unfold f_C_brings_71
  rw [h1, bnd, nI_l (by omega), show (16 : Int64) = lN (2 ^ 4) from rfl, h2, bnd]
theorem br44 {N z : Nat} {x3 y4 y3 y2 : Int32} {a : aT} {r : Int64} (h1 : f_M_meanOf N y2 y3 y4 a = some (nI z)) (hz : z ≤ 2000) (h2 : f_M_part N (lN z) (lN (2 ^ 4)) (i_rem x3 2) = some r) : f_M_brings_44 N x3 y4 y3 y2 a = some (r, a) := by
  unfold f_M_brings_44
  rw [h1, bnd, nI_l (by omega), show (16 : Int64) = lN (2 ^ 4) from rfl, h2, bnd]
theorem q_brings {N : Nat} {a b : aT} {p q r : Int32} (hN : 2 ^ 49 ≤ N) (h : Rel N a b) : ∃ v a' b', f_C_brings N p q r a = some (v, a') ∧ f_M_brings N p q r b = some (v, b') ∧ f_M_find N b = some ((), b') ∧ Rel N a' b' ∧ FA w_P_replayAll a a' := by
  have hN1 : 10000 ≤ N := by omega
  obtain ⟨a', b', X, hX, e, k1, k2, k3, k4, k5⟩ := q_playAll hN1 h
  have a3 : a' 3 = a 3 := funext fun i => (r_P_replayAll N a _ _ k1) 3 i (nwc (by decide))
  have rel : Rel N a b' := h.fr (La := []) FA_rf (r_M_find N b _ _ k2) (by decide) (by decide)
  have no2 : f_M_no (-2) = -9223372036854775806 := by decide
  unfold f_C_brings f_M_brings
  rw [k1, k2, bnd, bnd, no2]
  dsimp only
  by_cases c1 : p < 0 ∨ 4 ≤ p
  · rw [if_pos (blw.mpr c1), if_pos (four_0.mpr c1)]
    exact ⟨_, _, _, rfl, rfl, rfl, rel, FA_rf⟩
  rw [if_neg (mt blw.mp c1), if_neg (mt four_0.mp c1)]
  by_cases c2 : q < 0 ∨ 48 ≤ q
  · have x1 : f_E_isCell q a = some 0 := by unfold f_E_isCell; rw [if_pos (blw.mpr c2)]
    have x2 : f_M_isCell q b' = some 0 := by unfold f_M_isCell; rw [if_pos (min_47.mpr c2)]
    rw [x1, x2, bnd, bnd, if_pos rfl, if_pos rfl]
    exact ⟨_, _, _, rfl, rfl, rfl, rel, FA_rf⟩
  obtain ⟨g, hg4, rfl⟩ := nof (p := p) 4 (by decide) c1
  obtain ⟨c, hc, rfl⟩ := nof (p := q) 48 (by decide) c2
  rw [f_iscC hc, f_iscM k4.1 hc, bnd, bnd, a3]
  by_cases c3 : a 3 c = -2
  · rw [if_pos c3, if_pos rfl, if_pos rfl]
    exact ⟨_, _, _, rfl, rfl, rfl, rel, FA_rf⟩
  rw [if_neg c3, if_neg (show ¬ (1 : Int32) = 0 by decide), if_neg (show ¬ (1 : Int32) = 0 by decide)]
  by_cases c4 : r < 0 ∨ 4 ≤ r
  · rw [if_pos (blw.mpr c4), if_pos (min_3.mpr c4)]
    exact ⟨_, _, _, rfl, rfl, rfl, rel, FA_rf⟩
  rw [if_neg (mt blw.mp c4), if_neg (mt min_3.mp c4)]
  obtain ⟨k, hk, rfl⟩ := nof (p := r) 4 (by decide) c4
  unfold f_C_brings_48 f_C_brings_53
  obtain ⟨z1, hz1, y1, y2⟩ := q_mean 1 hN1 hg4 hc k3 k4 k5
  obtain ⟨z0, hz0, y3, y4⟩ := q_mean 0 hN1 hg4 hc k3 k4 k5
  have fa := r_P_replayAll N a _ _ k1
  rcases k with _ | _ | _ | _ | k
  · obtain ⟨v, v1, v2⟩ := q_part (N := N) (A := z1) (k := 4) (u := 0) (w := i_rem (nI 0) 2) hN (by omega) (by omega) (by decide)
    rw [if_neg (show ¬ nI 0 = 1 by decide), if_neg (show ¬ nI 0 = 3 by decide), if_neg (show ¬ 2 ≤ nI 0 by decide), if_neg (show ¬ 2 ≤ nI 0 by decide), br71 y1 hz1 v1, br44 y2 hz1 v2]
    exact ⟨_, _, _, rfl, rfl, rfl, k3, fa⟩
  · obtain ⟨v, v1, v2⟩ := q_part (N := N) (A := z1) (k := 4) (u := 1) (w := i_rem (nI 1) 2) hN (by omega) (by omega) (by decide)
    rw [if_pos (show nI (0 + 1) = 1 by decide), if_neg (show ¬ 2 ≤ nI (0 + 1) by decide), if_neg (show ¬ 2 ≤ nI (0 + 1) by decide), br71 y1 hz1 v1, br44 y2 hz1 v2]
    exact ⟨_, _, _, rfl, rfl, rfl, k3, fa⟩
  · obtain ⟨v, v1, v2⟩ := q_part (N := N) (A := z0) (k := 4) (u := 0) (w := i_rem (nI 2) 2) hN (by omega) (by omega) (by decide)
    rw [if_neg (show ¬ nI (0 + 1 + 1) = 1 by decide), if_neg (show ¬ nI (0 + 1 + 1) = 3 by decide), if_pos (show 2 ≤ nI (0 + 1 + 1) by decide), if_pos (show 2 ≤ nI (0 + 1 + 1) by decide), br71 y3 hz0 v1, br44 y4 hz0 v2]
    exact ⟨_, _, _, rfl, rfl, rfl, k3, fa⟩
  · obtain ⟨v, v1, v2⟩ := q_part (N := N) (A := z0) (k := 4) (u := 1) (w := i_rem (nI 3) 2) hN (by omega) (by omega) (by decide)
    rw [if_neg (show ¬ nI (0 + 1 + 1 + 1) = 1 by decide), if_pos (show nI (0 + 1 + 1 + 1) = 3 by decide), if_pos (show 2 ≤ nI (0 + 1 + 1 + 1) by decide), if_pos (show 2 ≤ nI (0 + 1 + 1 + 1) by decide), br71 y3 hz0 v1, br44 y4 hz0 v2]
    exact ⟨_, _, _, rfl, rfl, rfl, k3, fa⟩
  · omega
theorem q_freesOf {N g c t : Nat} {a b : aT} (hg4 : g < 4) (hc : c < 48) (ht : t < 48) (hR : Rel N a b) :
    ∃ z, f_P_sixteenthsOfStriking (nI g) (nI c) (nI t) a = some z ∧ ((f_M_strikes (nI g) (nI c / 8) (i_rem (nI c) 8) (nI t) b).bind fun q1 => if q1 = 0 then f_M_freesOf_58 b (nI g) (nI t) (nI c / 8) (i_rem (nI c) 8) 0 else f_M_freesOf_58 b (nI g) (nI t) (nI c / 8) (i_rem (nI c) 8) (16 - (2 * (b 42 0)))) = some z := by
  have hl := hR.sl g hg4
  obtain ⟨L, hL, eL⟩ := nofC (p := a 5 (3 * g + 1)) 3 (by decide) (by grind) hl.2.2
  have h0 := hR.ru 0 (by omega)
  have hr : c / 8 < 6 := by omega
  have hq : c % 8 < 8 := Nat.mod_lt _ (by omega)
  have m1 : nI (c % 8) = nI (c % 8 + 1) + (-1) := (pk_m1 _).symm
  have m2 : nI (c % 8) + 1 = nI (c % 8 + 2) + (-1) := by rw [np1]; exact (pk_m1 _).symm
  have m3 : nI (c % 8) - 1 = nI (c % 8) + (-1) := by grind
  have t1 : f_T_now (nI g) 1 a = some (nI L) := by rw [← eL]; exact f_tnow hg4 (i := 1) (by omega)
  have r0 : f_R_now 0 a = some (a 7 0) := f_rnow (k := 0) (by omega)
  have el : b 40 g = nI L := by rw [hl.1, eL]
  have C0 := st_C (r := c / 8) (s := c % 8) (L := L) (c := t) hr (by omega) (by omega) ht
  have C1 := st_C (r := c / 8) (s := c % 8 + 1) (L := L) (c := t) hr (by omega) (by omega) ht
  have C2 := st_C (r := c / 8) (s := c % 8 + 2) (L := L) (c := t) hr (by omega) (by omega) ht
  have M0 := st_M (k := g) (r := c / 8) (s := c % 8) (L := L) (c := t) hg4 hr (by omega) (by omega) ht el
  have M1 := st_M (k := g) (r := c / 8) (s := c % 8 + 1) (L := L) (c := t) hg4 hr (by omega) (by omega) ht el
  have M2 := st_M (k := g) (r := c / 8) (s := c % 8 + 2) (L := L) (c := t) hg4 hr (by omega) (by omega) ht el
  rw [← m3] at C0 M0
  rw [← m1] at C1 M1
  rw [← m2] at C2 M2
  obtain ⟨v0, C0, M0⟩ : ∃ v, f_P_strikes (nI (c / 8)) (nI (c % 8) - 1) (nI L) (nI t) = v ∧ f_M_strikes (nI g) (nI (c / 8)) (nI (c % 8) - 1) (nI t) b = some v := ⟨_, C0, M0⟩
  obtain ⟨v1, C1, M1⟩ : ∃ v, f_P_strikes (nI (c / 8)) (nI (c % 8)) (nI L) (nI t) = v ∧ f_M_strikes (nI g) (nI (c / 8)) (nI (c % 8)) (nI t) b = some v := ⟨_, C1, M1⟩
  obtain ⟨v2, C2, M2⟩ : ∃ v, f_P_strikes (nI (c / 8)) (nI (c % 8) + 1) (nI L) (nI t) = v ∧ f_M_strikes (nI g) (nI (c / 8)) (nI (c % 8) + 1) (nI t) b = some v := ⟨_, C2, M2⟩
  unfold f_P_sixteenthsOfStriking f_P_sixteenthsOfStriking_54 f_P_sixteenthsOfStriking_78 f_M_freesOf_58 f_M_freesOf_88
  rw [r0, bnd, t1, bnd, n_div8 hc, n_rem8 hc, C0, C1, C2, M0, M1, M2, bnd, bnd, bnd, h0.1]
  by_cases h1 : v0 = 0 <;> by_cases h2 : v1 = 0 <;> by_cases h3 : v2 = 0 <;> simp only [bnd, h1, h2, h3, if_true, if_false] <;> exact ⟨_, rfl, congrArg some (congrArg (· + _) (Int32.add_comm _ _))⟩
theorem q_frees {N : Nat} {a b : aT} {p q r : Int32} (hN : 10000 ≤ N) (h : Rel N a b) : ∃ v a' b', f_C_frees N p q r a = some (v, a') ∧ f_M_frees N p q r b = some (v, b') ∧ f_M_find N b = some ((), b') ∧ Rel N a' b' ∧ FA w_P_replayAll a a' := by
  obtain ⟨a', b', X, hX, e, k1, k2, k3, k4, k5⟩ := q_playAll hN h
  have a3 : a' 3 = a 3 := funext fun i => (r_P_replayAll N a _ _ k1) 3 i (nwc (by decide))
  have rel : Rel N a b' := h.fr (La := []) FA_rf (r_M_find N b _ _ k2) (by decide) (by decide)
  have fa := r_P_replayAll N a _ _ k1
  unfold f_C_frees f_M_frees
  rw [k1, k2, bnd, bnd]
  dsimp only
  by_cases c1 : p < 0 ∨ 4 ≤ p
  · rw [if_pos (blw.mpr c1), if_pos (four_0.mpr c1)]
    exact ⟨_, _, _, rfl, rfl, rfl, rel, FA_rf⟩
  rw [if_neg (mt blw.mp c1), if_neg (mt four_0.mp c1)]
  by_cases c2 : q < 0 ∨ 48 ≤ q
  · have x1 : f_E_isCell q a = some 0 := by unfold f_E_isCell; rw [if_pos (blw.mpr c2)]
    have x2 : f_M_isCell q b' = some 0 := by unfold f_M_isCell; rw [if_pos (min_47.mpr c2)]
    rw [x1, x2, bnd, bnd, if_pos rfl, if_pos rfl]
    exact ⟨_, _, _, rfl, rfl, rfl, rel, FA_rf⟩
  obtain ⟨g, hg4, rfl⟩ := nof (p := p) 4 (by decide) c1
  obtain ⟨c, hc, rfl⟩ := nof (p := q) 48 (by decide) c2
  rw [f_iscC hc, f_iscM k4.1 hc, bnd, bnd, a3]
  by_cases c3 : a 3 c = -2
  · rw [if_pos c3, if_pos rfl, if_pos rfl]
    exact ⟨_, _, _, rfl, rfl, rfl, rel, FA_rf⟩
  rw [if_neg c3, if_neg (show ¬ (1 : Int32) = 0 by decide), if_neg (show ¬ (1 : Int32) = 0 by decide)]
  by_cases c4 : r < 0 ∨ 4 ≤ r
  · rw [if_pos (blw.mpr c4), if_pos (four_0.mpr c4)]
    exact ⟨_, _, _, rfl, rfl, rfl, rel, FA_rf⟩
  rw [if_neg (mt blw.mp c4), if_neg (mt four_0.mp c4)]
  obtain ⟨o, ho, rfl⟩ := nof (p := r) 4 (by decide) c4
  unfold f_M_freesOf
  have hl := k5.2.1 o ho
  rw [f_lod ho, bnd, if_pos (inn ho (by decide)), ixn (by omega), hl.1]
  by_cases c5 : a' 16 o = -1
  · rw [if_pos c5, if_pos c5, bnd]
    exact ⟨_, _, _, rfl, rfl, rfl, k3, fa⟩
  rw [if_neg c5, if_neg c5]
  obtain ⟨t, ht, et⟩ := nofC (p := a' 16 o) 47 (by decide) (by grind) hl.2.2
  rw [et]
  obtain ⟨z, z1, z2⟩ := q_freesOf hg4 hc (show t < 48 by omega) k3
  rw [z1, z2, bnd, bnd]
  exact ⟨_, _, _, rfl, rfl, rfl, k3, fa⟩
