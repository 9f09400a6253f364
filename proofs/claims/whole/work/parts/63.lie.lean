/-! how many lie there in the morning -/
theorem l_pow {N x k : Nat} (hk : k ≤ 12) : ∀ (n j : Nat), j ≤ k → k - j < n → f_C_power_5 N n (lN x) (nI k) (lN (x ^ j)) (nI j) = some (lN (x ^ k)) := by
  intro n
  induction n with
  | zero => intro j h1 h2; omega
  | succ n ih =>
    intro j h1 h2
    unfold f_C_power_5
    by_cases hj : j = k
    · subst hj
      rw [if_pos (nI_le (Nat.le_refl _) (by omega))]
    · rw [if_neg (nI_ge (by omega) (by omega)), lN_mul, np1, ← Nat.pow_succ]
      exact ih (j + 1) (by omega) (by omega)
theorem f_pow {N x k : Nat} (hN : 10000 ≤ N) (hk : k ≤ 12) : f_C_power N (lN x) (nI k) = some (lN (x ^ k)) := l_pow hk N 0 (by omega) (by omega)
theorem l_nights {N c D : Nat} {a b : aT} (hR : Rel N a b) (h : PC a b) (hc : c < 48) (hD : D ≤ 12) (h0 : 0 ≤ a 3 c) : ∀ (n j m : Nat), j ≤ D → D - j < n → ∃ z, z ≤ m + (D - j) ∧ f_S_nightsInDanger_6 N a n (nI c) (nI D) (a 7 4) (nI m) (nI j) = some (nI z) ∧ f_M_nights_5 N b n (nI c) (nI D) (nI m) (nI j) = some (nI z) := by
  have h38 : b 38 c = a 3 c := by
    have := (h c hc).2.2.2
    rw [if_neg (by grind)] at this
    exact this
  have hn1 : ¬ a 3 c = -1 := by grind
  intro n
  induction n with
  | zero => intro j m h1 h2; omega
  | succ n ih =>
    intro j m h1 h2
    unfold f_S_nightsInDanger_6 f_M_nights_5
    by_cases hj : j = D
    · subst hj
      rw [if_pos (nI_le (Nat.le_refl _) (by omega)), if_pos (nI_le (Nat.le_refl _) (by omega))]
      exact ⟨m, by omega, rfl, rfl⟩
    · rw [if_neg (nI_ge (by omega) (by omega)), if_neg (nI_ge (by omega) (by omega)), f_hon hc h0, bnd, if_pos (inn hc (by decide)), if_pos (inn hc (by decide)), ixn (by omega), h38, if_neg hn1, (hR.ru 4 (by omega)).1, ← hg_M h0, Int32.add_zero, np1, np1]
      by_cases q : a 7 4 ≤ hg (a 3 c) (nI j)
      · rw [if_pos q, if_pos q]
        obtain ⟨z, y0, y1, y2⟩ := ih (j + 1) m (by omega) (by omega)
        exact ⟨z, by omega, y1, y2⟩
      · rw [if_neg q, if_neg q]
        obtain ⟨z, y0, y1, y2⟩ := ih (j + 1) (m + 1) (by omega) (by omega)
        exact ⟨z, by omega, y1, y2⟩
theorem l_nonight {N c D : Nat} {a b : aT} (h : PC a b) (hc : c < 48) (hD : D ≤ 12) (h0 : a 3 c < 0) : ∀ (n j : Nat), j ≤ D → D - j < n → f_M_nights_5 N b n (nI c) (nI D) 0 (nI j) = some 0 := by
  have h38 : b 38 c = -1 := by
    have := (h c hc).2.2.2
    rw [if_pos h0] at this
    exact this
  intro n
  induction n with
  | zero => intro j h1 h2; omega
  | succ n ih =>
    intro j h1 h2
    unfold f_M_nights_5
    by_cases hj : j = D
    · subst hj
      rw [if_pos (nI_le (Nat.le_refl _) (by omega))]
    · rw [if_neg (nI_ge (by omega) (by omega)), if_pos (inn hc (by decide)), ixn (by omega), h38, if_pos rfl, Int32.add_zero, np1]
      exact ih (j + 1) (by omega) (by omega)
theorem p48 {D : Nat} (hD : D ≤ 12) : 16 ^ D ≤ 281474976710656 := by
  have : 16 ^ D ≤ 16 ^ 12 := Nat.pow_le_pow_right (by omega) hD
  exact Nat.le_trans this (by decide)
theorem pst {o D k : Nat} (ho : o ≤ 16) (hk : k ≤ D) : 16 ^ (D - k) * o ^ k ≤ 16 ^ D := by
  have h1 : o ^ k ≤ 16 ^ k := Nat.pow_le_pow_left ho k
  have h2 : 16 ^ (D - k) * o ^ k ≤ 16 ^ (D - k) * 16 ^ k := Nat.mul_le_mul (Nat.le_refl _) h1
  rw [← Nat.pow_add, show D - k + k = D by omega] at h2
  exact h2
/-- a cell's share, by the reference's halving of what stays -/
theorem l_stays {N o D z : Nat} {b : aT} {k31 : Int32 → Int32 → Int64 → Int64 → Int32 → Option Int64} {w c : Int32} {S : Int64} (hD : D ≤ 12) (hz : z ≤ D) (ho : o ≤ 16) (eo : (16 : Int32) - b 42 5 = nI o) : ∀ (n k : Nat), k ≤ z → z - k < n → f_M_lieOf_54 N b k31 n (nI D) w S (lN (16 ^ D)) c (nI z) (lN (16 ^ (D - k) * o ^ k)) (nI k) = k31 (nI D) w (S + (lN (16 ^ D) - lN (16 ^ (D - z) * o ^ z))) (lN (16 ^ D)) (c + 1) := by
  intro n
  induction n with
  | zero => intro k h1 h2; omega
  | succ n ih =>
    intro k h1 h2
    unfold f_M_lieOf_54
    by_cases hj : k = z
    · subst hj
      rw [if_pos (nI_le (Nat.le_refl _) (by omega))]
    · have hp := pst (o := o) (D := D) (k := k) ho (by omega)
      have hq := p48 hD
      have e1 : 16 ^ (D - k) = 16 * 16 ^ (D - (k + 1)) := by
        rw [← Nat.pow_succ', show (D - (k + 1)).succ = D - k by omega]
      have e2 : lN (16 ^ (D - k) * o ^ k) / 16 * (16 - b 42 5).toInt64 = lN (16 ^ (D - (k + 1)) * o ^ (k + 1)) := by
        rw [show (16 : Int64) = lN 16 from rfl, pk_lDiv (by omega) (by omega) (by omega), eo, nI_l (by omega), lN_mul, e1, Nat.mul_assoc, Nat.mul_div_cancel_left _ (by omega), Nat.pow_succ, Nat.mul_assoc]
      rw [if_neg (nI_ge (by omega) (by omega)), e2, np1]
      exact ih (k + 1) (by omega) (by omega)
theorem l_lie {N od D : Nat} {a b : aT} {w : Int32} (hN : 10000 ≤ N) (hR : Rel N a b) (h : PC a b) (hD : D ≤ 12) (ho : od ≤ 16) (eo : a 7 5 = nI od) : ∀ (d n1 n2 c S : Nat), 48 - c = d → c ≤ 48 → d < n1 → d < n2 → ∃ S', S' ≤ S + d * 281474976710656 ∧ f_S_fallenTimesPower_15 N a n1 (nI D) (a 7 4) (nI od) (lN (16 ^ D)) (lN S) (nI c) = some (lN S') ∧ f_M_lieOf_31 N b n2 (nI D) w (lN S) (lN (16 ^ D)) (nI c) = f_M_part N (lN S') (lN (16 ^ D)) w := by
  have hq := p48 hD
  have e16 : (16 : Int32) - nI od = nI (16 - od) := pk_sub (a := 16) ho
  have eb : (16 : Int32) - b 42 5 = nI (16 - od) := by rw [(hR.ru 5 (by omega)).1, eo, e16]
  intro d
  induction d with
  | zero =>
    intro n1 n2 c S h1 h2 h3 h4
    have ec : c = 48 := by omega
    subst ec
    obtain ⟨n1, rfl⟩ : ∃ k, n1 = k + 1 := ⟨n1 - 1, by omega⟩
    obtain ⟨n2, rfl⟩ : ∃ k, n2 = k + 1 := ⟨n2 - 1, by omega⟩
    refine ⟨S, by omega, ?_, ?_⟩
    · unfold f_S_fallenTimesPower_15
      rw [if_pos (show 48 ≤ nI 48 by decide)]
    · unfold f_M_lieOf_31
      rw [if_pos (show 48 ≤ nI 48 by decide)]
      cases f_M_part N (lN S) (lN (16 ^ D)) w <;> rfl
  | succ d ih =>
    intro n1 n2 c S h1 h2 h3 h4
    obtain ⟨n1, rfl⟩ : ∃ k, n1 = k + 1 := ⟨n1 - 1, by omega⟩
    obtain ⟨n2, rfl⟩ : ∃ k, n2 = k + 1 := ⟨n2 - 1, by omega⟩
    have hc : c < 48 := by omega
    have e1 : ¬ 48 ≤ nI c := nI_ge (b := 48) (by omega) (by decide)
    unfold f_S_fallenTimesPower_15 f_M_lieOf_31
    rw [if_neg e1, if_neg e1, f_ball hc, bnd]
    by_cases q : a 3 c < 0
    · have en : f_M_nights N (nI c) (nI D) b = some (nI 0) := l_nonight (N := N) h hc hD q N 0 (by omega) (by omega)
      have es := l_stays (N := N) (b := b) (k31 := f_M_lieOf_31 N b n2) (w := w) (c := nI c) (S := lN S) (z := 0) hD (by omega) (show 16 - od ≤ 16 by omega) eb N 0 (by omega) (by omega)
      rw [Nat.sub_zero, Nat.pow_zero, Nat.mul_one] at es
      obtain ⟨S', y0, y1, y2⟩ := ih n1 n2 (c + 1) S (by omega) (by omega) (by omega) (by omega)
      have ez : lN S + (lN (16 ^ D) - lN (16 ^ D)) = lN S := by rw [lN_sub (Nat.le_refl _), Nat.sub_self, lN_add]; rfl
      have y3 : S' ≤ S + (d + 1) * 281474976710656 := by
        rw [Nat.add_mul]
        exact Nat.le_trans y0 (Nat.add_le_add_left (Nat.le_add_right _ _) _)
      rw [if_pos q, if_pos rfl, en, bnd, np1]
      refine ⟨S', y3, y1, ?_⟩
      refine Eq.trans es ?_
      rw [ez, np1]
      exact y2
    · obtain ⟨z, hz, z1, z2⟩ := l_nights (N := N) hR h hc hD (by grind) N 0 0 (by omega) (by omega)
      have hzD : z ≤ D := by omega
      have en : f_S_nightsInDanger N (nI c) (nI D) (a 7 4) a = some (nI z) := z1
      have em : f_M_nights N (nI c) (nI D) b = some (nI z) := z2
      have es := l_stays (N := N) (b := b) (k31 := f_M_lieOf_31 N b n2) (w := w) (c := nI c) (S := lN S) (z := z) hD hzD (show 16 - od ≤ 16 by omega) eb N 0 (by omega) (by omega)
      rw [Nat.sub_zero, Nat.pow_zero, Nat.mul_one] at es
      have hp := pst (o := 16 - od) (D := D) (k := z) (by omega) hzD
      have ez : lN S + (lN (16 ^ D) - lN (16 ^ (D - z) * (16 - od) ^ z)) = lN (S + (16 ^ D - 16 ^ (D - z) * (16 - od) ^ z)) := by rw [lN_sub hp, lN_add]
      obtain ⟨S', y0, y1, y2⟩ := ih n1 n2 (c + 1) (S + (16 ^ D - 16 ^ (D - z) * (16 - od) ^ z)) (by omega) (by omega) (by omega) (by omega)
      have p1 : f_C_power N (16 - nI od).toInt64 (nI z) = some (lN ((16 - od) ^ z)) := by rw [e16, nI_l (by omega)]; exact f_pow hN (by omega)
      have p2 : f_C_power N 16 (nI D - nI z) = some (lN (16 ^ (D - z))) := by rw [pk_sub hzD]; exact f_pow (x := 16) hN (by omega)
      rw [if_neg q, if_neg (show ¬ (1 : Int32) = 0 by decide), en, em, bnd, bnd, p1, bnd, p2, bnd, lN_mul, Nat.mul_comm ((16 - od) ^ z), ez, np1]
      refine ⟨S', by omega, y1, ?_⟩
      refine Eq.trans es ?_
      rw [ez, np1]
      exact y2
theorem l_lie8 {N D : Nat} {b : aT} {w : Int32} (hD : D ≤ 12) : ∀ (n j : Nat), j ≤ D → D - j < n → f_M_lieOf_8 N b n (nI D) w 0 (lN (16 ^ j)) (nI j) = f_M_lieOf_31 N b N (nI D) w 0 (lN (16 ^ D)) 0 := by
  intro n
  induction n with
  | zero => intro j h1 h2; omega
  | succ n ih =>
    intro j h1 h2
    unfold f_M_lieOf_8
    by_cases hj : j = D
    · subst hj
      rw [if_pos (nI_le (Nat.le_refl _) (by omega))]
    · rw [if_neg (nI_ge (by omega) (by omega)), show (16 : Int64) = lN 16 from rfl, lN_mul, ← Nat.pow_succ, np1]
      exact ih (j + 1) (by omega) (by omega)
theorem q_lieOf {N D k : Nat} {a b : aT} (hN : 2 ^ 49 ≤ N) (hR : Rel N a b) (h : PC a b) (hD : D ≤ 12) (hk : k < 2) : ∃ z, f_C_lie N (nI D) (nI k) a = some z ∧ f_M_lieOf N (nI D) (nI k) b = some z := by
  have hN1 : 10000 ≤ N := by omega
  have h5 := hR.ru 5 (by omega)
  obtain ⟨od, ho, eo⟩ := nofC (p := a 7 5) 16 (by decide) h5.2.1 h5.2.2
  obtain ⟨S, y0, y1, y2⟩ := l_lie (N := N) (w := nI k) hN1 hR h hD ho eo 48 N N 0 0 (by omega) (by omega) (by omega) (by omega)
  have hp : 16 ^ D = 2 ^ (4 * D) := by rw [Nat.pow_mul]
  have e8 : f_M_lieOf N (nI D) (nI k) b = f_M_part N (lN S) (lN (2 ^ (4 * D))) (nI k) := by
    rw [← hp]
    exact (l_lie8 (N := N) (b := b) (w := nI k) hD N 0 (by omega) (by omega)).trans y2
  have ef : f_S_fallenTimesPower N (nI D) (a 7 4) (a 7 5) a = some (lN S) := by
    unfold f_S_fallenTimesPower
    have : f_C_power N 16 (nI D) = some (lN (16 ^ D)) := f_pow (x := 16) hN1 hD
    rw [this, bnd, eo]
    exact y1
  have ep : f_C_power N 16 (nI D) = some (lN (2 ^ (4 * D))) := by rw [← hp]; exact f_pow (x := 16) hN1 hD
  have r4 : f_R_now 4 a = some (a 7 4) := f_rnow (k := 4) (by omega)
  have r5 : f_R_now 5 a = some (a 7 5) := f_rnow (k := 5) (by omega)
  obtain ⟨z, z1, z2⟩ := q_part (N := N) (A := S) (k := 4 * D) (u := nI k) (w := nI k) hN (by omega) (by omega) Iff.rfl
  refine ⟨z, ?_, e8.trans z2⟩
  unfold f_C_lie
  rw [if_neg (nI_pos (by omega)), if_neg (show ¬ 12 < nI D from nI_nlt (b := D) (a := 12) hD (by decide)), if_neg (show ¬ f_C_isBelow (nI k) 2 = 0 from mt blw.mp (nlt4 (n := 2) (L := 2) rfl (by decide) hk)), r4, bnd, r5, bnd, ef, bnd, ep, bnd]
  rcases k with _ | _ | k
  · rw [if_neg (show ¬ nI 0 = 1 by decide), show (0 : Int32) = nI 0 from rfl, z1, bnd]
  · rw [if_pos (show nI (0 + 1) = 1 by decide), show (1 : Int32) = nI (0 + 1) from rfl, z1, bnd]
  · omega
theorem min_12 {p : Int32} : f_M_in p.toInt64 0 12 = 0 ↔ (p < 0 ∨ 12 < p) := min_0 (lo := 0) (hi := 12) (by decide) (by decide)
theorem q_lie {N : Nat} {a b : aT} {p q : Int32} (hN : 2 ^ 49 ≤ N) (h : Rel N a b) : ∃ r b', f_C_lie N p q a = some r ∧ f_M_lie N p q b = some (r, b') ∧ Rel N a b' := by
  obtain ⟨b', k1, k2, k3⟩ := q_reads h
  have no2 : f_M_no (-2) = -9223372036854775806 := by decide
  unfold f_M_lie
  rw [k1, bnd, no2]
  dsimp only
  by_cases c1 : p < 0 ∨ 12 < p
  · rw [if_pos (min_12.mpr c1)]
    refine ⟨_, _, ?_, rfl, k2⟩
    unfold f_C_lie
    by_cases c2 : p < 0
    · rw [if_pos c2]
    · rw [if_neg c2, if_pos (by grind)]
  rw [if_neg (mt min_12.mp c1)]
  by_cases c2 : q < 0 ∨ 2 ≤ q
  · rw [if_pos (two_0.mpr c2)]
    refine ⟨_, _, ?_, rfl, k2⟩
    unfold f_C_lie
    rw [if_neg (by grind), if_neg (by grind), if_pos (blw.mpr c2)]
  rw [if_neg (mt two_0.mp c2)]
  obtain ⟨D, hD, rfl⟩ := nofC (p := p) 12 (by decide) (by grind) (by have : nI 12 = 12 := rfl; grind)
  obtain ⟨k, hk, rfl⟩ := nof (p := q) 2 (by decide) c2
  obtain ⟨z, z1, z2⟩ := q_lieOf hN k2 k3 hD hk
  rw [z1, z2, bnd]
  exact ⟨_, _, rfl, rfl, k2⟩
