/-! one throw: which cells it strikes, who stands nearest -/
theorem cmp_lt : ∀ q, q < 8 → ∀ s, s < 10 → (nI q < nI s + (-1) ↔ q + 1 < s) := by decide
theorem cmp_le : ∀ q, q < 8 → ∀ s, s < 10 → ∀ L, L < 4 → (nI s + (-1) + nI L ≤ nI q ↔ s + L ≤ q + 1) := by decide
theorem cmp_hi : ∀ q, q < 8 → ∀ s, s < 10 → ∀ L, L < 4 → (nI s + (-1) + nI L - 1 < nI q ↔ s + L ≤ q + 1) := by decide
theorem n_div8 {c : Nat} (h : c < 48) : nI c / 8 = nI (c / 8) := pk_div (d := 8) (by omega) (by omega) (by omega)
theorem n_rem8 {c : Nat} (h : c < 48) : i_rem (nI c) 8 = nI (c % 8) := pk_rem (d := 8) (by omega) (by omega) (by omega)
theorem st_C {r s L c : Nat} (hr : r < 6) (hs : s < 10) (hL : L < 4) (hc : c < 48) : f_P_strikes (nI r) (nI s + (-1)) (nI L) (nI c) = if c / 8 = r ∧ s ≤ c % 8 + 1 ∧ c % 8 + 1 < s + L then 1 else 0 := by
  unfold f_P_strikes
  rw [n_div8 hc, n_rem8 hc]
  have q8 : c % 8 < 8 := Nat.mod_lt _ (by omega)
  have e1 := cmp_lt (c % 8) q8 s hs
  have e2 := cmp_le (c % 8) q8 s hs L hL
  by_cases h1 : c / 8 = r
  · rw [if_pos (by rw [h1])]
    by_cases h2 : c % 8 + 1 < s
    · rw [if_pos (e1.mpr h2), if_neg (by omega)]
    · rw [if_neg (mt e1.mp h2)]
      by_cases h3 : s + L ≤ c % 8 + 1
      · rw [if_pos (e2.mpr h3), if_neg (by omega)]
      · rw [if_neg (mt e2.mp h3), if_pos (by omega)]
  · rw [if_neg (fun q => h1 ((nI_eq (by omega) (by omega)).mp q)), if_neg (fun q => h1 q.1)]
theorem st_M {b : aT} {k r s L c : Nat} (hk : k < 4) (hr : r < 6) (hs : s < 10) (hL : L < 4) (hc : c < 48) (hb : b 40 k = nI L) : f_M_strikes (nI k) (nI r) (nI s + (-1)) (nI c) b = some (if c / 8 = r ∧ s ≤ c % 8 + 1 ∧ c % 8 + 1 < s + L then 1 else 0) := by
  unfold f_M_strikes
  rw [n_div8 hc, n_rem8 hc, if_pos (inn hk (by decide)), ixn (by omega), hb]
  have q8 : c % 8 < 8 := Nat.mod_lt _ (by omega)
  have e1 := cmp_lt (c % 8) q8 s hs
  have e2 := cmp_hi (c % 8) q8 s hs L hL
  have e3 := min_0 (p := nI (c % 8)) (lo := nI s + (-1)) (hi := nI s + (-1) + nI L - 1) rfl rfl
  by_cases h1 : c / 8 = r
  · rw [if_pos (by rw [h1])]
    by_cases h2 : c % 8 + 1 < s
    · rw [if_pos (e3.mpr (Or.inl (e1.mpr h2))), if_neg (by omega)]
    · by_cases h3 : s + L ≤ c % 8 + 1
      · rw [if_pos (e3.mpr (Or.inr (e2.mpr h3))), if_neg (by omega)]
      · rw [if_neg (fun q => (e3.mp q).elim (mt e1.mp h2) (mt e2.mp h3)), if_pos (by omega)]
  · rw [if_neg (fun q => h1 ((nI_eq (by omega) (by omega)).mp q)), if_neg (fun q => h1 q.1)]
theorem ab_ap {u v : Int32} (h1 : 0 ≤ u) (h2 : u ≤ 7) (h3 : 0 ≤ v) (h4 : v ≤ 7) : f_J_abs (u - v) = f_M_apart u v := by
  unfold f_J_abs f_M_apart
  grind
theorem l_near {N : Nat} {a b : aT} (h : Rel N a b) (q : Nat) (hq : q < 8) : ∀ (n j k : Nat), k < 4 → j ≤ 4 → 4 - j < n → ∃ z, z < 4 ∧ f_K_nearest_4 N a n (nI q) (nI k) (nI j) = some (nI z) ∧ f_M_whose_17 N b n (nI q) (nI k) (nI j) = some (nI z) := by
  intro n
  induction n with
  | zero => intro j k h1 h2 h3; omega
  | succ n ih =>
    intro j k h1 h2 h3
    unfold f_K_nearest_4 f_M_whose_17
    by_cases hj : j = 4
    · subst hj
      rw [if_pos (show 4 ≤ nI 4 from by decide), if_pos (show 4 ≤ nI 4 from by decide)]
      exact ⟨k, h1, rfl, rfl⟩
    · have hk := h.ki k h1
      have hj4 := h.ki j (by omega)
      have q0 : (0 : Int32) ≤ nI q := nI_pos' (by omega)
      have q7 : nI q ≤ 7 := nI_le (b := 7) (by omega) (by decide)
      rw [if_neg (show ¬ 4 ≤ nI j from nI_ge (b := 4) (by omega) (by decide)), if_neg (show ¬ 4 ≤ nI j from nI_ge (b := 4) (by omega) (by decide)), if_pos (inn (show j < 4 by omega) (by decide)), if_pos (inn (show j < 4 by omega) (by decide)), if_pos (inn h1 (by decide)), if_pos (inn h1 (by decide)), ixn (show k < 2 ^ 31 by omega), ixn (show j < 2 ^ 31 by omega), hk.1, hj4.1,
        ab_ap hk.2.1 hk.2.2 q0 q7, ab_ap hj4.2.1 hj4.2.2 q0 q7, np1]
      by_cases c : f_M_apart (a 9 k) (nI q) ≤ f_M_apart (a 9 j) (nI q)
      · rw [if_pos c, if_pos c]
        exact ih (j + 1) k h1 (by omega) (by omega)
      · rw [if_neg c, if_neg c]
        exact ih (j + 1) j (by omega) (by omega) (by omega)
/-- what a ball hangs on, in the reference -/
theorem hg_M {v d : Int32} (h : 0 ≤ v) : hg v d = f_M_hangsIn v d := by
  unfold hg f_M_hangsIn f_J_max f_M_greater
  grind
theorem hg_0 {v d : Int32} (h : 0 ≤ v) : 0 ≤ hg v d := by
  unfold hg f_J_max
  grind
