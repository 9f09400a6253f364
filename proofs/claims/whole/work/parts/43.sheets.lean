/-! the sheets -/
theorem Rel.ofSheets {N : Nat} {a b a' b' : aT} (h : Rel N a b) (ha : ∀ c i, c ≠ 28 → c ≠ 29 → c ≠ 30 → a' c i = a c i) (hb : ∀ c i, c ≠ 32 → c ≠ 33 → c ≠ 34 → c ≠ 35 → b' c i = b c i)
    (fo : ∀ s, s < 4 → b' 32 s = a' 28 s ∧ -1 ≤ a' 28 s ∧ a' 28 s ≤ 2)
    (si : ∀ s, s < 4 → a' 28 s ≠ -1 → b' 33 s = a' 29 s ∧ 0 ≤ a' 29 s ∧ a' 29 s ≤ 60)
    (it : ∀ s, s < 4 → a' 28 s ≠ -1 → ∀ i, i < 60 → nI i < a' 29 s → b' 34 (60 * s + i) = a' 30 (60 * s + i) ∧ f_H_lowestBits (a' 28 s) (a' 30 (60 * s + i)) = a' 30 (60 * s + i)) : Rel N a' b' := by
  have ea : ∀ c, c ≠ 28 → c ≠ 29 → c ≠ 30 → a' c = a c := fun c h1 h2 h3 => funext fun i => ha c i h1 h2 h3
  have eb : ∀ c, c ≠ 32 → c ≠ 33 → c ≠ 34 → c ≠ 35 → b' c = b c := fun c h1 h2 h3 h4 => funext fun i => hb c i h1 h2 h3 h4
  obtain ⟨g_len, g_len0, g_len1, g_txt, g_par, g_sh, g_sl, g_so, g_ru, g_sd, g_ki, g_thn, g_thn0, g_thn1, g_th, g_twn, g_twn0, g_twn1, g_tw, g_sgn, g_sgn0, g_sgn1, g_sg, g_fo, g_si, g_it, g_la⟩ := h
  refine ⟨?_, ?_, ?_, ?_, ?_, ?_, ?_, ?_, ?_, ?_, ?_, ?_, ?_, ?_, ?_, ?_, ?_, ?_, ?_, ?_, ?_, ?_, ?_, ?_, ?_, ?_, ?_⟩ <;> (try simp only [ea, eb, ne_eq, not_false_eq_true, Nat.reduceEqDiff]) <;> assumption
theorem low_cut (f x : Int32) : f_M_cut f x = f_H_lowestBits f x := rfl
theorem low_low (f x : Int32) : f_H_lowestBits f (f_H_lowestBits f x) = f_H_lowestBits f x := by
  unfold f_H_lowestBits
  by_cases h : f = 0
  · simp only [if_pos h]; simp
  by_cases h2 : f = 1
  · simp only [if_neg h, if_pos h2]; simp
  simp only [if_neg h, if_neg h2]
theorem low_0 (f : Int32) : f_H_lowestBits f 0 = 0 := by
  unfold f_H_lowestBits
  by_cases h : f = 0
  · simp only [if_pos h]; decide
  by_cases h2 : f = 1
  · simp only [if_neg h, if_pos h2]; decide
  simp only [if_neg h, if_neg h2]
theorem l_new (N : Nat) : ∀ (n s j : Nat) (a : aT), s < 4 → j ≤ 60 → 60 - j < n → ∃ a', f_H_makeNew_35 N n (nI s) (nI j) a = some ((), a') ∧ ∀ c i, a' c i = if c = 30 ∧ 60 * s + j ≤ i ∧ i < 60 * s + 60 then 0 else a c i := by
  intro n
  induction n with
  | zero => intro s j a h1 h2 h3; omega
  | succ n ih =>
    intro s j a h1 h2 h3
    unfold f_H_makeNew_35
    by_cases hj : j = 60
    · subst hj
      rw [if_pos (show 60 ≤ nI 60 from by decide)]
      refine ⟨a, rfl, fun c i => ?_⟩
      rw [if_neg (by omega)]
    · rw [if_neg (show ¬ 60 ≤ nI j from nI_ge (b := 60) (by omega) (by decide))]
      simp only [n60, nI_add, np1]
      rw [if_pos (inn (by omega) (by decide)), ixn (by omega)]
      obtain ⟨a', h4, h5⟩ := ih s (j + 1) (upA a 30 (60 * s + j) 0) h1 (by omega) (by omega)
      refine ⟨a', h4, fun c i => ?_⟩
      rw [h5, upA_get]
      grind
theorem l_newM (N : Nat) (m : Nat) (hm : m ≤ 60) : ∀ (n s j : Nat) (a : aT), s < 4 → j ≤ m → m - j < n → ∃ a', f_M_sheet_55 N n (nI s) (nI m) (nI j) a = some (nI m, a') ∧ ∀ c i, a' c i = if c = 34 ∧ 60 * s + j ≤ i ∧ i < 60 * s + m then 0 else a c i := by
  intro n
  induction n with
  | zero => intro s j a h1 h2 h3; omega
  | succ n ih =>
    intro s j a h1 h2 h3
    unfold f_M_sheet_55
    by_cases hj : j = m
    · subst hj
      rw [if_pos (nI_le (Nat.le_refl _) (by omega))]
      refine ⟨a, rfl, fun c i => ?_⟩
      rw [if_neg (by omega)]
    · rw [if_neg (nI_ge (by omega) (by omega))]
      simp only [n60, nI_add, np1]
      rw [if_pos (inn (by omega) (by decide)), ixn (by omega)]
      obtain ⟨a', h4, h5⟩ := ih s (j + 1) (upA a 34 (60 * s + j) 0) h1 (by omega) (by omega)
      refine ⟨a', h4, fun c i => ?_⟩
      rw [h5, upA_get]
      grind
theorem q_met {N : Nat} {a b : aT} (p : Int32) (h : Rel N a b) : Rel N (upA a 27 3 p) (upA b 31 4 p) := by
  obtain ⟨g_len, g_len0, g_len1, g_txt, g_par, g_sh, g_sl, g_so, g_ru, g_sd, g_ki, g_thn, g_thn0, g_thn1, g_th, g_twn, g_twn0, g_twn1, g_tw, g_sgn, g_sgn0, g_sgn1, g_sg, g_fo, g_si, g_it, g_la⟩ := h
  refine ⟨?_, ?_, ?_, ?_, ?_, ?_, ?_, ?_, ?_, ?_, ?_, ?_, ?_, ?_, ?_, ?_, ?_, ?_, ?_, ?_, ?_, ?_, ?_, ?_, ?_, ?_, ?_⟩ <;> (try simp only [upA_get, upA_ne, reduceIte, Nat.reduceEqDiff, ne_eq, not_false_eq_true]) <;> first | assumption | skip
theorem q_sheet {N : Nat} {a b : aT} {p q r : Int32} (hN : 10000 ≤ N) (h : Rel N a b) : Same N (f_C_sheet N p q r a) (f_M_sheet N p q r b) := by
  unfold f_C_sheet f_M_sheet
  simp only [blw, sheet_0, min_2]
  by_cases h1 : p < 0 ∨ 4 ≤ p
  · simp only [if_pos h1]
    exact ⟨_, _, _, rfl, rfl, h⟩
  simp only [if_neg h1]
  by_cases h2 : q < 0 ∨ 3 ≤ q
  · simp only [if_pos h2]
    exact ⟨_, _, _, rfl, rfl, h⟩
  simp only [if_neg h2]
  by_cases h3 : r ≤ 60
  · simp only [if_pos h3]
    by_cases h4 : 0 ≤ r
    · simp only [if_pos h4]
      unfold f_H_makeNew
      simp only [blw, if_neg h1, if_neg (show ¬ r < 0 by grind), if_neg (show ¬ 60 < r by grind)]
      obtain ⟨s, hs, rfl⟩ := nof 4 (by decide) h1
      obtain ⟨m, hm, rfl⟩ := nofC 60 (by decide) h4 h3
      simp only [if_pos (inn hs (by decide)), ixn (show s < 2 ^ 31 by omega)]
      obtain ⟨a', e1, e2⟩ := l_new N N s 0 (upA (upA a 28 s q) 29 s (nI m)) hs (by omega) (by omega)
      obtain ⟨b', e3, e4⟩ := l_newM N m hm N s 0 (upA (upA b 32 s q) 33 s (nI m)) hs (by omega) (by omega)
      rw [show (0 : Int32) = nI 0 from rfl, e1, e3]
      refine ⟨_, _, _, rfl, rfl, h.ofSheets ?_ ?_ ?_ ?_ ?_⟩
      · intro c i c1 c2 c3
        simp only [e2, upA_get]
        grind
      · intro c i c1 c2 c3 c4
        simp only [e4, upA_get]
        grind
      · intro t ht
        simp only [e2, e4, upA_get]
        have := h.fo t ht
        grind
      · intro t ht
        simp only [e2, e4, upA_get]
        have := h.si t ht
        grind
      · intro t ht c1 i hi c2
        simp only [e2, e4, upA_get, reduceIte, Nat.reduceEqDiff, false_and, true_and] at c1 c2 ⊢
        by_cases e : t = s
        · subst e
          simp only [reduceIte] at c1 c2 ⊢
          have := (nI_ltI (by omega) (by omega)).mp c2
          rw [if_pos (by omega), if_pos (by omega)]
          exact ⟨rfl, low_0 _⟩
        · simp only [if_neg e] at c1 c2 ⊢
          rw [if_neg (by omega), if_neg (by omega)]
          exact h.it t ht c1 i hi c2
    · simp only [if_neg h4]
      exact ⟨_, _, _, rfl, rfl, q_met 5 h⟩
  · simp only [if_neg h3]
    exact ⟨_, _, _, rfl, rfl, h⟩
theorem q_lose {N : Nat} {a b : aT} {p : Int32} (h : Rel N a b) : Same N (f_C_lose p a) (f_M_lose p b) := by
  unfold f_C_lose f_M_lose f_H_isLost f_H_formOf f_H_makeLost f_H_sizeOf
  simp only [blw, sheet_0]
  by_cases h1 : p < 0 ∨ 4 ≤ p
  · simp only [if_pos h1]
    exact ⟨_, _, _, rfl, rfl, h⟩
  simp only [if_neg h1]
  obtain ⟨s, hs, rfl⟩ := nof 4 (by decide) h1
  simp only [if_pos (inn hs (show 4 ≤ 2 ^ 31 by decide)), ixn (show s < 2 ^ 31 by omega), Option.bind_some]
  have hf := h.fo s hs
  by_cases h2 : a 28 s = -1
  · simp only [if_pos h2, if_neg (show ¬ 0 ≤ b 32 s by grind), Option.bind_some, if_neg (show ¬ (1 : Int32) = 0 by decide)]
    exact ⟨_, _, _, rfl, rfl, q_met 1 h⟩
  · simp only [if_neg h2, if_pos (show 0 ≤ b 32 s by grind), Option.bind_some, reduceIte]
    refine ⟨_, _, _, rfl, by rw [(h.si s hs h2).1], h.ofSheets ?_ ?_ ?_ ?_ ?_⟩
    · intro c i c1 c2 c3
      simp only [upA_get]
      grind
    · intro c i c1 c2 c3 c4
      simp only [upA_get]
      grind
    · intro t ht
      simp only [upA_get]
      have := h.fo t ht
      grind
    · intro t ht
      simp only [upA_get]
      have := h.si t ht
      grind
    · intro t ht
      simp only [upA_get, reduceIte, Nat.reduceEqDiff]
      by_cases e : t = s
      · subst e
        simp only [reduceIte]
        intro q
        exact absurd rfl q
      · simp only [if_neg e]
        exact h.it t ht
def w_why (a : aT) (s : Nat) (q r : Int32) : Int32 := if a 28 s = -1 then 1 else if a 28 s = q then (if r < 0 ∨ a 29 s ≤ r then 2 else 0) else 3
theorem w_C {a : aT} {s : Nat} {q r : Int32} (hs : s < 4) : f_H_whyNot (nI s) q r a = some (w_why a s q r) := by
  have h1 : ¬ (nI s < 0 ∨ 4 ≤ nI s) := by
    intro q
    rcases q with q | q
    · exact nI_pos (by omega) q
    · exact nI_ge (a := s) (b := 4) hs (by decide) q
  unfold f_H_whyNot f_H_isLost f_H_formOf f_H_sizeOf w_why
  simp only [blw, if_neg h1, if_pos (inn hs (show 4 ≤ 2 ^ 31 by decide)), ixn (show s < 2 ^ 31 by omega), Option.bind_some]
  by_cases h2 : a 28 s = -1
  · simp only [if_pos h2, Option.bind_some, if_neg (show ¬ (1 : Int32) = 0 by decide)]
  · simp only [if_neg h2, Option.bind_some, reduceIte]
    by_cases h3 : a 28 s = q
    · simp only [if_pos h3]
      by_cases h4 : r < 0 ∨ a 29 s ≤ r
      · simp only [if_pos h4]
      · simp only [if_neg h4]
    · simp only [if_neg h3]
theorem w_M {N : Nat} {a b : aT} {s : Nat} {q r : Int32} (h : Rel N a b) (hs : s < 4) : f_M_lacks (nI s) q r b = if w_why a s q r = 0 then some (0, b) else some (-10 - w_why a s q r, upA b 31 4 (w_why a s q r)) := by
  unfold f_M_lacks w_why f_M_met
  simp only [min_g, if_pos (inn hs (show 4 ≤ 2 ^ 31 by decide)), ixn (show s < 2 ^ 31 by omega), Option.bind_some]
  have hf := h.fo s hs
  by_cases h2 : a 28 s = -1
  · simp only [if_pos h2, if_neg (show ¬ 0 ≤ b 32 s by grind), if_neg (show ¬ (1 : Int32) = 0 by decide)]
  · simp only [if_neg h2, if_pos (show 0 ≤ b 32 s by grind)]
    have hz := h.si s hs h2
    by_cases h3 : a 28 s = q
    · simp only [if_pos h3, if_pos (show b 32 s = q by grind)]
      by_cases h4 : r < 0 ∨ a 29 s ≤ r
      · simp only [if_pos h4, if_pos (show r < 0 ∨ b 33 s - 1 < r by grind), if_neg (show ¬ (2 : Int32) = 0 by decide)]
      · simp only [if_neg h4, if_neg (show ¬ (r < 0 ∨ b 33 s - 1 < r) by grind), reduceIte]
    · simp only [if_neg h3, if_neg (show ¬ b 32 s = q by grind), if_neg (show ¬ (3 : Int32) = 0 by decide)]
theorem w_0 {a : aT} {s : Nat} {q r : Int32} (h : w_why a s q r = 0) : a 28 s ≠ -1 ∧ a 28 s = q ∧ 0 ≤ r ∧ r < a 29 s := by
  unfold w_why at h
  grind
theorem w_n {a : aT} {s : Nat} {q r : Int32} (h : ¬ w_why a s q r = 0) : ¬ -10 - w_why a s q r = 0 := by
  unfold w_why at *
  grind
theorem f_put {a : aT} {s k : Nat} {v : Int32} (hs : s < 4) (hk : k < 60) : f_H_put (nI s) (nI k) v a = some ((), upA a 30 (60 * s + k) (f_H_lowestBits (a 28 s) v)) := by
  have h1 : ¬ (nI s < 0 ∨ 4 ≤ nI s) := by
    intro q
    rcases q with q | q
    · exact nI_pos (by omega) q
    · exact nI_ge (a := s) (b := 4) hs (by decide) q
  have h2 : ¬ (nI k < 0 ∨ 60 ≤ nI k) := by
    intro q
    rcases q with q | q
    · exact nI_pos (by omega) q
    · exact nI_ge (a := k) (b := 60) hk (by decide) q
  unfold f_H_put
  simp only [blw, if_neg h1, if_neg h2, n60, nI_add, if_pos (inn (show 60 * s + k < 240 by omega) (show 240 ≤ 2 ^ 31 by decide)), if_pos (inn hs (show 4 ≤ 2 ^ 31 by decide)), ixn (show 60 * s + k < 2 ^ 31 by omega), ixn (show s < 2 ^ 31 by omega)]
theorem f_item {a : aT} {s k : Nat} (hs : s < 4) (hk : k < 60) : f_H_itemOf (nI s) (nI k) a = some (a 30 (60 * s + k)) := by
  have h1 : ¬ (nI s < 0 ∨ 4 ≤ nI s) := by
    intro q
    rcases q with q | q
    · exact nI_pos (by omega) q
    · exact nI_ge (a := s) (b := 4) hs (by decide) q
  have h2 : ¬ (nI k < 0 ∨ 60 ≤ nI k) := by
    intro q
    rcases q with q | q
    · exact nI_pos (by omega) q
    · exact nI_ge (a := k) (b := 60) hk (by decide) q
  unfold f_H_itemOf
  simp only [blw, if_neg h1, if_neg h2, n60, nI_add, if_pos (inn (show 60 * s + k < 240 by omega) (show 240 ≤ 2 ^ 31 by decide)), ixn (show 60 * s + k < 2 ^ 31 by omega)]
