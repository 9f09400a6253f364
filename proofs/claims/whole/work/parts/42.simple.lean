theorem n2 (k : Nat) : 2 * nI k = nI (2 * k) := pk_mul 2 k
theorem n3 (k : Nat) : 3 * nI k = nI (3 * k) := pk_mul 3 k
theorem n8 (k : Nat) : 8 * nI k = nI (8 * k) := pk_mul 8 k
theorem n60 (k : Nat) : 60 * nI k = nI (60 * k) := pk_mul 60 k
theorem np1 (k : Nat) : nI k + 1 = nI (k + 1) := nI_add k 1
theorem np2 (k : Nat) : nI k + 2 = nI (k + 2) := nI_add k 2
theorem nmm (k : Nat) : nI (k + 1) - 1 = nI k := pk_sub (a := k + 1) (b := 1) (by omega)
theorem nofC {p : Int32} (n : Nat) (hn : n + 1 < 2 ^ 31) (h0 : 0 ≤ p) (h : p ≤ nI n) : ∃ k, k ≤ n ∧ p = nI k := by
  obtain ⟨k, hk, e⟩ := nof (p := p) (n + 1) hn (by
    rw [← np1]
    intro q
    have h2 : nI n < nI n + 1 := by rw [np1]; exact nI_lt (by omega) hn
    rcases q with q | q
    · grind
    · grind)
  exact ⟨k, by omega, e⟩
theorem min_g {p hi : Int32} : f_M_in p.toInt64 0 hi.toInt64 = 0 ↔ (p < 0 ∨ hi < p) := min_0 (lo := 0) (by decide) rfl
theorem min_19 {p : Int32} : f_M_in p.toInt64 0 19 = 0 ↔ (p < 0 ∨ 20 ≤ p) := by
  rw [min_0 (lo := 0) (hi := 19) (by decide) (by decide)]; grind
theorem min_9 {p : Int32} : f_M_in p.toInt64 0 9 = 0 ↔ (p < 0 ∨ 10 ≤ p) := by
  rw [min_0 (lo := 0) (hi := 9) (by decide) (by decide)]; grind
theorem min_120 {p : Int32} : f_M_in p.toInt64 1 20 = 0 ↔ (p < 1 ∨ 20 < p) := min_0 (lo := 1) (hi := 20) (by decide) (by decide)
theorem q_set {N : Nat} {a b : aT} {p q : Int32} (h : Rel N a b) : Same N (f_C_set p q a) (f_M_set p q b) := by
  unfold f_C_set f_M_set f_R_change
  simp only [blw, min_5, min_g]
  by_cases h1 : p < 0 ∨ 6 ≤ p
  · rw [if_pos h1, if_pos h1]
    exact ⟨_, _, _, rfl, rfl, h⟩
  rw [if_neg h1, if_neg h1]
  obtain ⟨k, hk, rfl⟩ := nof 6 (by decide) h1
  have e : f_M_most (nI k) = r_most k := by
    rcases k with _ | _ | _ | _ | _ | _ | k <;> first | rfl | decide | omega
  simp only [inn' (show k < 2 ^ 31 by omega), hk, reduceIte, ixn (show k < 2 ^ 31 by omega), Option.bind_some, e]
  by_cases h2 : q < 0
  · rw [if_pos h2, if_pos (Or.inl h2)]
    exact ⟨_, _, _, rfl, rfl, h⟩
  by_cases h3 : q ≤ r_most k
  · rw [if_neg h2, if_pos h3, if_neg (by grind)]
    refine ⟨_, _, _, rfl, by rw [(h.ru k hk).1], ?_⟩
    obtain ⟨g_len, g_len0, g_len1, g_txt, g_par, g_sh, g_sl, g_so, g_ru, g_sd, g_ki, g_thn, g_thn0, g_thn1, g_th, g_twn, g_twn0, g_twn1, g_tw, g_sgn, g_sgn0, g_sgn1, g_sg, g_fo, g_si, g_it, g_la⟩ := h
    refine ⟨?_, ?_, ?_, ?_, ?_, ?_, ?_, ?_, ?_, ?_, ?_, ?_, ?_, ?_, ?_, ?_, ?_, ?_, ?_, ?_, ?_, ?_, ?_, ?_, ?_, ?_, ?_⟩ <;> (try simp only [upA_get, upA_ne, reduceIte, Nat.reduceEqDiff, ne_eq, not_false_eq_true]) <;> first | assumption | skip
    grind
  · rw [if_neg h2, if_neg h3, if_pos (by grind)]
    exact ⟨_, _, _, rfl, rfl, h⟩
theorem q_toss {N : Nat} {a b : aT} {p q r : Int32} (h : Rel N a b) : Same N (f_C_toss p q r a) (f_M_toss p q r b) := by
  unfold f_C_toss f_M_toss f_O_append
  simp only [blw, four_0, min_47]
  by_cases h1 : p < 0 ∨ 4 ≤ p
  · rw [if_pos h1, if_pos h1]
    exact ⟨_, _, _, rfl, rfl, h⟩
  rw [if_neg h1, if_neg h1]
  by_cases h2 : q < 0 ∨ 4 ≤ q
  · rw [if_pos h2, if_pos h2]
    exact ⟨_, _, _, rfl, rfl, h⟩
  rw [if_neg h2, if_neg h2]
  by_cases h3 : r < 0 ∨ 48 ≤ r
  · rw [if_pos h3, if_pos h3]
    exact ⟨_, _, _, rfl, rfl, h⟩
  rw [if_neg h3, if_neg h3]
  obtain ⟨k, hk, e⟩ := nofC 20 (by decide) h.thn0 h.thn1
  rw [h.thn, e]
  by_cases h4 : k = 20
  · subst h4
    exact ⟨_, _, _, rfl, rfl, h⟩
  have hk2 : k < 20 := by omega
  rw [if_neg (show ¬ (nI k < 0 ∨ 20 ≤ nI k) by
    intro q
    rcases q with q | q
    · exact nI_pos (by omega) q
    · exact nI_ge (a := k) (b := 20) hk2 (by decide) q), if_neg (show ¬ nI k = 20 from fun q => h4 ((nI_eq (b := 20) (by omega) (by decide)).mp q))]
  simp only [n3, np1, np2, inn' (show k < 2 ^ 31 by omega), inn' (show 3 * k < 2 ^ 31 by omega), inn' (show 3 * k + 1 < 2 ^ 31 by omega), inn' (show 3 * k + 2 < 2 ^ 31 by omega), hk2, show 3 * k < 60 by omega, show 3 * k + 1 < 60 by omega, show 3 * k + 2 < 60 by omega, reduceIte, ixn (show k < 2 ^ 31 by omega), ixn (show 3 * k < 2 ^ 31 by omega), ixn (show 3 * k + 1 < 2 ^ 31 by omega), ixn (show 3 * k + 2 < 2 ^ 31 by omega), Option.bind_some]
  refine ⟨_, _, _, rfl, rfl, ?_⟩
  obtain ⟨g_len, g_len0, g_len1, g_txt, g_par, g_sh, g_sl, g_so, g_ru, g_sd, g_ki, g_thn, g_thn0, g_thn1, g_th, g_twn, g_twn0, g_twn1, g_tw, g_sgn, g_sgn0, g_sgn1, g_sg, g_fo, g_si, g_it, g_la⟩ := h
  refine ⟨?_, ?_, ?_, ?_, ?_, ?_, ?_, ?_, ?_, ?_, ?_, ?_, ?_, ?_, ?_, ?_, ?_, ?_, ?_, ?_, ?_, ?_, ?_, ?_, ?_, ?_, ?_⟩ <;> (try simp only [upA_get, upA_ne, reduceIte, Nat.reduceEqDiff, ne_eq, not_false_eq_true]) <;> first | assumption | skip
  · exact nI_pos' (by omega)
  · exact nI_le (b := 20) (by omega) (by decide)
  · intro i hi
    have := g_th i hi
    by_cases e2 : i = k
    · subst e2
      simp only [reduceIte, show ¬ 3 * i = 3 * i + 1 by omega, show ¬ 3 * i = 3 * i + 2 by omega, show ¬ 3 * i + 1 = 3 * i + 2 by omega]
      grind
    · simp only [reduceIte, e2, show ¬ 3 * i = 3 * k + 1 by omega, show ¬ 3 * i = 3 * k + 2 by omega, show ¬ 3 * i + 1 = 3 * k + 2 by omega, show ¬ 3 * i = 3 * k by omega, show ¬ 3 * i + 1 = 3 * k by omega, show ¬ 3 * i + 2 = 3 * k by omega, show ¬ 3 * i + 1 = 3 * k + 1 by omega, show ¬ 3 * i + 2 = 3 * k + 1 by omega, show ¬ 3 * i + 2 = 3 * k + 2 by omega]
      exact this
theorem q_back {N : Nat} {a b : aT} (h : Rel N a b) : Same N (f_C_back a) (f_M_back b) := by
  unfold f_C_back f_M_back f_O_removeLast
  obtain ⟨k, hk, e⟩ := nofC 20 (by decide) h.thn0 h.thn1
  rw [h.thn, e]
  rcases k with _ | k
  · exact ⟨_, _, _, rfl, rfl, h⟩
  rw [if_pos (show 0 < nI (k + 1) from nI_lt (a := 0) (by omega) (by omega)), if_neg (nI_ne0 (by omega) (by omega)), nmm]
  refine ⟨_, _, _, rfl, rfl, ?_⟩
  obtain ⟨g_len, g_len0, g_len1, g_txt, g_par, g_sh, g_sl, g_so, g_ru, g_sd, g_ki, g_thn, g_thn0, g_thn1, g_th, g_twn, g_twn0, g_twn1, g_tw, g_sgn, g_sgn0, g_sgn1, g_sg, g_fo, g_si, g_it, g_la⟩ := h
  refine ⟨?_, ?_, ?_, ?_, ?_, ?_, ?_, ?_, ?_, ?_, ?_, ?_, ?_, ?_, ?_, ?_, ?_, ?_, ?_, ?_, ?_, ?_, ?_, ?_, ?_, ?_, ?_⟩ <;> (try simp only [upA_get, upA_ne, reduceIte, Nat.reduceEqDiff, ne_eq, not_false_eq_true]) <;> first | assumption | skip
  · exact nI_pos' (by omega)
  · exact nI_le (b := 20) (by omega) (by decide)
theorem q_gone {N : Nat} {a b : aT} (h : Rel N a b) : Same N (f_C_gone a) (f_M_gone b) := by
  unfold f_C_gone f_M_gone f_W_empty
  rw [h.twn]
  refine ⟨_, _, _, rfl, rfl, ?_⟩
  obtain ⟨g_len, g_len0, g_len1, g_txt, g_par, g_sh, g_sl, g_so, g_ru, g_sd, g_ki, g_thn, g_thn0, g_thn1, g_th, g_twn, g_twn0, g_twn1, g_tw, g_sgn, g_sgn0, g_sgn1, g_sg, g_fo, g_si, g_it, g_la⟩ := h
  refine ⟨?_, ?_, ?_, ?_, ?_, ?_, ?_, ?_, ?_, ?_, ?_, ?_, ?_, ?_, ?_, ?_, ?_, ?_, ?_, ?_, ?_, ?_, ?_, ?_, ?_, ?_, ?_⟩ <;> (try simp only [upA_get, upA_ne, reduceIte, Nat.reduceEqDiff, ne_eq, not_false_eq_true]) <;> first | assumption | skip
  · decide
  · decide
  · intro i hi
    have := g_tw i hi
    refine ⟨this.1, this.2.1, fun q => absurd q (nI_pos (by omega))⟩
theorem q_forget {N : Nat} {a b : aT} (h : Rel N a b) : Same N (f_C_forget a) (f_M_forget b) := by
  unfold f_C_forget f_M_forget f_G_empty
  rw [h.sgn]
  refine ⟨_, _, _, rfl, rfl, ?_⟩
  obtain ⟨g_len, g_len0, g_len1, g_txt, g_par, g_sh, g_sl, g_so, g_ru, g_sd, g_ki, g_thn, g_thn0, g_thn1, g_th, g_twn, g_twn0, g_twn1, g_tw, g_sgn, g_sgn0, g_sgn1, g_sg, g_fo, g_si, g_it, g_la⟩ := h
  refine ⟨?_, ?_, ?_, ?_, ?_, ?_, ?_, ?_, ?_, ?_, ?_, ?_, ?_, ?_, ?_, ?_, ?_, ?_, ?_, ?_, ?_, ?_, ?_, ?_, ?_, ?_, ?_⟩ <;> (try simp only [upA_get, upA_ne, reduceIte, Nat.reduceEqDiff, ne_eq, not_false_eq_true]) <;> first | assumption | skip
  · decide
  · decide
theorem q_seen {N : Nat} {a b : aT} {p q : Int32} (h : Rel N a b) : Same N (f_C_seen p q a) (f_M_seen p q b) := by
  unfold f_C_seen f_M_seen f_G_append
  simp only [blw, min_19, min_9]
  by_cases h1 : p < 0 ∨ 20 ≤ p
  · rw [if_pos h1, if_pos h1]
    exact ⟨_, _, _, rfl, rfl, h⟩
  rw [if_neg h1, if_neg h1]
  by_cases h2 : q < 0 ∨ 10 ≤ q
  · rw [if_pos h2, if_pos h2]
    exact ⟨_, _, _, rfl, rfl, h⟩
  rw [if_neg h2, if_neg h2]
  obtain ⟨k, hk, e⟩ := nofC 8 (by decide) h.sgn0 h.sgn1
  rw [h.sgn, e]
  by_cases h4 : k = 8
  · subst h4
    exact ⟨_, _, _, rfl, rfl, h⟩
  have hk2 : k < 8 := by omega
  rw [if_neg (show ¬ (nI k < 0 ∨ 8 ≤ nI k) by
    intro q
    rcases q with q | q
    · exact nI_pos (by omega) q
    · exact nI_ge (a := k) (b := 8) hk2 (by decide) q), if_neg (show ¬ nI k = 8 from fun q => h4 ((nI_eq (b := 8) (by omega) (by decide)).mp q))]
  simp only [n2, np1, inn' (show k < 2 ^ 31 by omega), inn' (show 2 * k < 2 ^ 31 by omega), inn' (show 2 * k + 1 < 2 ^ 31 by omega), hk2, show 2 * k < 16 by omega, show 2 * k + 1 < 16 by omega, reduceIte, ixn (show k < 2 ^ 31 by omega), ixn (show 2 * k < 2 ^ 31 by omega), ixn (show 2 * k + 1 < 2 ^ 31 by omega), Option.bind_some]
  refine ⟨_, _, _, rfl, rfl, ?_⟩
  obtain ⟨g_len, g_len0, g_len1, g_txt, g_par, g_sh, g_sl, g_so, g_ru, g_sd, g_ki, g_thn, g_thn0, g_thn1, g_th, g_twn, g_twn0, g_twn1, g_tw, g_sgn, g_sgn0, g_sgn1, g_sg, g_fo, g_si, g_it, g_la⟩ := h
  refine ⟨?_, ?_, ?_, ?_, ?_, ?_, ?_, ?_, ?_, ?_, ?_, ?_, ?_, ?_, ?_, ?_, ?_, ?_, ?_, ?_, ?_, ?_, ?_, ?_, ?_, ?_, ?_⟩ <;> (try simp only [upA_get, upA_ne, reduceIte, Nat.reduceEqDiff, ne_eq, not_false_eq_true]) <;> first | assumption | skip
  · exact nI_pos' (by omega)
  · exact nI_le (b := 8) (by omega) (by decide)
  · intro i hi
    have := g_sg i hi
    by_cases e2 : i = k
    · subst e2
      simp only [reduceIte, show ¬ 2 * i = 2 * i + 1 by omega]
      grind
    · simp only [reduceIte, e2, show ¬ 2 * i = 2 * k + 1 by omega, show ¬ 2 * i = 2 * k by omega, show ¬ 2 * i + 1 = 2 * k by omega, show ¬ 2 * i + 1 = 2 * k + 1 by omega]
      exact this
theorem q_thrower {N : Nat} {a b : aT} {p q : Int32} (h : Rel N a b) : Same N (f_C_thrower p q a) (f_M_thrower p q b) := by
  unfold f_C_thrower f_M_thrower f_W_append
  simp only [blw, min_120, min_g]
  by_cases h1 : p < 1
  · rw [if_pos h1, if_pos (Or.inl h1)]
    exact ⟨_, _, _, rfl, rfl, h⟩
  by_cases h2 : 20 < p
  · rw [if_neg h1, if_pos h2, if_pos (Or.inr h2)]
    exact ⟨_, _, _, rfl, rfl, h⟩
  rw [if_neg h1, if_neg h2, if_neg (show ¬ (p < 1 ∨ 20 < p) by grind)]
  by_cases h3 : q < 0
  · rw [if_pos h3, if_pos (Or.inl h3)]
    exact ⟨_, _, _, rfl, rfl, h⟩
  by_cases h5 : q < p
  · rw [if_neg h3, if_pos h5, if_neg (show ¬ (q < 0 ∨ p - 1 < q) by grind)]
    obtain ⟨k, hk, e⟩ := nofC 3 (by decide) h.twn0 h.twn1
    rw [h.twn, e]
    by_cases h4 : k = 3
    · subst h4
      exact ⟨_, _, _, rfl, rfl, h⟩
    have hk2 : k < 3 := by omega
    rw [if_neg (show ¬ (nI k < 0 ∨ 3 ≤ nI k) by
      intro q
      rcases q with q | q
      · exact nI_pos (by omega) q
      · exact nI_ge (a := k) (b := 3) hk2 (by decide) q), if_neg (show ¬ nI k = 3 from fun q => h4 ((nI_eq (b := 3) (by omega) (by decide)).mp q))]
    simp only [n2, np1, inn' (show k < 2 ^ 31 by omega), inn' (show 2 * k < 2 ^ 31 by omega), inn' (show 2 * k + 1 < 2 ^ 31 by omega), hk2, show 2 * k < 6 by omega, show 2 * k + 1 < 6 by omega, reduceIte, ixn (show k < 2 ^ 31 by omega), ixn (show 2 * k < 2 ^ 31 by omega), ixn (show 2 * k + 1 < 2 ^ 31 by omega), Option.bind_some]
    refine ⟨_, _, _, rfl, rfl, ?_⟩
    obtain ⟨g_len, g_len0, g_len1, g_txt, g_par, g_sh, g_sl, g_so, g_ru, g_sd, g_ki, g_thn, g_thn0, g_thn1, g_th, g_twn, g_twn0, g_twn1, g_tw, g_sgn, g_sgn0, g_sgn1, g_sg, g_fo, g_si, g_it, g_la⟩ := h
    refine ⟨?_, ?_, ?_, ?_, ?_, ?_, ?_, ?_, ?_, ?_, ?_, ?_, ?_, ?_, ?_, ?_, ?_, ?_, ?_, ?_, ?_, ?_, ?_, ?_, ?_, ?_, ?_⟩ <;> (try simp only [upA_get, upA_ne, reduceIte, Nat.reduceEqDiff, ne_eq, not_false_eq_true]) <;> first | assumption | skip
    · exact nI_pos' (by omega)
    · exact nI_le (b := 3) (by omega) (by decide)
    · intro i hi
      have := g_tw i hi
      by_cases e2 : i = k
      · subst e2
        simp only [reduceIte, show ¬ 2 * i = 2 * i + 1 by omega]
        grind
      · simp only [reduceIte, e2, show ¬ 2 * i = 2 * k + 1 by omega, show ¬ 2 * i = 2 * k by omega, show ¬ 2 * i + 1 = 2 * k by omega, show ¬ 2 * i + 1 = 2 * k + 1 by omega]
        refine ⟨this.1, this.2.1, fun q => this.2.2 ?_⟩
        rw [e]
        exact nI_lt (by have := (nI_ltI (by omega) (by omega)).mp q; omega) (by omega)
  · rw [if_neg h3, if_neg h5, if_pos (show (q < 0 ∨ p - 1 < q) by grind)]
    exact ⟨_, _, _, rfl, rfl, h⟩
theorem q_stick {N : Nat} {a b : aT} {p q r : Int32} (h : Rel N a b) : Same N (f_C_stick p q r a) (f_M_stick p q r b) := by
  unfold f_C_stick f_M_stick f_T_change f_T_now
  simp only [blw, four_0, min_2]
  by_cases h1 : p < 0 ∨ 4 ≤ p
  · simp only [if_pos h1]
    exact ⟨_, _, _, rfl, rfl, h⟩
  simp only [if_neg h1]
  by_cases h2 : q < 0 ∨ 3 ≤ q
  · simp only [if_pos h2]
    exact ⟨_, _, _, rfl, rfl, h⟩
  simp only [if_neg h2]
  obtain ⟨k, hk, rfl⟩ := nof 4 (by decide) h1
  obtain ⟨j, hj, rfl⟩ := nof 3 (by decide) h2
  simp only [n3, nI_add, inn' (show j < 2 ^ 31 by omega), inn' (show 3 * k + j < 2 ^ 31 by omega), hj, show 3 * k + j < 12 by omega, reduceIte, ixn (show j < 2 ^ 31 by omega), ixn (show 3 * k + j < 2 ^ 31 by omega), Option.bind_some]
  have g1 : ∀ {lo hi : Int32} {l u : Int64}, lo.toInt64 = l → hi.toInt64 = u → (f_M_in r.toInt64 l u = 0 ↔ (r < lo ∨ hi < r)) := fun e1 e2 => min_0 e1 e2
  have c0 : inb (nI k) 4 := inn hk (by decide)
  have c1 := ixn (show k < 2 ^ 31 by omega)
  have z0 : nI 0 = 0 := rfl
  have z1 : nI 1 = 1 := rfl
  have z2 : nI 2 = 2 := rfl
  have d01 : ¬ (0 : Int32) = 1 := by decide
  have d02 : ¬ (0 : Int32) = 2 := by decide
  have d10 : ¬ (1 : Int32) = 0 := by decide
  have d12 : ¬ (1 : Int32) = 2 := by decide
  have d20 : ¬ (2 : Int32) = 0 := by decide
  have d21 : ¬ (2 : Int32) = 1 := by decide
  rcases j with _ | _ | _ | j
  · have e1 := g1 (lo := 1) (hi := 9) (l := 1) (u := 9) (by decide) (by decide)
    have z : nI (0) = 0 := rfl
    simp only [z, f_M_stick_31, f_M_stick_55, f_M_stick_97, f_M_stick_118, f_M_stick_139, e1, d01, d02, d10, d12, d20, d21, if_pos c0, c1, reduceIte]
    by_cases h3 : r < 1
    · rw [if_pos (show r < s_least (0) from h3), if_pos (Or.inl h3)]
      exact ⟨_, _, _, rfl, rfl, h⟩
    by_cases h4 : r ≤ 9
    · rw [if_neg (show ¬ r < s_least (0) from h3), if_pos (show r ≤ s_most (0) from h4), if_neg (show ¬ (r < 1 ∨ 9 < r) by grind)]
      refine ⟨_, _, _, rfl, by rw [(h.sh k hk).1]; rfl, ?_⟩
      obtain ⟨g_len, g_len0, g_len1, g_txt, g_par, g_sh, g_sl, g_so, g_ru, g_sd, g_ki, g_thn, g_thn0, g_thn1, g_th, g_twn, g_twn0, g_twn1, g_tw, g_sgn, g_sgn0, g_sgn1, g_sg, g_fo, g_si, g_it, g_la⟩ := h
      refine ⟨?_, ?_, ?_, ?_, ?_, ?_, ?_, ?_, ?_, ?_, ?_, ?_, ?_, ?_, ?_, ?_, ?_, ?_, ?_, ?_, ?_, ?_, ?_, ?_, ?_, ?_, ?_⟩ <;> (try simp only [upA_get, upA_ne, reduceIte, Nat.reduceEqDiff, ne_eq, not_false_eq_true]) <;> first | assumption | skip
      · intro s hs
        have := g_sh s hs
        grind
      · intro s hs
        have := g_sl s hs
        grind
      · intro s hs
        have := g_so s hs
        grind
    · rw [if_neg (show ¬ r < s_least (0) from h3), if_neg (show ¬ r ≤ s_most (0) from h4), if_pos (show (r < 1 ∨ 9 < r) by grind)]
      exact ⟨_, _, _, rfl, rfl, h⟩
  · have e1 := g1 (lo := 1) (hi := 3) (l := 1) (u := 3) (by decide) (by decide)
    have z : nI (0 + 1) = 1 := rfl
    simp only [z, f_M_stick_31, f_M_stick_55, f_M_stick_97, f_M_stick_118, f_M_stick_139, e1, d01, d02, d10, d12, d20, d21, if_pos c0, c1, reduceIte]
    by_cases h3 : r < 1
    · rw [if_pos (show r < s_least (0 + 1) from h3), if_pos (Or.inl h3)]
      exact ⟨_, _, _, rfl, rfl, h⟩
    by_cases h4 : r ≤ 3
    · rw [if_neg (show ¬ r < s_least (0 + 1) from h3), if_pos (show r ≤ s_most (0 + 1) from h4), if_neg (show ¬ (r < 1 ∨ 3 < r) by grind)]
      refine ⟨_, _, _, rfl, by rw [(h.sl k hk).1], ?_⟩
      obtain ⟨g_len, g_len0, g_len1, g_txt, g_par, g_sh, g_sl, g_so, g_ru, g_sd, g_ki, g_thn, g_thn0, g_thn1, g_th, g_twn, g_twn0, g_twn1, g_tw, g_sgn, g_sgn0, g_sgn1, g_sg, g_fo, g_si, g_it, g_la⟩ := h
      refine ⟨?_, ?_, ?_, ?_, ?_, ?_, ?_, ?_, ?_, ?_, ?_, ?_, ?_, ?_, ?_, ?_, ?_, ?_, ?_, ?_, ?_, ?_, ?_, ?_, ?_, ?_, ?_⟩ <;> (try simp only [upA_get, upA_ne, reduceIte, Nat.reduceEqDiff, ne_eq, not_false_eq_true]) <;> first | assumption | skip
      · intro s hs
        have := g_sh s hs
        grind
      · intro s hs
        have := g_sl s hs
        grind
      · intro s hs
        have := g_so s hs
        grind
    · rw [if_neg (show ¬ r < s_least (0 + 1) from h3), if_neg (show ¬ r ≤ s_most (0 + 1) from h4), if_pos (show (r < 1 ∨ 3 < r) by grind)]
      exact ⟨_, _, _, rfl, rfl, h⟩
  · have e1 := g1 (lo := 0) (hi := 16) (l := 0) (u := 16) (by decide) (by decide)
    have z : nI (0 + 1 + 1) = 2 := rfl
    simp only [z, f_M_stick_31, f_M_stick_55, f_M_stick_97, f_M_stick_118, f_M_stick_139, e1, d01, d02, d10, d12, d20, d21, if_pos c0, c1, reduceIte]
    by_cases h3 : r < 0
    · rw [if_pos (show r < s_least (0 + 1 + 1) from h3), if_pos (Or.inl h3)]
      exact ⟨_, _, _, rfl, rfl, h⟩
    by_cases h4 : r ≤ 16
    · rw [if_neg (show ¬ r < s_least (0 + 1 + 1) from h3), if_pos (show r ≤ s_most (0 + 1 + 1) from h4), if_neg (show ¬ (r < 0 ∨ 16 < r) by grind)]
      refine ⟨_, _, _, rfl, by rw [(h.so k hk).1], ?_⟩
      obtain ⟨g_len, g_len0, g_len1, g_txt, g_par, g_sh, g_sl, g_so, g_ru, g_sd, g_ki, g_thn, g_thn0, g_thn1, g_th, g_twn, g_twn0, g_twn1, g_tw, g_sgn, g_sgn0, g_sgn1, g_sg, g_fo, g_si, g_it, g_la⟩ := h
      refine ⟨?_, ?_, ?_, ?_, ?_, ?_, ?_, ?_, ?_, ?_, ?_, ?_, ?_, ?_, ?_, ?_, ?_, ?_, ?_, ?_, ?_, ?_, ?_, ?_, ?_, ?_, ?_⟩ <;> (try simp only [upA_get, upA_ne, reduceIte, Nat.reduceEqDiff, ne_eq, not_false_eq_true]) <;> first | assumption | skip
      · intro s hs
        have := g_sh s hs
        grind
      · intro s hs
        have := g_sl s hs
        grind
      · intro s hs
        have := g_so s hs
        grind
    · rw [if_neg (show ¬ r < s_least (0 + 1 + 1) from h3), if_neg (show ¬ r ≤ s_most (0 + 1 + 1) from h4), if_pos (show (r < 0 ∨ 16 < r) by grind)]
      exact ⟨_, _, _, rfl, rfl, h⟩
  · omega
