/-! the pure part: places, ranges, and the relation between the class's cells and the reference's -/
theorem blw {p q : Int32} : f_C_isBelow p q = 0 ↔ (p < 0 ∨ q ≤ p) := by
  unfold f_C_isBelow
  grind
theorem min_0 {p lo hi : Int32} {l h : Int64} (hl : lo.toInt64 = l) (hh : hi.toInt64 = h) : f_M_in p.toInt64 l h = 0 ↔ (p < lo ∨ hi < p) := by
  subst hl hh
  unfold f_M_in lg_cmp
  have e1 : (p.toInt64 < lo.toInt64) ↔ p < lo := by rw [Int64.lt_iff_toInt_lt, Int32.toInt_toInt64, Int32.toInt_toInt64, Int32.lt_iff_toInt_lt]
  have e2 : (hi.toInt64 < p.toInt64) ↔ hi < p := by rw [Int64.lt_iff_toInt_lt, Int32.toInt_toInt64, Int32.toInt_toInt64, Int32.lt_iff_toInt_lt]
  grind
theorem min_2 {p : Int32} : f_M_in p.toInt64 0 2 = 0 ↔ (p < 0 ∨ 3 ≤ p) := by
  rw [min_0 (lo := 0) (hi := 2) (by decide) (by decide)]; grind
theorem min_3 {p : Int32} : f_M_in p.toInt64 0 3 = 0 ↔ (p < 0 ∨ 4 ≤ p) := by
  rw [min_0 (lo := 0) (hi := 3) (by decide) (by decide)]; grind
theorem min_5 {p : Int32} : f_M_in p.toInt64 0 5 = 0 ↔ (p < 0 ∨ 6 ≤ p) := by
  rw [min_0 (lo := 0) (hi := 5) (by decide) (by decide)]; grind
theorem min_7 {p : Int32} : f_M_in p.toInt64 0 7 = 0 ↔ (p < 0 ∨ 8 ≤ p) := by
  rw [min_0 (lo := 0) (hi := 7) (by decide) (by decide)]; grind
theorem min_47 {p : Int32} : f_M_in p.toInt64 0 47 = 0 ↔ (p < 0 ∨ 48 ≤ p) := by
  rw [min_0 (lo := 0) (hi := 47) (by decide) (by decide)]; grind
theorem min_255 {p : Int32} : f_M_in p.toInt64 0 255 = 0 ↔ (p < 0 ∨ 256 ≤ p) := by
  rw [min_0 (lo := 0) (hi := 255) (by decide) (by decide)]; grind
theorem min_01 {x : Int64} {l h : Int64} : f_M_in x l h = 0 ∨ f_M_in x l h = 1 := by
  unfold f_M_in; grind
theorem four_0 {p : Int32} : f_M_isFour p = 0 ↔ (p < 0 ∨ 4 ≤ p) := by
  rw [← min_3]
  unfold f_M_isFour
  rcases min_01 (x := p.toInt64) (l := 0) (h := 3) with h | h <;> rw [h] <;> decide
theorem sheet_0 {p : Int32} : f_M_isSheet p = 0 ↔ (p < 0 ∨ 4 ≤ p) := by
  rw [← min_3]
  unfold f_M_isSheet
  rcases min_01 (x := p.toInt64) (l := 0) (h := 3) with h | h <;> rw [h] <;> decide
/-- a value in a range is a number -/
theorem nof {p : Int32} (n : Nat) (hn : n < 2 ^ 31) (h : ¬ (p < 0 ∨ nI n ≤ p)) : ∃ k, k < n ∧ p = nI k := by
  rcases pk_ix p hn with h1 | h1 | h1
  · exact absurd (Or.inl h1) h
  · exact absurd (Or.inr h1) h
  · exact h1
theorem ixn {k : Nat} (h : k < 2 ^ 31) : ix (nI k) = k := nI_clamp h
theorem inn {k n : Nat} (h : k < n) (hn : n ≤ 2 ^ 31) : inb (nI k) n := ⟨nI_pos (by omega), by rw [nI_clamp (by omega)]; exact h⟩
theorem inn' {k n : Nat} (hk : k < 2 ^ 31) : inb (nI k) n ↔ k < n := ⟨fun h => by have := h.2; rwa [nI_clamp hk] at this, fun h => ⟨nI_pos hk, by rw [nI_clamp hk]; exact h⟩⟩
/-- the class's reading of its tree is the reference's -/
def Par (N : Nat) (t : Nat → Int32) (n f : Int32) (tr : Nat → Int32) : Prop :=
  ∀ b : aT, b 31 6 = n → (∀ i, b 36 i = t i) → ∃ b', f_M_reads N b = some (f, b') ∧
    (∀ c, c < 48 → -2 ≤ tr c ∧ tr c ≤ 9 ∧ (b' 37 c = 0 ↔ tr c = -2) ∧ b' 38 c = if tr c < 0 then -1 else tr c) ∧
    ∃ r w : Nat, r ≤ 6 ∧ w ≤ 8 ∧ b' 31 10 = nI r ∧ b' 31 11 = nI w ∧ ∀ c, c < 48 → (tr c = -2 ↔ ¬ (c / 8 < r ∧ c % 8 < w))
def Rel (N : Nat) (a b : aT) : Prop :=
  (b 31 6 = a 1 2) ∧
  (0 ≤ a 1 2) ∧
  (a 1 2 ≤ 53) ∧
  (∀ i, b 36 i = a 2 i) ∧
  (Par N (a 2) (a 1 2) (a 1 3) (a 3)) ∧
  (∀ s, s < 4 → b 39 s = a 5 (3 * s) ∧ 1 ≤ a 5 (3 * s) ∧ a 5 (3 * s) ≤ 9) ∧
  (∀ s, s < 4 → b 40 s = a 5 (3 * s + 1) ∧ 1 ≤ a 5 (3 * s + 1) ∧ a 5 (3 * s + 1) ≤ 3) ∧
  (∀ s, s < 4 → b 41 s = a 5 (3 * s + 2) ∧ 0 ≤ a 5 (3 * s + 2) ∧ a 5 (3 * s + 2) ≤ 16) ∧
  (∀ i, i < 6 → b 42 i = a 7 i ∧ 0 ≤ a 7 i ∧ a 7 i ≤ r_most i) ∧
  (b 31 16 = a 6 1) ∧
  (∀ i, i < 4 → b 43 i = a 9 i ∧ 0 ≤ a 9 i ∧ a 9 i ≤ 7) ∧
  (b 31 18 = a 10 3) ∧
  (0 ≤ a 10 3) ∧
  (a 10 3 ≤ 20) ∧
  (∀ i, i < 20 → b 44 (3 * i) = a 11 i ∧ b 44 (3 * i + 1) = a 12 i ∧ b 44 (3 * i + 2) = a 13 i ∧ 0 ≤ a 11 i ∧ a 11 i ≤ 3 ∧ 0 ≤ a 12 i ∧ a 12 i ≤ 3 ∧ 0 ≤ a 13 i ∧ a 13 i ≤ 47) ∧
  (b 31 29 = a 21 2) ∧
  (0 ≤ a 21 2) ∧
  (a 21 2 ≤ 3) ∧
  (∀ i, i < 3 → b 49 (2 * i) = a 22 i ∧ b 49 (2 * i + 1) = a 23 i ∧ (nI i < a 21 2 → 1 ≤ a 22 i ∧ a 22 i ≤ 20 ∧ 0 ≤ a 23 i ∧ a 23 i < a 22 i)) ∧
  (b 31 31 = a 24 2) ∧
  (0 ≤ a 24 2) ∧
  (a 24 2 ≤ 8) ∧
  (∀ i, i < 8 → b 50 (2 * i) = a 25 i ∧ b 50 (2 * i + 1) = a 26 i ∧ 0 ≤ a 25 i ∧ a 25 i ≤ 19) ∧
  (∀ s, s < 4 → b 32 s = a 28 s ∧ -1 ≤ a 28 s ∧ a 28 s ≤ 2) ∧
  (∀ s, s < 4 → a 28 s ≠ -1 → b 33 s = a 29 s ∧ 0 ≤ a 29 s ∧ a 29 s ≤ 60) ∧
  (∀ s, s < 4 → a 28 s ≠ -1 → ∀ i, i < 60 → nI i < a 29 s → b 34 (60 * s + i) = a 30 (60 * s + i) ∧ f_H_lowestBits (a 28 s) (a 30 (60 * s + i)) = a 30 (60 * s + i)) ∧
  (b 31 4 = a 27 3)
theorem Rel.len {N : Nat} {a b : aT} (h : Rel N a b) : b 31 6 = a 1 2 := h.1
theorem Rel.len0 {N : Nat} {a b : aT} (h : Rel N a b) : 0 ≤ a 1 2 := h.2.1
theorem Rel.len1 {N : Nat} {a b : aT} (h : Rel N a b) : a 1 2 ≤ 53 := h.2.2.1
theorem Rel.txt {N : Nat} {a b : aT} (h : Rel N a b) : ∀ i, b 36 i = a 2 i := h.2.2.2.1
theorem Rel.par {N : Nat} {a b : aT} (h : Rel N a b) : Par N (a 2) (a 1 2) (a 1 3) (a 3) := h.2.2.2.2.1
theorem Rel.sh {N : Nat} {a b : aT} (h : Rel N a b) : ∀ s, s < 4 → b 39 s = a 5 (3 * s) ∧ 1 ≤ a 5 (3 * s) ∧ a 5 (3 * s) ≤ 9 := h.2.2.2.2.2.1
theorem Rel.sl {N : Nat} {a b : aT} (h : Rel N a b) : ∀ s, s < 4 → b 40 s = a 5 (3 * s + 1) ∧ 1 ≤ a 5 (3 * s + 1) ∧ a 5 (3 * s + 1) ≤ 3 := h.2.2.2.2.2.2.1
theorem Rel.so {N : Nat} {a b : aT} (h : Rel N a b) : ∀ s, s < 4 → b 41 s = a 5 (3 * s + 2) ∧ 0 ≤ a 5 (3 * s + 2) ∧ a 5 (3 * s + 2) ≤ 16 := h.2.2.2.2.2.2.2.1
theorem Rel.ru {N : Nat} {a b : aT} (h : Rel N a b) : ∀ i, i < 6 → b 42 i = a 7 i ∧ 0 ≤ a 7 i ∧ a 7 i ≤ r_most i := h.2.2.2.2.2.2.2.2.1
theorem Rel.sd {N : Nat} {a b : aT} (h : Rel N a b) : b 31 16 = a 6 1 := h.2.2.2.2.2.2.2.2.2.1
theorem Rel.ki {N : Nat} {a b : aT} (h : Rel N a b) : ∀ i, i < 4 → b 43 i = a 9 i ∧ 0 ≤ a 9 i ∧ a 9 i ≤ 7 := h.2.2.2.2.2.2.2.2.2.2.1
theorem Rel.thn {N : Nat} {a b : aT} (h : Rel N a b) : b 31 18 = a 10 3 := h.2.2.2.2.2.2.2.2.2.2.2.1
theorem Rel.thn0 {N : Nat} {a b : aT} (h : Rel N a b) : 0 ≤ a 10 3 := h.2.2.2.2.2.2.2.2.2.2.2.2.1
theorem Rel.thn1 {N : Nat} {a b : aT} (h : Rel N a b) : a 10 3 ≤ 20 := h.2.2.2.2.2.2.2.2.2.2.2.2.2.1
theorem Rel.th {N : Nat} {a b : aT} (h : Rel N a b) : ∀ i, i < 20 → b 44 (3 * i) = a 11 i ∧ b 44 (3 * i + 1) = a 12 i ∧ b 44 (3 * i + 2) = a 13 i ∧ 0 ≤ a 11 i ∧ a 11 i ≤ 3 ∧ 0 ≤ a 12 i ∧ a 12 i ≤ 3 ∧ 0 ≤ a 13 i ∧ a 13 i ≤ 47 := h.2.2.2.2.2.2.2.2.2.2.2.2.2.2.1
theorem Rel.twn {N : Nat} {a b : aT} (h : Rel N a b) : b 31 29 = a 21 2 := h.2.2.2.2.2.2.2.2.2.2.2.2.2.2.2.1
theorem Rel.twn0 {N : Nat} {a b : aT} (h : Rel N a b) : 0 ≤ a 21 2 := h.2.2.2.2.2.2.2.2.2.2.2.2.2.2.2.2.1
theorem Rel.twn1 {N : Nat} {a b : aT} (h : Rel N a b) : a 21 2 ≤ 3 := h.2.2.2.2.2.2.2.2.2.2.2.2.2.2.2.2.2.1
theorem Rel.tw {N : Nat} {a b : aT} (h : Rel N a b) : ∀ i, i < 3 → b 49 (2 * i) = a 22 i ∧ b 49 (2 * i + 1) = a 23 i ∧ (nI i < a 21 2 → 1 ≤ a 22 i ∧ a 22 i ≤ 20 ∧ 0 ≤ a 23 i ∧ a 23 i < a 22 i) := h.2.2.2.2.2.2.2.2.2.2.2.2.2.2.2.2.2.2.1
theorem Rel.sgn {N : Nat} {a b : aT} (h : Rel N a b) : b 31 31 = a 24 2 := h.2.2.2.2.2.2.2.2.2.2.2.2.2.2.2.2.2.2.2.1
theorem Rel.sgn0 {N : Nat} {a b : aT} (h : Rel N a b) : 0 ≤ a 24 2 := h.2.2.2.2.2.2.2.2.2.2.2.2.2.2.2.2.2.2.2.2.1
theorem Rel.sgn1 {N : Nat} {a b : aT} (h : Rel N a b) : a 24 2 ≤ 8 := h.2.2.2.2.2.2.2.2.2.2.2.2.2.2.2.2.2.2.2.2.2.1
theorem Rel.sg {N : Nat} {a b : aT} (h : Rel N a b) : ∀ i, i < 8 → b 50 (2 * i) = a 25 i ∧ b 50 (2 * i + 1) = a 26 i ∧ 0 ≤ a 25 i ∧ a 25 i ≤ 19 := h.2.2.2.2.2.2.2.2.2.2.2.2.2.2.2.2.2.2.2.2.2.2.1
theorem Rel.fo {N : Nat} {a b : aT} (h : Rel N a b) : ∀ s, s < 4 → b 32 s = a 28 s ∧ -1 ≤ a 28 s ∧ a 28 s ≤ 2 := h.2.2.2.2.2.2.2.2.2.2.2.2.2.2.2.2.2.2.2.2.2.2.2.1
theorem Rel.si {N : Nat} {a b : aT} (h : Rel N a b) : ∀ s, s < 4 → a 28 s ≠ -1 → b 33 s = a 29 s ∧ 0 ≤ a 29 s ∧ a 29 s ≤ 60 := h.2.2.2.2.2.2.2.2.2.2.2.2.2.2.2.2.2.2.2.2.2.2.2.2.1
theorem Rel.it {N : Nat} {a b : aT} (h : Rel N a b) : ∀ s, s < 4 → a 28 s ≠ -1 → ∀ i, i < 60 → nI i < a 29 s → b 34 (60 * s + i) = a 30 (60 * s + i) ∧ f_H_lowestBits (a 28 s) (a 30 (60 * s + i)) = a 30 (60 * s + i) := h.2.2.2.2.2.2.2.2.2.2.2.2.2.2.2.2.2.2.2.2.2.2.2.2.2.1
theorem Rel.la {N : Nat} {a b : aT} (h : Rel N a b) : b 31 4 = a 27 3 := h.2.2.2.2.2.2.2.2.2.2.2.2.2.2.2.2.2.2.2.2.2.2.2.2.2.2
/-- both do the same -/
def Same (N : Nat) (x y : Option (Int32 × aT)) : Prop := ∃ r a' b', x = some (r, a') ∧ y = some (r, b') ∧ Rel N a' b'
theorem q_seed {N : Nat} {a b : aT} {p : Int32} (h : Rel N a b) : Same N (f_C_seed p a) (f_M_seed p b) := by
  refine ⟨_, _, _, rfl, by unfold f_M_seed; rw [h.sd], ?_⟩
  obtain ⟨g_len, g_len0, g_len1, g_txt, g_par, g_sh, g_sl, g_so, g_ru, g_sd, g_ki, g_thn, g_thn0, g_thn1, g_th, g_twn, g_twn0, g_twn1, g_tw, g_sgn, g_sgn0, g_sgn1, g_sg, g_fo, g_si, g_it, g_la⟩ := h
  refine ⟨?_, ?_, ?_, ?_, ?_, ?_, ?_, ?_, ?_, ?_, ?_, ?_, ?_, ?_, ?_, ?_, ?_, ?_, ?_, ?_, ?_, ?_, ?_, ?_, ?_, ?_, ?_⟩ <;> (try simp only [upA_get, upA_ne, reduceIte, Nat.reduceEqDiff, ne_eq, not_false_eq_true]) <;> first | assumption | skip
theorem q_stands {N : Nat} {a b : aT} {p q : Int32} (h : Rel N a b) : Same N (f_C_stands p q a) (f_M_stands p q b) := by
  unfold f_C_stands f_M_stands f_K_place
  simp only [blw, four_0, min_7]
  by_cases h1 : p < 0 ∨ 4 ≤ p
  · rw [if_pos h1, if_pos h1]
    exact ⟨_, _, _, rfl, rfl, h⟩
  rw [if_neg h1, if_neg h1]
  by_cases h2 : q < 0 ∨ 8 ≤ q
  · rw [if_pos h2, if_pos h2]
    exact ⟨_, _, _, rfl, rfl, h⟩
  rw [if_neg h2, if_neg h2]
  obtain ⟨k, hk, rfl⟩ := nof 4 (by decide) h1
  simp only [inn' (show k < 2 ^ 31 by omega), hk, reduceIte, ixn (show k < 2 ^ 31 by omega), Option.bind_some]
  refine ⟨_, _, _, rfl, by rw [(h.ki k hk).1], ?_⟩
  obtain ⟨g_len, g_len0, g_len1, g_txt, g_par, g_sh, g_sl, g_so, g_ru, g_sd, g_ki, g_thn, g_thn0, g_thn1, g_th, g_twn, g_twn0, g_twn1, g_tw, g_sgn, g_sgn0, g_sgn1, g_sg, g_fo, g_si, g_it, g_la⟩ := h
  refine ⟨?_, ?_, ?_, ?_, ?_, ?_, ?_, ?_, ?_, ?_, ?_, ?_, ?_, ?_, ?_, ?_, ?_, ?_, ?_, ?_, ?_, ?_, ?_, ?_, ?_, ?_, ?_⟩ <;> (try simp only [upA_get, upA_ne, reduceIte, Nat.reduceEqDiff, ne_eq, not_false_eq_true]) <;> first | assumption | skip
  grind
