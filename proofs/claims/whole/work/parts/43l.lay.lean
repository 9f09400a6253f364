/-- no rfl lemma: else the kernel unfolds the places' arithmetic -/
theorem bnd {α β : Type} (x : α) (f : α → Option β) : (some x).bind f = f x := Eq.trans (Option.bind_some x f) rfl
theorem w_all {N : Nat} {a b : aT} {s : Nat} (q r : Int32) (h : Rel N a b) (hs : s < 4) : ∃ w : Int32, f_H_whyNot (nI s) q r a = some w ∧ f_M_lacks (nI s) q r b = (if w = 0 then some (0, b) else some (-10 - w, upA b 31 4 w)) ∧ (w = 0 → a 28 s ≠ -1 ∧ a 28 s = q ∧ 0 ≤ r ∧ r < a 29 s) ∧ (¬ w = 0 → ¬ -10 - w = 0) :=
  ⟨w_why a s q r, w_C hs, w_M h hs, w_0, w_n⟩
theorem q_get {N : Nat} {a b : aT} {p q r : Int32} (h : Rel N a b) : Same N (f_C_get p q r a) (f_M_get p q r b) := by
  unfold f_C_get f_M_get
  simp only [blw, sheet_0, min_2]
  by_cases h1 : p < 0 ∨ 4 ≤ p
  · simp only [if_pos h1]
    exact ⟨_, _, _, rfl, rfl, h⟩
  simp only [if_neg h1]
  by_cases h2 : q < 0 ∨ 3 ≤ q
  · simp only [if_pos h2]
    exact ⟨_, _, _, rfl, rfl, h⟩
  simp only [if_neg h2]
  obtain ⟨s, hs, rfl⟩ := nof 4 (by decide) h1
  obtain ⟨w, e1, e2, e3, e4⟩ := w_all q r h hs
  rw [e1, e2]
  simp only [bnd]
  by_cases h3 : w = 0
  · simp only [if_pos h3, bnd, reduceIte]
    obtain ⟨c1, c2, c3, c4⟩ := e3 h3
    have hz := h.si s hs c1
    have z60 : nI 60 = 60 := rfl
    obtain ⟨k, hk, rfl⟩ := nof (p := r) 60 (by decide) (by grind)
    rw [f_item hs hk]
    simp only [n60, nI_add, if_pos (inn (show 60 * s + k < 240 by omega) (show 240 ≤ 2 ^ 31 by decide)), ixn (show 60 * s + k < 2 ^ 31 by omega), bnd]
    refine ⟨_, _, _, rfl, by rw [(h.it s hs c1 k hk c4).1], h⟩
  · simp only [if_neg h3, bnd, if_neg (e4 h3)]
    exact ⟨_, _, _, rfl, rfl, q_met _ h⟩
theorem q_lay {N : Nat} {a b : aT} {p q r v : Int32} (h : Rel N a b) : Same N (f_C_lay p q r v a) (f_M_lay p q r v b) := by
  unfold f_C_lay f_M_lay
  simp only [blw, sheet_0, min_2]
  by_cases h1 : p < 0 ∨ 4 ≤ p
  · simp only [if_pos h1]
    exact ⟨_, _, _, rfl, rfl, h⟩
  simp only [if_neg h1]
  by_cases h2 : q < 0 ∨ 3 ≤ q
  · simp only [if_pos h2]
    exact ⟨_, _, _, rfl, rfl, h⟩
  simp only [if_neg h2]
  obtain ⟨s, hs, rfl⟩ := nof 4 (by decide) h1
  obtain ⟨w, e1, e2, e3, e4⟩ := w_all q r h hs
  rw [e1, e2]
  simp only [bnd]
  by_cases h3 : w = 0
  · simp only [if_pos h3, bnd, reduceIte]
    obtain ⟨c1, c2, c3, c4⟩ := e3 h3
    have hz := h.si s hs c1
    have z60 : nI 60 = 60 := rfl
    obtain ⟨k, hk, rfl⟩ := nof (p := r) 60 (by decide) (by grind)
    rw [f_put hs hk]
    simp only [n60, nI_add, if_pos (inn (show 60 * s + k < 240 by omega) (show 240 ≤ 2 ^ 31 by decide)), ixn (show 60 * s + k < 2 ^ 31 by omega), bnd, low_cut]
    refine ⟨_, _, _, rfl, rfl, h.ofSheets ?_ ?_ ?_ ?_ ?_⟩
    · intro c i c1 c2 c3
      simp only [upA_get]
      grind
    · intro c i c1 c2 c3 c4
      simp only [upA_get]
      grind
    · intro t ht
      simp only [upA_get]
      have := h.fo t ht
      grind
    · intro t ht
      simp only [upA_get]
      have := h.si t ht
      grind
    · intro t ht d1 i hi d2
      simp only [upA_get, reduceIte, Nat.reduceEqDiff] at d1 d2 ⊢
      by_cases e : 60 * t + i = 60 * s + k
      · have : t = s := by omega
        subst this
        simp only [if_pos e, ← c2, low_low, and_self]
      · simp only [if_neg e]
        exact h.it t ht d1 i hi d2
  · simp only [if_neg h3, bnd, if_neg (e4 h3)]
    exact ⟨_, _, _, rfl, rfl, q_met _ h⟩
