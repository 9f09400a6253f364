/-! the start: both are new -/
theorem z3 : ∀ k, k < 48 → a_0 3 k = -2 := by decide
theorem par_0 {N : Nat} (hN : 10000 ≤ N) : Par N (a_0 2) (a_0 1 2) (a_0 1 3) (a_0 3) := by
  intro b h6 ht
  obtain ⟨f, a', b', g1, g2, g3⟩ := rd_all (n := 0) (a := a_0) hN (by omega) rfl z3 b h6 ht
  have e : f_E_fillCells N a_0 = some (-1, a_0) := by
    obtain ⟨M, rfl⟩ : ∃ M, N = M + 1 := ⟨N - 1, by omega⟩
    unfold f_E_fillCells f_E_fillCells_10 f_E_fillCells_139
    rw [if_pos (show a_0 1 2 ≤ 0 by decide), if_pos (show a_0 1 2 ≤ 0 by decide)]
  rw [e] at g1
  cases g1
  rcases g3 with ⟨-, pc, r, w, h1, h2, h3, h4, h5⟩ | ⟨q, -⟩
  · exact ⟨b', g2, pc, r, w, h1, h2, h3, h4, h5⟩
  · exact absurd rfl q
theorem z28 : ∀ s, s < 4 → a_0 28 s = -1 := by decide
theorem rel_0 {N : Nat} (hN : 10000 ≤ N) : Rel N a_0 a_0 := by
  refine ⟨rfl, by decide, by decide, fun i => rfl, par_0 hN, by decide, by decide, by decide, by decide, rfl, by decide, rfl, by decide, by decide, by decide, rfl, by decide, by decide, ?_, rfl, by decide, by decide, by decide, by decide, ?_, ?_, rfl⟩
  · intro i hi
    refine ⟨rfl, rfl, fun q => absurd q ?_⟩
    exact nI_pos (by omega)
  · intro s hs q
    exact absurd (z28 s hs) q
  · intro s hs q
    exact absurd (z28 s hs) q
theorem pure_law : ∀ E : eT, e_L E ≤ 384 → ∃ N a', f_L_law N E a_0 = some (1, a') := by
  intro E hL
  obtain ⟨N, hN⟩ : ∃ N : Nat, 2 ^ 49 ≤ N := ⟨2 ^ 49, Nat.le_refl _⟩
  obtain ⟨w, hw⟩ := law_loop (N := N) (E := E) hN hL N 0 a_0 (by omega) (by omega) (rel_0 (by omega))
  exact ⟨N, w, hw⟩
