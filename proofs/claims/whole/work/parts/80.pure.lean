theorem pure_law : ∀ E : eT, e_L E ≤ 384 → ∃ N a', f_L_law N E a_0 = some (1, a') := by
  sorry
