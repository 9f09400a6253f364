theorem nwc {L : List (Nat × Option Nat)} {c i : Nat} (h : (L.all fun e => !(e.1 == c)) = true) : nw L c i := by
  intro e he q
  have := List.all_eq_true.mp h e he
  simp [q.1] at this
theorem nws {L : List (Nat × Option Nat)} {c i : Nat} (h : (L.all fun e => !(e.1 == c && (e.2 == none || e.2 == some i))) = true) : nw L c i := by
  intro e he q
  have := List.all_eq_true.mp h e he
  rcases q with ⟨q1, q2 | q2⟩ <;> simp [q1, q2] at this
theorem nlt4 {s n : Nat} {L : Int32} (hL : nI n = L) (hn : n < 2 ^ 31) (hs : s < n) : ¬ (nI s < 0 ∨ L ≤ nI s) := by
  subst hL
  intro q
  rcases q with q | q
  · exact nI_pos (by omega) q
  · exact nI_ge hs hn q
/-- a stand, both sides, at places in range -/
theorem l_read {N : Nat} (s m : Nat) (hs : s < 4) : ∀ (n j : Nat) (a b : aT), Rel N a b → a 28 s ≠ -1 → a 29 s = nI m → m ≤ 60 → j ≤ 4 → j ≤ m → 4 - j < n →
    Same N (f_C_read_46 N n (nI s) (f_J_min 4 (nI m)) (nI j) a) (f_M_read_27 N n (nI s) (nI j) b) := by
  intro n
  induction n with
  | zero => intro j a b _ _ _ _ _ _ h; omega
  | succ n ih =>
    intro j a b h hf hz hm hj hjm hn
    have hz2 := h.si s hs hf
    have emin : f_J_min 4 (nI m) = nI (min 4 m) := by
      unfold f_J_min
      by_cases q : m < 4
      · rw [if_pos (show nI m < 4 from nI_lt (b := 4) q (by decide))]
        congr 1
        omega
      · rw [if_neg (show ¬ nI m < 4 from nI_nlt (b := 4) (by omega) (by omega))]
        rw [show min 4 m = 4 by omega]
        rfl
    unfold f_C_read_46 f_M_read_27
    rw [if_pos (inn hs (show 4 ≤ 2 ^ 31 by decide)), ixn (show s < 2 ^ 31 by omega), hz2.1, hz]
    by_cases h1 : j = m
    · subst h1
      rw [if_pos (nI_le (Nat.le_refl _) (by omega)), emin, if_pos (nI_le (by omega) (by omega))]
      exact ⟨_, _, _, rfl, rfl, h⟩
    rw [if_neg (show ¬ nI m ≤ nI j from nI_ge (by omega) (by omega))]
    simp only [n60, nI_add]
    rw [if_pos (inn (show 60 * s + j < 240 by omega) (show 240 ≤ 2 ^ 31 by decide)), ixn (show 60 * s + j < 2 ^ 31 by omega)]
    by_cases h2 : j = 4
    · subst h2
      rw [emin, if_pos (nI_le (by omega) (by omega))]
      unfold f_M_stands
      rw [if_pos (four_0.mpr (Or.inr (show (4 : Int32) ≤ nI 4 by decide))), bnd, if_pos (show ((-2 : Int32), b).1 < 0 by show (-2 : Int32) < 0; decide)]
      exact ⟨_, _, _, rfl, rfl, h⟩
    rw [emin, if_neg (nI_ge (by omega) (by omega)), ← emin, f_item hs (show j < 60 by omega), bnd]
    have hi := h.it s hs hf j (by omega) (by rw [hz]; exact nI_lt (by omega) (by omega))
    rw [hi.1]
    obtain ⟨r, a', b', e1, e2, e3⟩ := q_stands (p := nI j) (q := a 30 (60 * s + j)) h
    have e1' : f_K_place (nI j) (a 30 (60 * s + j)) a = some (r, a') := by
      unfold f_C_stands at e1
      obtain ⟨⟨r9, a9⟩, g1, g2⟩ := Option.bind_eq_some_iff.mp e1
      rw [g1]
      exact g2
    have hw := (FR_at FA_rf (r_C_stands (nI j) (a 30 (60 * s + j)) a)) r a' e1
    have k28 : a' 28 s = a 28 s := hw 28 s (nwc (by decide))
    have k29 : a' 29 s = a 29 s := hw 29 s (nwc (by decide))
    rw [e1', e2, bnd, bnd]
    have hr : r = -2 ∨ 0 ≤ r := by
      have h9 := h.ki j (by omega)
      unfold f_K_place at e1'
      rw [if_neg (show ¬ f_C_isBelow (nI j) 4 = 0 from mt blw.mp (nlt4 (n := 4) (L := 4) rfl (by decide) (by omega)))] at e1'
      by_cases c : f_C_isBelow (a 30 (60 * s + j)) 8 = 0
      · rw [if_pos c] at e1'
        left
        cases e1'
        rfl
      · rw [if_neg c, if_pos (inn (show j < 4 by omega) (by decide)), if_pos (inn (show j < 4 by omega) (by decide)), ixn (by omega)] at e1'
        right
        cases e1'
        exact h9.2.1
    rcases hr with hr | hr
    · subst hr
      rw [if_pos rfl, if_pos (show ((-2 : Int32), b').1 < 0 by show (-2 : Int32) < 0; decide)]
      exact ⟨_, _, _, rfl, rfl, e3⟩
    · rw [if_neg (show ¬ (r, a').1 = -2 by show ¬ r = -2; grind), if_neg (show ¬ (r, b').1 < 0 by show ¬ r < 0; grind), np1]
      exact ih (j + 1) a' b' e3 (by rw [k28]; exact hf) (by rw [k29]; exact hz) hm (by omega) (by omega) (by omega)
theorem q_read {N : Nat} {a b : aT} {p : Int32} (hN : 10000 ≤ N) (h : Rel N a b) : Same N (f_C_read N p a) (f_M_read N p b) := by
  unfold f_C_read f_M_read f_H_isLost f_H_formOf f_H_sizeOf
  simp only [blw, sheet_0]
  by_cases h1 : p < 0 ∨ 4 ≤ p
  · simp only [if_pos h1]
    exact ⟨_, _, _, rfl, rfl, h⟩
  simp only [if_neg h1]
  obtain ⟨s, hs, rfl⟩ := nof 4 (by decide) h1
  simp only [if_pos (inn hs (show 4 ≤ 2 ^ 31 by decide)), ixn (show s < 2 ^ 31 by omega), bnd]
  have hf := h.fo s hs
  by_cases h2 : a 28 s = -1
  · simp only [if_pos h2, if_neg (show ¬ 0 ≤ b 32 s by grind), bnd, if_neg (show ¬ (1 : Int32) = 0 by decide)]
    exact ⟨_, _, _, rfl, rfl, q_met 1 h⟩
  · have hz := h.si s hs h2
    obtain ⟨m, hm, e⟩ := nofC 60 (by decide) hz.2.1 hz.2.2
    simp only [if_neg h2, if_pos (show 0 ≤ b 32 s by grind), bnd, reduceIte, e]
    exact l_read s m hs N 0 a b h h2 e hm (by omega) (by omega) (by omega)
