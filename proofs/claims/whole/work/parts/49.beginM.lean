theorem l_ta42 (N : Nat) (x1 x2 : Int32) : ∀ (n j : Nat) (b : aT), j ≤ 4 → 4 - j < n → ∃ b', f_M_throwsAll_42 N n x1 x2 (nI j) b = f_M_throwsAll_94 N N x2 0 b' ∧ ∀ c i, b' c i = if c = 46 ∧ j ≤ i ∧ i < 4 then -1 else if c = 47 ∧ j ≤ i ∧ i < 4 then 0 else if c = 31 ∧ i = 24 then x1 else if c = 31 ∧ (i = 25 ∨ i = 26 ∨ i = 27) then 0 else if c = 31 ∧ i = 28 then -1 else b c i := by
  intro n
  induction n with
  | zero => intro j a h1 h2; omega
  | succ n ih =>
    intro j a h2 h3
    unfold f_M_throwsAll_42
    by_cases hj : j = 4
    · subst hj
      rw [if_pos (show 4 ≤ nI 4 from by decide)]
      refine ⟨_, rfl, fun c i => ?_⟩
      rw [if_neg (by omega), if_neg (by omega)]
      simp only [upA_get]
      grind
    · rw [if_neg (show ¬ 4 ≤ nI j from nI_ge (b := 4) (by omega) (by decide)), if_pos (inn (show j < 4 by omega) (by decide)), if_pos (inn (show j < 4 by omega) (by decide)), ixn (by omega), np1]
      obtain ⟨a', h4, h5⟩ := ih (j + 1) (upA (upA a 46 j (-1)) 47 j 0) (by omega) (by omega)
      refine ⟨a', h4, fun c i => ?_⟩
      rw [h5, upA_get, upA_get]
      clear ih h4 h5
      grind (splits := 25)
theorem l_ta7 (N : Nat) (hN : 10000 ≤ N) (x1 x2 : Int32) : ∀ (n j : Nat) (b : aT), j ≤ 48 → 48 - j < n → ∃ b', f_M_throwsAll_7 N n x1 x2 (nI j) b = f_M_throwsAll_94 N N x2 0 b' ∧ ∀ c i, b' c i = if c = 45 ∧ j ≤ i ∧ i < 48 then (if b 38 i = -1 then 0 else 1) else if c = 46 ∧ i < 4 then -1 else if c = 47 ∧ i < 4 then 0 else if c = 31 ∧ i = 24 then x1 else if c = 31 ∧ (i = 25 ∨ i = 26 ∨ i = 27) then 0 else if c = 31 ∧ i = 28 then -1 else b c i := by
  intro n
  induction n with
  | zero => intro j a h1 h2; omega
  | succ n ih =>
    intro j a h2 h3
    unfold f_M_throwsAll_7
    by_cases hj : j = 48
    · subst hj
      rw [if_pos (show 48 ≤ nI 48 from by decide)]
      obtain ⟨a', h4, h5⟩ := l_ta42 N x1 x2 N 0 a (by omega) (by omega)
      refine ⟨a', h4, fun c i => ?_⟩
      rw [h5, if_neg (show ¬ (c = 45 ∧ 48 ≤ i ∧ i < 48) by omega)]
      grind
    · rw [if_neg (show ¬ 48 ≤ nI j from nI_ge (b := 48) (by omega) (by decide)), if_pos (inn (show j < 48 by omega) (by decide)), if_pos (inn (show j < 48 by omega) (by decide)), if_pos (inn (show j < 48 by omega) (by decide)), ixn (by omega), np1]
      by_cases q : a 38 j = -1
      · rw [if_pos q]
        obtain ⟨a', h4, h5⟩ := ih (j + 1) (upA a 45 j 0) (by omega) (by omega)
        refine ⟨a', h4, fun c i => ?_⟩
        rw [h5]
        simp only [upA_get, reduceIte, Nat.reduceEqDiff]
        grind
      · rw [if_neg q]
        obtain ⟨a', h4, h5⟩ := ih (j + 1) (upA a 45 j 1) (by omega) (by omega)
        refine ⟨a', h4, fun c i => ?_⟩
        rw [h5]
        simp only [upA_get, reduceIte, Nat.reduceEqDiff]
        grind
/-- the tree as both see it -/
def PT (a b : aT) : Prop := PC a b ∧ ∃ r w : Nat, r ≤ 6 ∧ w ≤ 8 ∧ b 31 10 = nI r ∧ b 31 11 = nI w ∧ ∀ c, c < 48 → (a 3 c = -2 ↔ ¬ (c / 8 < r ∧ c % 8 < w))
/-- a play as both see it, before throw t -/
def PL (t : Nat) (a b : aT) : Prop :=
  (∀ c, c < 48 → (b 45 c = 0 ∧ a 15 c = -1) ∨ (¬ b 45 c = 0 ∧ 0 ≤ a 3 c ∧ a 15 c = hg (a 3 c) (a 7 1))) ∧
  (∀ s, s < 4 → b 46 s = a 16 s ∧ -1 ≤ a 16 s ∧ a 16 s ≤ 47) ∧ (∀ s, s < 4 → b 47 s = a 17 s) ∧ (∀ i, i < t → b 48 i = a 18 i) ∧ (∀ i, t ≤ i → i < 20 → a 18 i = 0) ∧
  b 31 24 = a 14 9 ∧ b 31 25 = a 14 10 ∧ b 31 26 = a 14 11 ∧ b 31 27 = a 14 12 ∧ b 31 28 = a 14 13
theorem l_beginM {N : Nat} {a b : aT} (hN : 10000 ≤ N) (p q : Int32) (h : Rel N a b) : ∃ a' b', f_P_begin N p a = some ((), a') ∧ f_M_throwsAll N p q b = f_M_throwsAll_94 N N q 0 b' ∧ Rel N a' b' ∧ PT a' b' ∧ PL 0 a' b' := by
  obtain ⟨b1, k1, k2, r, w, k3, k4, k5, k6, k7⟩ := h.par b h.len h.txt
  obtain ⟨a', g1, g2, g3, g4, g5, g6, g7, g8, g9, g10⟩ := l_begin N hN p a
  obtain ⟨b', e1, e2⟩ := l_ta7 N hN p q N 0 b1 (by omega) (by omega)
  have fb : FA w_M_throwsAll b b' := by
    intro c i hc
    have h1 : b1 c i = b c i := r_M_reads N b _ _ k1 c i (fun e he => hc e (by revert e; decide))
    have n1 : ∀ e ∈ w_M_throwsAll, ¬ (e.1 = c ∧ (e.2 = none ∨ e.2 = some i)) := hc
    rw [e2, if_neg, if_neg, if_neg, if_neg, if_neg, if_neg, h1]
    · exact fun z => n1 (31, some 28) (by decide) ⟨z.1.symm, Or.inr (by rw [z.2])⟩
    · rintro ⟨z1, z2 | z2 | z2⟩
      · exact n1 (31, some 25) (by decide) ⟨z1.symm, Or.inr (by rw [z2])⟩
      · exact n1 (31, some 26) (by decide) ⟨z1.symm, Or.inr (by rw [z2])⟩
      · exact n1 (31, some 27) (by decide) ⟨z1.symm, Or.inr (by rw [z2])⟩
    · exact fun z => n1 (31, some 24) (by decide) ⟨z.1.symm, Or.inr (by rw [z.2])⟩
    · exact fun z => n1 (47, none) (by decide) ⟨z.1.symm, Or.inl rfl⟩
    · exact fun z => n1 (46, none) (by decide) ⟨z.1.symm, Or.inl rfl⟩
    · exact fun z => n1 (45, none) (by decide) ⟨z.1.symm, Or.inl rfl⟩
  have rel : Rel N a' b' := h.fr g10 fb (by decide) (by decide)
  have a3 : a' 3 = a 3 := scA_k g10 (by decide) 3 (by decide)
  have a7 : a' 7 = a 7 := scA_k g10 (by decide) 7 (by decide)
  have b37 : ∀ i, b' 37 i = b1 37 i := fun i => by rw [e2, if_neg (by omega), if_neg (by omega), if_neg (by omega), if_neg (by omega), if_neg (by omega), if_neg (by omega)]
  have b38 : ∀ i, b' 38 i = b1 38 i := fun i => by rw [e2, if_neg (by omega), if_neg (by omega), if_neg (by omega), if_neg (by omega), if_neg (by omega), if_neg (by omega)]
  have b10 : b' 31 10 = b1 31 10 := by rw [e2, if_neg (by omega), if_neg (by omega), if_neg (by omega), if_neg (by omega), if_neg (by omega), if_neg (by omega)]
  have b11 : b' 31 11 = b1 31 11 := by rw [e2, if_neg (by omega), if_neg (by omega), if_neg (by omega), if_neg (by omega), if_neg (by omega), if_neg (by omega)]
  refine ⟨a', b', g1, ?_, rel, ⟨?_, r, w, k3, k4, by rw [b10, k5], by rw [b11, k6], by rw [a3]; exact k7⟩, ?_, ?_, ?_, ?_, ?_, ?_, ?_, ?_, ?_, ?_⟩
  · unfold f_M_throwsAll
    rw [k1, bnd]
    exact e1
  · intro k hk
    rw [a3, b37, b38]
    exact k2 k hk
  · intro c hc
    have z := k2 c hc
    rw [g2 c hc, e2, if_pos (by omega), a3, a7]
    by_cases y : a 3 c < 0
    · rw [if_pos y] at z
      left
      rw [if_pos z.2.2.2]
      exact ⟨rfl, by unfold hg; rw [if_pos y]⟩
    · rw [if_neg y] at z
      right
      rw [if_neg (by grind)]
      exact ⟨by decide, by grind, rfl⟩
  · intro s hs
    rw [(g3 s hs).1, e2, if_neg (by omega), if_pos (by omega)]
    decide
  · intro s hs
    rw [(g3 s hs).2, e2, if_neg (by omega), if_neg (by omega), if_pos (by omega)]
  · intro i hi
    omega
  · intro i h1 h2
    exact g4 i h2
  · rw [g5, e2, if_neg (by omega), if_neg (by omega), if_neg (by omega), if_pos (by omega)]
  · rw [g6, e2, if_neg (by omega), if_neg (by omega), if_neg (by omega), if_neg (by omega), if_pos (by omega)]
  · rw [g7, e2, if_neg (by omega), if_neg (by omega), if_neg (by omega), if_neg (by omega), if_pos (by omega)]
  · rw [g8, e2, if_neg (by omega), if_neg (by omega), if_neg (by omega), if_neg (by omega), if_pos (by omega)]
  · rw [g9, e2, if_neg (by omega), if_neg (by omega), if_neg (by omega), if_neg (by omega), if_neg (by omega), if_pos (by omega)]
