/-! the beginning of a play, both sides -/
theorem l_bg118 (N : Nat) : ∀ (n j : Nat) (a : aT), j ≤ 20 → 20 - j < n → ∃ a', f_P_begin_118 N n (nI j) a = some ((), a') ∧ ∀ c i, a' c i = if c = 18 ∧ j ≤ i ∧ i < 20 then 0 else a c i := by
  intro n
  induction n with
  | zero => intro j a h1 h2; omega
  | succ n ih =>
    intro j a h2 h3
    unfold f_P_begin_118
    by_cases hj : j = 20
    · subst hj
      rw [if_pos (show 20 ≤ nI 20 from by decide)]
      refine ⟨a, rfl, fun c i => ?_⟩
      rw [if_neg (by omega)]
    · rw [if_neg (show ¬ 20 ≤ nI j from nI_ge (b := 20) (by omega) (by decide)), if_pos (inn (show j < 20 by omega) (by decide)), ixn (by omega), np1]
      obtain ⟨a', h4, h5⟩ := ih (j + 1) (upA a 18 j 0) (by omega) (by omega)
      refine ⟨a', h4, fun c i => ?_⟩
      rw [h5, upA_get]
      grind
theorem l_bg98 (N : Nat) (hN : 10000 ≤ N) : ∀ (n j : Nat) (a : aT), j ≤ 4 → 4 - j < n → ∃ a', f_P_begin_98 N n (nI j) a = some ((), a') ∧ ∀ c i, a' c i = if c = 17 ∧ j ≤ i ∧ i < 4 then 0 else if c = 18 ∧ i < 20 then 0 else a c i := by
  intro n
  induction n with
  | zero => intro j a h1 h2; omega
  | succ n ih =>
    intro j a h2 h3
    unfold f_P_begin_98
    by_cases hj : j = 4
    · subst hj
      rw [if_pos (show 4 ≤ nI 4 from by decide)]
      obtain ⟨a', h4, h5⟩ := l_bg118 N N 0 a (by omega) (by omega)
      refine ⟨a', h4, fun c i => ?_⟩
      rw [h5, if_neg (show ¬ (c = 17 ∧ 4 ≤ i ∧ i < 4) by omega)]
      grind
    · rw [if_neg (show ¬ 4 ≤ nI j from nI_ge (b := 4) (by omega) (by decide)), if_pos (inn (show j < 4 by omega) (by decide)), ixn (by omega), np1]
      obtain ⟨a', h4, h5⟩ := ih (j + 1) (upA a 17 j 0) (by omega) (by omega)
      refine ⟨a', h4, fun c i => ?_⟩
      rw [h5, upA_get]
      grind
theorem l_bg78 (N : Nat) (hN : 10000 ≤ N) : ∀ (n j : Nat) (a : aT), j ≤ 4 → 4 - j < n → ∃ a', f_P_begin_78 N n (nI j) a = some ((), a') ∧ ∀ c i, a' c i = if c = 16 ∧ j ≤ i ∧ i < 4 then -1 else if c = 17 ∧ i < 4 then 0 else if c = 18 ∧ i < 20 then 0 else a c i := by
  intro n
  induction n with
  | zero => intro j a h1 h2; omega
  | succ n ih =>
    intro j a h2 h3
    unfold f_P_begin_78
    by_cases hj : j = 4
    · subst hj
      rw [if_pos (show 4 ≤ nI 4 from by decide)]
      obtain ⟨a', h4, h5⟩ := l_bg98 N hN N 0 a (by omega) (by omega)
      refine ⟨a', h4, fun c i => ?_⟩
      rw [h5, if_neg (show ¬ (c = 16 ∧ 4 ≤ i ∧ i < 4) by omega)]
      grind
    · rw [if_neg (show ¬ 4 ≤ nI j from nI_ge (b := 4) (by omega) (by decide)), if_pos (inn (show j < 4 by omega) (by decide)), ixn (by omega), np1]
      obtain ⟨a', h4, h5⟩ := ih (j + 1) (upA a 16 j (-1)) (by omega) (by omega)
      refine ⟨a', h4, fun c i => ?_⟩
      rw [h5, upA_get]
      grind
/-- what a ball hangs on, in the class -/
def hg (v d : Int32) : Int32 := if v < 0 then -1 else f_J_max 0 (v - d / 3)
theorem l_bg27 (N : Nat) (hN : 10000 ≤ N) : ∀ (n j : Nat) (a : aT), j ≤ 48 → 48 - j < n → ∃ a', f_P_begin_27 N n (nI j) a = some ((), a') ∧ ∀ c i, a' c i = if c = 15 ∧ j ≤ i ∧ i < 48 then hg (a 3 i) (a 7 1) else if c = 16 ∧ i < 4 then -1 else if c = 17 ∧ i < 4 then 0 else if c = 18 ∧ i < 20 then 0 else a c i := by
  intro n
  induction n with
  | zero => intro j a h1 h2; omega
  | succ n ih =>
    intro j a h2 h3
    unfold f_P_begin_27
    by_cases hj : j = 48
    · subst hj
      rw [if_pos (show 48 ≤ nI 48 from by decide)]
      obtain ⟨a', h4, h5⟩ := l_bg78 N hN N 0 a (by omega) (by omega)
      refine ⟨a', h4, fun c i => ?_⟩
      rw [h5, if_neg (show ¬ (c = 15 ∧ 48 ≤ i ∧ i < 48) by omega)]
      grind
    · have jb : ¬ f_C_isBelow (nI j) 48 = 0 := mt blw.mp (nlt4 (n := 48) (L := 48) rfl (by decide) (by omega))
      have ib : inb (nI j) 48 := inn (show j < 48 by omega) (by decide)
      have e1 : f_E_hasBall (nI j) a = some (if a 3 j < 0 then 0 else 1) := by
        unfold f_E_hasBall
        rw [if_neg jb, if_pos ib, ixn (by omega)]
        by_cases q : a 3 j < 0
        · rw [if_pos q, if_pos q]
        · rw [if_neg q, if_neg q]
      have e2 : f_R_now 1 a = some (a 7 1) := by
        unfold f_R_now
        rw [if_neg (show ¬ f_C_isBelow 1 6 = 0 by decide), if_pos (show inb 1 6 from inn (k := 1) (by omega) (by decide))]
        rfl
      have e3 : f_E_hangsOn (nI j) (a 7 1) a = some (f_J_max 0 (a 3 j - a 7 1 / 3)) := by
        unfold f_E_hangsOn
        rw [if_neg jb, if_pos ib, ixn (by omega)]
      rw [if_neg (show ¬ 48 ≤ nI j from nI_ge (b := 48) (by omega) (by decide)), e1, bnd, e2, bnd, e3, bnd, if_pos ib, if_pos ib, ixn (by omega), np1]
      by_cases q : a 3 j < 0
      · rw [if_pos q, if_pos rfl]
        obtain ⟨a', h4, h5⟩ := ih (j + 1) (upA a 15 j (-1)) (by omega) (by omega)
        refine ⟨a', h4, fun c i => ?_⟩
        rw [h5]
        simp only [upA_get, reduceIte, Nat.reduceEqDiff]
        have : hg (a 3 j) (a 7 1) = -1 := by unfold hg; rw [if_pos q]
        grind
      · rw [if_neg q, if_neg (show ¬ (1 : Int32) = 0 by decide)]
        obtain ⟨a', h4, h5⟩ := ih (j + 1) (upA a 15 j (f_J_max 0 (a 3 j - a 7 1 / 3))) (by omega) (by omega)
        refine ⟨a', h4, fun c i => ?_⟩
        rw [h5]
        simp only [upA_get, reduceIte, Nat.reduceEqDiff]
        have : hg (a 3 j) (a 7 1) = f_J_max 0 (a 3 j - a 7 1 / 3) := by unfold hg; rw [if_neg q]
        grind
theorem l_begin (N : Nat) (hN : 10000 ≤ N) (p : Int32) (a : aT) : ∃ a', f_P_begin N p a = some ((), a') ∧ (∀ i, i < 48 → a' 15 i = hg (a 3 i) (a 7 1)) ∧ (∀ i, i < 4 → a' 16 i = -1 ∧ a' 17 i = 0) ∧ (∀ i, i < 20 → a' 18 i = 0) ∧
    a' 14 9 = p ∧ a' 14 10 = 0 ∧ a' 14 11 = 0 ∧ a' 14 12 = 0 ∧ a' 14 13 = -1 ∧ FA w_P_begin a a' := by
  obtain ⟨a', h1, h2⟩ := l_bg27 N hN N 0 (upA (upA (upA (upA (upA a 14 9 p) 14 10 0) 14 11 0) 14 12 0) 14 13 (-1)) (by omega) (by omega)
  have h3 : f_P_begin N p a = some ((), a') := h1
  refine ⟨a', h3, ?_, ?_, ?_, ?_, ?_, ?_, ?_, ?_, r_P_begin N p a _ _ h3⟩
  · intro i hi
    rw [h2, if_pos (by omega)]
    simp only [upA_get, reduceIte, Nat.reduceEqDiff]
  · intro i hi
    constructor
    · rw [h2, if_neg (by omega), if_pos (by omega)]
    · rw [h2, if_neg (by omega), if_neg (by omega), if_pos (by omega)]
  · intro i hi
    rw [h2, if_neg (by omega), if_neg (by omega), if_neg (by omega), if_pos (by omega)]
  all_goals
    rw [h2, if_neg (by omega), if_neg (by omega), if_neg (by omega), if_neg (by omega)]
    simp only [upA_get, reduceIte, Nat.reduceEqDiff]
