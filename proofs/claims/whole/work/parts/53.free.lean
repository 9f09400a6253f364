/-! sticks struck free, both sides -/
def tlK (N : Nat) (x2 x4 x6 x7 : Int32) (b : aT) : Option (Int32 × aT) :=
  (f_M_lot b).bind fun q5 =>
    if inb x2 4 then
      if (q5.2 41 (ix x2)) ≤ q5.1 then f_M_throwsOne_202 N x2 x4 x6 x7 0 q5.2
      else f_M_throwsOne_202 N x2 x4 x6 x7 1 q5.2
    else none
theorem PB.lodge {t : Nat} {m : Int32} {a b : aT} {j : Nat} {v : Int32} (h : PB t m a b) (hv : -1 ≤ v) (hv2 : v ≤ 47) : PB t m (upA a 16 j v) (upA b 46 j v) := by
  obtain ⟨p1, p2, p3, p4, p5, p6, p7, p8, p9, p10, p11⟩ := h
  refine ⟨?_, ?_, ?_, ?_, ?_, ?_, ?_, ?_, ?_, ?_, ?_⟩ <;> simp only [upA_get, reduceIte, Nat.reduceEqDiff] <;> try assumption
  intro s hs
  by_cases e : s = j
  · rw [if_pos e, if_pos e]
    exact ⟨rfl, hv, hv2⟩
  · rw [if_neg e, if_neg e]
    exact p2 s hs
theorem PB.self {t : Nat} {m : Int32} {a b : aT} {j : Nat} (h : PB t m a b) : PB t m a (upA b 46 j (b 46 j)) := by
  have e : upA b 46 j (b 46 j) = b := by
    funext c i
    rw [upA_get]
    by_cases h1 : c = 46
    · subst h1
      rw [if_pos rfl]
      by_cases h2 : i = j
      · rw [if_pos h2, h2]
      · rw [if_neg h2]
    · rw [if_neg h1]
  rw [e]
  exact h
theorem l_free {N t g r s L : Nat} {m : Int32} (hg4 : g < 4) (hr : r < 6) (hs : s < 10) (hL : L < 4) :
    ∀ (d n1 n2 j : Nat) (a b : aT), 4 - j = d → j ≤ 4 → d < n1 → d < n2 → PB t m a b → b 40 g = nI L →
    ∃ a' b', f_P_freeSticks_3 N n1 (nI r) (nI s + (-1)) (nI L) (nI j) a = some ((), a') ∧
      f_M_throwsOne_124 N n2 (nI g) (nI r) (nI s + (-1)) m (nI j) b = tlK N (nI g) (nI r) (nI s + (-1)) m b' ∧ PB t m a' b' ∧ FA LA a a' ∧ FA LB b b' ∧ (a 16 g = -1 → a' 16 g = -1) := by
  intro d
  induction d with
  | zero =>
    intro n1 n2 j a b hd hj h1 h2 hB e3
    have ej : j = 4 := by omega
    subst ej
    obtain ⟨n1, rfl⟩ : ∃ k, n1 = k + 1 := ⟨n1 - 1, by omega⟩
    obtain ⟨n2, rfl⟩ : ∃ k, n2 = k + 1 := ⟨n2 - 1, by omega⟩
    refine ⟨a, b, ?_, ?_, hB, FA_rf, FA_rf, fun h => h⟩
    · unfold f_P_freeSticks_3
      rw [if_pos (show 4 ≤ nI 4 by decide)]
    · unfold f_M_throwsOne_124
      rw [if_pos (show 4 ≤ nI 4 by decide)]
      rfl
  | succ d ih =>
    intro n1 n2 j a b hd hj h1 h2 hB e3
    have hj4 : j < 4 := by omega
    obtain ⟨n1, rfl⟩ : ∃ k, n1 = k + 1 := ⟨n1 - 1, by omega⟩
    obtain ⟨n2, rfl⟩ : ∃ k, n2 = k + 1 := ⟨n2 - 1, by omega⟩
    have ib : inb (nI j) 4 := inn hj4 (by decide)
    have z := hB.2.1 j hj4
    unfold f_P_freeSticks_3 f_M_throwsOne_124
    simp only [if_neg (show ¬ 4 ≤ nI j from nI_ge (b := 4) hj4 (by decide)), if_pos ib, ixn (show j < 2 ^ 31 by omega), np1]
    have keep : ∃ a' b', f_P_freeSticks_3 N n1 (nI r) (nI s + (-1)) (nI L) (nI (j + 1)) a = some ((), a') ∧
      f_M_throwsOne_124 N n2 (nI g) (nI r) (nI s + (-1)) m (nI (j + 1)) (upA b 46 j (b 46 j)) = tlK N (nI g) (nI r) (nI s + (-1)) m b' ∧ PB t m a' b' ∧ FA LA a a' ∧ FA LB b b' ∧ (a 16 g = -1 → a' 16 g = -1) := by
      obtain ⟨a', b', k1, k2, k3, k4, k5, k6⟩ := ih n1 n2 (j + 1) a (upA b 46 j (b 46 j)) (by omega) (by omega) (by omega) (by omega) hB.self (by simp only [upA_get, reduceIte, Nat.reduceEqDiff]; exact e3)
      exact ⟨a', b', k1, k2, k3, k4, FA_tr (FA_upN FA_rf (by decide)) k5 (fun _ h => h), k6⟩
    rw [z.1] at keep ⊢
    by_cases c1 : a 16 j = -1
    · rw [if_pos c1, if_pos c1]
      exact keep
    rw [if_neg c1, if_neg c1]
    obtain ⟨q, hq, eq⟩ := nofC (p := a 16 j) 47 (by decide) (by grind) z.2.2
    rw [eq, st_C hr hs hL (show q < 48 by omega), st_M hg4 hr hs hL (show q < 48 by omega) e3, bnd]
    rw [eq] at keep
    by_cases c2 : q / 8 = r ∧ s ≤ q % 8 + 1 ∧ q % 8 + 1 < s + L
    · rw [if_pos c2, if_neg (show ¬ (1 : Int32) = 0 by decide), if_neg (show ¬ (1 : Int32) = 0 by decide)]
      obtain ⟨a', b', k1, k2, k3, k4, k5, k6⟩ := ih n1 n2 (j + 1) (upA a 16 j (-1)) (upA b 46 j (-1)) (by omega) (by omega) (by omega) (by omega) (hB.lodge (by decide) (by decide)) (by simp only [upA_get, reduceIte, Nat.reduceEqDiff]; exact e3)
      exact ⟨a', b', k1, k2, k3, FA_tr (FA_upN FA_rf (by decide)) k4 (fun _ h => h), FA_tr (FA_upN FA_rf (by decide)) k5 (fun _ h => h), fun h => k6 (by rw [upA_get, if_pos rfl]; by_cases e : g = j <;> simp only [e, reduceIte] <;> (try rw [if_neg e]) <;> (try exact h))⟩
    · rw [if_neg c2, if_pos rfl, if_pos rfl]
      exact keep
