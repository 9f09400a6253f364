/-! count, seeds, write -/
def cnt (p : Nat → Bool) : Nat → Nat
  | 0 => 0
  | k + 1 => cnt p k + if p k = true then 1 else 0
theorem cnt_le (p : Nat → Bool) : ∀ k, cnt p k ≤ k
  | 0 => Nat.le_refl _
  | k + 1 => by
    have := cnt_le p k
    unfold cnt
    split <;> omega
theorem cnt_mono {p q : Nat → Bool} : ∀ {k : Nat}, (∀ c, c < k → p c = true → q c = true) → cnt p k ≤ cnt q k
  | 0, _ => Nat.le_refl _
  | k + 1, h => by
    have h1 := cnt_mono (p := p) (q := q) (k := k) (fun c hc => h c (by omega))
    have h2 := h k (by omega)
    unfold cnt
    by_cases e : p k = true
    · rw [if_pos e, if_pos (h2 e)]; omega
    · rw [if_neg e]; omega
theorem cnt_eq {p q : Nat → Bool} : ∀ {k : Nat}, (∀ c, c < k → p c = q c) → cnt p k = cnt q k
  | 0, _ => rfl
  | k + 1, h => by
    have h1 := cnt_eq (p := p) (q := q) (k := k) (fun c hc => h c (by omega))
    unfold cnt
    rw [h1, h k (by omega)]
theorem cnt_t {p : Nat → Bool} {k : Nat} (h : p k = true) : nI (cnt p k) + 1 = nI (cnt p (k + 1)) := by
  rw [np1]
  show _ = nI (cnt p k + if p k = true then 1 else 0)
  rw [if_pos h]
theorem cnt_f {p : Nat → Bool} {k : Nat} (h : ¬ p k = true) : nI (cnt p k) + 0 = nI (cnt p (k + 1)) := by
  show _ = nI (cnt p k + if p k = true then 1 else 0)
  rw [if_neg h, Int32.add_zero]
  rfl
theorem f_ball {a : aT} {c : Nat} (hc : c < 48) : f_E_hasBall (nI c) a = some (if a 3 c < 0 then 0 else 1) := by
  unfold f_E_hasBall
  rw [if_neg (show ¬ f_C_isBelow (nI c) 48 = 0 from mt blw.mp (nlt4 (n := 48) (L := 48) rfl (by decide) (by omega))), if_pos (inn hc (by decide)), ixn (by omega)]
  by_cases q : a 3 c < 0
  · rw [if_pos q, if_pos q]
  · rw [if_neg q, if_neg q]
theorem l_cells {N : Nat} {a : aT} {p : Nat → Bool} (hp : ∀ c, c < 48 → (a 3 c = -2 ↔ ¬ p c = true)) : ∀ (n j : Nat), j ≤ 48 → 48 - j < n → f_E_cellCount_4 N a n (nI (cnt p j)) (nI j) = some (nI (cnt p 48)) := by
  intro n
  induction n with
  | zero => intro j h1 h2; omega
  | succ n ih =>
    intro j h1 h2
    unfold f_E_cellCount_4
    by_cases hj : j = 48
    · subst hj
      rw [if_pos (show 48 ≤ nI 48 by decide)]
    · have e1 : ¬ 48 ≤ nI j := nI_ge (b := 48) (by omega) (by decide)
      rw [if_neg e1, f_iscC (by omega), bnd, np1]
      by_cases q : a 3 j = -2
      · rw [if_pos q, if_pos rfl, cnt_f ((hp j (by omega)).mp q)]
        exact ih (j + 1) (by omega) (by omega)
      · rw [if_neg q, if_neg (show ¬ (1 : Int32) = 0 by decide), cnt_t (Decidable.not_not.mp (mt (hp j (by omega)).mpr q))]
        exact ih (j + 1) (by omega) (by omega)
theorem cnt_rw : ∀ r, r < 7 → ∀ w, w < 9 → cnt (fun c => decide (c / 8 < r ∧ c % 8 < w)) 48 = r * w := by decide
theorem l_balls {N : Nat} {a b : aT} (h : PC a b) : ∀ (n j : Nat) (v : Int32), j ≤ 48 → 48 - j < n → ∃ w, f_E_ballCount_4 N a n v (nI j) = some w ∧ f_M_count_68 N n v (nI j) b = some (w, b) := by
  intro n
  induction n with
  | zero => intro j v h1 h2; omega
  | succ n ih =>
    intro j v h1 h2
    unfold f_E_ballCount_4 f_M_count_68
    by_cases hj : j = 48
    · subst hj
      rw [if_pos (show 48 ≤ nI 48 by decide), if_pos (show 48 ≤ nI 48 by decide)]
      exact ⟨v, rfl, rfl⟩
    · have e1 : ¬ 48 ≤ nI j := nI_ge (b := 48) (by omega) (by decide)
      have hc := (h j (by omega)).2.2.2
      rw [if_neg e1, if_neg e1, f_ball (by omega), bnd, if_pos (inn (show j < 48 by omega) (by decide)), ixn (by omega), np1, hc]
      by_cases q : a 3 j < 0
      · rw [if_pos q, if_pos q, if_pos rfl, if_pos rfl]
        exact ih (j + 1) _ (by omega) (by omega)
      · rw [if_neg q, if_neg q, if_neg (show ¬ (1 : Int32) = 0 by decide), if_neg (show ¬ a 3 j = -1 by grind)]
        exact ih (j + 1) _ (by omega) (by omega)
theorem PT.of3 {a a' b : aT} (h : PT a' b) (e : a' 3 = a 3) : PT a b := by
  unfold PT PC at *
  rw [e] at h
  exact h
theorem q_count {N : Nat} {a b : aT} {p : Int32} (hN : 10000 ≤ N) (h : Rel N a b) : ∃ r a' b', f_C_count N p a = some (r, a') ∧ f_M_count N p b = some (r, b') ∧ f_M_find N b = some ((), b') ∧ Rel N a' b' ∧ FA w_P_replayAll a a' := by
  obtain ⟨a', b', X, hX, e, k1, k2, k3, k4, k5⟩ := q_playAll hN h
  have a3 : a' 3 = a 3 := funext fun i => (r_P_replayAll N a _ _ k1) 3 i (nwc (by decide))
  have pt : PT a b' := k4.of3 a3
  have rel : Rel N a b' := h.fr (La := []) FA_rf (r_M_find N b _ _ k2) (by decide) (by decide)
  unfold f_C_count f_M_count
  rw [k2, bnd]
  dsimp only
  by_cases c0 : p = 0
  · obtain ⟨-, r, w, h1, h2, h3, h4, h5⟩ := pt
    have e1 : f_E_cellCount N a = some (nI (r * w)) := by
      have z := l_cells (N := N) (a := a) (p := fun c => decide (c / 8 < r ∧ c % 8 < w)) (fun c hc => by rw [h5 c hc]; simp) N 0 (by omega) (by omega)
      rw [cnt_rw r (by omega) w (by omega)] at z
      exact z
    rw [if_pos c0, if_pos c0, e1, bnd, h3, h4, pk_mul]
    exact ⟨_, _, _, rfl, rfl, rfl, rel, FA_rf⟩
  rw [if_neg c0, if_neg c0]
  by_cases c1 : p = 1
  · obtain ⟨w, g1, g2⟩ := l_balls (N := N) pt.1 N 0 0 (by omega) (by omega)
    have e1 : f_E_ballCount N a = some w := g1
    have e2 : f_M_count_68 N N 0 0 b' = some (w, b') := g2
    rw [if_pos c1, if_pos c1, e1, bnd, e2]
    exact ⟨_, _, _, rfl, rfl, rfl, rel, FA_rf⟩
  rw [if_neg c1, if_neg c1]
  by_cases c2 : p = 2
  · rw [if_pos c2, if_pos c2, rel.len]
    exact ⟨_, _, _, rfl, rfl, rfl, rel, FA_rf⟩
  rw [if_neg c2, if_neg c2]
  by_cases c3 : p = 3
  · rw [if_pos c3, if_pos c3, rel.thn]
    exact ⟨_, _, _, rfl, rfl, rfl, rel, FA_rf⟩
  rw [if_neg c3, if_neg c3]
  by_cases c4 : p = 4
  · rw [if_pos c4, if_pos c4, k1, bnd, k5.2.2.2.2.2.2.2.2.1]
    exact ⟨_, _, _, rfl, rfl, rfl, k3, r_P_replayAll N a _ _ k1⟩
  rw [if_neg c4, if_neg c4]
  by_cases c5 : p = 5
  · rw [if_pos c5, if_pos c5, rel.twn]
    exact ⟨_, _, _, rfl, rfl, rfl, rel, FA_rf⟩
  rw [if_neg c5, if_neg c5]
  by_cases c6 : p = 6
  · rw [if_pos c6, if_pos c6, rel.sgn]
    exact ⟨_, _, _, rfl, rfl, rfl, rel, FA_rf⟩
  rw [if_neg c6, if_neg c6]
  by_cases c7 : p = 7
  · rw [if_pos c7, if_pos c7, show (1 : Int32) = nI 1 from rfl, f_rnow (by omega), bnd, (rel.ru 1 (by omega)).1]
    exact ⟨_, _, _, rfl, rfl, rfl, rel, FA_rf⟩
  rw [if_neg c7, if_neg c7]
  by_cases c8 : p = 8
  · rw [if_pos c8, if_pos c8, rel.la]
    exact ⟨_, _, _, rfl, rfl, rfl, rel, FA_rf⟩
  rw [if_neg c8, if_neg c8]
  exact ⟨_, _, _, rfl, rfl, rfl, rel, FA_rf⟩
theorem f_brt {a : aT} {i : Nat} (hi : i < 20) : f_P_broughtBy (nI i) a = some (a 18 i) := by
  unfold f_P_broughtBy
  rw [if_neg (show ¬ f_C_isBelow (nI i) 20 = 0 from mt blw.mp (nlt4 (n := 20) (L := 20) rfl (by decide) (by omega))), if_pos (inn hi (by decide)), ixn (by omega)]
/-- where what was seen doesn't fit any more the reference only goes on to the end -/
theorem l_no {N m : Nat} {b : aT} {k4 : Int32 → Int32 → aT → Option (Int32 × aT)} {x1 x2 : Int32} (hm : b 31 31 = nI m) (hm8 : m ≤ 8) : ∀ (n j : Nat), j ≤ m → m - j < n → f_M_seedsNow_24 N k4 n x1 x2 0 (nI j) b = k4 (x1 ||| 0) (x2 + 1) b := by
  intro n
  induction n with
  | zero => intro j h1 h2; omega
  | succ n ih =>
    intro j h1 h2
    unfold f_M_seedsNow_24
    rw [hm]
    by_cases hj : j = m
    · rw [if_pos (nI_le (by omega) (by omega)), if_pos rfl]
    · rw [if_neg (nI_ge (by omega) (by omega)), if_pos rfl, np1]
      exact ih (j + 1) (by omega) (by omega)
theorem l_fit {N X m : Nat} {a b : aT} {k4 : Int32 → Int32 → aT → Option (Int32 × aT)} {x1 x2 : Int32} (hR : Rel N a b) (hX : X ≤ 20) (eX : a 10 3 = nI X) (hP : PL X a b) (hm : a 24 2 = nI m) (hm8 : m ≤ 8) : ∀ (n j : Nat), j ≤ m → m - j < n → ∃ w : Int32, f_G_fit_2 N a n (nI X) (nI j) = some w ∧ f_M_seedsNow_24 N k4 n x1 x2 1 (nI j) b = if w = 0 then k4 (x1 ||| 0) (x2 + 1) b else k4 (x1 ||| i_shl 1 x2) (x2 + 1) b := by
  intro n
  induction n with
  | zero => intro j h1 h2; omega
  | succ n ih =>
    intro j h1 h2
    unfold f_G_fit_2 f_M_seedsNow_24
    rw [hR.sgn, hm]
    by_cases hj : j = m
    · rw [if_pos (nI_le (by omega) (by omega)), if_pos (nI_le (by omega) (by omega)), if_neg (show ¬ (1 : Int32) = 0 by decide)]
      exact ⟨1, rfl, rfl⟩
    · have hg := hR.sg j (by omega)
      obtain ⟨t, ht, et⟩ := nofC (p := a 25 j) 19 (by decide) hg.2.2.1 hg.2.2.2
      rw [if_neg (nI_ge (by omega) (by omega)), if_neg (nI_ge (by omega) (by omega)), if_neg (show ¬ (1 : Int32) = 0 by decide), if_neg (show ¬ 8 ≤ nI j from nI_ge (b := 8) (by omega) (by decide)), if_pos (inn (show j < 8 by omega) (by decide)), if_pos (inn (show j < 8 by omega) (by decide)), ixn (show j < 2 ^ 31 by omega), n2, np1, np1, if_pos (inn (show 2 * j < 16 by omega) (by decide)), if_pos (inn (show 2 * j < 16 by omega) (by decide)), if_pos (inn (show 2 * j + 1 < 16 by omega) (by decide)), ixn (show 2 * j < 2 ^ 31 by omega), ixn (show 2 * j + 1 < 2 ^ 31 by omega), hg.1, hg.2.1, hR.thn, eX, et, if_pos (inn (show t < 20 by omega) (by decide)), ixn (show t < 2 ^ 31 by omega), f_brt (by omega), bnd, if_pos (inn (show j < 8 by omega) (by decide))]
      by_cases c : X ≤ t
      · rw [if_pos (nI_le c (by omega)), if_pos (nI_le c (by omega))]
        exact ih (j + 1) (by omega) (by omega)
      · rw [if_neg (nI_ge (by omega) (by omega)), if_neg (nI_ge (by omega) (by omega)), hP.2.2.2.1 t (by omega)]
        by_cases d : a 18 t = a 26 j
        · rw [if_pos d, if_pos d]
          exact ih (j + 1) (by omega) (by omega)
        · rw [if_neg d, if_neg d, l_no (m := m) (by rw [hR.sgn, hm]) hm8 n (j + 1) (by omega) (by omega)]
          exact ⟨0, rfl, rfl⟩
theorem l_seeds {N : Nat} (hN : 10000 ≤ N) : ∀ (n j : Nat) (v : Int32) (a b : aT), j ≤ 31 → 31 - j < n → Rel N a b → Same N (f_C_seeds_4 N n v (nI j) a) (f_M_seedsNow_4 N n v (nI j) b) := by
  intro n
  induction n with
  | zero => intro j v a b h1 h2; omega
  | succ n ih =>
    intro j v a b h1 h2 h
    unfold f_C_seeds_4 f_M_seedsNow_4
    by_cases hj : j = 31
    · subst hj
      rw [if_pos (show 31 ≤ nI 31 by decide), if_pos (show 31 ≤ nI 31 by decide)]
      exact ⟨_, _, _, rfl, rfl, h⟩
    · have e1 : ¬ 31 ≤ nI j := nI_ge (b := 31) (by omega) (by decide)
      obtain ⟨X, hX, e⟩ := nofC 20 (by decide) h.thn0 h.thn1
      obtain ⟨m, hm, em⟩ := nofC 8 (by decide) h.sgn0 h.sgn1
      obtain ⟨a', b', k1, k2, k3, k4, k5⟩ := q_play hN (nI j) h hX
      have eX : a' 10 3 = nI X := by rw [(r_P_replay N (nI X) (nI j) a _ _ k1) 10 3 (nwc (by decide)), e]
      have eM : a' 24 2 = nI m := by rw [(r_P_replay N (nI X) (nI j) a _ _ k1) 24 2 (nwc (by decide)), em]
      obtain ⟨w, g1, g2⟩ := l_fit (k4 := f_M_seedsNow_4 N n) (x1 := v) (x2 := nI j) k3 hX eX k5 eM hm N 0 (by omega) (by omega)
      have g3 : f_G_fit N (nI X) a' = some w := g1
      have g4 : f_M_seedsNow_24 N (f_M_seedsNow_4 N n) N v (nI j) 1 0 b' = _ := g2
      rw [if_neg e1, if_neg e1, h.thn]
      unfold f_O_size
      rw [e, k1, k2, bnd, bnd]
      dsimp only
      rw [eX, g3, bnd, g4, np1]
      by_cases c : w = 0
      · rw [if_pos c, if_pos c, Int32.or_zero]
        exact ih (j + 1) _ _ _ (by omega) (by omega) k3
      · rw [if_neg c, if_neg c]
        exact ih (j + 1) _ _ _ (by omega) (by omega) k3
theorem q_seedsNow {N : Nat} {a b : aT} (hN : 10000 ≤ N) (h : Rel N a b) : Same N (f_C_seeds N a) (f_M_seedsNow N b) := l_seeds hN N 0 0 a b (by omega) (by omega) h
theorem q_seeds {N : Nat} {a b : aT} (hN : 10000 ≤ N) (h : Rel N a b) : Same N (f_C_seeds N a) (f_M_seeds N b) := by
  obtain ⟨r, a', b', g1, g2, g3⟩ := q_seedsNow hN h
  exact ⟨r, a', b', g1, by unfold f_M_seeds; rw [g2, bnd], g3⟩
theorem Rel.put {N : Nat} {a b : aT} {s k : Nat} (v : Int32) (h : Rel N a b) (hs : s < 4) (hk : k < 60) : Rel N (upA a 30 (60 * s + k) (f_H_lowestBits (a 28 s) v)) (upA b 34 (60 * s + k) (f_H_lowestBits (a 28 s) v)) := by
  refine h.ofSheets ?_ ?_ ?_ ?_ ?_
  · intro c i c1 c2 c3
    simp only [upA_get]
    grind
  · intro c i c1 c2 c3 c4
    simp only [upA_get]
    grind
  · intro t ht
    simp only [upA_get]
    have := h.fo t ht
    grind
  · intro t ht
    simp only [upA_get]
    have := h.si t ht
    grind
  · intro t ht d1 i hi d2
    simp only [upA_get, reduceIte, Nat.reduceEqDiff] at d1 d2 ⊢
    by_cases e : 60 * t + i = 60 * s + k
    · have : t = s := by omega
      subst this
      simp only [if_pos e, low_low, and_self]
    · simp only [if_neg e]
      exact h.it t ht d1 i hi d2
theorem l_write {N s m : Nat} (hs : s < 4) (hm : m ≤ 20) : ∀ (n j : Nat) (a b : aT), j ≤ m → m - j < n → Rel N a b → (∀ i, i < m → b 48 i = a 18 i) → Same N (f_C_write_59 N n (nI s) (nI m) (nI j) a) (f_M_write_58 N n (nI s) (nI m) (nI j) b) := by
  intro n
  induction n with
  | zero => intro j a b h1 h2; omega
  | succ n ih =>
    intro j a b h1 h2 h hb
    unfold f_C_write_59 f_M_write_58
    by_cases hj : j = m
    · rw [if_pos (nI_le (by omega) (by omega)), if_pos (nI_le (by omega) (by omega))]
      exact ⟨_, _, _, rfl, rfl, h⟩
    · rw [if_neg (nI_ge (by omega) (by omega)), if_neg (nI_ge (by omega) (by omega)), f_brt (by omega), bnd, f_put hs (show j < 60 by omega), bnd, if_pos (inn hs (by decide)), if_pos (inn (show j < 20 by omega) (by decide)), n60, nI_add, np1, if_pos (inn (show 60 * s + j < 240 by omega) (by decide)), ixn (show s < 2 ^ 31 by omega), ixn (show j < 2 ^ 31 by omega), ixn (show 60 * s + j < 2 ^ 31 by omega), low_cut, (h.fo s hs).1, hb j (by omega)]
      dsimp only
      refine ih (j + 1) _ _ (by omega) (by omega) (h.put _ hs (by omega)) (fun i hi => ?_)
      simp only [upA_get, reduceIte, Nat.reduceEqDiff]
      exact hb i hi
theorem q_write {N : Nat} {a b : aT} {p : Int32} (hN : 10000 ≤ N) (h : Rel N a b) : Same N (f_C_write N p a) (f_M_write N p b) := by
  obtain ⟨a', b', X, hX, e, k1, k2, k3, k4, k5⟩ := q_playAll hN h
  have a28 : a' 28 = a 28 := funext fun i => (r_P_replayAll N a _ _ k1) 28 i (nwc (by decide))
  unfold f_C_write f_M_write f_H_isLost f_H_formOf f_H_sizeOf
  simp only [blw, sheet_0]
  by_cases h1 : p < 0 ∨ 4 ≤ p
  · simp only [if_pos h1]
    exact ⟨_, _, _, rfl, rfl, h⟩
  simp only [if_neg h1]
  obtain ⟨s, hs, rfl⟩ := nof 4 (by decide) h1
  simp only [if_pos (inn hs (show 4 ≤ 2 ^ 31 by decide)), ixn (show s < 2 ^ 31 by omega), bnd]
  have hf := h.fo s hs
  by_cases h2 : a 28 s = -1
  · simp only [if_pos h2, if_neg (show ¬ 0 ≤ b 32 s by grind), bnd, if_neg (show ¬ (1 : Int32) = 0 by decide)]
    exact ⟨_, _, _, rfl, rfl, q_met 1 h⟩
  · simp only [if_neg h2, if_pos (show 0 ≤ b 32 s by grind), bnd, reduceIte, k1, k2]
    have hz := k3.si s hs (by rw [a28]; exact h2)
    obtain ⟨m, hm, em⟩ := nofC 60 (by decide) hz.2.1 hz.2.2
    unfold f_O_size f_J_min
    rw [hz.1, em, k3.thn, e]
    by_cases c : X ≤ m
    · rw [if_pos (nI_le c (by omega))]
      have ej : (if nI X < nI m then nI X else nI m) = nI X := by
        by_cases d : m = X
        · rw [d, ite_self]
        · rw [if_pos (nI_lt (by omega) (by omega))]
      rw [ej]
      exact l_write hs hX N 0 a' b' (by omega) (by omega) k3 (fun i hi => k5.2.2.2.1 i hi)
    · rw [if_neg (nI_ge (by omega) (by omega)), if_neg (nI_nlt (by omega) (by omega))]
      exact l_write hs (by omega) N 0 a' b' (by omega) (by omega) k3 (fun i hi => k5.2.2.2.1 i (by omega))
