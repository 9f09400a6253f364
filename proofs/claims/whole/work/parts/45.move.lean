/-! the copying -/
theorem l_mvF {N : Nat} {a0 : aT} {s1 p2 s3 p4 m : Nat} (h1 : s1 < 4) (h3 : s3 < 4) (hp2 : p2 + m ≤ 60) (hp4 : p4 + m ≤ 60) (hd : p4 ≤ p2) : ∀ (n k : Nat) (a : aT), k ≤ m → m - k < n →
    (∀ c i, a c i = if c = 30 ∧ 60 * s3 + p4 ≤ i ∧ i < 60 * s3 + p4 + k then f_H_lowestBits (a0 28 s3) (a0 30 (60 * s1 + p2 + (i - (60 * s3 + p4)))) else a0 c i) →
    ∃ a', f_H_move_3 N n (nI s1) (nI p2) (nI s3) (nI p4) (nI m) (nI k) a = some ((), a') ∧ (∀ c i, a' c i = if c = 30 ∧ 60 * s3 + p4 ≤ i ∧ i < 60 * s3 + p4 + m then f_H_lowestBits (a0 28 s3) (a0 30 (60 * s1 + p2 + (i - (60 * s3 + p4)))) else a0 c i) := by
  intro n
  induction n with
  | zero => intro k a h1 h2; omega
  | succ n ih =>
    intro k a hk hn ha
    unfold f_H_move_3
    by_cases e : k = m
    · subst e
      rw [if_pos (nI_le (Nat.le_refl _) (by omega))]
      exact ⟨a, rfl, ha⟩
    rw [if_neg (nI_ge (by omega) (by omega)), if_pos (nI_le hd (by omega))]
    unfold f_H_move_28
    simp only [nI_add, np1]
    rw [f_item h1 (show p2 + k < 60 by omega), bnd, f_put h3 (show p4 + k < 60 by omega), bnd]
    refine ih (k + 1) _ (by omega) (by omega) (fun c i => ?_)
    dsimp only
    rw [upA_get]
    by_cases hc : c = 30
    · subst hc
      by_cases hi : i = 60 * s3 + (p4 + k)
      · rw [if_pos rfl, if_pos hi, if_pos (by omega), ha 28 s3, if_neg (by omega), ha 30 (60 * s1 + (p2 + k)), if_neg (by omega)]
        congr 2
        omega
      · rw [if_pos rfl, if_neg hi, ha 30 i]
        by_cases hr : 60 * s3 + p4 ≤ i ∧ i < 60 * s3 + p4 + k
        · rw [if_pos ⟨rfl, hr⟩, if_pos (by omega)]
        · rw [if_neg (fun q => hr q.2), if_neg (by omega)]
    · rw [if_neg hc, ha c i, if_neg (fun q => hc q.1), if_neg (fun q => hc q.1)]
theorem l_mvB {N : Nat} {a0 : aT} {s1 p2 s3 p4 m : Nat} (h1 : s1 < 4) (h3 : s3 < 4) (hp2 : p2 + m ≤ 60) (hp4 : p4 + m ≤ 60) (hd : p2 < p4) : ∀ (n k : Nat) (a : aT), k ≤ m → m - k < n →
    (∀ c i, a c i = if c = 30 ∧ 60 * s3 + p4 + (m - k) ≤ i ∧ i < 60 * s3 + p4 + m then f_H_lowestBits (a0 28 s3) (a0 30 (60 * s1 + p2 + (i - (60 * s3 + p4)))) else a0 c i) →
    ∃ a', f_H_move_3 N n (nI s1) (nI p2) (nI s3) (nI p4) (nI m) (nI k) a = some ((), a') ∧ (∀ c i, a' c i = if c = 30 ∧ 60 * s3 + p4 ≤ i ∧ i < 60 * s3 + p4 + m then f_H_lowestBits (a0 28 s3) (a0 30 (60 * s1 + p2 + (i - (60 * s3 + p4)))) else a0 c i) := by
  intro n
  induction n with
  | zero => intro k a h1 h2; omega
  | succ n ih =>
    intro k a hk hn ha
    unfold f_H_move_3
    by_cases e : k = m
    · subst e
      rw [if_pos (nI_le (Nat.le_refl _) (by omega))]
      refine ⟨a, rfl, fun c i => ?_⟩
      rw [ha c i, Nat.sub_self, Nat.add_zero]
    rw [if_neg (nI_ge (by omega) (by omega)), if_neg (nI_ge hd (by omega))]
    unfold f_H_move_28
    have e1 : nI m - 1 - nI k = nI (m - 1 - k) := by
      rw [show (1 : Int32) = nI 1 from rfl, pk_sub (by omega), pk_sub (by omega)]
    simp only [e1, nI_add, np1]
    rw [f_item h1 (show p2 + (m - 1 - k) < 60 by omega), bnd, f_put h3 (show p4 + (m - 1 - k) < 60 by omega), bnd]
    refine ih (k + 1) _ (by omega) (by omega) (fun c i => ?_)
    dsimp only
    rw [upA_get]
    by_cases hc : c = 30
    · subst hc
      by_cases hi : i = 60 * s3 + (p4 + (m - 1 - k))
      · rw [if_pos rfl, if_pos hi, if_pos (by omega), ha 28 s3, if_neg (by omega), ha 30 (60 * s1 + (p2 + (m - 1 - k))), if_neg (by omega)]
        congr 2
        omega
      · rw [if_pos rfl, if_neg hi, ha 30 i]
        by_cases hr : 60 * s3 + p4 + (m - k) ≤ i ∧ i < 60 * s3 + p4 + m
        · rw [if_pos ⟨rfl, hr⟩, if_pos (by omega)]
        · rw [if_neg (fun q => hr q.2), if_neg (by omega)]
    · rw [if_neg hc, ha c i, if_neg (fun q => hc q.1), if_neg (fun q => hc q.1)]
theorem l_cp2 {N : Nat} {b0 : aT} {s3 p4 m : Nat} (h3 : s3 < 4) (hp4 : p4 + m ≤ 60) : ∀ (n k : Nat) (b : aT), k ≤ m → m - k < n →
    (∀ c i, b c i = if c = 34 ∧ 60 * s3 + p4 ≤ i ∧ i < 60 * s3 + p4 + k then b0 35 (i - (60 * s3 + p4)) else b0 c i) →
    ∃ b', f_M_copy_157 N n (nI s3) (nI p4) (nI m) (nI k) b = some (1, b') ∧ (∀ c i, b' c i = if c = 34 ∧ 60 * s3 + p4 ≤ i ∧ i < 60 * s3 + p4 + m then b0 35 (i - (60 * s3 + p4)) else b0 c i) := by
  intro n
  induction n with
  | zero => intro k a h1 h2; omega
  | succ n ih =>
    intro k a hk hn ha
    unfold f_M_copy_157
    by_cases e : k = m
    · subst e
      rw [if_pos (nI_le (Nat.le_refl _) (by omega))]
      exact ⟨a, rfl, ha⟩
    rw [if_neg (nI_ge (by omega) (by omega)), if_pos (inn (show k < 60 by omega) (by decide)), ixn (show k < 2 ^ 31 by omega)]
    simp only [n60, nI_add, np1]
    rw [if_pos (inn (show 60 * s3 + p4 + k < 240 by omega) (by decide)), ixn (by omega)]
    refine ih (k + 1) _ (by omega) (by omega) (fun c i => ?_)
    rw [upA_get]
    by_cases hc : c = 34
    · subst hc
      by_cases hi : i = 60 * s3 + p4 + k
      · rw [if_pos rfl, if_pos hi, if_pos (by omega), ha 35 k, if_neg (by omega)]
        congr 1
        omega
      · rw [if_pos rfl, if_neg hi, ha 34 i]
        by_cases hr : 60 * s3 + p4 ≤ i ∧ i < 60 * s3 + p4 + k
        · rw [if_pos ⟨rfl, hr⟩, if_pos (by omega)]
        · rw [if_neg (fun q => hr q.2), if_neg (by omega)]
    · rw [if_neg hc, ha c i, if_neg (fun q => hc q.1), if_neg (fun q => hc q.1)]
theorem l_cp1 {N : Nat} {b0 : aT} {s1 p2 s3 p4 m : Nat} (h1 : s1 < 4) (h3 : s3 < 4) (hp2 : p2 + m ≤ 60) (hp4 : p4 + m ≤ 60) (hN : 60 < N) : ∀ (n k : Nat) (b : aT), k ≤ m → m - k < n →
    (∀ c i, b c i = if c = 35 ∧ i < k then b0 34 (60 * s1 + p2 + i) else b0 c i) →
    ∃ b', f_M_copy_120 N n (nI s1) (nI p2) (nI s3) (nI p4) (nI m) (nI k) b = some (1, b') ∧ (∀ c i, b' c i = if c = 34 ∧ 60 * s3 + p4 ≤ i ∧ i < 60 * s3 + p4 + m then b0 34 (60 * s1 + p2 + (i - (60 * s3 + p4))) else if c = 35 ∧ i < m then b0 34 (60 * s1 + p2 + i) else b0 c i) := by
  intro n
  induction n with
  | zero => intro k a h1 h2; omega
  | succ n ih =>
    intro k a hk hn ha
    unfold f_M_copy_120
    by_cases e : k = m
    · subst e
      rw [if_pos (nI_le (Nat.le_refl _) (by omega))]
      obtain ⟨b', g1, g2⟩ := l_cp2 (N := N) (b0 := a) h3 hp4 N 0 a (by omega) (by omega) (fun c i => by rw [if_neg (by omega)])
      refine ⟨b', g1, fun c i => ?_⟩
      rw [g2 c i]
      by_cases hr : c = 34 ∧ 60 * s3 + p4 ≤ i ∧ i < 60 * s3 + p4 + k
      · rw [if_pos hr, if_pos hr, ha, if_pos ⟨rfl, by omega⟩]
      · rw [if_neg hr, if_neg hr, ha]
    rw [if_neg (nI_ge (by omega) (by omega))]
    simp only [n60, nI_add, np1]
    rw [if_pos (inn (show 60 * s1 + p2 + k < 240 by omega) (by decide)), if_pos (inn (show k < 60 by omega) (by decide)), ixn (show k < 2 ^ 31 by omega), ixn (show 60 * s1 + p2 + k < 2 ^ 31 by omega)]
    refine ih (k + 1) _ (by omega) (by omega) (fun c i => ?_)
    rw [upA_get]
    by_cases hc : c = 35
    · subst hc
      by_cases hi : i = k
      · rw [if_pos rfl, if_pos hi, if_pos (by omega), ha 34, if_neg (by omega), hi]
      · rw [if_pos rfl, if_neg hi, ha 35 i]
        by_cases hr : i < k
        · rw [if_pos ⟨rfl, hr⟩, if_pos (by omega)]
        · rw [if_neg (fun q => hr q.2), if_neg (by omega)]
    · rw [if_neg hc, ha c i, if_neg (fun q => hc q.1), if_neg (fun q => hc q.1)]
theorem f_run {a : aT} {s m : Nat} {p q : Int32} (hs : s < 4) (hz : a 29 s = nI m) (hm : m ≤ 60) : f_H_hasRun (nI s) p q a = some (if p < 0 ∨ q < 0 ∨ nI m < p ∨ nI m - p < q then 0 else 1) := by
  have h1 : f_H_sizeOf (nI s) a = some (nI m) := by
    unfold f_H_sizeOf
    rw [if_neg (show ¬ f_C_isBelow (nI s) 4 = 0 from mt blw.mp (nlt4 (n := 4) (L := 4) rfl (by decide) (by omega))), if_pos (inn hs (by decide)), ixn (by omega), hz]
  unfold f_H_hasRun
  rw [h1]
  by_cases c1 : p < 0
  · rw [if_pos c1, if_pos (Or.inl c1)]
  by_cases c2 : q < 0
  · rw [if_neg c1, if_pos c2, if_pos (Or.inr (Or.inl c2))]
  by_cases c3 : nI m < p
  · rw [if_neg c1, if_neg c2, bnd, if_pos c3, if_pos (Or.inr (Or.inr (Or.inl c3)))]
  by_cases c4 : nI m - p < q
  · rw [if_neg c1, if_neg c2, bnd, if_neg c3, bnd, if_pos c4, if_pos (Or.inr (Or.inr (Or.inr c4)))]
  · rw [if_neg c1, if_neg c2, bnd, if_neg c3, bnd, if_neg c4, if_neg (by grind)]
theorem lg_sum {m : Nat} {p q : Int32} (hm : m ≤ 60) (hp : ¬ p < 0) (hq : ¬ q < 0) : 0 < lg_cmp (p.toInt64 + q.toInt64) (nI m).toInt64 ↔ (nI m < p ∨ nI m - p < q) := by
  obtain ⟨i, hi, rfl⟩ := nI_of hp
  obtain ⟨j, hj, rfl⟩ := nI_of hq
  have e1 : ((nI i).toInt64 + (nI j).toInt64).toInt = (i : Int) + j := by
    rw [Int64.toInt_add, Int32.toInt_toInt64, Int32.toInt_toInt64, nI_toInt hi, nI_toInt hj]
    exact Int.bmod_eq_of_le (by omega) (by omega)
  have e2 : ((nI m).toInt64).toInt = (m : Int) := by rw [Int32.toInt_toInt64, nI_toInt (by omega)]
  have e3 : ((nI i).toInt64 + (nI j).toInt64 < (nI m).toInt64) ↔ i + j < m := by rw [Int64.lt_iff_toInt_lt, e1, e2]; omega
  have e4 : ((nI m).toInt64 < (nI i).toInt64 + (nI j).toInt64) ↔ m < i + j := by rw [Int64.lt_iff_toInt_lt, e1, e2]; omega
  have e5 : (0 < lg_cmp ((nI i).toInt64 + (nI j).toInt64) (nI m).toInt64) ↔ m < i + j := by
    rw [← e4]
    unfold lg_cmp
    grind
  rw [e5, nI_ltI (by omega) hi]
  by_cases c : m < i
  · simp only [c, true_or, iff_true]; omega
  · rw [pk_sub (by omega), nI_ltI (by omega) hj]
    omega
theorem q_copy {N : Nat} {a b : aT} {p1 p2 p3 p4 p5 : Int32} (hN : 10000 ≤ N) (h : Rel N a b) : Same N (f_C_copy N p1 p2 p3 p4 p5 a) (f_M_copy N p1 p2 p3 p4 p5 b) := by
  unfold f_C_copy f_M_copy
  simp only [blw, sheet_0]
  by_cases h1 : p1 < 0 ∨ 4 ≤ p1
  · simp only [if_pos h1]
    exact ⟨_, _, _, rfl, rfl, h⟩
  simp only [if_neg h1]
  by_cases h2 : p3 < 0 ∨ 4 ≤ p3
  · simp only [if_pos h2]
    exact ⟨_, _, _, rfl, rfl, h⟩
  simp only [if_neg h2]
  obtain ⟨s, hs, rfl⟩ := nof 4 (by decide) h1
  obtain ⟨t, ht, rfl⟩ := nof 4 (by decide) h2
  have m1 := q_met 1 h
  have m2 := q_met 2 h
  have m4 := q_met 4 h
  have hf := h.fo s hs
  have hg := h.fo t ht
  have fs : f_H_formOf (nI s) a = some (a 28 s) := by
    unfold f_H_formOf
    rw [if_neg (mt blw.mp h1), if_pos (inn hs (by decide)), ixn (by omega)]
  have ft : f_H_formOf (nI t) a = some (a 28 t) := by
    unfold f_H_formOf
    rw [if_neg (mt blw.mp h2), if_pos (inn ht (by decide)), ixn (by omega)]
  have ls : f_H_isLost (nI s) a = some (if a 28 s = -1 then 1 else 0) := by
    unfold f_H_isLost
    rw [fs, bnd]
    by_cases c : a 28 s = -1
    · rw [if_pos c, if_pos c]
    · rw [if_neg c, if_neg c]
  have lt : f_H_isLost (nI t) a = some (if a 28 t = -1 then 1 else 0) := by
    unfold f_H_isLost
    rw [ft, bnd]
    by_cases c : a 28 t = -1
    · rw [if_pos c, if_pos c]
    · rw [if_neg c, if_neg c]
  rw [ls, lt, fs, ft]
  simp only [if_pos (inn hs (show 4 ≤ 2 ^ 31 by decide)), if_pos (inn ht (show 4 ≤ 2 ^ 31 by decide)), ixn (show s < 2 ^ 31 by omega), ixn (show t < 2 ^ 31 by omega), bnd]
  by_cases c1 : a 28 s = -1
  · simp only [if_pos c1, if_pos (show b 32 s < 0 by grind), if_neg (show ¬ (1 : Int32) = 0 by decide)]
    exact ⟨_, _, _, rfl, rfl, m1⟩
  simp only [if_neg c1, if_neg (show ¬ b 32 s < 0 by grind), reduceIte]
  by_cases c2 : a 28 t = -1
  · simp only [if_pos c2, if_neg (show ¬ 0 ≤ b 32 t by grind), if_neg (show ¬ (1 : Int32) = 0 by decide)]
    exact ⟨_, _, _, rfl, rfl, m1⟩
  simp only [if_neg c2, if_pos (show 0 ≤ b 32 t by grind), reduceIte]
  by_cases c3 : a 28 s = a 28 t
  case neg =>
    simp only [if_neg c3, if_neg (show ¬ b 32 s = b 32 t by grind)]
    exact ⟨_, _, _, rfl, rfl, m4⟩
  simp only [if_pos c3, if_pos (show b 32 s = b 32 t by grind)]
  have zs := h.si s hs c1
  have zt := h.si t ht c2
  obtain ⟨m, hm, em⟩ := nofC 60 (by decide) zs.2.1 zs.2.2
  obtain ⟨k, hk, ek⟩ := nofC 60 (by decide) zt.2.1 zt.2.2
  rw [f_run hs em hm, f_run ht ek hk, zs.1, zt.1, em, ek]
  simp only [bnd]
  by_cases d1 : p2 < 0
  · rw [if_pos (show p2 < 0 ∨ p5 < 0 ∨ nI m < p2 ∨ nI m - p2 < p5 from Or.inl d1), if_pos rfl, if_pos d1]
    exact ⟨_, _, _, rfl, rfl, m2⟩
  by_cases d5 : p5 < 0
  · rw [if_pos (show p2 < 0 ∨ p5 < 0 ∨ nI m < p2 ∨ nI m - p2 < p5 from Or.inr (Or.inl d5)), if_pos rfl, if_neg d1]
    by_cases d4 : p4 < 0
    · rw [if_pos d4]
      exact ⟨_, _, _, rfl, rfl, m2⟩
    · rw [if_neg d4, if_pos d5]
      exact ⟨_, _, _, rfl, rfl, m2⟩
  have L1 := lg_sum hm d1 d5
  by_cases x1 : nI m < p2 ∨ nI m - p2 < p5
  · rw [if_pos (show p2 < 0 ∨ p5 < 0 ∨ nI m < p2 ∨ nI m - p2 < p5 from Or.inr (Or.inr x1)), if_pos rfl, if_neg d1]
    by_cases d4 : p4 < 0
    · rw [if_pos d4]
      exact ⟨_, _, _, rfl, rfl, m2⟩
    · rw [if_neg d4, if_neg d5, if_pos (L1.mpr x1)]
      exact ⟨_, _, _, rfl, rfl, m2⟩
  rw [if_neg (show ¬ (p2 < 0 ∨ p5 < 0 ∨ nI m < p2 ∨ nI m - p2 < p5) from fun q => q.elim d1 (fun q => q.elim d5 x1)), if_neg (show ¬ (1 : Int32) = 0 by decide), if_neg d1]
  by_cases d4 : p4 < 0
  · rw [if_pos (show p4 < 0 ∨ p5 < 0 ∨ nI k < p4 ∨ nI k - p4 < p5 from Or.inl d4), if_pos rfl, if_pos d4]
    exact ⟨_, _, _, rfl, rfl, m2⟩
  rw [if_neg d4, if_neg d5, if_neg (mt L1.mp x1)]
  have L2 := lg_sum hk d4 d5
  have L3 : lg_cmp (p4.toInt64 + p5.toInt64) (nI k).toInt64 ≤ 0 ↔ ¬ (nI k < p4 ∨ nI k - p4 < p5) := by
    rw [← L2]
    grind
  by_cases x2 : nI k < p4 ∨ nI k - p4 < p5
  · rw [if_pos (show p4 < 0 ∨ p5 < 0 ∨ nI k < p4 ∨ nI k - p4 < p5 from Or.inr (Or.inr x2)), if_pos rfl, if_neg (fun q => L3.mp q x2)]
    exact ⟨_, _, _, rfl, rfl, m2⟩
  rw [if_neg (show ¬ (p4 < 0 ∨ p5 < 0 ∨ nI k < p4 ∨ nI k - p4 < p5) from fun q => q.elim d4 (fun q => q.elim d5 x2)), if_neg (show ¬ (1 : Int32) = 0 by decide), if_pos (L3.mpr x2)]
  obtain ⟨u, hu, rfl⟩ := nI_of d1
  obtain ⟨v, hv, rfl⟩ := nI_of d4
  obtain ⟨w, hw, rfl⟩ := nI_of d5
  have y1 : u + w ≤ m := by
    rw [nI_ltI (by omega) hu] at x1
    have : u ≤ m := by omega
    rw [pk_sub this, nI_ltI (by omega) hw] at x1
    omega
  have y2 : v + w ≤ k := by
    rw [nI_ltI (by omega) hv] at x2
    have : v ≤ k := by omega
    rw [pk_sub this, nI_ltI (by omega) hw] at x2
    omega
  obtain ⟨a', g1, g2⟩ : ∃ a', f_H_move_3 N N (nI s) (nI u) (nI t) (nI v) (nI w) (nI 0) a = some ((), a') ∧ (∀ c i, a' c i = if c = 30 ∧ 60 * t + v ≤ i ∧ i < 60 * t + v + w then f_H_lowestBits (a 28 t) (a 30 (60 * s + u + (i - (60 * t + v)))) else a c i) := by
    by_cases hd : v ≤ u
    · exact l_mvF hs ht (by omega) (by omega) hd N 0 a (by omega) (by omega) (fun c i => by rw [if_neg (by omega)])
    · exact l_mvB hs ht (by omega) (by omega) (by omega) N 0 a (by omega) (by omega) (fun c i => by rw [if_neg (by omega)])
  obtain ⟨b', g3, g4⟩ := l_cp1 (N := N) (b0 := b) (m := w) (s1 := s) (p2 := u) (s3 := t) (p4 := v) hs ht (by omega) (by omega) (by omega) N 0 b (by omega) (by omega) (fun c i => by rw [if_neg (by omega)])
  unfold f_H_move
  rw [show (0 : Int32) = nI 0 from rfl, g1, g3]
  refine ⟨_, _, _, rfl, rfl, h.ofSheets ?_ ?_ ?_ ?_ ?_⟩
  · intro c i c1 c2 c3
    dsimp only
    rw [g2, if_neg (fun q => c3 q.1)]
  · intro c i c1 c2 c3 c4
    rw [g4, if_neg (fun q => c3 q.1), if_neg (fun q => c4 q.1)]
  · intro x hx
    dsimp only
    rw [g2, g4, if_neg (by omega), if_neg (by omega), if_neg (by omega)]
    exact h.fo x hx
  · intro x hx
    dsimp only
    rw [g2, g2, g4, if_neg (by omega), if_neg (by omega), if_neg (by omega), if_neg (by omega)]
    exact h.si x hx
  · intro x hx
    dsimp only
    rw [g2 28, g2 29, if_neg (by omega), if_neg (by omega)]
    intro f1 i hi f2
    rw [g2 30, g4 34]
    by_cases hr : 60 * t + v ≤ 60 * x + i ∧ 60 * x + i < 60 * t + v + w
    · rw [if_pos ⟨rfl, hr⟩, if_pos ⟨rfl, hr⟩]
      have hxt : x = t := by omega
      subst hxt
      have := h.it s hs c1 (u + (i - v)) (by omega) (by rw [em]; exact nI_lt (by omega) (by omega))
      have e9 : 60 * s + u + (60 * x + i - (60 * x + v)) = 60 * s + (u + (i - v)) := by omega
      rw [e9, ← c3, this.2, this.1, this.2]
      exact ⟨rfl, rfl⟩
    · rw [if_neg (fun q => hr q.2), if_neg (by omega), if_neg (fun q => hr q.2)]
      exact h.it x hx f1 i hi f2
