/-! the runners: rounds, what is hit -/
def TW (m : Nat) (e f : Nat → Nat) (a b : aT) : Prop :=
  a 21 2 = nI m ∧ b 31 29 = nI m ∧ m ≤ 3 ∧ ∀ i, i < m → a 22 i = nI (e i) ∧ a 23 i = nI (f i) ∧ b 49 (2 * i) = nI (e i) ∧ b 49 (2 * i + 1) = nI (f i) ∧ 1 ≤ e i ∧ e i ≤ 20 ∧ f i < e i
theorem Rel.tws {N : Nat} {a b : aT} (h : Rel N a b) : ∃ m e f, TW m e f a b := by
  obtain ⟨m, hm, em⟩ := nofC 3 (by decide) h.twn0 h.twn1
  refine ⟨m, fun i => ix (a 22 i), fun i => ix (a 23 i), em, by rw [h.twn, em], hm, fun i hi => ?_⟩
  have ht := h.tw i (by omega)
  have h2 := ht.2.2 (by rw [em]; exact nI_lt hi (by omega))
  obtain ⟨u, hu, eu⟩ := nofC (p := a 22 i) 20 (by decide) (by grind) h2.2.1
  obtain ⟨v, hv, ev⟩ := nofC (p := a 23 i) 20 (by decide) h2.2.2.1 (by have : nI 20 = 20 := rfl; grind)
  have h3 := h2.1
  have h4 := h2.2.2.2
  rw [eu] at h3 h4
  rw [ev] at h4
  dsimp only
  rw [ht.1, ht.2.1, eu, ev, ixn (by omega), ixn (by omega)]
  refine ⟨rfl, rfl, rfl, rfl, ?_, hu, (nI_ltI (by omega) (by omega)).mp h4⟩
  exact (nI_leI (a := 1) (by omega) (by omega)).mp h3
theorem rem_n {a d : Nat} (ha : a < 2 ^ 31) (h0 : 0 < d) (hd : d < 2 ^ 31) : i_rem (nI a) (nI d) = nI (a % d) := pk_rem ha h0 hd
theorem n_eq0 {k : Nat} (h : k < 2 ^ 31) : nI k = 0 ↔ k = 0 := nI_eq (b := 0) h (by omega)
theorem l_mult {N m : Nat} {e f : Nat → Nat} {a b : aT} (h : TW m e f a b) {i A : Nat} (hi : i < m) (hA : A ≤ 400) {k4 : Int32 → Int32 → Option Int32} : ∀ (d n1 n2 t : Nat), e i - t = d → 1 ≤ t → t ≤ e i → d < n1 → d < n2 → ∃ z, z ≤ A * e i ∧ f_W_leastMultiple_2 N n1 (nI A) (nI (e i)) (nI t) = some (nI z) ∧ f_M_round_14 N b k4 n2 (nI A) (nI i) (nI (A * t)) = k4 (nI z) (nI (i + 1)) := by
  obtain ⟨t1, t2, t3, t4⟩ := h
  obtain ⟨u1, u2, u3, u4, u5, u6, u7⟩ := t4 i hi
  have hne : ¬ nI (e i) = 0 := nI_ne0 (by omega) (by omega)
  intro d
  induction d with
  | zero =>
    intro n1 n2 t h1 h2 h3 h4 h5
    have et : t = e i := by omega
    subst et
    obtain ⟨n1, rfl⟩ : ∃ k, n1 = k + 1 := ⟨n1 - 1, by omega⟩
    obtain ⟨n2, rfl⟩ : ∃ k, n2 = k + 1 := ⟨n2 - 1, by omega⟩
    have hAe : A * e i ≤ 400 * 20 := Nat.mul_le_mul hA u6
    refine ⟨A * e i, Nat.le_refl _, ?_, ?_⟩
    · unfold f_W_leastMultiple_2
      rw [if_pos (nI_le (Nat.le_refl _) (by omega)), pk_mul]
    · unfold f_M_round_14
      rw [show (2 : Int32) * nI i = nI (2 * i) from pk_mul 2 i, if_pos (inn (show 2 * i < 6 by omega) (by decide)), ixn (by omega), u3, if_neg hne, rem_n (by omega) (by omega) (by omega), Nat.mul_mod_left, if_pos (show nI 0 = 0 from rfl), np1]
  | succ d ih =>
    intro n1 n2 t h1 h2 h3 h4 h5
    obtain ⟨n1, rfl⟩ : ∃ k, n1 = k + 1 := ⟨n1 - 1, by omega⟩
    obtain ⟨n2, rfl⟩ : ∃ k, n2 = k + 1 := ⟨n2 - 1, by omega⟩
    have hAt : A * t ≤ 400 * 20 := Nat.mul_le_mul hA (by omega)
    have hm : A * t % e i < e i := Nat.mod_lt _ (by omega)
    obtain ⟨z, y0, y1, y2⟩ := ih n1 n2 (t + 1) (by omega) (by omega) (by omega) (by omega) (by omega)
    unfold f_W_leastMultiple_2 f_M_round_14
    rw [if_neg (nI_ge (by omega) (by omega)), if_neg (nI_nle (by omega) (by omega)), if_neg hne, pk_mul, rem_n (by omega) (by omega) (by omega), show (2 : Int32) * nI i = nI (2 * i) from pk_mul 2 i, if_pos (inn (show 2 * i < 6 by omega) (by decide)), ixn (by omega), u3, if_neg hne, rem_n (by omega) (by omega) (by omega), np1, np1, nI_add]
    have n0 : nI (A * t % e i) = 0 ↔ A * t % e i = 0 := n_eq0 (by omega)
    by_cases c : A * t % e i = 0
    · rw [if_pos (n0.mpr c), if_pos (n0.mpr c)]
      exact ⟨A * t, Nat.mul_le_mul (Nat.le_refl _) h3, rfl, rfl⟩
    · rw [if_neg (mt n0.mp c), if_neg (mt n0.mp c), ← Nat.mul_succ]
      exact ⟨z, y0, y1, y2⟩
theorem l_round {N m : Nat} {e f : Nat → Nat} {a b : aT} (hN : 10000 ≤ N) (h : TW m e f a b) : ∀ (d n1 n2 i A : Nat), m - i = d → i ≤ m → A ≤ 20 ^ i → d < n1 → d < n2 → ∃ z, z ≤ 8000 ∧ f_W_roundLength_4 N a n1 (nI A) (nI i) = some (nI z) ∧ f_M_round_4 N b n2 (nI A) (nI i) = some (nI z) := by
  have t1 := h.1
  have t2 := h.2.1
  have t3 := h.2.2.1
  intro d
  induction d with
  | zero =>
    intro n1 n2 i A h1 h2 h3 h4 h5
    have ei : i = m := by omega
    subst ei
    obtain ⟨n1, rfl⟩ : ∃ k, n1 = k + 1 := ⟨n1 - 1, by omega⟩
    obtain ⟨n2, rfl⟩ : ∃ k, n2 = k + 1 := ⟨n2 - 1, by omega⟩
    have h8 : 20 ^ i ≤ 20 ^ 3 := Nat.pow_le_pow_right (by omega) t3
    refine ⟨A, by omega, ?_, ?_⟩
    · unfold f_W_roundLength_4
      rw [t1, if_pos (nI_le (Nat.le_refl _) (by omega))]
    · unfold f_M_round_4
      rw [t2, if_pos (nI_le (Nat.le_refl _) (by omega))]
  | succ d ih =>
    intro n1 n2 i A h1 h2 h3 h4 h5
    obtain ⟨n1, rfl⟩ : ∃ k, n1 = k + 1 := ⟨n1 - 1, by omega⟩
    obtain ⟨n2, rfl⟩ : ∃ k, n2 = k + 1 := ⟨n2 - 1, by omega⟩
    have h8 : 20 ^ i ≤ 20 ^ 2 := Nat.pow_le_pow_right (by omega) (by omega)
    obtain ⟨u1, u2, u3, u4, u5, u6, u7⟩ := h.2.2.2 i (by omega)
    obtain ⟨z, y0, y1, y2⟩ := l_mult (N := N) h (i := i) (A := A) (k4 := f_M_round_4 N b n2) (by omega) (by omega) (e i - 1) N N 1 rfl (by omega) u5 (by omega) (by omega)
    have hz : z ≤ 20 ^ (i + 1) := by
      rw [Nat.pow_succ]
      exact Nat.le_trans y0 (Nat.mul_le_mul h3 u6)
    obtain ⟨z2, x0, x1, x2⟩ := ih n1 n2 (i + 1) z (by omega) (by omega) hz (by omega) (by omega)
    have y3 : f_W_leastMultiple N (nI A) (nI (e i)) = some (nI z) := y1
    rw [Nat.mul_one] at y2
    refine ⟨z2, x0, ?_, ?_⟩
    · unfold f_W_roundLength_4
      rw [t1, if_neg (nI_ge (by omega) (by omega)), if_neg (show ¬ 3 ≤ nI i from nI_ge (b := 3) (by omega) (by decide)), if_pos (inn (show i < 3 by omega) (by decide)), ixn (by omega), u1, y3, bnd, np1]
      exact x1
    · unfold f_M_round_4
      rw [t2, if_neg (nI_ge (by omega) (by omega)), y2]
      exact x2
theorem q_round {N m : Nat} {e f : Nat → Nat} {a b : aT} (hN : 10000 ≤ N) (h : TW m e f a b) : ∃ z, z ≤ 8000 ∧ f_W_roundLength N a = some (nI z) ∧ f_M_round N b = some (nI z) :=
  l_round hN h m N N 0 1 (by omega) (by omega) (by decide) (by have := h.2.2.1; omega) (by have := h.2.2.1; omega)
/-! the class's waiting time -/
theorem xneg {x y : Int32} (hx : x < 0) (hy : 0 ≤ y) : ¬ 0 ≤ x ^^^ y := by
  rw [Int32.lt_iff_toInt_lt] at hx
  rw [Int32.le_iff_toInt_le] at hy ⊢
  have h1 : x.toBitVec.msb = true := by rw [BitVec.msb_eq_toInt]; exact decide_eq_true hx
  have h2 : y.toBitVec.msb = false := by rw [BitVec.msb_eq_toInt]; exact decide_eq_false (Int.not_lt.mpr hy)
  have h3 : (x ^^^ y).toBitVec.msb = true := by
    show (x.toBitVec ^^^ y.toBitVec).msb = true
    rw [BitVec.msb_xor, h1, h2]
    rfl
  rw [BitVec.msb_eq_toInt] at h3
  exact Int.not_le.mpr (of_decide_eq_true h3)
theorem neg_toInt {k : Nat} (hk : k < 2 ^ 30) : (-(nI k)).toInt = -(k : Int) := by
  rw [Int32.toInt_neg, nI_toInt (by omega)]
  exact Int.bmod_eq_of_le (by omega) (by omega)
theorem neg_div {k d : Nat} (hk : k < 2 ^ 30) (hd : 0 < d) (hd2 : d < 2 ^ 30) : (-(nI k)) / nI d = -(nI (k / d)) := by
  have hkd : k / d ≤ k := Nat.div_le_self k d
  apply Int32.toInt_inj.mp
  rw [Int32.toInt_div_of_ne_right _ _ (by
    intro q
    have : (0 : Int32) ≤ nI d := nI_pos' (by omega)
    rw [q] at this
    exact absurd this (by decide)), neg_toInt hk, nI_toInt (by omega), neg_toInt (by omega), Int.neg_tdiv]
  rfl
theorem neg_rem {k d : Nat} (hk : k < 2 ^ 30) (hd : 0 < d) (hd2 : d < 2 ^ 30) : i_rem (-(nI k)) (nI d) = -(nI (k % d)) := by
  unfold i_rem
  have e : nI k = nI (k % d) + nI (k / d) * nI d := by rw [pk_mul, nI_add, Nat.mul_comm, Nat.mod_add_div]
  rw [neg_div hk hd hd2]
  grind
theorem neg_lt {k : Nat} (h0 : 0 < k) (hk : k < 2 ^ 30) : -(nI k) < 0 := by
  rw [Int32.lt_iff_toInt_lt, neg_toInt hk]
  show -(k : Int) < 0
  omega
theorem fmd1 : ∀ e, e < 21 → ∀ u, u < e → f_J_floorMod (nI u) (nI e) = some (nI u) := by decide
theorem fm {e f s : Nat} (he : 1 ≤ e) (he2 : e ≤ 20) (hf : f < e) (hs : s ≤ 20000) : ∃ d, d < e ∧ (s + d) % e = f ∧ f_J_floorMod (nI f - nI s) (nI e) = some (nI d) := by
  rcases Nat.lt_or_ge f s with c | c
  · have ex : nI f - nI s = -(nI (s - f)) := by
      have : nI s = nI f + nI (s - f) := by rw [nI_add]; congr 1; omega
      grind
    have hk : s - f < 2 ^ 30 := by omega
    have hm : (s - f) % e < e := Nat.mod_lt _ (by omega)
    have ek : e * ((s - f) / e) + (s - f) % e = s - f := Nat.div_add_mod _ _
    unfold f_J_floorMod
    rw [ex, if_neg (nI_ne0 (by omega) (by omega)), if_neg (xneg (neg_lt (by omega) hk) (nI_pos' (by omega))), neg_rem hk (by omega) (by omega)]
    by_cases q : (s - f) % e = 0
    · refine ⟨0, by omega, ?_, ?_⟩
      · have : s + 0 = f + e * ((s - f) / e) := by omega
        rw [this, Nat.add_mul_mod_self_left, Nat.mod_eq_of_lt hf]
      · rw [q, if_pos (by decide)]
        rfl
    · refine ⟨e - (s - f) % e, by omega, ?_, ?_⟩
      · have : s + (e - (s - f) % e) = f + e * ((s - f) / e + 1) := by rw [Nat.mul_add]; omega
        rw [this, Nat.add_mul_mod_self_left, Nat.mod_eq_of_lt hf]
      · have hn : ¬ -(nI ((s - f) % e)) = 0 := by
          intro q2
          have := neg_lt (k := (s - f) % e) (by omega) (by omega)
          rw [q2] at this
          exact absurd this (by decide)
        rw [if_neg hn]
        have e3 : nI e = nI (e - (s - f) % e) + nI ((s - f) % e) := by rw [nI_add]; congr 1; omega
        have e4 : -(nI ((s - f) % e)) + nI e = nI (e - (s - f) % e) := by grind
        rw [e4]
  · refine ⟨f - s, by omega, ?_, ?_⟩
    · rw [show s + (f - s) = f by omega, Nat.mod_eq_of_lt hf]
    · rw [pk_sub c]
      exact fmd1 e (by omega) (f - s) (by omega)
theorem hitr {e f s d r : Nat} (hd : d < e) (h : (s + d) % e = f) : (∃ t, t < r ∧ (s + t) % e = f) ↔ d < r := by
  constructor
  · rintro ⟨t, ht, h2⟩
    rcases Nat.lt_or_ge t d with c | c
    · have h3 : (s + d - (s + t)) % e = 0 := Nat.sub_mod_eq_zero_of_mod_eq (by rw [h, h2])
      rw [show s + d - (s + t) = d - t by omega, Nat.mod_eq_of_lt (by omega)] at h3
      omega
    · omega
  · intro hr
    exact ⟨d, hr, h⟩
theorem l_hitC {N m s r : Nat} {e f : Nat → Nat} {a b : aT} (h : TW m e f a b) (hs : s ≤ 20000) (hr : r ≤ 20) : ∀ (n j : Nat), j ≤ m → m - j < n → ∃ w : Int32, (w = 0 ∨ w = 1) ∧ (w = 1 ↔ ∃ i, j ≤ i ∧ i < m ∧ ∃ t, t < r ∧ (s + t) % e i = f i) ∧ f_W_isHit_2 N a n (nI s) (nI r) (nI j) = some w := by
  have t1 := h.1
  have t3 := h.2.2.1
  intro n
  induction n with
  | zero => intro j h1 h2; omega
  | succ n ih =>
    intro j h1 h2
    unfold f_W_isHit_2
    rw [t1]
    by_cases hj : j = m
    · rw [if_pos (nI_le (by omega) (by omega))]
      refine ⟨0, Or.inl rfl, ⟨fun q => absurd q (by decide), ?_⟩, rfl⟩
      rintro ⟨i, i1, i2, -⟩
      omega
    · obtain ⟨u1, u2, u3, u4, u5, u6, u7⟩ := h.2.2.2 j (by omega)
      obtain ⟨d, d1, d2, d3⟩ := fm u5 u6 u7 hs
      have j1 : j + 1 ≤ m := by omega
      have j2 : m - (j + 1) < n := by omega
      have hh := hitr (r := r) d1 d2
      rw [if_neg (nI_ge (by omega) (by omega)), if_neg (show ¬ 3 ≤ nI j from nI_ge (b := 3) (by omega) (by decide)), if_pos (inn (show j < 3 by omega) (by decide)), if_pos (inn (show j < 3 by omega) (by decide)), ixn (by omega), u1, u2, if_neg (nI_nle (by omega) (by omega)), d3, bnd]
      unfold f_W_isHit_45
      rw [np1]
      by_cases c : r ≤ d
      · rw [if_pos (nI_le c (by omega))]
        obtain ⟨w, w1, w2, w3⟩ := ih (j + 1) j1 j2
        refine ⟨w, w1, ?_, w3⟩
        rw [w2]
        constructor
        · rintro ⟨i, i1, i2, i3⟩
          exact ⟨i, by omega, i2, i3⟩
        · rintro ⟨i, i1, i2, i3⟩
          by_cases q : i = j
          · subst q
            exact absurd (hh.mp i3) (by omega)
          · exact ⟨i, by omega, i2, i3⟩
      · rw [if_neg (nI_ge (by omega) (by omega))]
        exact ⟨1, Or.inr rfl, ⟨fun _ => ⟨j, by omega, by omega, hh.mpr (by omega)⟩, fun _ => rfl⟩, rfl⟩
theorem l_hitK {N m s : Nat} {e f : Nat → Nat} {a b : aT} {k5 : Int32 → Int32 → Int32 → Int32 → Option Int32} {x1 x2 : Int32} (h : TW m e f a b) (hs : s ≤ 30000) : ∀ (n j : Nat) (v : Int32), j ≤ m → m - j < n → (v = 0 ∨ v = 1) → ∃ w : Int32, (w = 0 ∨ w = 1) ∧ (w = 1 ↔ v = 1 ∨ ∃ i, j ≤ i ∧ i < m ∧ s % e i = f i) ∧ f_M_isHit_16 N b k5 n x1 x2 v (nI s) (nI j) = k5 x1 x2 w (nI (s + 1)) := by
  have t2 := h.2.1
  have t3 := h.2.2.1
  intro n
  induction n with
  | zero => intro j v h1 h2; omega
  | succ n ih =>
    intro j v h1 h2 hv
    unfold f_M_isHit_16
    rw [t2]
    by_cases hj : j = m
    · rw [if_pos (nI_le (by omega) (by omega)), np1]
      refine ⟨v, hv, ⟨Or.inl, ?_⟩, rfl⟩
      rintro (q | ⟨i, i1, i2, -⟩)
      · exact q
      · omega
    · obtain ⟨u1, u2, u3, u4, u5, u6, u7⟩ := h.2.2.2 j (by omega)
      have hm : s % e j < e j := Nat.mod_lt _ (by omega)
      have hne : ¬ nI (e j) = 0 := nI_ne0 (by omega) (by omega)
      rw [if_neg (nI_ge (by omega) (by omega)), n2, np1, np1, if_pos (inn (show 2 * j < 6 by omega) (by decide)), if_pos (inn (show 2 * j + 1 < 6 by omega) (by decide)), ixn (show 2 * j < 2 ^ 31 by omega), ixn (show 2 * j + 1 < 2 ^ 31 by omega), u3, u4, if_neg hne, rem_n (by omega) (by omega) (by omega)]
      have n0 : nI (s % e j) = nI (f j) ↔ s % e j = f j := nI_eq (show s % e j < 2 ^ 31 by omega) (show f j < 2 ^ 31 by omega)
      rcases hv with hv | hv
      · subst hv
        rw [if_pos rfl]
        by_cases c : s % e j = f j
        · rw [if_pos (n0.mpr c)]
          obtain ⟨w, w1, w2, w3⟩ := ih (j + 1) 1 (by omega) (by omega) (Or.inr rfl)
          refine ⟨w, w1, ⟨fun _ => Or.inr ⟨j, by omega, by omega, c⟩, fun _ => w2.mpr (Or.inl rfl)⟩, w3⟩
        · rw [if_neg (mt n0.mp c)]
          obtain ⟨w, w1, w2, w3⟩ := ih (j + 1) 0 (by omega) (by omega) (Or.inl rfl)
          refine ⟨w, w1, ?_, w3⟩
          rw [w2]
          constructor
          · rintro (q | ⟨i, i1, i2, i3⟩)
            · exact Or.inl q
            · exact Or.inr ⟨i, by omega, i2, i3⟩
          · rintro (q | ⟨i, i1, i2, i3⟩)
            · exact Or.inl q
            · by_cases q : i = j
              · subst q
                exact absurd i3 c
              · exact Or.inr ⟨i, by omega, i2, i3⟩
      · subst hv
        rw [if_neg (show ¬ (1 : Int32) = 0 by decide)]
        obtain ⟨w, w1, w2, w3⟩ := ih (j + 1) 1 (by omega) (by omega) (Or.inr rfl)
        exact ⟨w, w1, ⟨fun _ => Or.inl rfl, fun _ => w2.mpr (Or.inl rfl)⟩, w3⟩
theorem l_hitM {N m s0 r : Nat} {e f : Nat → Nat} {a b : aT} (hN : 10000 ≤ N) (h : TW m e f a b) (hs : s0 ≤ 20000) (hr : r ≤ 20) : ∀ (n s : Nat) (v : Int32), s ≤ s0 + r → s0 + r - s < n → (v = 0 ∨ v = 1) → ∃ w : Int32, (w = 0 ∨ w = 1) ∧ (w = 1 ↔ v = 1 ∨ ∃ i, i < m ∧ ∃ t, s ≤ t ∧ t < s0 + r ∧ t % e i = f i) ∧ f_M_isHit_5 N b n (nI s0) (nI r) v (nI s) = some w := by
  intro n
  induction n with
  | zero => intro s v h1 h2; omega
  | succ n ih =>
    intro s v h1 h2 hv
    unfold f_M_isHit_5
    rw [nI_add]
    by_cases hj : s = s0 + r
    · rw [if_pos (nI_le (by omega) (by omega))]
      refine ⟨v, hv, ⟨Or.inl, ?_⟩, ?_⟩
      · rintro (q | ⟨i, i1, t, t1, t2, -⟩)
        · exact q
        · omega
      · rcases hv with hv | hv <;> subst hv <;> decide
    · rw [if_neg (nI_ge (by omega) (by omega))]
      obtain ⟨w, w1, w2, w3⟩ := l_hitK (N := N) (k5 := f_M_isHit_5 N b n) (x1 := nI s0) (x2 := nI r) h (show s ≤ 30000 by omega) N 0 v (by omega) (by have := h.2.2.1; omega) hv
      obtain ⟨z, z1, z2, z3⟩ := ih (s + 1) w (by omega) (by omega) w1
      refine ⟨z, z1, ?_, w3.trans z3⟩
      rw [z2, w2]
      constructor
      · rintro ((q | ⟨i, i1, i2, i3⟩) | ⟨i, i1, t, t1, t2, t3⟩)
        · exact Or.inl q
        · exact Or.inr ⟨i, i2, s, Nat.le_refl _, by omega, i3⟩
        · exact Or.inr ⟨i, i1, t, by omega, t2, t3⟩
      · rintro (q | ⟨i, i1, t, t1, t2, t3⟩)
        · exact Or.inl (Or.inl q)
        · by_cases q : t = s
          · subst q
            exact Or.inl (Or.inr ⟨i, by omega, i1, t3⟩)
          · exact Or.inr ⟨i, i1, t, by omega, t2, t3⟩
theorem q_hit1 {N m s r : Nat} {e f : Nat → Nat} {a b : aT} (hN : 10000 ≤ N) (h : TW m e f a b) (hs : s ≤ 20000) (hr : r ≤ 20) : ∃ w, f_W_isHit N (nI s) (nI r) a = some w ∧ f_M_isHit N (nI s) (nI r) b = some w := by
  obtain ⟨w, w1, w2, w3⟩ := l_hitC (N := N) h hs hr N 0 (by omega) (by have := h.2.2.1; omega)
  obtain ⟨z, z1, z2, z3⟩ := l_hitM (N := N) hN h hs hr N s 0 (by omega) (by omega) (Or.inl rfl)
  have e1 : w = 1 ↔ z = 1 := by
    rw [w2, z2]
    constructor
    · rintro ⟨i, -, i2, t, t1, t2⟩
      exact Or.inr ⟨i, i2, s + t, by omega, by omega, t2⟩
    · rintro (q | ⟨i, i1, t, t1, t2, t3⟩)
      · exact absurd q (by decide)
      · exact ⟨i, by omega, i1, t - s, by omega, by rw [show s + (t - s) = t by omega]; exact t3⟩
  have e2 : z = w := by
    rcases w1 with w1 | w1 <;> rcases z1 with z1 | z1
    · rw [w1, z1]
    · exact absurd (e1.mpr z1) (by rw [w1]; decide)
    · exact absurd (e1.mp w1) (by rw [z1]; decide)
    · rw [w1, z1]
  exact ⟨w, w3, by rw [← e2]; exact z3⟩
theorem l_free1 {N m s0 r z : Nat} {e f : Nat → Nat} {a b : aT} (hN : 10000 ≤ N) (h : TW m e f a b) (hs : s0 ≤ 9999) (hr : r ≤ 20) (hz : z ≤ 8000) : ∀ (n s : Nat), s ≤ s0 + z → s0 + z - s < n → ∃ v, f_W_firstFree_8 N a n (nI s0) (nI r) (nI z) (nI s) = some v ∧ f_M_runOf_8 N b n (nI s0) (nI r) (nI z) (nI s) = some v := by
  intro n
  induction n with
  | zero => intro s h1 h2; omega
  | succ n ih =>
    intro s h1 h2
    unfold f_W_firstFree_8 f_M_runOf_8
    rw [nI_add]
    by_cases hj : s = s0 + z
    · rw [if_pos (nI_le (by omega) (by omega)), if_pos (nI_le (by omega) (by omega))]
      exact ⟨_, rfl, rfl⟩
    · obtain ⟨w, w1, w2⟩ := q_hit1 hN h (show s ≤ 20000 by omega) hr
      rw [if_neg (nI_ge (by omega) (by omega)), if_neg (nI_ge (by omega) (by omega)), w1, w2, bnd, bnd, np1]
      by_cases c : w = 0
      · rw [if_pos c, if_pos c]
        exact ⟨_, rfl, rfl⟩
      · rw [if_neg c, if_neg c]
        exact ih (s + 1) (by omega) (by omega)
theorem q_runOf {N s r : Nat} {a b : aT} (hN : 10000 ≤ N) (h : Rel N a b) (hs : s ≤ 9999) (hr : r ≤ 20) : ∃ v, f_W_firstFree N (nI s) (nI r) a = some v ∧ f_M_runOf N (nI s) (nI r) b = some v := by
  obtain ⟨m, e, f, ht⟩ := h.tws
  obtain ⟨z, z0, z1, z2⟩ := q_round hN ht
  unfold f_W_firstFree f_M_runOf
  rw [z1, z2, bnd, bnd]
  exact l_free1 hN ht hs hr z0 N s (by omega) (by omega)
theorem l_hits {N m r z : Nat} {e f : Nat → Nat} {a b : aT} (hN : 10000 ≤ N) (h : TW m e f a b) (hr : r ≤ 20) (hz : z ≤ 8000) : ∀ (n s : Nat) (v : Int32), s ≤ z → z - s < n → ∃ w, f_W_hitsInRound_10 N a n (nI r) (nI z) v (nI s) = some w ∧ f_M_hitOf_11 N b n (nI r) 0 (nI z) v (nI s) = some w := by
  intro n
  induction n with
  | zero => intro s v h1 h2; omega
  | succ n ih =>
    intro s v h1 h2
    unfold f_W_hitsInRound_10 f_M_hitOf_11 f_M_hitOf_47
    by_cases hj : s = z
    · rw [if_pos (nI_le (by omega) (by omega)), if_pos (nI_le (by omega) (by omega)), if_pos rfl]
      exact ⟨_, rfl, rfl⟩
    · obtain ⟨w, w1, w2⟩ := q_hit1 hN h (show s ≤ 20000 by omega) hr
      rw [if_neg (nI_ge (by omega) (by omega)), if_neg (nI_ge (by omega) (by omega)), if_pos rfl, w1, w2, bnd, bnd, np1]
      by_cases c : w = 0
      · rw [if_pos c, if_pos c]
        exact ih (s + 1) _ (by omega) (by omega)
      · rw [if_neg c, if_neg c]
        exact ih (s + 1) _ (by omega) (by omega)
theorem q_hitOf {N r k : Nat} {a b : aT} (hN : 10000 ≤ N) (h : Rel N a b) (hr0 : 1 ≤ r) (hr : r ≤ 20) (hk : k < 2) : ∃ v, f_C_hit N (nI r) (nI k) a = some v ∧ f_M_hitOf N (nI r) (nI k) b = some v := by
  obtain ⟨m, e, f, ht⟩ := h.tws
  obtain ⟨z, z0, z1, z2⟩ := q_round hN ht
  unfold f_C_hit f_M_hitOf f_W_hitsInRound
  rw [if_neg (show ¬ nI r < 1 from nI_nlt (b := 1) hr0 (by omega)), if_neg (show ¬ 20 < nI r from nI_nlt (a := 20) hr (by decide)), if_neg (show ¬ f_C_isBelow (nI k) 2 = 0 from mt blw.mp (nlt4 (n := 2) (L := 2) rfl (by decide) hk)), z1, z2, bnd, bnd, bnd]
  rcases k with _ | _ | k
  · rw [if_pos (show nI 0 = 0 from rfl)]
    obtain ⟨w, w1, w2⟩ := l_hits hN ht hr z0 N 0 0 (by omega) (by omega)
    refine ⟨w, ?_, w2⟩
    have : f_W_hitsInRound_10 N a N (nI r) (nI z) 0 0 = some w := w1
    rw [this, bnd]
  · rw [if_neg (show ¬ nI (0 + 1) = 0 by decide)]
    refine ⟨_, rfl, ?_⟩
    obtain ⟨M, rfl⟩ : ∃ M, N = M + 1 := ⟨N - 1, by omega⟩
    unfold f_M_hitOf_11 f_M_hitOf_47
    rw [if_neg (show ¬ nI (0 + 1) = 0 by decide), if_neg (show ¬ nI (0 + 1) = 0 by decide), ite_self]
  · omega
theorem min_9999 {p : Int32} : f_M_in p.toInt64 0 9999 = 0 ↔ (p < 0 ∨ 9999 < p) := min_0 (lo := 0) (hi := 9999) (by decide) (by decide)
theorem q_run {N : Nat} {a b : aT} {p q : Int32} (hN : 10000 ≤ N) (h : Rel N a b) : ∃ v, f_C_run N p q a = some v ∧ f_M_run N p q b = some v := by
  unfold f_C_run f_M_run
  by_cases c1 : p < 0 ∨ 9999 < p
  · rw [if_pos (min_9999.mpr c1)]
    refine ⟨_, ?_, rfl⟩
    by_cases c2 : p < 0
    · rw [if_pos c2]
    · rw [if_neg c2, if_pos (by grind)]
  rw [if_neg (mt min_9999.mp c1), if_neg (show ¬ p < 0 from fun z => c1 (Or.inl z)), if_neg (show ¬ 9999 < p from fun z => c1 (Or.inr z))]
  by_cases c2 : q < 1 ∨ 20 < q
  · rw [if_pos (min_120.mpr c2)]
    refine ⟨_, ?_, rfl⟩
    by_cases c3 : q < 1
    · rw [if_pos c3]
    · rw [if_neg c3, if_neg (by grind)]
  rw [if_neg (mt min_120.mp c2), if_neg (show ¬ q < 1 from fun z => c2 (Or.inl z)), if_pos (show q ≤ 20 by grind)]
  obtain ⟨s, hs, rfl⟩ := nofC (p := p) 9999 (by decide) (by grind) (by have : nI 9999 = 9999 := rfl; grind)
  obtain ⟨r, hr, rfl⟩ := nofC (p := q) 20 (by decide) (by grind) (by have : nI 20 = 20 := rfl; grind)
  obtain ⟨v, v1, v2⟩ := q_runOf hN h hs hr
  rw [v1, v2, bnd]
  exact ⟨_, rfl, rfl⟩
theorem q_hit {N : Nat} {a b : aT} {p q : Int32} (hN : 10000 ≤ N) (h : Rel N a b) : ∃ v, f_C_hit N p q a = some v ∧ f_M_hit N p q b = some v := by
  unfold f_M_hit
  by_cases c1 : p < 1 ∨ 20 < p
  · rw [if_pos (min_120.mpr c1)]
    refine ⟨_, ?_, rfl⟩
    unfold f_C_hit
    by_cases c3 : p < 1
    · rw [if_pos c3]
    · rw [if_neg c3, if_pos (by grind)]
  rw [if_neg (mt min_120.mp c1)]
  by_cases c2 : q < 0 ∨ 2 ≤ q
  · rw [if_pos (two_0.mpr c2)]
    refine ⟨_, ?_, rfl⟩
    unfold f_C_hit
    rw [if_neg (show ¬ p < 1 from fun z => c1 (Or.inl z)), if_neg (show ¬ 20 < p from fun z => c1 (Or.inr z)), if_pos (blw.mpr c2)]
  rw [if_neg (mt two_0.mp c2)]
  obtain ⟨r, hr, rfl⟩ := nofC (p := p) 20 (by decide) (by grind) (by have : nI 20 = 20 := rfl; grind)
  obtain ⟨k, hk, rfl⟩ := nof (p := q) 2 (by decide) c2
  have hr0 : 1 ≤ r := by
    rcases r with _ | r
    · exact absurd (Or.inl (show nI 0 < 1 by decide)) c1
    · omega
  obtain ⟨v, v1, v2⟩ := q_hitOf hN h hr0 hr hk
  rw [v1, v2, bnd]
  exact ⟨_, rfl, rfl⟩
