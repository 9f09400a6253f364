/-! the tree by the days: ripe, rests, ends -/
def rpd (a : aT) (d c : Nat) : Bool := decide (0 ≤ a 3 c ∧ hg (a 3 c) (nI d) ≤ 2)
def RP (a : aT) (d : Nat) : Nat := cnt (rpd a d) 48
theorem RP_48 (a : aT) (d : Nat) : RP a d ≤ 48 := cnt_le _ _
theorem f_hon {a : aT} {c : Nat} {d : Int32} (hc : c < 48) (h0 : 0 ≤ a 3 c) : f_E_hangsOn (nI c) d a = some (hg (a 3 c) d) := by
  unfold f_E_hangsOn hg
  rw [if_neg (show ¬ f_C_isBelow (nI c) 48 = 0 from mt blw.mp (nlt4 (n := 48) (L := 48) rfl (by decide) (by omega))), if_pos (inn hc (by decide)), ixn (by omega), if_neg (by grind)]
theorem l_ripeC {N d : Nat} {a : aT} : ∀ (n j : Nat), j ≤ 48 → 48 - j < n → f_E_ripeOn_4 N a n (nI d) (nI (cnt (rpd a d) j)) (nI j) = some (nI (RP a d)) := by
  intro n
  induction n with
  | zero => intro j h1 h2; omega
  | succ n ih =>
    intro j h1 h2
    unfold f_E_ripeOn_4
    by_cases hj : j = 48
    · subst hj
      rw [if_pos (show 48 ≤ nI 48 by decide)]
      rfl
    · have hj48 : j < 48 := by omega
      rw [if_neg (show ¬ 48 ≤ nI j from nI_ge (b := 48) (by omega) (by decide)), f_ball hj48, bnd, np1]
      by_cases q : a 3 j < 0
      · rw [if_pos q, if_pos rfl, cnt_f (p := rpd a d) (k := j) (by unfold rpd; rw [decide_eq_true_iff]; grind)]
        exact ih (j + 1) (by omega) (by omega)
      · rw [if_neg q, if_neg (show ¬ (1 : Int32) = 0 by decide), f_hon hj48 (by grind), bnd]
        by_cases c : 2 < hg (a 3 j) (nI d)
        · rw [if_pos c, cnt_f (p := rpd a d) (k := j) (by unfold rpd; rw [decide_eq_true_iff]; grind)]
          exact ih (j + 1) (by omega) (by omega)
        · rw [if_neg c, cnt_t (p := rpd a d) (k := j) (by unfold rpd; rw [decide_eq_true_iff]; grind)]
          exact ih (j + 1) (by omega) (by omega)
theorem f_rpC {N d : Nat} {a : aT} (hN : 10000 ≤ N) : f_E_ripeOn N (nI d) a = some (nI (RP a d)) := l_ripeC N 0 (by omega) (by omega)
theorem l_ripeM {N d : Nat} {a b : aT} (h : PC a b) : ∀ (n j : Nat), j ≤ 48 → 48 - j < n → f_M_ripeOf_4 N b n (nI d) (nI (cnt (rpd a d) j)) (nI j) = some (nI (RP a d)) := by
  intro n
  induction n with
  | zero => intro j h1 h2; omega
  | succ n ih =>
    intro j h1 h2
    unfold f_M_ripeOf_4
    by_cases hj : j = 48
    · subst hj
      rw [if_pos (show 48 ≤ nI 48 by decide)]
      rfl
    · have hj48 : j < 48 := by omega
      have hc := (h j hj48).2.2.2
      rw [if_neg (show ¬ 48 ≤ nI j from nI_ge (b := 48) (by omega) (by decide)), if_pos (inn hj48 (by decide)), if_pos (inn hj48 (by decide)), ixn (by omega), hc, np1]
      by_cases q : a 3 j < 0
      · rw [if_pos q, if_pos rfl, cnt_f (p := rpd a d) (k := j) (by unfold rpd; rw [decide_eq_true_iff]; grind)]
        exact ih (j + 1) (by omega) (by omega)
      · rw [if_neg q, if_neg (show ¬ a 3 j = -1 by grind), ← hg_M (by grind)]
        by_cases c : 2 < hg (a 3 j) (nI d)
        · rw [if_pos c, cnt_f (p := rpd a d) (k := j) (by unfold rpd; rw [decide_eq_true_iff]; grind)]
          exact ih (j + 1) (by omega) (by omega)
        · rw [if_neg c, cnt_t (p := rpd a d) (k := j) (by unfold rpd; rw [decide_eq_true_iff]; grind)]
          exact ih (j + 1) (by omega) (by omega)
theorem f_rpM {N d : Nat} {a b : aT} (hN : 10000 ≤ N) (h : PC a b) : f_M_ripeOf N (nI d) b = some (nI (RP a d)) := l_ripeM h N 0 (by omega) (by omega)
theorem hg_s : ∀ w, w < 10 → ∀ d, d < 30 → hg (nI w) (nI d) ≤ 2 → hg (nI w) (nI (d + 1)) ≤ 2 := by decide
theorem RP_s {a : aT} {d : Nat} (h : ∀ c, c < 48 → a 3 c ≤ 9) (hd : d < 30) : RP a d ≤ RP a (d + 1) := by
  refine cnt_mono (fun c hc q => ?_)
  unfold rpd at q ⊢
  rw [decide_eq_true_iff] at q ⊢
  obtain ⟨w, hw, e⟩ := nofC (p := a 3 c) 9 (by decide) q.1 (h c hc)
  rw [e] at q ⊢
  exact ⟨q.1, hg_s w (by omega) d hd q.2⟩
theorem RP_m {a : aT} (h : ∀ c, c < 48 → a 3 c ≤ 9) : ∀ (e d : Nat), d + e ≤ 30 → RP a d ≤ RP a (d + e)
  | 0, _, _ => Nat.le_refl _
  | e + 1, d, hd => Nat.le_trans (RP_m h e d (by omega)) (RP_s (d := d + e) h (by omega))
theorem l_fill {N : Nat} {a0 : aT} (hN : 10000 ≤ N) : ∀ (n j : Nat) (a : aT), j ≤ 30 → 30 - j < n → a 3 = a0 3 → ∃ a', f_S_fillRipe_2 N n (nI j) a = some ((), a') ∧ ∀ c i, a' c i = if c = 20 ∧ j ≤ i ∧ i < 30 then nI (RP a0 i) else a c i := by
  intro n
  induction n with
  | zero => intro j a h1 h2; omega
  | succ n ih =>
    intro j a h1 h2 e
    unfold f_S_fillRipe_2
    by_cases hj : j = 30
    · subst hj
      rw [if_pos (show 30 ≤ nI 30 by decide)]
      refine ⟨a, rfl, fun c i => ?_⟩
      rw [if_neg (by omega)]
    · have er : RP a j = RP a0 j := by
        unfold RP rpd
        rw [e]
      rw [if_neg (show ¬ 30 ≤ nI j from nI_ge (b := 30) (by omega) (by decide)), f_rpC hN, bnd, if_pos (inn (show j < 30 by omega) (by decide)), ixn (by omega), np1, er]
      obtain ⟨a', h4, h5⟩ := ih (j + 1) (upA a 20 j (nI (RP a0 j))) (by omega) (by omega) (by rw [upA_ne (by omega)]; exact e)
      refine ⟨a', h4, fun c i => ?_⟩
      rw [h5, upA_get]
      grind
theorem f_fill {N : Nat} (hN : 10000 ≤ N) (a : aT) : ∃ a', f_S_fillRipe N a = some ((), a') ∧ (∀ i, i < 30 → a' 20 i = nI (RP a i)) ∧ FA [(20, none)] a a' := by
  obtain ⟨a', h1, h2⟩ := l_fill hN N 0 a (by omega) (by omega) rfl
  refine ⟨a', h1, fun i hi => ?_, fun c i hc => ?_⟩
  · rw [h2, if_pos (by omega)]
  · rw [h2, if_neg (fun q => hc (20, none) (by decide) ⟨q.1.symm, Or.inl rfl⟩)]
/-- a day that is no rest: the day before is better -/
theorem l_better {N m d : Nat} {a0 a : aT} (hm : m ≤ 6) (hd : d < 30) (h9 : ∀ c, c < 48 → a0 3 c ≤ 9) (ha : ∀ i, i < 30 → a 20 i = nI (RP a0 i)) : ∀ (n j : Nat) (v : Int32), j ≤ d → d - j < n → f_S_betterAhead_5 N a n (nI d) (nI m) v (nI j) = some (if j < d ∧ RP a0 d < m * RP a0 (d - 1) then nI (d - 1) else v) := by
  intro n
  induction n with
  | zero => intro j v h1 h2; omega
  | succ n ih =>
    intro j v h1 h2
    unfold f_S_betterAhead_5
    by_cases hj : j = d
    · subst hj
      rw [if_pos (nI_le (Nat.le_refl _) (by omega)), if_neg (by omega)]
    · have hle : ∀ i, m * RP a0 i ≤ 6 * 48 := fun i => Nat.mul_le_mul hm (RP_48 a0 i)
      have hm1 : m * RP a0 j ≤ m * RP a0 (d - 1) := by
        refine Nat.mul_le_mul (Nat.le_refl _) ?_
        have := RP_m h9 (d - 1 - j) j (by omega)
        rwa [show j + (d - 1 - j) = d - 1 by omega] at this
      have h48 := RP_48 a0 d
      rw [if_neg (nI_ge (by omega) (by omega)), if_neg (show ¬ 30 ≤ nI d from nI_ge (b := 30) (by omega) (by decide)), if_pos (inn (show j < 30 by omega) (by decide)), if_pos (inn hd (by decide)), ixn (show j < 2 ^ 31 by omega), ixn (show d < 2 ^ 31 by omega), ha j (by omega), ha d hd, pk_mul, np1, ih (j + 1) _ (by omega) (by omega), ih (j + 1) _ (by omega) (by omega)]
      have hlj := hle j
      have key : (nI (m * RP a0 j) ≤ nI (RP a0 d)) ↔ m * RP a0 j ≤ RP a0 d := nI_leI (by omega) (by omega)
      by_cases c : m * RP a0 j ≤ RP a0 d
      · rw [if_pos (key.mpr c)]
        by_cases e : j + 1 = d
        · have ej : d - 1 = j := by omega
          rw [ej, if_neg (by omega), if_neg (by omega)]
        · by_cases f : RP a0 d < m * RP a0 (d - 1)
          · rw [if_pos (by omega), if_pos (by omega)]
          · rw [if_neg (by omega), if_neg (by omega)]
      · rw [if_neg (mt key.mp c)]
        by_cases e : j + 1 = d
        · have ej : d - 1 = j := by omega
          rw [ej, if_neg (by omega), if_pos (by omega)]
        · rw [if_pos (by omega), if_pos (by omega)]
def Rst (a : aT) (m d : Nat) : Prop := d = 0 ∨ m * RP a (d - 1) ≤ RP a d
theorem f_betR {N m d : Nat} {a0 a : aT} (hN : 10000 ≤ N) (hm : m ≤ 6) (hd : d < 30) (h9 : ∀ c, c < 48 → a0 3 c ≤ 9) (ha : ∀ i, i < 30 → a 20 i = nI (RP a0 i)) (h : Rst a0 m d) : f_S_betterAhead N (nI d) (nI m) a = some (-1) := by
  unfold f_S_betterAhead Rst at *
  have := l_better (N := N) hm hd h9 ha N 0 (-1) (by omega) (by omega)
  rw [if_neg (by omega)] at this
  exact this
theorem f_betN {N m d : Nat} {a0 a : aT} (hN : 10000 ≤ N) (hm : m ≤ 6) (hd : d < 30) (h9 : ∀ c, c < 48 → a0 3 c ≤ 9) (ha : ∀ i, i < 30 → a 20 i = nI (RP a0 i)) (h : ¬ Rst a0 m d) : f_S_betterAhead N (nI d) (nI m) a = some (nI (d - 1)) := by
  unfold f_S_betterAhead Rst at *
  have := l_better (N := N) hm hd h9 ha N 0 (-1) (by omega) (by omega)
  rw [if_pos (by omega)] at this
  exact this
theorem f_rstR {N m d : Nat} {a b : aT} (hN : 10000 ≤ N) (hm : m ≤ 6) (hd : d < 30) (h : PC a b) (hr : Rst a m d) : f_M_isRest N (nI m) (nI d) b = some 1 := by
  unfold f_M_isRest
  unfold Rst at hr
  rcases d with _ | d
  · rw [if_pos (show nI 0 = 0 from rfl)]
  · have h1 : m * RP a d ≤ RP a (d + 1) := by
      rcases hr with hr | hr
      · omega
      · exact hr
    have h48 := RP_48 a (d + 1)
    rw [if_neg (nI_ne0 (by omega) (by omega)), nmm, f_rpM hN h, bnd, f_rpM hN h, bnd, pk_mul, if_neg (nI_nlt h1 (by omega))]
theorem f_rstN {N m d : Nat} {a b : aT} (hN : 10000 ≤ N) (hm : m ≤ 6) (hd : d < 30) (h : PC a b) (hr : ¬ Rst a m d) : f_M_isRest N (nI m) (nI d) b = some 0 := by
  unfold f_M_isRest
  unfold Rst at hr
  rcases d with _ | d
  · exact absurd (Or.inl rfl) hr
  · have h1 : RP a (d + 1) < m * RP a d := by
      rcases Nat.lt_or_ge (RP a (d + 1)) (m * RP a d) with q | q
      · exact q
      · exact absurd (Or.inr q) hr
    have h48 : m * RP a d ≤ 6 * 48 := Nat.mul_le_mul hm (RP_48 a d)
    rw [if_neg (nI_ne0 (by omega) (by omega)), nmm, f_rpM hN h, bnd, f_rpM hN h, bnd, pk_mul, if_pos (nI_lt h1 (by omega))]
theorem l_rests {N m : Nat} {a0 a b : aT} (hN : 10000 ≤ N) (hm : m ≤ 6) (h : PC a0 b) (ha : ∀ i, i < 30 → a 20 i = nI (RP a0 i)) : ∀ (n j : Nat) (v : Int32), j ≤ 30 → 30 - j < n → ∃ w, f_S_restBits_8 N n (nI m) v (nI j) a = some (w, a) ∧ f_M_restsOf_4 N b n (nI m) v (nI j) = some w := by
  intro n
  induction n with
  | zero => intro j v h1 h2; omega
  | succ n ih =>
    intro j v h1 h2
    unfold f_S_restBits_8 f_M_restsOf_4
    by_cases hj : j = 30
    · subst hj
      rw [if_pos (show 30 ≤ nI 30 by decide), if_pos (show 30 ≤ nI 30 by decide)]
      exact ⟨v, rfl, rfl⟩
    · have e1 : ¬ 30 ≤ nI j := nI_ge (b := 30) (by omega) (by decide)
      have h9 : ∀ c, c < 48 → a0 3 c ≤ 9 := fun c hc => (h c hc).2.1
      rw [if_neg e1, if_neg e1, np1]
      by_cases c : Rst a0 m j
      · rw [f_betR hN hm (by omega) h9 ha c, f_rstR hN hm (by omega) h c, bnd, bnd, if_pos rfl, if_neg (show ¬ (1 : Int32) = 0 by decide)]
        exact ih (j + 1) _ (by omega) (by omega)
      · have nn : ¬ nI (j - 1) = -1 := by
          intro q
          have : (0 : Int32) ≤ nI (j - 1) := nI_pos' (by omega)
          rw [q] at this
          exact absurd this (by decide)
        rw [f_betN hN hm (by omega) h9 ha c, f_rstN hN hm (by omega) h c, bnd, bnd, if_pos rfl, if_neg nn]
        exact ih (j + 1) _ (by omega) (by omega)
theorem q_restsOf {N m : Nat} {a b : aT} (hN : 10000 ≤ N) (hm : m ≤ 6) (h : PC a b) : ∃ w a', f_S_restBits N (nI m) a = some (w, a') ∧ f_M_restsOf N (nI m) b = some w ∧ FA [(20, none)] a a' := by
  obtain ⟨a', k1, k2, k3⟩ := f_fill hN a
  obtain ⟨w, g1, g2⟩ := l_rests (N := N) hN hm h k2 N 0 0 (by omega) (by omega)
  refine ⟨w, a', ?_, g2, k3⟩
  unfold f_S_restBits
  rw [k1, bnd]
  exact g1
theorem l_great {N m : Nat} {a0 a b : aT} {w : Int32} (hN : 10000 ≤ N) (h : PC a0 b) (ha : ∀ i, i < 30 → a 20 i = nI (RP a0 i)) : ∀ (n j k : Nat), j ≤ 30 → k < 30 → 30 - j < n → ∃ z, z < 30 ∧ f_S_firstGreatest_4 N a n (nI k) (nI j) = some (nI z) ∧ f_M_endsOf_5 N b n (nI m) w (nI k) (nI j) = f_M_endsOf_39 N b N (nI m) w (nI z) := by
  intro n
  induction n with
  | zero => intro j k h1 h2 h3; omega
  | succ n ih =>
    intro j k h1 h2 h3
    unfold f_S_firstGreatest_4 f_M_endsOf_5
    by_cases hj : j = 30
    · subst hj
      rw [if_pos (show 30 ≤ nI 30 by decide), if_pos (show 30 ≤ nI 30 by decide)]
      exact ⟨k, h2, rfl, rfl⟩
    · have e1 : ¬ 30 ≤ nI j := nI_ge (b := 30) (by omega) (by decide)
      rw [if_neg e1, if_neg e1, if_pos (inn (show j < 30 by omega) (by decide)), if_pos (inn h2 (by decide)), ixn (show j < 2 ^ 31 by omega), ixn (show k < 2 ^ 31 by omega), ha j (by omega), ha k h2, f_rpM hN h, bnd, f_rpM hN h, bnd, np1]
      by_cases c : nI (RP a0 j) ≤ nI (RP a0 k)
      · rw [if_pos c, if_pos c]
        exact ih (j + 1) k (by omega) h2 (by omega)
      · rw [if_neg c, if_neg c]
        exact ih (j + 1) j (by omega) (by omega) (by omega)
theorem l_ends {N m : Nat} {a0 a b : aT} {w : Int32} (hN : 10000 ≤ N) (hm : m ≤ 6) (h : PC a0 b) (ha : ∀ i, i < 30 → a 20 i = nI (RP a0 i)) : ∀ (d n1 n2 st : Nat), st + d < 30 → d < n1 → d < n2 → ∃ z, z < 30 ∧ f_S_endOf_11 N n1 (nI m) (nI d) (nI st) a = some (nI z, a) ∧ f_M_endsOf_39 N b n2 (nI m) w (nI d) = some (if w = 0 then nI z else nI (RP a0 z)) := by
  have h9 : ∀ c, c < 48 → a0 3 c ≤ 9 := fun c hc => (h c hc).2.1
  intro d
  induction d with
  | zero =>
    intro n1 n2 st h1 h2 h3
    obtain ⟨n1, rfl⟩ : ∃ k, n1 = k + 1 := ⟨n1 - 1, by omega⟩
    obtain ⟨n2, rfl⟩ : ∃ k, n2 = k + 1 := ⟨n2 - 1, by omega⟩
    unfold f_S_endOf_11 f_M_endsOf_39
    have c : Rst a0 m 0 := Or.inl rfl
    rw [if_neg (show ¬ 30 ≤ nI st from nI_ge (b := 30) (by omega) (by decide)), f_betR hN hm (by omega) h9 ha c, f_rstR hN hm (by omega) h c, bnd, bnd, if_pos rfl, if_neg (show ¬ (1 : Int32) = 0 by decide), f_rpM hN h, bnd]
    refine ⟨0, by omega, rfl, ?_⟩
    by_cases hw : w = 0
    · rw [if_pos hw, if_pos hw]
    · rw [if_neg hw, if_neg hw]
  | succ d ih =>
    intro n1 n2 st h1 h2 h3
    obtain ⟨n1, rfl⟩ : ∃ k, n1 = k + 1 := ⟨n1 - 1, by omega⟩
    obtain ⟨n2, rfl⟩ : ∃ k, n2 = k + 1 := ⟨n2 - 1, by omega⟩
    unfold f_S_endOf_11 f_M_endsOf_39
    rw [if_neg (show ¬ 30 ≤ nI st from nI_ge (b := 30) (by omega) (by decide))]
    by_cases c : Rst a0 m (d + 1)
    · rw [f_betR hN hm (by omega) h9 ha c, f_rstR hN hm (by omega) h c, bnd, bnd, if_pos rfl, if_neg (show ¬ (1 : Int32) = 0 by decide), f_rpM hN h, bnd]
      refine ⟨d + 1, by omega, rfl, ?_⟩
      by_cases hw : w = 0
      · rw [if_pos hw, if_pos hw]
      · rw [if_neg hw, if_neg hw]
    · have nn : ¬ nI (d + 1 - 1) = -1 := by
        intro q
        have : (0 : Int32) ≤ nI (d + 1 - 1) := nI_pos' (by omega)
        rw [q] at this
        exact absurd this (by decide)
      rw [f_betN hN hm (by omega) h9 ha c, f_rstN hN hm (by omega) h c, bnd, bnd, if_pos rfl, if_neg nn, pk_m1, np1]
      exact ih n1 n2 (st + 1) (by omega) (by omega) (by omega)
theorem q_endsOf {N m : Nat} {a b : aT} (w : Int32) (hN : 10000 ≤ N) (hm : m ≤ 6) (h : PC a b) : ∃ z a', z < 30 ∧ f_S_endOf N (nI m) a = some (nI z, a') ∧ f_M_endsOf N (nI m) w b = some (if w = 0 then nI z else nI (RP a z)) ∧ FA [(20, none)] a a' := by
  obtain ⟨a', k1, k2, k3⟩ := f_fill hN a
  obtain ⟨y, hy, g1, g2⟩ := l_great (N := N) (m := m) (w := w) hN h k2 N 1 0 (by omega) (by omega) (by omega)
  obtain ⟨z, hz, e1, e2⟩ := l_ends (N := N) (w := w) hN hm h k2 y N N 0 (by omega) (by omega) (by omega)
  refine ⟨z, a', hz, ?_, ?_, k3⟩
  · unfold f_S_endOf
    have g3 : f_S_firstGreatest N a' = some (nI y) := g1
    rw [k1, bnd, g3, bnd]
    exact e1
  · unfold f_M_endsOf
    exact g2.trans e2
theorem min_29 {p : Int32} : f_M_in p.toInt64 0 29 = 0 ↔ (p < 0 ∨ 30 ≤ p) := by
  rw [min_0 (lo := 0) (hi := 29) (by decide) (by decide)]; grind
theorem min_26 {p : Int32} : f_M_in p.toInt64 2 6 = 0 ↔ (p < 2 ∨ 6 < p) := min_0 (lo := 2) (hi := 6) (by decide) (by decide)
theorem two_0 {p : Int32} : f_M_isTwo p = 0 ↔ (p < 0 ∨ 2 ≤ p) := by
  have h : f_M_in p.toInt64 0 1 = 0 ↔ (p < 0 ∨ 2 ≤ p) := by
    rw [min_0 (lo := 0) (hi := 1) (by decide) (by decide)]; grind
  rw [← h]
  unfold f_M_isTwo
  rcases min_01 (x := p.toInt64) (l := 0) (h := 1) with h | h <;> rw [h] <;> decide
theorem q_reads {N : Nat} {a b : aT} (h : Rel N a b) : ∃ b', f_M_reads N b = some (f_C_fault a, b') ∧ Rel N a b' ∧ PC a b' := by
  obtain ⟨b', h1, h2, -⟩ := h.par b h.len h.txt
  exact ⟨b', h1, h.fr (La := []) FA_rf (r_M_reads N b _ _ h1) (by decide) (by decide), h2⟩
theorem q_ripe {N : Nat} {a b : aT} {p : Int32} (hN : 10000 ≤ N) (h : Rel N a b) : ∃ r b', f_C_ripe N p a = some r ∧ f_M_ripe N p b = some (r, b') ∧ Rel N a b' := by
  obtain ⟨b', k1, k2, k3⟩ := q_reads h
  unfold f_C_ripe f_M_ripe
  rw [k1, bnd]
  dsimp only
  by_cases c1 : p < 0 ∨ 30 ≤ p
  · rw [if_pos (blw.mpr c1), if_pos (min_29.mpr c1)]
    exact ⟨_, _, rfl, rfl, k2⟩
  obtain ⟨d, hd, rfl⟩ := nof (p := p) 30 (by decide) c1
  rw [if_neg (mt blw.mp c1), if_neg (mt min_29.mp c1), f_rpC hN, f_rpM hN k3, bnd, bnd]
  exact ⟨_, _, rfl, rfl, k2⟩
theorem nofR {p : Int32} (h : ¬ (p < 2 ∨ 6 < p)) : ∃ k, k ≤ 6 ∧ p = nI k := nofC (p := p) 6 (by decide) (by grind) (by have : nI 6 = 6 := rfl; grind)
theorem q_rests {N : Nat} {a b : aT} {p : Int32} (hN : 10000 ≤ N) (h : Rel N a b) : Same N (f_C_rests N p a) (f_M_rests N p b) := by
  obtain ⟨b', k1, k2, k3⟩ := q_reads h
  unfold f_C_rests f_M_rests
  rw [k1, bnd]
  dsimp only
  by_cases c1 : p < 2 ∨ 6 < p
  · rw [if_pos (min_26.mpr c1)]
    refine ⟨-2, a, b', ?_, rfl, k2⟩
    by_cases c2 : p < 2
    · rw [if_pos c2]
    · rw [if_neg c2, if_neg (by grind)]
  obtain ⟨m, hm, rfl⟩ := nofR c1
  obtain ⟨w, a', g1, g2, g3⟩ := q_restsOf hN hm k3
  rw [if_neg (mt min_26.mp c1), if_neg (by grind), if_pos (by grind), g1, g2, bnd, bnd]
  exact ⟨_, _, _, rfl, rfl, k2.fr g3 (Lb := []) FA_rf (by decide) (by decide)⟩
theorem q_ends {N : Nat} {a b : aT} {p q : Int32} (hN : 10000 ≤ N) (h : Rel N a b) : Same N (f_C_ends N p q a) (f_M_ends N p q b) := by
  obtain ⟨b', k1, k2, k3⟩ := q_reads h
  unfold f_C_ends f_M_ends
  rw [k1, bnd]
  dsimp only
  by_cases c1 : p < 2 ∨ 6 < p
  · rw [if_pos (min_26.mpr c1)]
    refine ⟨-2, a, b', ?_, rfl, k2⟩
    by_cases c2 : p < 2
    · rw [if_pos c2]
    · rw [if_neg c2, if_pos (by grind)]
  obtain ⟨m, hm, rfl⟩ := nofR c1
  rw [if_neg (mt min_26.mp c1), if_neg (by grind), if_neg (by grind)]
  by_cases c2 : q < 0 ∨ 2 ≤ q
  · rw [if_pos (blw.mpr c2), if_pos (two_0.mpr c2)]
    exact ⟨_, _, _, rfl, rfl, k2⟩
  rw [if_neg (mt blw.mp c2), if_neg (mt two_0.mp c2)]
  obtain ⟨z, a', hz, g1, g2, g3⟩ := q_endsOf q hN hm k3
  have a3 : RP a' z = RP a z := by
    unfold RP rpd
    rw [show a' 3 = a 3 from funext fun i => g3 3 i (nwc (by decide))]
  rw [g1, g2, bnd, bnd]
  dsimp only
  rw [f_rpC hN, bnd, a3]
  refine ⟨if q = 0 then nI z else nI (RP a z), a', b', ?_, rfl, k2.fr g3 (Lb := []) FA_rf (by decide) (by decide)⟩
  by_cases c3 : q = 0
  · rw [if_pos c3, if_pos c3]
  · rw [if_neg c3, if_neg c3]
