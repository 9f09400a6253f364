/-! the reading of the tree -/
theorem l_clC (N : Nat) : ∀ (n j : Nat) (a : aT), j ≤ 48 → 48 - j < n → ∃ a', f_E_clearCells_2 N n (nI j) a = some ((), a') ∧ ∀ c i, a' c i = if c = 3 ∧ j ≤ i ∧ i < 48 then -2 else a c i := by
  intro n
  induction n with
  | zero => intro j a h1 h2; omega
  | succ n ih =>
    intro j a h2 h3
    unfold f_E_clearCells_2
    by_cases hj : j = 48
    · subst hj
      rw [if_pos (show 48 ≤ nI 48 from by decide)]
      refine ⟨a, rfl, fun c i => ?_⟩
      rw [if_neg (by omega)]
    · rw [if_neg (show ¬ 48 ≤ nI j from nI_ge (b := 48) (by omega) (by decide)), if_pos (inn (show j < 48 by omega) (by decide)), ixn (by omega), np1]
      obtain ⟨a', h4, h5⟩ := ih (j + 1) (upA a 3 j (-2)) (by omega) (by omega)
      refine ⟨a', h4, fun c i => ?_⟩
      rw [h5, upA_get]
      grind
theorem l_clM (N : Nat) : ∀ (n j : Nat) (b : aT), j ≤ 48 → 48 - j < n → ∃ b', f_M_clears_2 N n (nI j) b = some ((), b') ∧ ∀ c i, b' c i = if c = 37 ∧ j ≤ i ∧ i < 48 then 0 else if c = 38 ∧ j ≤ i ∧ i < 48 then -1 else if c = 31 ∧ (i = 10 ∨ i = 11) then 0 else b c i := by
  intro n
  induction n with
  | zero => intro j a h1 h2; omega
  | succ n ih =>
    intro j a h2 h3
    unfold f_M_clears_2
    by_cases hj : j = 48
    · subst hj
      rw [if_pos (show 48 ≤ nI 48 from by decide)]
      refine ⟨_, rfl, fun c i => ?_⟩
      rw [if_neg (by omega), if_neg (by omega), upA_get, upA_get]
      grind
    · rw [if_neg (show ¬ 48 ≤ nI j from nI_ge (b := 48) (by omega) (by decide)), if_pos (inn (show j < 48 by omega) (by decide)), if_pos (inn (show j < 48 by omega) (by decide)), ixn (by omega), np1]
      obtain ⟨a', h4, h5⟩ := ih (j + 1) (upA (upA a 37 j 0) 38 j (-1)) (by omega) (by omega)
      refine ⟨a', h4, fun c i => ?_⟩
      rw [h5, upA_get, upA_get]
      grind
def rdK (N n : Nat) : Int32 × aT → Option (Int32 × aT) := fun q2 =>
  if q2.1 = 0 then
    (f_M_clears N q2.2).bind fun q3 => some ((q3.2 31 7), q3.2)
  else
    if (q2.2 31 6) ≤ (q2.2 31 7) then f_M_reads_58 N (f_M_reads_22 N n) 0 q2.2
    else f_M_reads_58 N (f_M_reads_22 N n) 1 q2.2
theorem rd22 (N n : Nat) (b : aT) : f_M_reads_22 N (n + 1) 1 b = (f_M_readsRow N b).bind (rdK N n) := by
  unfold f_M_reads_22
  rw [if_neg (show ¬ (1 : Int32) = 0 by decide)]
  rfl
theorem rd220 (N n : Nat) (b : aT) : f_M_reads_22 N (n + 1) 0 b = some (-1, b) := by
  unfold f_M_reads_22
  rw [if_pos rfl]
def PC (a b : aT) : Prop := ∀ k, k < 48 → -2 ≤ a 3 k ∧ a 3 k ≤ 9 ∧ (b 37 k = 0 ↔ a 3 k = -2) ∧ b 38 k = if a 3 k < 0 then -1 else a 3 k
def PS (n r c l p : Nat) (a b : aT) : Prop := a 1 2 = nI n ∧ b 31 6 = nI n ∧ (∀ i, b 36 i = a 2 i) ∧ b 31 10 = nI r ∧ b 31 7 = nI p ∧ (0 < r → b 31 11 = nI l) ∧ PC a b ∧
  ∀ k, k < 48 → (a 3 k = -2 ↔ ¬ ((k / 8 < r ∧ k % 8 < l) ∨ (k / 8 = r ∧ k % 8 < c)))
def PF (f : Int32) (a' b' : aT) : Prop := (f = -1 ∧ PC a' b' ∧ ∃ r w : Nat, r ≤ 6 ∧ w ≤ 8 ∧ b' 31 10 = nI r ∧ b' 31 11 = nI w ∧ ∀ k, k < 48 → (a' 3 k = -2 ↔ ¬ (k / 8 < r ∧ k % 8 < w))) ∨
  (¬ f = -1 ∧ (∀ k, k < 48 → b' 37 k = 0 ∧ b' 38 k = -1) ∧ b' 31 10 = 0 ∧ b' 31 11 = 0)
theorem rd_no {N n p : Nat} {a b : aT} (hN : 10000 ≤ N) (hp : p < 100) (h : b 31 7 = nI p) : ∃ b', rdK N n (0, b) = some (nI p, b') ∧ PF (nI p) a b' := by
  obtain ⟨b', h1, h2⟩ := l_clM N N 0 b (by omega) (by omega)
  refine ⟨b', ?_, Or.inr ⟨fun q => nI_pos (n := p) (by omega) (by rw [q]; decide), fun k hk => ⟨?_, ?_⟩, ?_, ?_⟩⟩
  · unfold rdK f_M_clears
    dsimp only
    rw [if_pos rfl, show (0 : Int32) = nI 0 from rfl, h1, bnd]
    dsimp only
    rw [h2, if_neg (by omega), if_neg (by omega), if_neg (by omega), h]
  · rw [h2, if_pos (by omega)]
  · rw [h2, if_neg (by omega), if_pos (by omega)]
  · rw [h2, if_neg (by omega), if_neg (by omega), if_pos (by omega)]
  · rw [h2, if_neg (by omega), if_neg (by omega), if_pos (by omega)]
theorem rd_149 {N n r c l p : Nat} {a b : aT} (h : PS n r c l p a b) (hr : r ≤ 6) (hl : l ≤ 8) (hc : c ≤ l) : f_M_readsRow_149 N (nI c) b = if f_E_isTooSoon (nI r) (nI c) (nI l) = 0 then some (1, upA (upA b 31 11 (nI c)) 31 10 (nI (r + 1))) else some (0, b) := by
  obtain ⟨h1, h2, h3, h4, h5, h6, h7, h8⟩ := h
  unfold f_M_readsRow_149 f_E_isTooSoon
  rw [h4, np1]
  by_cases c1 : nI c = 0
  · rw [if_pos c1, if_pos c1, if_neg (by decide)]
  rw [if_neg c1, if_neg c1]
  by_cases c2 : r = 0
  · subst c2
    rw [if_pos (show nI 0 ≤ 0 by decide), if_pos (show nI 0 ≤ 0 by decide), if_pos rfl]
  have c3 : ¬ nI r ≤ 0 := nI_ge (a := 0) (by omega) (by omega)
  rw [if_neg c3, if_neg c3, h6 (by omega)]
  by_cases c4 : nI l ≤ nI c
  · rw [if_pos c4, if_pos c4, if_pos rfl]
  · rw [if_neg c4, if_neg c4, if_neg (by decide)]
theorem soon {r c l : Nat} (hr : r ≤ 6) (hl : l ≤ 8) (hc : c ≤ l) (h : f_E_isTooSoon (nI r) (nI c) (nI l) = 0) : 0 < c ∧ (r = 0 ∨ c = l) := by
  unfold f_E_isTooSoon at h
  rcases c with _ | c
  · rw [if_pos (show nI 0 = 0 from rfl)] at h
    exact absurd h (by decide)
  refine ⟨by omega, ?_⟩
  rw [if_neg (nI_ne0 (by omega) (by omega))] at h
  rcases r with _ | r
  · exact Or.inl rfl
  rw [if_neg (show ¬ nI (r + 1) ≤ 0 from nI_ge (a := 0) (by omega) (by omega))] at h
  by_cases c4 : nI l ≤ nI (c + 1)
  · have := (nI_leI (by omega) (by omega)).mp c4
    exact Or.inr (by omega)
  · rw [if_neg c4] at h
    exact absurd h (by decide)
theorem rd_58_1 {N n p : Nat} {b : aT} (h : b 31 7 = nI p) : f_M_reads_58 N (f_M_reads_22 N n) 1 b = f_M_reads_22 N n 1 (upA b 31 7 (nI (p + 1))) := by
  unfold f_M_reads_58
  rw [if_neg (by decide), h, np1]
theorem rd_58_0 {N n p : Nat} {b : aT} (h : b 31 7 = nI p) : f_M_reads_58 N (f_M_reads_22 N n) 0 b = f_M_reads_22 N n 0 (upA b 31 7 (nI p)) := by
  unfold f_M_reads_58
  rw [if_pos rfl, h, show nI p + 0 = nI p from nI_add p 0]
theorem rd_sim {N n : Nat} (hN : 10000 ≤ N) (hn0 : 0 < n) (hn : n ≤ 53) : ∀ (d n1 n2 n3 r c l p : Nat) (a b : aT), n - p = d → d < n1 → d < n2 → d < n3 → p ≤ n → r ≤ 6 → c ≤ l → l ≤ 8 → (r = 6 → c = 0) → (r = 0 → l = 8) → PS n r c l p a b →
    ∃ f a' b', f_E_fillCells_10 N n1 (nI r) (nI c) (nI l) (nI p) a = some (f, a') ∧ (f_M_readsRow_19 N n2 (nI c) (nI l) b).bind (rdK N n3) = some (f, b') ∧ PF f a' b' := by
  intro d
  induction d with
  | zero =>
    intro n1 n2 n3 r c l p a b hd h1 h2 h3 hp hr hc hl h6 h0 h
    have h9 := h
    obtain ⟨g1, g2, g3, g4, g5, g6, g7, g8⟩ := h9
    have ep : p = n := by omega
    subst ep
    obtain ⟨n1, rfl⟩ : ∃ k, n1 = k + 1 := ⟨n1 - 1, by omega⟩
    obtain ⟨n2, rfl⟩ : ∃ k, n2 = k + 1 := ⟨n2 - 1, by omega⟩
    obtain ⟨n3, rfl⟩ : ∃ k, n3 = k + 1 := ⟨n3 - 1, by omega⟩
    unfold f_E_fillCells_10 f_M_readsRow_19
    rw [g1, if_pos (nI_le (Nat.le_refl _) (by omega)), g2, g5, if_pos (nI_le (Nat.le_refl _) (by omega)), rd_149 h hr hl hc]
    unfold f_E_fillCells_139
    rw [g1, if_neg (show ¬ nI p ≤ 0 from nI_ge (a := 0) (by omega) (by omega))]
    by_cases q : f_E_isTooSoon (nI r) (nI c) (nI l) = 0
    · rw [if_pos q, if_pos q, bnd]
      obtain ⟨q1, q2⟩ := soon hr hl hc q
      refine ⟨_, _, upA (upA (upA b 31 11 (nI c)) 31 10 (nI (r + 1))) 31 7 (nI p), rfl, ?_, Or.inl ⟨rfl, ?_, r + 1, c, by omega, by omega, ?_, ?_, ?_⟩⟩
      · unfold rdK
        dsimp only
        rw [if_neg (by decide), if_pos (by simp only [upA_get, reduceIte, Nat.reduceEqDiff]; rw [g2, g5]; exact nI_le (Nat.le_refl _) (by omega)), rd_58_0 (p := p) (by simp only [upA_get, reduceIte, Nat.reduceEqDiff]; exact g5), rd220]
      · intro k hk
        simp only [upA_get, reduceIte, Nat.reduceEqDiff]
        exact g7 k hk
      · simp only [upA_get, reduceIte, Nat.reduceEqDiff]
      · simp only [upA_get, reduceIte, Nat.reduceEqDiff]
      · intro k hk
        rw [g8 k hk]
        omega
    · rw [if_neg q, if_neg q, bnd]
      obtain ⟨b', e1, e2⟩ := rd_no (n := n3 + 1) (a := a) hN (show p < 100 by omega) g5
      exact ⟨_, _, _, rfl, e1, e2⟩
  | succ d ih =>
    intro n1 n2 n3 r c l p a b hd h1 h2 h3 hp hr hc hl h6 h0 h
    have h9 := h
    obtain ⟨g1, g2, g3, g4, g5, g6, g7, g8⟩ := h9
    obtain ⟨n1, rfl⟩ : ∃ k, n1 = k + 1 := ⟨n1 - 1, by omega⟩
    obtain ⟨n2, rfl⟩ : ∃ k, n2 = k + 1 := ⟨n2 - 1, by omega⟩
    obtain ⟨n3, rfl⟩ : ∃ k, n3 = k + 1 := ⟨n3 - 1, by omega⟩
    obtain ⟨b0, e1, e2⟩ := rd_no (n := n3 + 1) (a := a) hN (show p < 100 by omega) g5
    unfold f_E_fillCells_10 f_M_readsRow_19
    rw [g1, if_neg (show ¬ nI n ≤ nI p from nI_ge (by omega) (by omega)), if_neg (show ¬ 53 ≤ nI p from nI_ge (b := 53) (by omega) (by decide)), if_pos (inn (show p < 53 by omega) (by decide)), ixn (show p < 2 ^ 31 by omega),
      g2, g5, if_neg (show ¬ nI n ≤ nI p from nI_ge (by omega) (by omega)), if_pos (inn (show p < 53 by omega) (by decide)), if_pos (inn (show p < 53 by omega) (by decide)), ixn (show p < 2 ^ 31 by omega), g3, g4, rd_149 h hr hl hc]
    generalize hch : a 2 p = ch
    by_cases c1 : ch = 59
    · rw [if_pos c1, if_pos c1]
      by_cases q : f_E_isTooSoon (nI r) (nI c) (nI l) = 0
      · obtain ⟨q1, q2⟩ := soon hr hl hc q
        have r6 : r < 6 := by omega
        rw [if_pos q, if_pos q, bnd, if_pos (show nI r < 6 from nI_lt (b := 6) r6 (by decide)), np1, np1]
        have key := ih n1 N n3 (r + 1) 0 c (p + 1) a (upA (upA (upA b 31 11 (nI c)) 31 10 (nI (r + 1))) 31 7 (nI (p + 1))) (by omega) (by omega) (by omega) (by omega) (by omega) (by omega) (by omega) (by omega) (by omega) (by omega) (by
          refine ⟨g1, ?_, ?_, ?_, ?_, ?_, ?_, ?_⟩
          · simp only [upA_get, reduceIte, Nat.reduceEqDiff]; exact g2
          · intro i; simp only [upA_get, reduceIte, Nat.reduceEqDiff]; exact g3 i
          · simp only [upA_get, reduceIte, Nat.reduceEqDiff]
          · simp only [upA_get, reduceIte, Nat.reduceEqDiff]
          · intro _; simp only [upA_get, reduceIte, Nat.reduceEqDiff]
          · intro k hk
            simp only [upA_get, reduceIte, Nat.reduceEqDiff]
            exact g7 k hk
          · intro k hk
            rw [g8 k hk]
            omega)
        obtain ⟨f, a', b', k1, k2, k3⟩ := key
        refine ⟨f, a', b', k1, ?_, k3⟩
        unfold rdK
        dsimp only
        rw [if_neg (show ¬ (1 : Int32) = 0 by decide), if_neg (by simp only [upA_get, reduceIte, Nat.reduceEqDiff]; rw [g2, g5]; exact nI_ge (by omega) (by omega)), rd_58_1 (p := p) (by simp only [upA_get, reduceIte, Nat.reduceEqDiff]; exact g5), rd22, ← k2]
        unfold f_M_readsRow
        simp only [upA_get, reduceIte, Nat.reduceEqDiff]
        rw [if_neg (nI_ne0 (by omega) (by omega))]
        rfl
      · rw [if_neg q, if_neg q, bnd, e1]
        by_cases r6 : r < 6
        · rw [if_pos (show nI r < 6 from nI_lt (b := 6) r6 (by decide))]
          exact ⟨_, _, _, rfl, rfl, e2⟩
        · rw [if_neg (show ¬ nI r < 6 from nI_nlt (b := 6) (by omega) (by omega))]
          exact ⟨_, _, _, rfl, rfl, e2⟩
    · rw [if_neg c1, if_neg c1]
      by_cases r6 : r = 6
      · subst r6
        rw [if_neg (show ¬ nI 6 < 6 by decide), if_pos (show nI 6 = 6 from rfl), bnd, e1]
        exact ⟨_, _, _, rfl, rfl, e2⟩
      rw [if_pos (show nI r < 6 from nI_lt (b := 6) (by omega) (by decide)), if_neg (show ¬ nI r = 6 from fun q => r6 ((nI_eq (b := 6) (by omega) (by decide)).mp q))]
      by_cases cl : c = l
      · subst cl
        rw [if_pos (show nI c = nI c from rfl), bnd, e1, if_pos (nI_le (Nat.le_refl c) (by omega))]
        by_cases sg : f_E_isCellSign ch = 0
        · rw [if_pos sg]
          exact ⟨_, _, _, rfl, rfl, e2⟩
        · rw [if_neg sg]
          exact ⟨_, _, _, rfl, rfl, e2⟩
      rw [if_neg (show ¬ nI c = nI l from fun q => cl ((nI_eq (by omega) (by omega)).mp q)), if_neg (show ¬ nI l ≤ nI c from nI_ge (by omega) (by omega))]
      have mi : f_M_in ch.toInt64 48 57 = 0 ↔ (ch < 48 ∨ 57 < ch) := min_0 (lo := 48) (hi := 57) (by decide) (by decide)
      have ib : inb (nI (8 * r + c)) 48 := inn (show 8 * r + c < 48 by omega) (by decide)
      unfold f_M_readsRow_90
      rw [g4]
      simp only [n8, nI_add, if_pos ib, ixn (show 8 * r + c < 2 ^ 31 by omega), np1]
      rw [if_neg (show ¬ f_C_isBelow (nI (8 * r + c)) 48 = 0 from mt blw.mp (nlt4 (n := 48) (L := 48) rfl (by decide) (by omega)))]
      have step : ∀ v w : Int32, -1 ≤ v → v ≤ 9 → (w = if v < 0 then -1 else v) → ∃ f a' b', f_E_fillCells_10 N n1 (nI r) (nI (c + 1)) (nI l) (nI (p + 1)) (upA a 3 (8 * r + c) v) = some (f, a') ∧ (f_M_readsRow_19 N n2 (nI (c + 1)) (nI l) (upA (upA (upA b 37 (8 * r + c) 1) 38 (8 * r + c) w) 31 7 (b 31 7 + 1))).bind (rdK N (n3 + 1)) = some (f, b') ∧ PF f a' b' := by
        intro v w v1 v2 v3
        rw [g5, np1]
        refine ih n1 n2 (n3 + 1) r (c + 1) l (p + 1) _ _ (by omega) (by omega) (by omega) (by omega) (by omega) (by omega) (by omega) (by omega) (by omega) (by omega) ⟨?_, ?_, ?_, ?_, ?_, ?_, ?_, ?_⟩
        · simp only [upA_get, reduceIte, Nat.reduceEqDiff]; exact g1
        · simp only [upA_get, reduceIte, Nat.reduceEqDiff]; exact g2
        · intro i; simp only [upA_get, reduceIte, Nat.reduceEqDiff]; exact g3 i
        · simp only [upA_get, reduceIte, Nat.reduceEqDiff]; exact g4
        · simp only [upA_get, reduceIte, Nat.reduceEqDiff]
        · intro z; simp only [upA_get, reduceIte, Nat.reduceEqDiff]; exact g6 z
        · intro k hk
          simp only [upA_get, reduceIte, Nat.reduceEqDiff]
          have := g7 k hk
          grind
        · intro k hk
          simp only [upA_get, reduceIte, Nat.reduceEqDiff]
          by_cases z : k = 8 * r + c
          · rw [if_pos z]
            constructor
            · intro q
              grind
            · intro q
              omega
          · rw [if_neg z, g8 k hk]
            omega
      by_cases c46 : ch = 46
      · have sg : ¬ f_E_isCellSign ch = 0 := by
          unfold f_E_isCellSign
          rw [if_pos c46]
          decide
        rw [if_neg sg, if_pos c46, if_pos c46, if_pos c46]
        exact step (-1) (-1) (by decide) (by decide) (by decide)
      rw [if_neg c46, if_neg c46]
      by_cases cd : ch < 48 ∨ 57 < ch
      · have sg : f_E_isCellSign ch = 0 := by
          unfold f_E_isCellSign
          rw [if_neg c46]
          grind
        rw [if_pos sg, if_pos (mi.mpr cd), bnd, e1]
        exact ⟨_, _, _, rfl, rfl, e2⟩
      · have sg : ¬ f_E_isCellSign ch = 0 := by
          unfold f_E_isCellSign
          rw [if_neg c46]
          grind
        rw [if_neg sg, if_neg (mt mi.mp cd)]
        rw [if_neg c46]
        exact step (ch - 48) (ch - 48) (by grind) (by grind) (by grind)
/-- what the reference's reading gives, by what the class's filling gives -/
theorem rd_all {N n : Nat} {a : aT} (hN : 10000 ≤ N) (hn : n ≤ 53) (h : a 1 2 = nI n) (h3 : ∀ k, k < 48 → a 3 k = -2) (b : aT) (h6 : b 31 6 = nI n) (ht : ∀ i, b 36 i = a 2 i) :
    ∃ f a' b', f_E_fillCells N a = some (f, a') ∧ f_M_reads N b = some (f, b') ∧ PF f a' b' := by
  obtain ⟨b1, e1, e2⟩ := l_clM N N 0 b (by omega) (by omega)
  have e6 : b1 31 6 = nI n := by rw [e2, if_neg (by omega), if_neg (by omega), if_neg (by omega), h6]
  have e37 : ∀ k, k < 48 → b1 37 k = 0 := fun k hk => by rw [e2, if_pos (by omega)]
  have e38 : ∀ k, k < 48 → b1 38 k = -1 := fun k hk => by rw [e2, if_neg (by omega), if_pos (by omega)]
  have e10 : b1 31 10 = nI 0 := by rw [e2, if_neg (by omega), if_neg (by omega), if_pos (by omega)]; rfl
  have e11 : b1 31 11 = nI 0 := by rw [e2, if_neg (by omega), if_neg (by omega), if_pos (by omega)]; rfl
  have e36 : ∀ i, b1 36 i = a 2 i := fun i => by rw [e2, if_neg (by omega), if_neg (by omega), if_neg (by omega), ht]
  have pc : PC a (upA b1 31 7 (nI 0)) := by
    intro k hk
    simp only [upA_get, reduceIte, Nat.reduceEqDiff]
    rw [h3 k hk, e37 k hk, e38 k hk]
    decide
  unfold f_E_fillCells f_M_reads f_M_clears
  have e1' : f_M_clears_2 N N 0 b = some ((), b1) := e1
  rw [e1', bnd]
  dsimp only
  obtain ⟨N, rfl⟩ : ∃ k, N = k + 1 := ⟨N - 1, by omega⟩
  rcases n with _ | n
  · rw [if_pos (show b1 31 6 ≤ 0 by rw [e6]; decide), rd220]
    unfold f_E_fillCells_10 f_E_fillCells_139
    rw [h, if_pos (by decide), if_pos (by decide)]
    refine ⟨_, _, _, rfl, rfl, Or.inl ⟨rfl, pc, 0, 0, by omega, by omega, ?_, ?_, ?_⟩⟩
    · simp only [upA_get, reduceIte, Nat.reduceEqDiff]
      exact e10
    · simp only [upA_get, reduceIte, Nat.reduceEqDiff]
      exact e11
    · intro k hk
      rw [h3 k hk]
      simp
  · rw [if_neg (show ¬ b1 31 6 ≤ 0 by rw [e6]; exact nI_ge (a := 0) (by omega) (by omega)), rd22]
    have key := rd_sim (N := N + 1) (n := n + 1) hN (by omega) hn (n + 1) (N + 1) (N + 1) N 0 0 8 0 a (upA b1 31 7 (nI 0)) (by omega) (by omega) (by omega) (by omega) (by omega) (by omega) (by omega) (by omega) (by omega) (by omega) (by
      refine ⟨h, ?_, ?_, ?_, ?_, ?_, pc, ?_⟩
      · simp only [upA_get, reduceIte, Nat.reduceEqDiff]; exact e6
      · intro i; simp only [upA_get, reduceIte, Nat.reduceEqDiff]; exact e36 i
      · simp only [upA_get, reduceIte, Nat.reduceEqDiff]; exact e10
      · simp only [upA_get, reduceIte, Nat.reduceEqDiff]
      · intro q; omega
      · intro k hk
        rw [h3 k hk]
        simp)
    obtain ⟨f, a', b', k1, k2, k3⟩ := key
    refine ⟨f, a', b', k1, ?_, k3⟩
    rw [← k2]
    unfold f_M_readsRow
    simp only [upA_get, reduceIte, Nat.reduceEqDiff]
    rw [if_pos (show b1 31 10 = 0 from e10)]
    rfl
theorem l_parse {N n : Nat} {a : aT} (hN : 10000 ≤ N) (hn : n ≤ 53) (h : a 1 2 = nI n) : ∃ a', f_E_parse N a = some ((), a') ∧ Par N (a' 2) (a' 1 2) (a' 1 3) (a' 3) ∧ ∀ c i, c ≠ 3 → ¬ (c = 1 ∧ i = 3) → a' c i = a c i := by
  obtain ⟨a1, e1, e2⟩ := l_clC N N 0 a (by omega) (by omega)
  have k12 : a1 1 2 = nI n := by rw [e2, if_neg (by omega), h]
  have k3 : ∀ k, k < 48 → a1 3 k = -2 := fun k hk => by rw [e2, if_pos (by omega)]
  have all := rd_all hN hn k12 k3
  obtain ⟨f, a2, b2, g1, -, -⟩ := all (fun c i => if c = 36 then a1 2 i else nI n) rfl (fun i => rfl)
  have fr := r_E_fillCells N a1 f a2 g1
  have fe : ∀ c i, c ≠ 3 → a2 c i = a c i := by
    intro c i hc
    rw [fr c i (fun e he q => by
      have : e = (3, none) := by simpa using he
      subst this
      exact hc q.1.symm), e2, if_neg (fun q => hc q.1)]
  have hall : ∀ b : aT, b 31 6 = nI n → (∀ i, b 36 i = a 2 i) → ∃ b', f_M_reads N b = some (f, b') ∧ PF f a2 b' := by
    intro b c1 c2
    obtain ⟨f', a', b', d1, d2, d3⟩ := all b c1 (fun i => by rw [c2, e2, if_neg (by omega)])
    rw [g1] at d1
    cases d1
    exact ⟨b', d2, d3⟩
  unfold f_E_parse f_E_clearCells
  rw [show (0 : Int32) = nI 0 from rfl, e1, bnd]
  dsimp only
  rw [g1, bnd]
  dsimp only
  by_cases hf : f = -1
  · rw [if_pos hf]
    refine ⟨_, rfl, ?_, ?_⟩
    · intro b c1 c2
      simp only [upA_get, reduceIte, Nat.reduceEqDiff] at c1 c2 ⊢
      rw [fe 1 2 (by omega), h] at c1
      obtain ⟨b', d1, d2⟩ := hall b c1 (fun i => by rw [c2, fe 2 i (by omega)])
      refine ⟨b', d1, ?_⟩
      rcases d2 with d2 | d2
      · exact d2.2
      · exact absurd hf d2.1
    · intro c i c1 c2
      rw [upA_get]
      by_cases q : c = 1
      · rw [if_pos q, if_neg (fun z => c2 ⟨q, z⟩), fe c i c1]
      · rw [if_neg q, fe c i c1]
  · rw [if_neg hf]
    obtain ⟨a3, m1, m2⟩ := l_clC N N 0 (upA a2 1 3 f) (by omega) (by omega)
    rw [m1, bnd]
    have z3 : ∀ k, k < 48 → a3 3 k = -2 := fun k hk => by rw [m2, if_pos (by omega)]
    have z13 : a3 1 3 = f := by rw [m2, if_neg (by omega), upA_get, if_pos rfl, if_pos rfl]
    have zz : ∀ c i, c ≠ 3 → ¬ (c = 1 ∧ i = 3) → a3 c i = a c i := by
      intro c i c1 c2
      rw [m2, if_neg (fun q => c1 q.1), upA_get]
      by_cases q : c = 1
      · rw [if_pos q, if_neg (fun z => c2 ⟨q, z⟩), fe c i c1]
      · rw [if_neg q, fe c i c1]
    refine ⟨a3, rfl, ?_, zz⟩
    intro b c1 c2
    rw [zz 1 2 (by omega) (by omega), h] at c1
    obtain ⟨b', d1, d2⟩ := hall b c1 (fun i => by rw [c2, zz 2 i (by omega) (by omega)])
    rcases d2 with d2 | d2
    · exact absurd d2.1 hf
    · refine ⟨b', by rw [d1, z13], fun k hk => ?_, 0, 0, by omega, by omega, d2.2.2.1, d2.2.2.2, fun k hk => ?_⟩
      · rw [z3 k hk, (d2.2.1 k hk).1, (d2.2.1 k hk).2]
        decide
      · rw [z3 k hk]
        simp
theorem q_parse {N n : Nat} {a a0 b b0 : aT} (hN : 10000 ≤ N) (h : Rel N a b) (hn : n ≤ 53) (ha : ∀ c i, c ≠ 2 → ¬ (c = 1 ∧ i = 2) → a0 c i = a c i) (hb : ∀ c i, c ≠ 36 → ¬ (c = 31 ∧ i = 6) → b0 c i = b c i)
    (e1 : a0 1 2 = nI n) (e2 : b0 31 6 = nI n) (e3 : ∀ i, b0 36 i = a0 2 i) : ∃ a', f_E_parse N a0 = some ((), a') ∧ a' 1 2 = nI n ∧ Rel N a' b0 := by
  obtain ⟨a', g1, g2, g3⟩ := l_parse hN hn e1
  refine ⟨a', g1, by rw [g3 1 2 (by omega) (by omega), e1], ?_⟩
  have ka : ∀ c, c ≠ 1 → c ≠ 2 → c ≠ 3 → a' c = a c := fun c h1 h2 h3 => funext fun i => by rw [g3 c i h3 (fun q => h1 q.1), ha c i h2 (fun q => h1 q.1)]
  have kb : ∀ c, c ≠ 31 → c ≠ 36 → b0 c = b c := fun c h1 h2 => funext fun i => hb c i h2 (fun q => h1 q.1)
  have kb1 : ∀ i, i ≠ 6 → b0 31 i = b 31 i := fun i h1 => hb 31 i (by omega) (fun q => h1 q.2)
  have z12 : a' 1 2 = nI n := by rw [g3 1 2 (by omega) (by omega), e1]
  have z2 : ∀ i, b0 36 i = a' 2 i := fun i => by rw [e3, g3 2 i (by omega) (by omega)]
  have z0 : b0 31 6 = a' 1 2 := by rw [z12, e2]
  have z3 : 0 ≤ a' 1 2 := by rw [z12]; exact nI_pos' (by omega)
  have z4 : a' 1 2 ≤ 53 := by rw [z12]; exact nI_le (b := 53) hn (by decide)
  obtain ⟨g_len, g_len0, g_len1, g_txt, g_par, g_sh, g_sl, g_so, g_ru, g_sd, g_ki, g_thn, g_thn0, g_thn1, g_th, g_twn, g_twn0, g_twn1, g_tw, g_sgn, g_sgn0, g_sgn1, g_sg, g_fo, g_si, g_it, g_la⟩ := h
  refine ⟨?_, ?_, ?_, ?_, ?_, ?_, ?_, ?_, ?_, ?_, ?_, ?_, ?_, ?_, ?_, ?_, ?_, ?_, ?_, ?_, ?_, ?_, ?_, ?_, ?_, ?_, ?_⟩ <;> (try simp only [ka, kb, kb1, ne_eq, not_false_eq_true, Nat.reduceEqDiff]) <;> assumption
theorem q_type {N : Nat} {a b : aT} {p : Int32} (hN : 10000 ≤ N) (h : Rel N a b) : Same N (f_C_type N p a) (f_M_type p b) := by
  unfold f_C_type f_M_type f_E_append
  simp only [blw, min_255]
  by_cases h1 : p < 0 ∨ 256 ≤ p
  · simp only [if_pos h1]
    exact ⟨_, _, _, rfl, rfl, h⟩
  simp only [if_neg h1]
  obtain ⟨k, hk, e⟩ := nofC 53 (by decide) h.len0 h.len1
  rw [h.len, e]
  by_cases h4 : k = 53
  · subst h4
    exact ⟨_, _, _, rfl, rfl, h⟩
  have hk2 : k < 53 := by omega
  rw [if_neg (nlt4 (n := 53) (L := 53) rfl (by decide) hk2), if_neg (show ¬ nI k = 53 from fun q => h4 ((nI_eq (b := 53) (by omega) (by decide)).mp q)), if_pos (inn hk2 (by decide)), if_pos (inn hk2 (by decide)), ixn (by omega), np1]
  obtain ⟨a', g1, g2, g3⟩ := q_parse (n := k + 1) (a0 := upA (upA a 2 k p) 1 2 (nI (k + 1))) (b0 := upA (upA b 36 k p) 31 6 (nI (k + 1))) hN h (by omega) (by intro c i c1 c2; simp only [upA_get]; grind) (by intro c i c1 c2; simp only [upA_get]; grind) (by simp only [upA_get, reduceIte]) (by simp only [upA_get, reduceIte]) (by
    intro i
    simp only [upA_get, reduceIte, Nat.reduceEqDiff]
    rw [h.txt i])
  rw [g1, bnd, bnd]
  refine ⟨_, _, _, rfl, ?_, g3⟩
  dsimp only
  rw [g2]
theorem q_wipe {N : Nat} {a b : aT} (hN : 10000 ≤ N) (h : Rel N a b) : Same N (f_C_wipe N a) (f_M_wipe b) := by
  unfold f_C_wipe f_M_wipe f_E_empty
  obtain ⟨a', g1, g2, g3⟩ := q_parse (n := 0) (a0 := upA a 1 2 0) (b0 := upA b 31 6 0) hN h (by omega) (by intro c i c1 c2; simp only [upA_get]; grind) (by intro c i c1 c2; simp only [upA_get]; grind) (by simp only [upA_get, reduceIte]; rfl) (by simp only [upA_get, reduceIte]; rfl) (by
    intro i
    simp only [upA_get, reduceIte, Nat.reduceEqDiff]
    rw [h.txt i])
  rw [g1, bnd, bnd]
  refine ⟨_, _, _, rfl, ?_, g3⟩
  rw [h.len]
theorem q_undo {N : Nat} {a b : aT} (hN : 10000 ≤ N) (h : Rel N a b) : Same N (f_C_undo N a) (f_M_undo b) := by
  unfold f_C_undo f_M_undo f_E_removeLast
  obtain ⟨k, hk, e⟩ := nofC 53 (by decide) h.len0 h.len1
  rw [h.len, e]
  rcases k with _ | k
  · exact ⟨_, _, _, rfl, rfl, h⟩
  rw [if_pos (show 0 < nI (k + 1) from nI_lt (a := 0) (by omega) (by omega)), if_neg (nI_ne0 (by omega) (by omega)), nmm]
  obtain ⟨a', g1, g2, g3⟩ := q_parse (n := k) (a0 := upA a 1 2 (nI k)) (b0 := upA b 31 6 (nI k)) hN h (by omega) (by intro c i c1 c2; simp only [upA_get]; grind) (by intro c i c1 c2; simp only [upA_get]; grind) (by simp only [upA_get, reduceIte]) (by simp only [upA_get, reduceIte]) (by
    intro i
    simp only [upA_get, reduceIte, Nat.reduceEqDiff]
    rw [h.txt i])
  rw [g1, bnd, bnd]
  refine ⟨_, _, _, rfl, ?_, g3⟩
  dsimp only
  rw [g2]
