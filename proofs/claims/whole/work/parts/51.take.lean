/-! one ball comes down, both sides -/
abbrev LA : List (Nat × Option Nat) := [(14, none), (15, none), (16, none), (17, none), (18, none)]
abbrev LB : List (Nat × Option Nat) := [(31, some 24), (31, some 25), (31, some 26), (31, some 27), (31, some 28), (45, none), (46, none), (47, none), (48, none)]
def PB (t : Nat) (m : Int32) (a b : aT) : Prop :=
  (∀ c, c < 48 → (b 45 c = 0 ∧ a 15 c = -1) ∨ (¬ b 45 c = 0 ∧ 0 ≤ a 3 c ∧ a 15 c = hg (a 3 c) (a 7 1))) ∧
  (∀ s, s < 4 → b 46 s = a 16 s ∧ -1 ≤ a 16 s ∧ a 16 s ≤ 47) ∧ (∀ s, s < 4 → b 47 s = a 17 s) ∧ (∀ i, i < t → b 48 i = a 18 i) ∧ (∀ i, t < i → i < 20 → a 18 i = 0) ∧ a 18 t = m ∧
  b 31 24 = a 14 9 ∧ b 31 25 = a 14 10 ∧ b 31 26 = a 14 11 ∧ b 31 27 = a 14 12 ∧ b 31 28 = a 14 13
theorem PT.fr {a b a' b' : aT} (h : PT a b) (ha : FA LA a a') (hb : FA LB b b') : PT a' b' := by
  have e3 : a' 3 = a 3 := scA_k ha (by decide) 3 (by decide)
  have e37 : b' 37 = b 37 := funext fun i => hb 37 i (nwc (by decide))
  have e38 : b' 38 = b 38 := funext fun i => hb 38 i (nwc (by decide))
  have e10 : b' 31 10 = b 31 10 := hb 31 10 (nws (by decide))
  have e11 : b' 31 11 = b 31 11 := hb 31 11 (nws (by decide))
  unfold PT PC at *
  rw [e3, e37, e38, e10, e11]
  exact h
theorem Rel.lab {N : Nat} {a b a' b' : aT} (h : Rel N a b) (ha : FA LA a a') (hb : FA LB b b') : Rel N a' b' := h.fr ha hb (by decide) (by decide)
theorem f_give {a : aT} {z : Nat} (hz : z < 4) : f_P_give (nI z) a = some ((), upA a 17 z (a 17 z + 1)) := by
  unfold f_P_give
  rw [if_neg (show ¬ f_C_isBelow (nI z) 4 = 0 from mt blw.mp (nlt4 (n := 4) (L := 4) rfl (by decide) (by omega))), if_pos (inn hz (by decide)), if_pos (inn hz (by decide)), ixn (by omega)]
theorem f_take {a : aT} {t c : Nat} (ht : t < 20) (hc : c < 48) : f_P_takeDown (nI t) (nI c) a = some ((), upA (upA a 15 c (-1)) 18 t (a 18 t + 1)) := by
  unfold f_P_takeDown
  rw [if_neg (show ¬ f_C_isBelow (nI c) 48 = 0 from mt blw.mp (nlt4 (n := 48) (L := 48) rfl (by decide) (by omega))), if_neg (show ¬ f_C_isBelow (nI t) 20 = 0 from mt blw.mp (nlt4 (n := 20) (L := 20) rfl (by decide) (by omega))), if_pos (inn hc (by decide)), if_pos (inn ht (by decide)), if_pos (inn ht (by decide)), ixn (by omega), ixn (by omega)]
theorem f_rnow {a : aT} {k : Nat} (hk : k < 6) : f_R_now (nI k) a = some (a 7 k) := by
  unfold f_R_now
  rw [if_neg (show ¬ f_C_isBelow (nI k) 6 = 0 from mt blw.mp (nlt4 (n := 6) (L := 6) rfl (by decide) (by omega))), if_pos (inn hk (by decide)), ixn (by omega)]
theorem f_kid {a : aT} {t : Nat} (ht : t < 20) : f_O_kidAt (nI t) a = some (a 11 t) := by
  unfold f_O_kidAt
  rw [if_neg (show ¬ f_C_isBelow (nI t) 20 = 0 from mt blw.mp (nlt4 (n := 20) (L := 20) rfl (by decide) (by omega))), if_pos (inn ht (by decide)), ixn (by omega)]
theorem near_c {N : Nat} {x a : aT} (h : x 9 = a 9) : ∀ (n : Nat) (p q r : Int32), f_K_nearest_4 N x n p q r = f_K_nearest_4 N a n p q r := by
  intro n
  induction n with
  | zero => intro p q r; rfl
  | succ n ih =>
    intro p q r
    unfold f_K_nearest_4
    simp only [h, ih]
theorem whose_c {N : Nat} {x a : aT} (h : x 43 = a 43) : ∀ (n : Nat) (p q r : Int32), f_M_whose_17 N x n p q r = f_M_whose_17 N a n p q r := by
  intro n
  induction n with
  | zero => intro p q r; rfl
  | succ n ih =>
    intro p q r
    unfold f_M_whose_17
    simp only [h, ih]
theorem take_step {N t c k : Nat} {m : Int32} {a b : aT} (hN : 10000 ≤ N) (h : Rel N a b) (hT : PT a b) (hB : PB t m a b) (ht : t < 20) (hc : c < 48) (hu : ¬ b 45 c = 0) (hk : k < 4) (ek : a 11 t = nI k) :
    ∃ a2 b2, f_M_falls N (nI k) (nI c) b = some ((), b2) ∧ FA LA a a2 ∧ FA LB b b2 ∧ PB t (m + 1) a2 b2 ∧ a2 15 c = -1 ∧ (∀ i, i ≠ c → a2 15 i = a 15 i) ∧
      ∀ K : aT → Option (Unit × aT), ((f_P_takeDown (nI t) (nI c) a).bind fun q5 =>
        if 2 < a 15 c then K (upA q5.2 14 11 ((q5.2 14 11) + 1))
        else (f_R_now 3 (upA q5.2 14 10 ((q5.2 14 10) + 1))).bind fun q6 =>
          if q6 = 0 then (f_O_kidAt (nI t) (upA q5.2 14 10 ((q5.2 14 10) + 1))).bind fun q7 => (f_P_give q7 (upA q5.2 14 10 ((q5.2 14 10) + 1))).bind fun q8 => K q8.2
          else (f_K_nearest N (nI (c % 8)) (upA q5.2 14 10 ((q5.2 14 10) + 1))).bind fun q9 => (f_P_give q9 (upA q5.2 14 10 ((q5.2 14 10) + 1))).bind fun q10 => K q10.2) = K a2 := by
  obtain ⟨p1, p2, p3, p4, p5, p6, p7, p8, p9, p10, p11⟩ := hB
  have hup := (p1 c hc).resolve_left (fun q => hu q.1)
  have h38 : b 38 c = a 3 c := by
    have := (hT.1 c hc).2.2.2
    rw [if_neg (by grind)] at this
    exact this
  have r1 := (h.ru 1 (by omega)).1
  have r3 := h.ru 3 (by omega)
  have ib : inb (nI c) 48 := inn hc (by decide)
  have ehn : ∀ v, f_M_hangsNow (nI c) (upA b 45 c v) = some (a 15 c) := by
    intro v
    unfold f_M_hangsNow
    rw [if_pos ib, ixn (by omega)]
    simp only [upA_get, reduceIte, Nat.reduceEqDiff]
    rw [h38, r1, ← hg_M hup.2.1, hup.2.2]
  by_cases g : 2 < a 15 c
  · refine ⟨upA (upA (upA a 15 c (-1)) 18 t (a 18 t + 1)) 14 11 (a 14 11 + 1), upA (upA b 45 c 0) 31 26 (b 31 26 + 1), ?_, ?_, ?_, ?_, ?_, ?_, ?_⟩
    · unfold f_M_falls
      rw [if_pos ib, ixn (by omega), ehn, bnd, if_pos g]
    · exact FA_upN (FA_upN (FA_upN FA_rf (by decide)) (by decide)) (by decide)
    · exact FA_upS (FA_upN FA_rf (by decide)) (by decide)
    · refine ⟨?_, ?_, ?_, ?_, ?_, ?_, ?_, ?_, ?_, ?_, ?_⟩ <;> simp only [upA_get, reduceIte, Nat.reduceEqDiff]
      · intro x hx
        have := p1 x hx
        by_cases e : x = c
        · rw [if_pos e, if_pos e]; exact Or.inl ⟨rfl, rfl⟩
        · rw [if_neg e, if_neg e]; exact this
      · exact p2
      · exact p3
      · intro i hi
        rw [if_neg (by omega)]
        exact p4 i hi
      · intro i h1 h2
        rw [if_neg (by omega)]
        exact p5 i h1 h2
      · rw [p6]
      · exact p7
      · exact p8
      · rw [p9]
      · exact p10
      · exact p11
    · simp only [upA_get, reduceIte, Nat.reduceEqDiff]
    · intro i hi
      simp only [upA_get, reduceIte, Nat.reduceEqDiff]
      rw [if_neg hi]
    · intro K
      rw [f_take ht hc, bnd, if_pos g]
      simp only [upA_get, reduceIte, Nat.reduceEqDiff]
  · obtain ⟨z, hz, z1, z2⟩ : ∃ z, z < 4 ∧ (∀ K : aT → Option (Unit × aT), ∀ x : aT, x 7 = a 7 → x 11 = a 11 → x 9 = a 9 → ((f_R_now 3 x).bind fun q6 =>
          if q6 = 0 then (f_O_kidAt (nI t) x).bind fun q7 => (f_P_give q7 x).bind fun q8 => K q8.2
          else (f_K_nearest N (nI (c % 8)) x).bind fun q9 => (f_P_give q9 x).bind fun q10 => K q10.2) = K (upA x 17 z (x 17 z + 1))) ∧ (∀ y : aT, y 42 = b 42 → y 43 = b 43 → f_M_whose N (nI k) (nI (c % 8)) y = some (nI z)) := by
      by_cases w : a 7 3 = 0
      · refine ⟨k, hk, ?_, ?_⟩
        · intro K x x7 x11 x9
          rw [show (3 : Int32) = nI 3 from rfl, f_rnow (show 3 < 6 by omega), bnd, x7, if_pos w, f_kid ht, bnd, x11, ek, f_give hk, bnd]
        · intro y y42 y43
          unfold f_M_whose
          rw [y42, if_neg (by rw [r3.1, w]; decide)]
      · have w1 : a 7 3 = 1 := by
          have := r3.2.1
          have h9 : a 7 3 ≤ 1 := r3.2.2
          grind
        obtain ⟨z, hz, e1, e2⟩ := l_near h (c % 8) (Nat.mod_lt _ (by omega)) N 1 0 (by omega) (by omega) (by omega)
        refine ⟨z, hz, ?_, ?_⟩
        · intro K x x7 x11 x9
          have e3 : f_K_nearest N (nI (c % 8)) x = some (nI z) := by
            unfold f_K_nearest
            rw [near_c x9]
            exact e1
          rw [show (3 : Int32) = nI 3 from rfl, f_rnow (show 3 < 6 by omega), bnd, x7, if_neg w, e3, bnd, f_give hz, bnd]
        · intro y y42 y43
          unfold f_M_whose
          rw [y42, if_pos (by rw [r3.1, w1]), whose_c y43]
          exact e2
    refine ⟨upA (upA (upA (upA a 15 c (-1)) 18 t (a 18 t + 1)) 14 10 (a 14 10 + 1)) 17 z (a 17 z + 1), upA (upA (upA b 45 c 0) 31 25 (b 31 25 + 1)) 47 z (b 47 z + 1), ?_, ?_, ?_, ?_, ?_, ?_, ?_⟩
    · unfold f_M_falls
      rw [if_pos ib, ixn (by omega), ehn, bnd, if_neg g, n_rem8 hc, z2 _ (by simp only [upA_ne, ne_eq, not_false_eq_true, Nat.reduceEqDiff]) (by simp only [upA_ne, ne_eq, not_false_eq_true, Nat.reduceEqDiff]), bnd, if_pos (inn hz (by decide)), if_pos (inn hz (by decide)), ixn (by omega)]
    · exact FA_upN (FA_upN (FA_upN (FA_upN FA_rf (by decide)) (by decide)) (by decide)) (by decide)
    · exact FA_upN (FA_upS (FA_upN FA_rf (by decide)) (by decide)) (by decide)
    · refine ⟨?_, ?_, ?_, ?_, ?_, ?_, ?_, ?_, ?_, ?_, ?_⟩ <;> simp only [upA_get, reduceIte, Nat.reduceEqDiff]
      · intro x hx
        have := p1 x hx
        by_cases e : x = c
        · rw [if_pos e, if_pos e]; exact Or.inl ⟨rfl, rfl⟩
        · rw [if_neg e, if_neg e]; exact this
      · exact p2
      · intro s hs
        by_cases e : s = z
        · rw [if_pos e, if_pos e, p3 z hz]
        · rw [if_neg e, if_neg e, p3 s hs]
      · intro i hi
        rw [if_neg (by omega)]
        exact p4 i hi
      · intro i h1 h2
        rw [if_neg (by omega)]
        exact p5 i h1 h2
      · rw [p6]
      · exact p7
      · rw [p8]
      · exact p9
      · exact p10
      · exact p11
    · simp only [upA_get, reduceIte, Nat.reduceEqDiff]
    · intro i hi
      simp only [upA_get, reduceIte, Nat.reduceEqDiff]
      rw [if_neg hi]
    · intro K
      rw [f_take ht hc, bnd, if_neg g, z1 K _ (by simp only [upA_ne, ne_eq, not_false_eq_true, Nat.reduceEqDiff]) (by simp only [upA_ne, ne_eq, not_false_eq_true, Nat.reduceEqDiff]) (by simp only [upA_ne, ne_eq, not_false_eq_true, Nat.reduceEqDiff])]
      simp only [upA_get, reduceIte, Nat.reduceEqDiff]
