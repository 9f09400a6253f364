/-! the digest: the reference goes on with a play that stands, the class plays anew -/
def ZF (N : Nat) (a b : aT) : Prop := Rel N a b ∧ ∃ b0, Rel N a b0 ∧ f_M_find N b0 = some ((), b)
theorem ZF.of {N : Nat} {a a' b b' : aT} {La : List (Nat × Option Nat)} (h : Rel N a b) (hf : f_M_find N b = some ((), b')) (ha : FA La a a') (oa : La.all scA = true) : ZF N a' b' :=
  ⟨h.fr ha (r_M_find N b _ _ hf) oa (by decide), b, h.fr ha (Lb := []) FA_rf oa (by decide), hf⟩
theorem ZF.sc {N : Nat} {a a' b : aT} {La : List (Nat × Option Nat)} (h : ZF N a b) (ha : FA La a a') (oa : La.all scA = true) : ZF N a' b := by
  obtain ⟨h1, b0, h2, h3⟩ := h
  exact ⟨h1.fr ha (Lb := []) FA_rf oa (by decide), b0, h2.fr ha (Lb := []) FA_rf oa (by decide), h3⟩
theorem ZF.play {N : Nat} {a b : aT} (hN : 10000 ≤ N) (h : ZF N a b) : ∃ a' X, X ≤ 20 ∧ f_P_replayAll N a = some ((), a') ∧ Rel N a' b ∧ PT a' b ∧ PL X a' b ∧ ZF N a' b ∧ a' 3 = a 3 := by
  obtain ⟨h1, b0, h2, h3⟩ := id h
  obtain ⟨a', b', X, hX, e, k1, k2, k3, k4, k5⟩ := q_playAll hN h2
  rw [h3] at k2
  cases k2
  exact ⟨a', X, hX, k1, k3, k4, k5, h.sc (r_P_replayAll N a _ _ k1) (by decide), funext fun i => (r_P_replayAll N a _ _ k1) 3 i (nwc (by decide))⟩
theorem ZF.pc {N : Nat} {a b : aT} (hN : 10000 ≤ N) (h : ZF N a b) : PC a b := by
  obtain ⟨a', X, -, -, -, k4, -, -, e⟩ := h.play hN
  exact (k4.of3 e).1
theorem stO {N : Nat} {b b' : aT} {p q r : Int32} (h : f_M_stateOf N p q b = some (r, b')) : f_M_throwsAll N (b 31 16) p b = some ((), b') := by
  unfold f_M_stateOf at h
  obtain ⟨⟨u, b2⟩, e1, e2⟩ := Option.bind_eq_some_iff.mp h
  have : b2 = b' := by
    dsimp only at e2
    by_cases c0 : q = 0
    · rw [if_pos c0] at e2
      obtain ⟨v, -, e3⟩ := Option.bind_eq_some_iff.mp e2
      cases e3
      rfl
    rw [if_neg c0] at e2
    by_cases c1 : q = 1
    · rw [if_pos c1] at e2
      cases e2
      rfl
    rw [if_neg c1] at e2
    by_cases c2 : q = 2
    · rw [if_pos c2] at e2
      cases e2
      rfl
    rw [if_neg c2] at e2
    by_cases c3 : q = 3
    · rw [if_pos c3] at e2
      obtain ⟨v, -, e3⟩ := Option.bind_eq_some_iff.mp e2
      cases e3
      rfl
    rw [if_neg c3] at e2
    by_cases c4 : p = 0
    · rw [if_pos c4] at e2
      cases e2
      rfl
    rw [if_neg c4] at e2
    by_cases c5 : inb (p - 1) 20
    · rw [if_pos c5] at e2
      cases e2
      rfl
    · rw [if_neg c5] at e2
      cases e2
  rw [e1, this]
theorem z_state {N j : Nat} {a b : aT} (hN : 10000 ≤ N) (h : Rel N a b) (hj : j < 5) : ∃ r a' b', f_C_state N (f_O_size a) (nI j) a = some (r, a') ∧ f_M_stateOf N (b 31 18) (nI j) b = some (r, b') ∧ ZF N a' b' := by
  obtain ⟨X, hX, e⟩ := nofC 20 (by decide) h.thn0 h.thn1
  obtain ⟨r, a', b', g1, g2, g3⟩ := q_stateOf (X := X) (p := nI X) (q := nI j) hN h rfl hX (by rw [e]; exact nI_le (Nat.le_refl _) (by omega)) (nlt4 (n := 5) (L := 5) rfl (by decide) hj)
  have e2 : f_O_size a = nI X := e
  have hf : f_M_find N b = some ((), b') := by
    unfold f_M_find
    rw [h.thn, e, stO g2, bnd]
  refine ⟨r, a', b', by rw [e2]; exact g1, by rw [h.thn, e]; exact g2, ?_⟩
  exact ZF.of h hf (r_C_state N _ _ a _ _ g1) (by decide)
theorem z_judged {N : Nat} {a b : aT} (hN : 10000 ≤ N) (h : Rel N a b) : ∃ r a' b', f_C_judged N a = some (r, a') ∧ f_M_judged N b = some (r, b') ∧ ZF N a' b' := by
  obtain ⟨a', b', X, hX, e, k1, k2, k3, k4, k5⟩ := q_playAll hN h
  unfold f_C_judged f_M_judged f_P_firstNotDone
  rw [k1, k2, bnd, bnd]
  refine ⟨_, _, _, rfl, ?_, ZF.of h k2 (r_P_replayAll N a _ _ k1) (by decide)⟩
  dsimp only
  rw [k5.2.2.2.2.2.2.2.2.2]
/-- both digests give the same -/
def SmL (N : Nat) (x y : Option (Int64 × aT)) : Prop := ∃ r a' b', x = some (r, a') ∧ y = some (r, b') ∧ Rel N a' b'
theorem z_rests {N : Nat} {a b : aT} (hN : 10000 ≤ N) (h : PC a b) : ∃ w a', f_C_rests N 3 a = some (w, a') ∧ f_M_restsOf N 3 b = some w ∧ FA [(20, none)] a a' := by
  obtain ⟨w, a', g1, g2, g3⟩ := q_restsOf (m := 3) hN (by omega) h
  have g1' : f_S_restBits N 3 a = some (w, a') := g1
  refine ⟨w, a', ?_, g2, g3⟩
  unfold f_C_rests
  rw [if_neg (show ¬ (3 : Int32) < 2 by decide), if_pos (show (3 : Int32) ≤ 6 by decide), g1', bnd]
theorem z_ends {N k : Nat} {a b : aT} (hN : 10000 ≤ N) (h : PC a b) (hk : k < 2) : ∃ w a', f_C_ends N 3 (nI k) a = some (w, a') ∧ f_M_endsOf N 3 (nI k) b = some w ∧ FA [(20, none)] a a' := by
  obtain ⟨z, a', hz, g1, g2, g3⟩ := q_endsOf (m := 3) (nI k) hN (by omega) h
  have g1' : f_S_endOf N 3 a = some (nI z, a') := g1
  have a3 : RP a' z = RP a z := by
    unfold RP rpd
    rw [show a' 3 = a 3 from funext fun i => g3 3 i (nwc (by decide))]
  refine ⟨if nI k = 0 then nI z else nI (RP a z), a', ?_, g2, g3⟩
  unfold f_C_ends
  rw [if_neg (show ¬ (3 : Int32) < 2 by decide), if_neg (show ¬ (6 : Int32) < 3 by decide), if_neg (show ¬ f_C_isBelow (nI k) 2 = 0 from mt blw.mp (nlt4 (n := 2) (L := 2) rfl (by decide) hk)), g1', bnd]
  dsimp only
  rw [f_rpC hN, bnd, a3]
  by_cases c3 : nI k = 0
  · rw [if_pos c3, if_pos c3]
  · rw [if_neg c3, if_neg c3]
theorem PC.fr {a a' b : aT} (h : PC a b) (ha : FA [(20, none)] a a') : PC a' b := by
  unfold PC at *
  rw [show a' 3 = a 3 from funext fun i => ha 3 i (nwc (by decide))]
  exact h
theorem z_ripe {N d : Nat} {a b : aT} (hN : 10000 ≤ N) (h : PC a b) (hd : d < 30) : ∃ w, f_C_ripe N (nI d) a = some w ∧ f_M_ripeOf N (nI d) b = some w := by
  refine ⟨_, ?_, f_rpM hN h⟩
  unfold f_C_ripe
  rw [if_neg (show ¬ f_C_isBelow (nI d) 30 = 0 from mt blw.mp (nlt4 (n := 30) (L := 30) rfl (by decide) hd)), f_rpC hN, bnd]
theorem z_run {N : Nat} {a b : aT} (hN : 10000 ≤ N) (h : Rel N a b) : ∃ v, f_C_run N 5 3 a = some v ∧ f_M_runOf N 5 3 b = some v := by
  obtain ⟨v, v1, v2⟩ := q_runOf (s := 5) (r := 3) hN h (by omega) (by omega)
  have v1' : f_W_firstFree N 5 3 a = some v := v1
  refine ⟨v, ?_, v2⟩
  unfold f_C_run
  rw [if_neg (show ¬ (5 : Int32) < 0 by decide), if_neg (show ¬ (9999 : Int32) < 5 by decide), if_neg (show ¬ (3 : Int32) < 1 by decide), if_pos (show (3 : Int32) ≤ 20 by decide), v1', bnd]
theorem z_end {N n : Nat} {a b : aT} (hN : 2 ^ 49 ≤ N) (h : ZF N a b) (x : Int64) : SmL N (f_C_digest_116 N (n + 1) x 4 a) (f_M_digest_114 N (n + 1) x 4 b) := by
  have hN1 : 10000 ≤ N := by omega
  obtain ⟨M, hM⟩ : ∃ M, N = M + 3 := ⟨N - 3, by omega⟩
  obtain ⟨a1, X, hX, k1, k2, k3, k4, k5, k6⟩ := h.play hN1
  obtain ⟨w, w1, w2⟩ := q_whichNow hN1 k2 k3 k4
  have e1 : f_C_which N a = some (w, a1) := by
    unfold f_C_which
    rw [k1, bnd]
    exact w1
  obtain ⟨v, a2, b2, g1, g2, g3, g4, g5⟩ := q_frees (p := 0) (q := 9) (r := 1) hN1 k2
  have hZ : ZF N a2 b2 := ZF.of k2 g3 g5 (by decide)
  have pc := hZ.pc hN1
  obtain ⟨l0, y1, y2⟩ := q_lieOf (D := 6) (k := 0) hN g4 pc (by omega) (by omega)
  obtain ⟨l1, y3, y4⟩ := q_lieOf (D := 6) (k := 1) hN g4 pc (by omega) (by omega)
  obtain ⟨r0, y5, y6⟩ := z_ripe (d := 0) hN1 pc (by omega)
  obtain ⟨r1, y7, y8⟩ := z_ripe (d := 29) hN1 pc (by omega)
  obtain ⟨s0, a3, y9, y10, y11⟩ := z_rests hN1 pc
  obtain ⟨s1, a4, y12, y13, y14⟩ := z_ends (k := 0) hN1 (pc.fr y11) (by omega)
  obtain ⟨s2, a5, y15, y16, y17⟩ := z_ends (k := 1) hN1 ((pc.fr y11).fr y14) (by omega)
  have rel : Rel N a5 b2 := ((g4.fr y11 (Lb := []) FA_rf (by decide) (by decide)).fr y14 (Lb := []) FA_rf (by decide) (by decide)).fr y17 (Lb := []) FA_rf (by decide) (by decide)
  obtain ⟨t0, z1, z2⟩ := z_run hN1 rel
  obtain ⟨t1, z3, z4⟩ := q_hitOf (r := 3) (k := 0) hN1 rel (by omega) (by omega) (by omega)
  obtain ⟨t2, z5, z6⟩ := q_hitOf (r := 3) (k := 1) hN1 rel (by omega) (by omega) (by omega)
  obtain ⟨t3, a6, b6, z7, z8, z9⟩ := q_seedsNow hN1 rel
  have i1 : f_C_lie N 6 0 a2 = some l0 := y1
  have i2 : f_M_lieOf N 6 0 b2 = some l0 := y2
  have i3 : f_C_lie N 6 1 a2 = some l1 := y3
  have i4 : f_M_lieOf N 6 (0 + 1) b2 = some l1 := y4
  have i5 : f_C_ripe N 0 a2 = some r0 := y5
  have i6 : f_M_ripeOf N 0 b2 = some r0 := y6
  have i7 : f_C_ripe N 29 a2 = some r1 := y7
  have i8 : f_M_ripeOf N 29 b2 = some r1 := y8
  have i12 : f_C_ends N 3 0 a3 = some (s1, a4) := y12
  have i13 : f_M_endsOf N 3 0 b2 = some s1 := y13
  have i15 : f_C_ends N 3 1 a4 = some (s2, a5) := y15
  have i16 : f_M_endsOf N 3 1 b2 = some s2 := y16
  have j3 : f_C_hit N 3 0 a5 = some t1 := z3
  have j4 : f_M_hitOf N 3 0 b2 = some t1 := z4
  have j5 : f_C_hit N 3 1 a5 = some t2 := z5
  have j6 : f_M_hitOf N 3 1 b2 = some t2 := z6
  have c2 : ∀ x, f_M_digest_214 N N x 0 b2 = f_M_digest_214 N (M + 1) (31 * (31 * x + l0) + l1) (0 + 1 + 1) b2 := by
    intro x
    rw [show f_M_digest_214 N N x 0 b2 = f_M_digest_214 N (M + 2 + 1) x 0 b2 from congrArg (fun n => f_M_digest_214 N n x 0 b2) hM]
    unfold f_M_digest_214
    rw [if_neg (show ¬ (2 : Int32) ≤ 0 by decide), i2, bnd]
    unfold f_M_digest_214
    rw [if_neg (show ¬ (2 : Int32) ≤ 0 + 1 by decide), i4, bnd]
    unfold f_M_digest_214
    rfl
  unfold f_C_digest_116 f_M_digest_114
  rw [if_pos (show (4 : Int32) ≤ 4 by decide), if_pos (show (4 : Int32) ≤ 4 by decide), e1, w2, bnd, bnd]
  dsimp only
  rw [g1, g2, bnd, bnd]
  dsimp only
  rw [i1, bnd, i3, bnd, i5, bnd, i7, bnd, y9, bnd]
  dsimp only
  rw [i12, bnd]
  dsimp only
  rw [i15, bnd]
  dsimp only
  rw [z1, bnd, j3, bnd, j5, bnd, z7, bnd, c2]
  unfold f_M_digest_214
  rw [if_pos (show (2 : Int32) ≤ 0 + 1 + 1 by decide), i6, bnd, i8, bnd, y10, bnd, i13, bnd, i16, bnd, z2, bnd, j4, bnd, j6, bnd, z8, bnd]
  exact ⟨_, _, _, rfl, rfl, z9⟩
/-- one stick's share of the digest -/
theorem z_stick {N s : Nat} {k1 k2 : Int64 → Int32 → aT → Option (Int64 × aT)} (hN : 2 ^ 49 ≤ N) (hs : s < 4) : ∀ (n j : Nat) (x : Int64) (a b : aT), j ≤ 4 → 4 - j < n → Rel N a b → ∃ x' a' b', f_C_digest_124 N k1 n x (nI s) (nI j) a = k1 x' (nI (s + 1)) a' ∧ f_M_digest_122 N k2 n x (nI s) (nI j) b = k2 x' (nI (s + 1)) b' ∧ ZF N a' b' := by
  have hN1 : 10000 ≤ N := by omega
  intro n
  induction n with
  | zero => intro j x a b h1 h2; omega
  | succ n ih =>
    intro j x a b h1 h2 h
    unfold f_C_digest_124 f_M_digest_122
    by_cases hj : j = 4
    · subst hj
      obtain ⟨r, a1, b1, g1, g2, g3, g4, g5⟩ := q_worth (p := nI s) (q := 9) hN1 h
      have hZ : ZF N a1 b1 := ZF.of h g3 g5 (by decide)
      obtain ⟨a2, X, hX, e1, e2, e3, e4, e5, e6⟩ := hZ.play hN1
      obtain ⟨z, -, y1, y2⟩ := q_whereOf hN1 hs e2 e3 e4
      have f1 : f_C_where N (nI s) a1 = some (z, a2) := by
        unfold f_C_where
        rw [if_neg (show ¬ f_C_isBelow (nI s) 4 = 0 from mt blw.mp (nlt4 (n := 4) (L := 4) rfl (by decide) hs)), e1, bnd, y1, bnd]
      rw [if_pos (show 4 ≤ nI 4 by decide), if_pos (show 4 ≤ nI 4 by decide), g1, g2, bnd, bnd]
      dsimp only
      rw [f1, y2, bnd, bnd, np1]
      exact ⟨_, _, _, rfl, rfl, e5⟩
    · have e1 : ¬ 4 ≤ nI j := nI_ge (b := 4) (by omega) (by decide)
      obtain ⟨r, a1, b1, g1, g2, g3, g4, g5⟩ := q_brings (p := nI s) (q := 9) (r := nI j) hN h
      rw [if_neg e1, if_neg e1, g1, g2, bnd, bnd, np1]
      exact ih (j + 1) _ _ _ (by omega) (by omega) g4
theorem z_sticks {N : Nat} (hN : 2 ^ 49 ≤ N) : ∀ (n s : Nat) (x : Int64) (a b : aT), s ≤ 4 → 4 - s < n → ZF N a b → SmL N (f_C_digest_116 N n x (nI s) a) (f_M_digest_114 N n x (nI s) b) := by
  intro n
  induction n with
  | zero => intro s x a b h1 h2; omega
  | succ n ih =>
    intro s x a b h1 h2 h
    by_cases hs : s = 4
    · subst hs
      exact z_end hN h x
    · obtain ⟨x', a', b', g1, g2, g3⟩ := z_stick (s := s) (k1 := f_C_digest_116 N n) (k2 := f_M_digest_114 N n) hN (by omega) N 0 x a b (by omega) (by omega) h.1
      have e1 : ¬ 4 ≤ nI s := nI_ge (b := 4) (by omega) (by decide)
      have g1' : f_C_digest_124 N (f_C_digest_116 N n) N x (nI s) 0 a = _ := g1
      have g2' : f_M_digest_122 N (f_M_digest_114 N n) N x (nI s) 0 b = _ := g2
      unfold f_C_digest_116 f_M_digest_114
      rw [if_neg e1, if_neg e1, g1', g2']
      exact ih (s + 1) x' a' b' (by omega) (by omega) g3
theorem z_kids {N : Nat} (hN : 2 ^ 49 ≤ N) : ∀ (n j : Nat) (x : Int64) (a b : aT), j ≤ 4 → 4 - j < n → ZF N a b → SmL N (f_C_digest_90 N n x (nI j) a) (f_M_digest_87 N n x (nI j) b) := by
  have hN1 : 10000 ≤ N := by omega
  intro n
  induction n with
  | zero => intro j x a b h1 h2; omega
  | succ n ih =>
    intro j x a b h1 h2 h
    unfold f_C_digest_90 f_M_digest_87
    by_cases hj : j = 4
    · subst hj
      rw [if_pos (show 4 ≤ nI 4 by decide), if_pos (show 4 ≤ nI 4 by decide)]
      exact z_sticks hN N 0 x a b (by omega) (by omega) h
    · have hj4 : j < 4 := by omega
      have e1 : ¬ 4 ≤ nI j := nI_ge (b := 4) (by omega) (by decide)
      obtain ⟨a2, X, hX, k1, k2, k3, k4, k5, k6⟩ := h.play hN1
      have nb : ¬ f_C_isBelow (nI j) 4 = 0 := mt blw.mp (nlt4 (n := 4) (L := 4) rfl (by decide) hj4)
      have f1 : f_C_has N (nI j) a = some (a2 17 j, a2) := by
        unfold f_C_has f_P_ripeOf
        rw [if_neg nb, k1, bnd, if_neg nb, if_pos (inn hj4 (by decide)), ixn (by omega), bnd]
      rw [if_neg e1, if_neg e1, f1, bnd, if_pos (inn hj4 (by decide)), ixn (by omega), np1, k4.2.2.1 j hj4]
      exact ih (j + 1) _ _ _ (by omega) (by omega) k5
theorem z_states {N : Nat} (hN : 2 ^ 49 ≤ N) : ∀ (n j : Nat) (x : Int64) (a b : aT), j ≤ 5 → 5 - j < n → ZF N a b → SmL N (f_C_digest_57 N n x (nI j) a) (f_M_digest_57 N n x (nI j) b) := by
  have hN1 : 10000 ≤ N := by omega
  intro n
  induction n with
  | zero => intro j x a b h1 h2; omega
  | succ n ih =>
    intro j x a b h1 h2 h
    unfold f_C_digest_57 f_M_digest_57
    by_cases hj : j = 5
    · subst hj
      rw [if_pos (show 5 ≤ nI 5 by decide), if_pos (show 5 ≤ nI 5 by decide)]
      exact z_kids hN N 0 x a b (by omega) (by omega) h
    · have e1 : ¬ 5 ≤ nI j := nI_ge (b := 5) (by omega) (by decide)
      obtain ⟨r, a1, b1, g1, g2, g3⟩ := z_state (j := j) hN1 h.1 (by omega)
      rw [if_neg e1, if_neg e1, g1, g2, bnd, bnd, np1]
      exact ih (j + 1) _ _ _ (by omega) (by omega) g3
theorem z_counts {N : Nat} (hN : 2 ^ 49 ≤ N) : ∀ (n j : Nat) (x : Int64) (a b : aT), j ≤ 8 → 8 - j < n → Rel N a b → SmL N (f_C_digest_6 N n x (nI j) a) (f_M_digest_6 N n x (nI j) b) := by
  have hN1 : 10000 ≤ N := by omega
  intro n
  induction n with
  | zero => intro j x a b h1 h2; omega
  | succ n ih =>
    intro j x a b h1 h2 h
    unfold f_C_digest_6 f_M_digest_6
    by_cases hj : j = 8
    · subst hj
      obtain ⟨b1, g1, g2, g3⟩ := q_reads h
      obtain ⟨r, a2, b2, k1, k2, k3⟩ := z_judged hN1 g2
      rw [if_pos (show 8 ≤ nI 8 by decide), if_pos (show 8 ≤ nI 8 by decide), k1, g1, bnd, bnd]
      dsimp only
      rw [k2, bnd]
      exact z_states hN N 0 _ _ _ (by omega) (by omega) k3
    · have e1 : ¬ 8 ≤ nI j := nI_ge (b := 8) (by omega) (by decide)
      obtain ⟨r, a1, b1, g1, g2, g3, g4, g5⟩ := q_count (p := nI j) hN1 h
      rw [if_neg e1, if_neg e1, g1, g2, bnd, bnd, np1]
      exact ih (j + 1) _ _ _ (by omega) (by omega) g4
theorem q_digest {N : Nat} {a b : aT} (hN : 2 ^ 49 ≤ N) (h : Rel N a b) : ∃ r a' b', f_C_digest N a = some (r, a') ∧ f_M_digest N b = some (r, b') ∧ Rel N a' b' :=
  z_counts hN N 0 17 a b (by omega) (by omega) h
