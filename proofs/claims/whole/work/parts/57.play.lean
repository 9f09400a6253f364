theorem l_replay {N X : Nat} (hN : 10000 ≤ N) (hX : X ≤ 20) : ∀ (d n1 n2 t : Nat) (a b : aT), X - t = d → t ≤ X → d < n1 → d < n2 → Rel N a b → PT a b → PL t a b →
    ∃ a' b', f_P_replay_7 N n1 (nI X) (nI t) a = some ((), a') ∧ f_M_throwsAll_94 N n2 (nI X) (nI t) b = some ((), b') ∧ PL X a' b' ∧ FA LA a a' ∧ FA LB b b' := by
  intro d
  induction d with
  | zero =>
    intro n1 n2 t a b hd ht h1 h2 hR hT hP
    have e : t = X := by omega
    subst e
    obtain ⟨n1, rfl⟩ : ∃ k, n1 = k + 1 := ⟨n1 - 1, by omega⟩
    obtain ⟨n2, rfl⟩ : ∃ k, n2 = k + 1 := ⟨n2 - 1, by omega⟩
    refine ⟨a, b, ?_, ?_, hP, FA_rf, FA_rf⟩
    · unfold f_P_replay_7
      rw [if_pos (nI_le (Nat.le_refl _) (by omega))]
    · unfold f_M_throwsAll_94
      rw [if_pos (nI_le (Nat.le_refl _) (by omega))]
  | succ d ih =>
    intro n1 n2 t a b hd ht h1 h2 hR hT hP
    obtain ⟨n1, rfl⟩ : ∃ k, n1 = k + 1 := ⟨n1 - 1, by omega⟩
    obtain ⟨n2, rfl⟩ : ∃ k, n2 = k + 1 := ⟨n2 - 1, by omega⟩
    obtain ⟨a1, b1, k1, k2, k3, k4, k5⟩ := l_one (n := n2) hN hR hT hP (show t < X by omega) hX
    obtain ⟨a2, b2, g1, g2, g3, g4, g5⟩ := ih n1 n2 (t + 1) a1 b1 (by omega) (by omega) (by omega) (by omega) (hR.lab k4 k5) (hT.fr k4 k5) k3
    refine ⟨a2, b2, ?_, by rw [k2, g2], g3, FA_tr k4 g4 (fun _ h => h), FA_tr k5 g5 (fun _ h => h)⟩
    unfold f_P_replay_7
    rw [if_neg (nI_ge (by omega) (by omega)), if_neg (show ¬ 20 ≤ nI t from nI_ge (b := 20) (by omega) (by decide)), k1, bnd, np1]
    exact g1
theorem q_play {N X : Nat} {a b : aT} (hN : 10000 ≤ N) (p : Int32) (h : Rel N a b) (hX : X ≤ 20) : ∃ a' b', f_P_replay N (nI X) p a = some ((), a') ∧ f_M_throwsAll N p (nI X) b = some ((), b') ∧ Rel N a' b' ∧ PT a' b' ∧ PL X a' b' := by
  obtain ⟨a1, b1, k1, k2, k3, k4, k5⟩ := l_beginM hN p (nI X) h
  obtain ⟨a2, b2, g1, g2, g3, g4, g5⟩ := l_replay hN hX X N N 0 a1 b1 (by omega) (by omega) (by omega) (by omega) k3 k4 k5
  refine ⟨a2, b2, ?_, k2.trans g2, k3.lab g4 g5, k4.fr g4 g5, g3⟩
  unfold f_P_replay
  rw [k1, bnd]
  exact g1
theorem q_playAll {N : Nat} {a b : aT} (hN : 10000 ≤ N) (h : Rel N a b) : ∃ a' b' X, X ≤ 20 ∧ a' 10 3 = nI X ∧ f_P_replayAll N a = some ((), a') ∧ f_M_find N b = some ((), b') ∧ Rel N a' b' ∧ PT a' b' ∧ PL X a' b' := by
  obtain ⟨X, hX, e⟩ := nofC 20 (by decide) h.thn0 h.thn1
  obtain ⟨a', b', k1, k2, k3, k4, k5⟩ := q_play hN (a 6 1) h hX
  refine ⟨a', b', X, hX, ?_, ?_, ?_, k3, k4, k5⟩
  · rw [(r_P_replay N (nI X) (a 6 1) a _ _ k1) 10 3 (nwc (by decide)), e]
  · unfold f_P_replayAll f_O_size f_R_seedNow
    rw [e, k1, bnd]
  · unfold f_M_find
    rw [h.sd, h.thn, e, k2, bnd]
theorem q_judged {N : Nat} {a b : aT} (hN : 10000 ≤ N) (h : Rel N a b) : Same N (f_C_judged N a) (f_M_judged N b) := by
  obtain ⟨a', b', X, hX, e, k1, k2, k3, k4, k5⟩ := q_playAll hN h
  unfold f_C_judged f_M_judged f_P_firstNotDone
  rw [k1, k2, bnd, bnd]
  refine ⟨_, _, _, rfl, ?_, k3⟩
  dsimp only
  rw [k5.2.2.2.2.2.2.2.2.2]
