/-! what a throw brings on the mean, both sides -/
theorem b54 {N : Nat} {a : aT} {k6 : Int32 → Int32 → Int32 → Int32 → Int32 → Int32 → Option Int32} {x1 x2 x3 x4 x5 x6 : Int32} : f_M_bringsBy_54 N a k6 x1 x2 x3 x4 x5 x6 = k6 x1 x2 x3 x4 x5 (x6 + 1) := by
  unfold f_M_bringsBy_54 f_M_bringsBy_55
  rw [if_pos rfl, Int32.add_zero]
theorem b55 {N : Nat} {a : aT} {k6 : Int32 → Int32 → Int32 → Int32 → Int32 → Int32 → Option Int32} {x1 x2 x3 x4 x5 x6 v : Int32} (h : f_M_hangsNow x6 a = some v) : f_M_bringsBy_55 N a k6 x1 x2 x3 x4 x5 x6 1 = if (if 2 < v then 0 else 1) = x4 then k6 x1 x2 x3 x4 (x5 + 1) (x6 + 1) else k6 x1 x2 x3 x4 x5 (x6 + 1) := by
  unfold f_M_bringsBy_55 f_M_bringsBy_79
  rw [if_neg (show ¬ (1 : Int32) = 0 by decide), h, bnd, Int32.add_zero]
  by_cases c : 2 < v
  · rw [if_pos c, if_pos c]
  · rw [if_neg c, if_neg c]
theorem l_stail {N : Nat} {a : aT} {w r hv v : Int32} {E : Nat} (hE : E < 14) : ∀ (n J : Nat), 9 ≤ J → J ≤ E → E - J < n → f_P_struckBalls_46 N a n w r hv (nI E + (-1)) v (nI J + (-1)) = some v := by
  intro n
  induction n with
  | zero => intro J h1 h2 h3; omega
  | succ n ih =>
    intro J h1 h2 h3
    unfold f_P_struckBalls_46
    by_cases e : E = J
    · rw [if_pos ((cmpEJ E hE J (by omega)).mpr (by omega))]
    · rw [if_neg (mt (cmpEJ E hE J (by omega)).mp (by omega)), h_out (by omega) (Or.inr h1), bnd, if_pos rfl, pm1, Int32.add_zero]
      exact ih (J + 1) (by omega) (by omega) (by omega)
theorem l_struck {N X g r s L : Nat} {hv w : Int32} {a b : aT} (hg4 : g < 4) (hr : r < 6) (hs : s < 10) (hL0 : 0 < L) (hL : L < 4) (hR : Rel N a b) (hT : PT a b) (hP : PL X a b) (e2 : b 39 g = hv) (e3 : b 40 g = nI L) :
    ∀ (d n1 n2 x m : Nat), 48 - x = d → x ≤ 48 → d + 20 < n1 → d < n2 → 
    ∃ z, z ≤ m + d ∧ f_P_struckBalls_46 N a n1 w (nI r) hv (nI (s + L) + (-1)) (nI m) (nI (jx r s L x) + (-1)) = some (nI z) ∧
      f_M_bringsBy_6 N b n2 (nI g) (nI r) (nI s + (-1)) w (nI m) (nI x) = some (nI z) := by
  intro d
  induction d with
  | zero =>
    intro n1 n2 x m hd hx h1 h2
    have ex : x = 48 := by omega
    subst ex
    obtain ⟨n2, rfl⟩ : ∃ k, n2 = k + 1 := ⟨n2 - 1, by omega⟩
    refine ⟨m, by omega, ?_, ?_⟩
    · rw [jx_48 hr hs hL0]
      by_cases c : 9 ≤ s + L
      · rw [if_pos c]
        exact l_stail (by omega) n1 9 (by omega) c (by omega)
      · obtain ⟨n1, rfl⟩ : ∃ k, n1 = k + 1 := ⟨n1 - 1, by omega⟩
        rw [if_neg c]
        unfold f_P_struckBalls_46
        rw [if_pos ((cmpEJ (s + L) (by omega) (s + L) (by omega)).mpr (by omega))]
    · unfold f_M_bringsBy_6
      rw [if_pos (show 48 ≤ nI 48 by decide)]
  | succ d ih =>
    intro n1 n2 x m hd hx h1 h2
    obtain ⟨n2, rfl⟩ : ∃ k, n2 = k + 1 := ⟨n2 - 1, by omega⟩
    have hx48 : x < 48 := by omega
    unfold f_M_bringsBy_6
    rw [if_neg (show ¬ 48 ≤ nI x from nI_ge (b := 48) hx48 (by decide)), if_pos (inn hx48 (by decide)), ixn (by omega), st_M hg4 hr hs hL hx48 e3, bnd, b54, np1]
    by_cases hst : x / 8 = r ∧ s ≤ x % 8 + 1 ∧ x % 8 + 1 < s + L
    · obtain ⟨j1, j2⟩ := jx_in hs hst
      obtain ⟨n1, rfl⟩ : ∃ k, n1 = k + 1 := ⟨n1 - 1, by omega⟩
      have q8 : x % 8 < 8 := Nat.mod_lt _ (by omega)
      have ex : 8 * r + x % 8 = x := by omega
      rw [if_pos hst, if_neg (show ¬ (1 : Int32) = 0 by decide), j1]
      unfold f_P_struckBalls_46
      have em : nI (x % 8 + 1) + (-1) = nI (x % 8) := pk_m1 _
      rw [if_neg (mt (cmpEJ (s + L) (by omega) (x % 8 + 1) (by omega)).mp (by omega)), em, h_in hr q8, bnd, ex, np1]
      have em2 : nI (x % 8 + 1) = nI (x % 8 + 2) + (-1) := (pk_m1 (x % 8 + 1)).symm
      have hb := hP.1 x hx48
      have h38 : 0 ≤ a 3 x → b 38 x = a 3 x := by
        intro z
        have := (hT.1 x hx48).2.2.2
        rw [if_neg (by grind)] at this
        exact this
      have hnow : 0 ≤ a 3 x → f_M_hangsNow (nI x) b = some (hg (a 3 x) (a 7 1)) := by
        intro z
        unfold f_M_hangsNow
        rw [if_pos (inn hx48 (by decide)), ixn (by omega), h38 z, (hR.ru 1 (by omega)).1, hg_M z]
      rw [em2, ← j2, Int32.add_zero]
      obtain ⟨z0, y0, y1, y2⟩ := ih n1 n2 (x + 1) m (by omega) (by omega) (by omega) (by omega)
      rcases hb with hb | hb
      · rw [if_pos hb.1, hb.2, ite_self, if_pos rfl]
        exact ⟨z0, by omega, y1, y2⟩
      · rw [if_neg hb.1, hnow hb.2.1, bnd, if_pos (inn hg4 (by decide)), ixn (by omega), e2, hb.2.2]
        by_cases c : hg (a 3 x) (a 7 1) < hv
        · rw [if_pos c, if_neg (show ¬ hg (a 3 x) (a 7 1) = -1 by have := hg_0 (d := a 7 1) hb.2.1; grind), if_neg (show ¬ hv ≤ hg (a 3 x) (a 7 1) by grind), b55 (hnow hb.2.1), np1, np1]
          unfold f_P_struckBalls_84
          rw [Int32.add_zero]
          have hj : nI (jx r s L (x + 1)) + (-1) = nI (x % 8) + 1 := by rw [j2, np1]; exact pk_m1 _
          obtain ⟨z3, y3, y4, y5⟩ := ih n1 n2 (x + 1) (m + 1) (by omega) (by omega) (by omega) (by omega)
          rw [hj] at y1 y4
          rw [← np1 m] at y4
          by_cases c2 : 2 < hg (a 3 x) (a 7 1)
          · rw [if_pos c2, if_pos c2]
            by_cases c3 : 0 = w
            · rw [if_pos c3, if_pos c3]
              exact ⟨z3, by omega, y4, y5⟩
            · rw [if_neg c3, if_neg c3]
              exact ⟨z0, by omega, y1, y2⟩
          · rw [if_neg c2, if_neg c2]
            by_cases c3 : 1 = w
            · rw [if_pos c3, if_pos c3]
              exact ⟨z3, by omega, y4, y5⟩
            · rw [if_neg c3, if_neg c3]
              exact ⟨z0, by omega, y1, y2⟩
        · rw [if_neg c, if_pos rfl, if_pos (show hv ≤ hg (a 3 x) (a 7 1) by grind)]
          exact ⟨z0, by omega, y1, y2⟩
    · rw [if_neg hst, if_pos rfl, ite_self, ← jx_out hs hL0 hst]
      obtain ⟨z0, y0, y1, y2⟩ := ih n1 n2 (x + 1) m (by omega) (by omega) (by omega) (by omega)
      exact ⟨z0, by omega, y1, y2⟩
theorem l_struck0 {N X g r s L : Nat} {hv w : Int32} {a b : aT} (hN : 10000 ≤ N) (hg4 : g < 4) (hr : r < 6) (hs : s < 10) (hL0 : 0 < L) (hL : L < 4) (hR : Rel N a b) (hT : PT a b) (hP : PL X a b) (e2 : b 39 g = hv) (e3 : b 40 g = nI L) :
    ∃ z, z ≤ 48 ∧ f_P_struckBalls_46 N a N w (nI r) hv (nI s + (-1) + nI L) 0 (nI s + (-1)) = some (nI z) ∧ f_M_bringsBy N (nI g) (nI r) (nI s + (-1)) w b = some (nI z) := by
  have ee : nI s + (-1) + nI L = nI (s + L) + (-1) := by rw [← nI_add]; grind
  rw [ee]
  obtain ⟨M, rfl⟩ : ∃ M, N = M + 1 := ⟨N - 1, by omega⟩
  rcases s with _ | s
  · obtain ⟨z, y0, y1, y2⟩ := l_struck (w := w) hg4 hr hs hL0 hL hR hT hP e2 e3 48 M (M + 1) 0 0 (by omega) (by omega) (by omega) (by omega)
    rw [jx_0, if_pos rfl] at y1
    refine ⟨z, by omega, ?_, y2⟩
    unfold f_P_struckBalls_46
    rw [if_neg (mt (cmpEJ (0 + L) (by omega) 0 (by omega)).mp (by omega)), h_out (by omega) (Or.inl rfl), bnd, if_pos rfl, pm1, Int32.add_zero]
    exact y1
  · obtain ⟨z, y0, y1, y2⟩ := l_struck (w := w) hg4 hr hs hL0 hL hR hT hP e2 e3 48 (M + 1) (M + 1) 0 0 (by omega) (by omega) (by omega) (by omega)
    rw [jx_0, if_neg (by omega)] at y1
    exact ⟨z, by omega, y1, y2⟩
theorem q_mean {N X g c : Nat} {a b : aT} (w : Int32) (hN : 10000 ≤ N) (hg4 : g < 4) (hc : c < 48) (hR : Rel N a b) (hT : PT a b) (hP : PL X a b) :
    ∃ z, z ≤ 2000 ∧ f_P_sixteenths N (nI g) (nI c) w a = some (nI z) ∧ f_M_meanOf N (nI g) (nI c) w b = some (nI z) := by
  have hl := hR.sl g hg4
  obtain ⟨L, hL, eL⟩ := nofC (p := a 5 (3 * g + 1)) 3 (by decide) (by grind) hl.2.2
  have hL0 : 0 < L := by
    rcases L with _ | L
    · have := hl.2.1
      rw [eL] at this
      exact absurd this (by decide)
    · omega
  have h0 := hR.ru 0 (by omega)
  obtain ⟨sl, hsl, esl⟩ := nofC (p := a 7 0) 8 (by decide) h0.2.1 h0.2.2
  have hr : c / 8 < 6 := by omega
  have hq : c % 8 < 8 := Nat.mod_lt _ (by omega)
  have m0 : nI (c % 8) + (-1) = nI (c % 8) + (-1) := rfl
  have m1 : nI (c % 8) + 0 = nI (c % 8 + 1) + (-1) := by rw [Int32.add_zero]; exact (pk_m1 _).symm
  have m1' : nI (c % 8) = nI (c % 8 + 1) + (-1) := (pk_m1 _).symm
  have m2 : nI (c % 8) + 1 = nI (c % 8 + 2) + (-1) := by rw [np1]; exact (pk_m1 _).symm
  have m3 : nI (c % 8) - 1 = nI (c % 8) + (-1) := by grind
  have t0 : f_T_now (nI g) 0 a = some (a 5 (3 * g)) := f_tnow hg4 (i := 0) (by omega)
  have t1 : f_T_now (nI g) 1 a = some (nI L) := by rw [← eL]; exact f_tnow hg4 (i := 1) (by omega)
  have eb := (hR.sh g hg4).1
  have el : b 40 g = nI L := by rw [hl.1, eL]
  obtain ⟨z0, u0, u1, u2⟩ := l_struck0 (w := w) hN hg4 hr (show c % 8 < 10 by omega) hL0 (by omega) hR hT hP eb el
  obtain ⟨z1, v0, v1, v2⟩ := l_struck0 (w := w) hN hg4 hr (show c % 8 + 1 < 10 by omega) hL0 (by omega) hR hT hP eb el
  obtain ⟨z2, w0, w1, w2⟩ := l_struck0 (w := w) hN hg4 hr (show c % 8 + 2 < 10 by omega) hL0 (by omega) hR hT hP eb el
  have s0 : f_P_struckBalls N (nI g) (nI c) (-1) w a = some (nI z0) := by
    unfold f_P_struckBalls
    rw [t0, bnd, t1, bnd, n_div8 hc, n_rem8 hc]
    exact u1
  have s1 : f_P_struckBalls N (nI g) (nI c) 0 w a = some (nI z1) := by
    unfold f_P_struckBalls
    rw [t0, bnd, t1, bnd, n_div8 hc, n_rem8 hc, m1]
    exact v1
  have s2 : f_P_struckBalls N (nI g) (nI c) 1 w a = some (nI z2) := by
    unfold f_P_struckBalls
    rw [t0, bnd, t1, bnd, n_div8 hc, n_rem8 hc, m2]
    exact w1
  have r0 : f_R_now 0 a = some (nI sl) := by rw [← esl]; exact f_rnow (k := 0) (by omega)
  have e16 : (16 : Int32) - 2 * nI sl = nI (16 - 2 * sl) := by
    rw [n2]
    exact pk_sub (a := 16) (by omega)
  refine ⟨sl * z0 + (16 - 2 * sl) * z1 + sl * z2, ?_, ?_, ?_⟩
  · have h1 : sl * z0 ≤ 8 * 48 := Nat.mul_le_mul hsl u0
    have h2 : (16 - 2 * sl) * z1 ≤ 16 * 48 := Nat.mul_le_mul (by omega) v0
    have h3 : sl * z2 ≤ 8 * 48 := Nat.mul_le_mul hsl w0
    omega
  · unfold f_P_sixteenths
    rw [r0, bnd, s0, bnd, s1, bnd, s2, bnd, e16, pk_mul, pk_mul, pk_mul, nI_add, nI_add]
  · unfold f_M_meanOf
    rw [n_div8 hc, n_rem8 hc, m3, m2, u2, bnd, w2, bnd]
    rw [m1', v2, bnd, h0.1, esl, e16, nI_add, pk_mul, pk_mul, nI_add]
    congr 2
    rw [Nat.mul_add]
    omega
theorem q_worthOf {N X g c : Nat} {a b : aT} (hN : 10000 ≤ N) (hg4 : g < 4) (hc : c < 48) (hR : Rel N a b) (hT : PT a b) (hP : PL X a b) :
    ∃ z, f_P_worthOf N (nI g) (nI c) a = some z ∧ f_M_worthOf N (nI g) (nI c) b = some z := by
  obtain ⟨z1, -, h1, h2⟩ := q_mean 1 hN hg4 hc hR hT hP
  obtain ⟨z0, -, h3, h4⟩ := q_mean 0 hN hg4 hc hR hT hP
  have h5 := (hR.ru 2 (by omega)).1
  have r2 : f_R_now 2 a = some (a 7 2) := f_rnow (k := 2) (by omega)
  unfold f_P_worthOf f_M_worthOf
  rw [h1, h2, h3, h4, bnd, bnd, r2, bnd, bnd, bnd, h5]
  exact ⟨_, rfl, rfl⟩
theorem wo44 {N : Nat} {a : aT} {k7 : Int32 → Int32 → Int32 → Int32 → Option Int32} {x1 x2 x3 x4 x5 : Int32} : f_M_whereOf_44 N a k7 x1 x2 x3 x4 x5 = k7 x1 x4 x5 (x4 + 1) := by
  unfold f_M_whereOf_44 f_M_whereOf_49 f_M_whereOf_62
  rw [if_neg (show ¬ (1 : Int32) = 0 by decide), if_neg (show ¬ (1 : Int32) = 0 by decide)]
theorem wo49 {N : Nat} {a : aT} {k7 : Int32 → Int32 → Int32 → Int32 → Option Int32} {x1 x2 x3 x4 x5 : Int32} : f_M_whereOf_49 N a k7 x1 x2 x3 x4 x5 0 = k7 x1 x2 x3 (x4 + 1) := by
  unfold f_M_whereOf_49 f_M_whereOf_62
  rw [if_pos rfl, if_pos rfl]
theorem l_where {N X g : Nat} {a b : aT} (hN : 10000 ≤ N) (hg4 : g < 4) (hR : Rel N a b) (hT : PT a b) (hP : PL X a b) :
    ∀ (n j : Nat) (u v : Int32), j ≤ 48 → 48 - j < n → (u = -1 ∨ ∃ c, c < 48 ∧ u = nI c) → ∃ z : Int32, (z = -1 ∨ ∃ c, c < 48 ∧ z = nI c) ∧ f_P_bestCell_7 N a n (nI g) u v (nI j) = some z ∧ f_M_whereOf_7 N b n (nI g) u v (nI j) = some z := by
  intro n
  induction n with
  | zero => intro j u v h1 h2; omega
  | succ n ih =>
    intro j u v h1 h2 hu
    unfold f_P_bestCell_7 f_M_whereOf_7
    by_cases hj : j = 48
    · subst hj
      rw [if_pos (show 48 ≤ nI 48 by decide), if_pos (show 48 ≤ nI 48 by decide)]
      exact ⟨u, hu, rfl, rfl⟩
    · have hj48 : j < 48 := by omega
      have e1 : ¬ 48 ≤ nI j := nI_ge (b := 48) (by omega) (by decide)
      obtain ⟨z, y1, y2⟩ := q_worthOf hN hg4 hj48 hR hT hP
      rw [if_neg e1, if_neg e1, f_iscC hj48, bnd, if_pos (inn hj48 (by decide)), ixn (by omega), y1, y2, bnd, bnd, wo44, wo49, np1]
      have hcell := (hT.1 j hj48).2.2.1
      by_cases c : a 3 j = -2
      · rw [if_pos c, if_pos rfl, if_pos (hcell.mpr c)]
        exact ih (j + 1) u v (by omega) (by omega) hu
      · rw [if_neg c, if_neg (show ¬ (1 : Int32) = 0 by decide), if_neg (mt hcell.mp c)]
        by_cases d : u = -1
        · rw [if_pos d, if_pos d]
          exact ih (j + 1) (nI j) z (by omega) (by omega) (Or.inr ⟨j, hj48, rfl⟩)
        · rw [if_neg d, if_neg d]
          by_cases f : z ≤ v
          · rw [if_pos f, if_pos f]
            exact ih (j + 1) u v (by omega) (by omega) hu
          · rw [if_neg f, if_neg f]
            exact ih (j + 1) (nI j) z (by omega) (by omega) (Or.inr ⟨j, hj48, rfl⟩)
theorem q_whereOf {N X g : Nat} {a b : aT} (hN : 10000 ≤ N) (hg4 : g < 4) (hR : Rel N a b) (hT : PT a b) (hP : PL X a b) :
    ∃ z : Int32, (z = -1 ∨ ∃ c, c < 48 ∧ z = nI c) ∧ f_P_bestCell N (nI g) a = some z ∧ f_M_whereOf N (nI g) b = some z :=
  l_where hN hg4 hR hT hP N 0 (-1) 0 (by omega) (by omega) (Or.inl rfl)
theorem wn54 {N : Nat} {a : aT} {k6 : Int32 → Int32 → Int32 → Option Int32} {x1 x2 x3 x5 : Int32} : f_M_whichNow_54 N a k6 x1 x2 x3 x5 = k6 x3 x5 (x3 + 1) := by
  unfold f_M_whichNow_54 f_M_whichNow_59 f_M_whichNow_71
  rw [if_neg (show ¬ (1 : Int32) = 0 by decide), if_neg (show ¬ (1 : Int32) = 0 by decide)]
theorem wn59 {N : Nat} {a : aT} {k6 : Int32 → Int32 → Int32 → Option Int32} {x1 x2 x3 x5 : Int32} : f_M_whichNow_59 N a k6 x1 x2 x3 x5 0 = k6 x1 x2 (x3 + 1) := by
  unfold f_M_whichNow_59 f_M_whichNow_71
  rw [if_pos rfl, if_pos rfl]
theorem f_lod {a : aT} {s : Nat} (hs : s < 4) : f_P_lodgedIn (nI s) a = some (a 16 s) := by
  unfold f_P_lodgedIn
  rw [if_neg (show ¬ f_C_isBelow (nI s) 4 = 0 from mt blw.mp (nlt4 (n := 4) (L := 4) rfl (by decide) (by omega))), if_pos (inn hs (by decide)), ixn (by omega)]
theorem l_which {N X : Nat} {a b : aT} (hN : 10000 ≤ N) (hR : Rel N a b) (hT : PT a b) (hP : PL X a b) :
    ∀ (n j : Nat) (u v : Int32), j ≤ 4 → 4 - j < n → ∃ z : Int32, f_C_which_13 N n u v (nI j) a = some (z, a) ∧ f_M_whichNow_6 N b n u v (nI j) = some z := by
  intro n
  induction n with
  | zero => intro j u v h1 h2; omega
  | succ n ih =>
    intro j u v h1 h2
    unfold f_C_which_13 f_M_whichNow_6
    by_cases hj : j = 4
    · subst hj
      rw [if_pos (show 4 ≤ nI 4 by decide), if_pos (show 4 ≤ nI 4 by decide)]
      exact ⟨u, rfl, rfl⟩
    · have hj4 : j < 4 := by omega
      have e1 : ¬ 4 ≤ nI j := nI_ge (b := 4) (by omega) (by decide)
      obtain ⟨z, y0, y1, y2⟩ := q_whereOf hN hj4 hR hT hP
      unfold f_C_which_42
      rw [if_neg e1, if_neg e1, f_lod hj4, bnd, y1, y2, bnd, bnd, if_pos (inn hj4 (by decide)), ixn (by omega), np1, (hP.2.1 j hj4).1]
      by_cases c : a 16 j = -1
      · rw [if_pos c, if_pos c]
        rcases y0 with y0 | ⟨k, hk, y0⟩
        · rw [if_pos y0, if_pos y0]
          exact ih (j + 1) _ _ (by omega) (by omega)
        · have n0 : ¬ z = -1 := by
            rw [y0]
            intro q
            have : (0 : Int32) ≤ nI k := nI_pos' (by omega)
            rw [q] at this
            exact absurd this (by decide)
          subst y0
          obtain ⟨z', x1, x2⟩ := q_worthOf hN hj4 hk hR hT hP
          rw [if_neg n0, if_neg n0, x1, x2, bnd, bnd, wn54, wn59, np1]
          by_cases d : u = -1
          · rw [if_pos d, if_pos d]
            exact ih (j + 1) _ _ (by omega) (by omega)
          · rw [if_neg d, if_neg d]
            by_cases f : z' ≤ v
            · rw [if_pos f, if_pos f]
              exact ih (j + 1) _ _ (by omega) (by omega)
            · rw [if_neg f, if_neg f]
              exact ih (j + 1) _ _ (by omega) (by omega)
      · rw [if_neg c, if_neg c, if_pos rfl, ite_self]
        exact ih (j + 1) _ _ (by omega) (by omega)
theorem q_whichNow {N X : Nat} {a b : aT} (hN : 10000 ≤ N) (hR : Rel N a b) (hT : PT a b) (hP : PL X a b) : ∃ z : Int32, f_C_which_13 N N (-1) 0 0 a = some (z, a) ∧ f_M_whichNow N b = some z :=
  l_which hN hR hT hP N 0 (-1) 0 (by omega) (by omega)
theorem q_worth {N : Nat} {a b : aT} {p q : Int32} (hN : 10000 ≤ N) (h : Rel N a b) : ∃ r a' b', f_C_worth N p q a = some (r, a') ∧ f_M_worth N p q b = some (r, b') ∧ f_M_find N b = some ((), b') ∧ Rel N a' b' ∧ FA w_P_replayAll a a' := by
  obtain ⟨a', b', X, hX, e, k1, k2, k3, k4, k5⟩ := q_playAll hN h
  have a3 : a' 3 = a 3 := funext fun i => (r_P_replayAll N a _ _ k1) 3 i (nwc (by decide))
  have rel : Rel N a b' := h.fr (La := []) FA_rf (r_M_find N b _ _ k2) (by decide) (by decide)
  unfold f_C_worth f_M_worth
  rw [k1, k2, bnd, bnd]
  dsimp only
  by_cases c1 : p < 0 ∨ 4 ≤ p
  · rw [if_pos (blw.mpr c1), if_pos (four_0.mpr c1)]
    exact ⟨_, _, _, rfl, rfl, rfl, rel, FA_rf⟩
  rw [if_neg (mt blw.mp c1), if_neg (mt four_0.mp c1)]
  by_cases c2 : q < 0 ∨ 48 ≤ q
  · have x1 : f_E_isCell q a = some 0 := by unfold f_E_isCell; rw [if_pos (blw.mpr c2)]
    have x2 : f_M_isCell q b' = some 0 := by unfold f_M_isCell; rw [if_pos (min_47.mpr c2)]
    rw [x1, x2, bnd, bnd, if_pos rfl, if_pos rfl]
    exact ⟨_, _, _, rfl, rfl, rfl, rel, FA_rf⟩
  obtain ⟨g, hg4, rfl⟩ := nof (p := p) 4 (by decide) c1
  obtain ⟨c, hc, rfl⟩ := nof (p := q) 48 (by decide) c2
  rw [f_iscC hc, f_iscM k4.1 hc, bnd, bnd, a3]
  by_cases c3 : a 3 c = -2
  · rw [if_pos c3, if_pos rfl, if_pos rfl]
    exact ⟨_, _, _, rfl, rfl, rfl, rel, FA_rf⟩
  obtain ⟨z, y1, y2⟩ := q_worthOf hN hg4 hc k3 k4 k5
  rw [if_neg c3, if_neg (show ¬ (1 : Int32) = 0 by decide), if_neg (show ¬ (1 : Int32) = 0 by decide), y1, y2, bnd, bnd]
  exact ⟨_, _, _, rfl, rfl, rfl, k3, r_P_replayAll N a _ _ k1⟩
theorem q_where {N : Nat} {a b : aT} {p : Int32} (hN : 10000 ≤ N) (h : Rel N a b) : Same N (f_C_where N p a) (f_M_where N p b) := by
  obtain ⟨a', b', X, hX, e, k1, k2, k3, k4, k5⟩ := q_playAll hN h
  have rel : Rel N a b' := h.fr (La := []) FA_rf (r_M_find N b _ _ k2) (by decide) (by decide)
  unfold f_C_where f_M_where
  rw [k1, k2, bnd, bnd]
  dsimp only
  by_cases c1 : p < 0 ∨ 4 ≤ p
  · rw [if_pos (blw.mpr c1), if_pos (four_0.mpr c1)]
    exact ⟨_, _, _, rfl, rfl, rel⟩
  rw [if_neg (mt blw.mp c1), if_neg (mt four_0.mp c1)]
  obtain ⟨g, hg4, rfl⟩ := nof (p := p) 4 (by decide) c1
  obtain ⟨z, -, y1, y2⟩ := q_whereOf hN hg4 k3 k4 k5
  rw [y1, y2, bnd, bnd]
  exact ⟨_, _, _, rfl, rfl, k3⟩
theorem q_which {N : Nat} {a b : aT} (hN : 10000 ≤ N) (h : Rel N a b) : Same N (f_C_which N a) (f_M_which N b) := by
  obtain ⟨a', b', X, hX, e, k1, k2, k3, k4, k5⟩ := q_playAll hN h
  obtain ⟨z, y1, y2⟩ := q_whichNow hN k3 k4 k5
  unfold f_C_which f_M_which
  rw [k1, k2, bnd, bnd]
  dsimp only
  rw [y1, y2, bnd]
  exact ⟨_, _, _, rfl, rfl, k3⟩
