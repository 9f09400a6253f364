theorem l_one {N t X n : Nat} {a b : aT} (hN : 10000 ≤ N) (hR : Rel N a b) (hT : PT a b) (hP : PL t a b) (htX : t < X) (hX : X ≤ 20) :
    ∃ a' b', f_P_throwOne N (nI t) a = some ((), a') ∧ f_M_throwsAll_94 N (n + 1) (nI X) (nI t) b = f_M_throwsAll_94 N n (nI X) (nI (t + 1)) b' ∧ PL (t + 1) a' b' ∧ FA LA a a' ∧ FA LB b b' := by
  have ht : t < 20 := by omega
  obtain ⟨k1, k2, k3, k4, k5, k6, k7, k8, k9⟩ := hR.th t ht
  obtain ⟨k, hk, ek⟩ := nofC (p := a 11 t) 3 (by decide) k4 k5
  obtain ⟨g, hg4, eg⟩ := nofC (p := a 12 t) 3 (by decide) k6 k7
  obtain ⟨c, hc, ec⟩ := nofC (p := a 13 t) 47 (by decide) k8 k9
  have hB := hP.pb ht
  have hc48 : c < 48 := by omega
  have f0 : FA LB b (upA b 48 t 0) := FA_upN FA_rf (by decide)
  have pc0 : PC a (upA b 48 t 0) := (hT.fr (a' := a) FA_rf f0).1
  generalize hK : f_M_throwsAll_94 N n = K
  unfold f_P_throwOne f_M_throwsAll_94
  simp only [hK]
  rw [f_stk ht, bnd, f_cno ht, bnd, ec, f_iscC hc48, bnd, if_neg (nI_ge htX (by omega))]
  simp only [n3, np1, np2, if_pos (inn (show 3 * t + 1 < 60 by omega) (show 60 ≤ 2 ^ 31 by decide)), if_pos (inn (show 3 * t + 2 < 60 by omega) (show 60 ≤ 2 ^ 31 by decide)), if_pos (inn (show 3 * t < 60 by omega) (show 60 ≤ 2 ^ 31 by decide)), if_pos (inn ht (show 20 ≤ 2 ^ 31 by decide)), ixn (show 3 * t + 1 < 2 ^ 31 by omega), ixn (show 3 * t + 2 < 2 ^ 31 by omega), ixn (show 3 * t < 2 ^ 31 by omega), ixn (show t < 2 ^ 31 by omega)]
  rw [k1, k2, k3, ek, eg, ec, f_iscM pc0 hc48, bnd]
  have no : ∃ a' b', f_P_throwOne_38 N (nI t) a = some ((), a') ∧ f_M_throwsAll_185 N K (nI X) (nI t) (upA b 48 t 0) = K (nI X) (nI (t + 1)) b' ∧ PL (t + 1) a' b' ∧ FA LA a a' ∧ FA LB b b' := by
    have e28 : (upA b 48 t 0) 31 28 = a 14 13 := hB.2.2.2.2.2.2.2.2.2.2
    unfold f_P_throwOne_38 f_M_throwsAll_185
    rw [e28, np1]
    by_cases q : a 14 13 = -1
    · rw [if_pos q, if_pos q]
      exact ⟨_, _, rfl, rfl, hB.not _, FA_upN FA_rf (by decide), FA_upS (FA_upN FA_rf (by decide)) (by decide)⟩
    · rw [if_neg q, if_neg q]
      exact ⟨_, _, rfl, rfl, hB.not _, FA_upN FA_rf (by decide), FA_upS (FA_upN FA_rf (by decide)) (by decide)⟩
  by_cases c3 : a 3 c = -2
  · rw [if_pos c3, if_pos rfl, if_pos rfl]
    exact no
  rw [if_neg c3, if_neg (show ¬ (1 : Int32) = 0 by decide), if_neg (show ¬ (1 : Int32) = 0 by decide), if_pos (inn (show g < 4 by omega) (by decide)), ixn (show g < 2 ^ 31 by omega)]
  have hg : g < 4 := by omega
  have el : f_P_lodgedIn (nI g) a = some (a 16 g) := by
    unfold f_P_lodgedIn
    rw [if_neg (show ¬ f_C_isBelow (nI g) 4 = 0 from mt blw.mp (nlt4 (n := 4) (L := 4) rfl (by decide) (by omega))), if_pos (inn hg (by decide)), ixn (by omega)]
  rw [el, bnd, (hP.2.1 g hg).1]
  by_cases c4 : a 16 g = -1
  case neg =>
    rw [if_neg c4, if_neg c4]
    exact no
  rw [if_pos c4, if_pos c4]
  have e24 : (upA b 48 t 0) 31 24 = a 14 9 := hB.2.2.2.2.2.2.1
  have hB1 := hB.lot (v := nx (a 14 9))
  have fa1 : FA LA a (upA a 14 9 (nx (a 14 9))) := FA_upN FA_rf (by decide)
  have fb1 : FA LB b (upA (upA b 48 t 0) 31 24 (nx (a 14 9))) := FA_upS (FA_upN FA_rf (by decide)) (by decide)
  have hR1 := hR.lab fa1 fb1
  have hT1 := hT.fr fa1 fb1
  have r0 := hR1.ru 0 (by omega)
  obtain ⟨s, y, hs, s1, s2, s3⟩ := side_ex (a := upA a 14 9 (nx (a 14 9))) (v := lv (a 14 9)) (q := c % 8) rfl (Nat.mod_lt _ (by omega))
  have l1 := hR1.sl g hg
  have h1 := hR1.sh g hg
  have o1 := hR1.so g hg
  obtain ⟨L, hL, eL⟩ := nofC (p := (upA a 14 9 (nx (a 14 9))) 5 (3 * g + 1)) 3 (by decide) (by grind) l1.2.2
  have hL0 : 0 < L := by
    rcases L with _ | L
    · rw [eL] at l1
      exact absurd l1.2.1 (by decide)
    · omega
  obtain ⟨a2, b2, m, u1, u2, u3, u4, u5⟩ := l_bring0 (hv := (upA a 14 9 (nx (a 14 9))) 5 (3 * g)) (m := 0) hN ht (show k < 4 by omega) hg (show c / 8 < 6 by omega) hs hL0 (show L < 4 by omega) hR1 hT1 hB1 (by simp only [upA_get, reduceIte, Nat.reduceEqDiff]; exact ek) h1.1 (by rw [l1.1, eL])
  have fw := r_P_bringDown_39 N N (nI t) (nI (c / 8)) _ _ _ _ _ _ u1
  have lod : a2 16 g = -1 := by
    rw [fw 16 g (nwc (by decide))]
    simp only [upA_get, reduceIte, Nat.reduceEqDiff]
    exact c4
  obtain ⟨a3, b3, v1, v2, v3, v4, v5, v6⟩ := l_free (N := N) (t := t) (g := g) (r := c / 8) (s := s) (L := L) (m := m) hg (by omega) hs (by omega) 4 N N 0 a2 b2 (by omega) (by omega) (by omega) (by omega) u3 (by rw [u5 40 g (nwc (by decide)), l1.1, eL])
  have fa3 : FA LA a a3 := FA_tr (FA_tr fa1 u4 (fun _ h => h)) v4 (fun _ h => h)
  have fb3 : FA LB b b3 := FA_tr (FA_tr fb1 u5 (fun _ h => h)) v5 (fun _ h => h)
  have e24' : b3 31 24 = a3 14 9 := v3.2.2.2.2.2.2.1
  have hB4 := v3.lot (v := nx (a3 14 9))
  have fa4 : FA LA a (upA a3 14 9 (nx (a3 14 9))) := FA_upN fa3 (by decide)
  have fb4 : FA LB b (upA b3 31 24 (nx (a3 14 9))) := FA_upS fb3 (by decide)
  have hR4 := hR.lab fa4 fb4
  have hT4 := hT.fr fa4 fb4
  have o4 := hR4.so g hg
  have lod4 : (upA a3 14 9 (nx (a3 14 9))) 16 g = -1 := by
    simp only [upA_get, reduceIte, Nat.reduceEqDiff]
    exact v6 lod
  have l2 : a2 5 (3 * g + 1) = nI L := by rw [u4 5 _ (nwc (by decide)), eL]
  -- the class
  rw [lot_C, bnd]
  dsimp only
  rw [s1, bnd, n_div8 hc48, n_rem8 hc48, s2]
  have bd : f_P_bringDown N (nI t) (nI (c / 8)) (nI s + (-1)) (upA a 14 9 (nx (a 14 9))) = some ((), a2) := by
    unfold f_P_bringDown
    rw [f_stk ht, bnd, show (upA a 14 9 (nx (a 14 9))) 12 t = nI g by simp only [upA_get, reduceIte, Nat.reduceEqDiff]; exact eg, show (0 : Int32) = nI 0 from rfl, show (1 : Int32) = nI 1 from rfl, f_tnow hg (by omega), bnd, f_tnow hg (by omega), bnd, eL]
    exact u1
  rw [bd, bnd]
  dsimp only
  have tn1 : f_T_now (nI g) 1 a2 = some (nI L) := by
    rw [show (1 : Int32) = nI 1 from rfl, f_tnow hg (by omega), l2]
  have fs : f_P_freeSticks N (nI (c / 8)) (nI s + (-1)) (nI L) a2 = some ((), a3) := v1
  have tn2 : f_T_now (nI g) 2 (upA a3 14 9 (nx (a3 14 9))) = some ((upA a3 14 9 (nx (a3 14 9))) 5 (3 * g + 2)) := by
    rw [show (2 : Int32) = nI 2 from rfl, f_tnow hg (by omega)]
  rw [tn1, bnd, fs, bnd]
  dsimp only
  rw [lot_C, bnd]
  dsimp only
  rw [tn2, bnd]
  -- the reference
  have mm : ∀ z, tlK N (nI g) (nI (c / 8)) (nI s + (-1)) m b3 = some (m, z) → f_M_throwsOne N (nI k) (nI g) (nI c) (upA b 48 t 0) = some (m, z) := by
    intro z hz
    unfold f_M_throwsOne
    rw [lot_M, bnd, n_div8 hc48, n_rem8 hc48]
    dsimp only
    rw [e24]
    have w0 : (upA (upA b 48 t 0) 31 24 (nx (a 14 9))) 42 0 = (upA a 14 9 (nx (a 14 9))) 7 0 := r0.1
    have s4 := s3 (fun z => f_M_throwsOne_59 N N (nI k) (nI g) (nI (c / 8)) z 0 0 (upA (upA b 48 t 0) 31 24 (nx (a 14 9))))
    simp only [w0]
    rw [s4, u2]
    exact v2.trans hz
  have tk : ∀ y4, (if (upA a3 14 9 (nx (a3 14 9))) 5 (3 * g + 2) ≤ lv (a3 14 9) then y4 = 0 else y4 = (1 : Int32)) → tlK N (nI g) (nI (c / 8)) (nI s + (-1)) m b3 = f_M_throwsOne_202 N (nI g) (nI (c / 8)) (nI s + (-1)) m y4 (upA b3 31 24 (nx (a3 14 9))) := by
    intro y4 hy4
    unfold tlK
    rw [lot_M, bnd]
    dsimp only
    rw [if_pos (inn hg (by decide)), ixn (show g < 2 ^ 31 by omega), e24']
    have o5 : ((upA b3 31 24 (nx (a3 14 9))) 41 g ≤ lv (a3 14 9)) = ((upA a3 14 9 (nx (a3 14 9))) 5 (3 * g + 2) ≤ lv (a3 14 9)) := congrArg (fun z => z ≤ lv (a3 14 9)) o4.1
    by_cases q : (upA a3 14 9 (nx (a3 14 9))) 5 (3 * g + 2) ≤ lv (a3 14 9)
    · rw [if_pos q] at hy4
      rw [if_pos (Eq.mpr o5 q), hy4]
    · rw [if_neg q] at hy4
      rw [if_neg (fun z => q (Eq.mp o5 z)), hy4]
  have fin : ∀ y4 : Int32, (y4 = 0 ∨ y4 = 1) → (if (upA a3 14 9 (nx (a3 14 9))) 5 (3 * g + 2) ≤ lv (a3 14 9) then y4 = 0 else y4 = (1 : Int32)) → ∃ a' b', f_P_throwOne_127 N (nI g) (nI (c / 8)) (nI s + (-1)) y4 (upA a3 14 9 (nx (a3 14 9))) = some ((), a') ∧ ((f_M_throwsOne N (nI k) (nI g) (nI c) (upA b 48 t 0)).bind fun q3 => K (nI X) (nI (t + 1)) (upA (upA q3.2 48 t q3.1) 31 27 (q3.2 31 27 + 1))) = K (nI X) (nI (t + 1)) b' ∧ PL (t + 1) a' b' ∧ FA LA a a' ∧ FA LB b b' := by
    intro y4 hy hy4
    obtain ⟨a5, b5, x1, x2, x3, x4, x5⟩ := l_lodge (N := N) hT4 hB4 hg (show c / 8 < 6 by omega) hs lod4 hy
    have x6 := mm b5 ((tk y4 hy4).trans x2)
    refine ⟨_, _, x1, by rw [x6, bnd], x3.pl, FA_upN (FA_tr fa4 x4 (fun _ h => h)) (by decide), FA_upS (FA_upN (FA_tr fb4 x5 (fun _ h => h)) (by decide)) (by decide)⟩
  by_cases q : (upA a3 14 9 (nx (a3 14 9))) 5 (3 * g + 2) ≤ lv (a3 14 9)
  · rw [if_pos q]
    exact fin 0 (Or.inl rfl) (by rw [if_pos q])
  · rw [if_neg q]
    exact fin 1 (Or.inr rfl) (by rw [if_neg q])
