theorem PL.pb {t : Nat} {a b : aT} (h : PL t a b) (ht : t < 20) : PB t 0 a (upA b 48 t 0) := by
  obtain ⟨p1, p2, p3, p4, p5, p7, p8, p9, p10, p11⟩ := h
  refine ⟨?_, ?_, ?_, ?_, ?_, ?_, ?_, ?_, ?_, ?_, ?_⟩ <;> (try simp only [upA_get, reduceIte, Nat.reduceEqDiff]) <;> (try assumption)
  · intro i hi
    rw [if_neg (by omega)]
    exact p4 i hi
  · intro i h1 h2
    exact p5 i (by omega) h2
  · exact p5 t (Nat.le_refl _) ht
theorem PB.lot {t : Nat} {m v : Int32} {a b : aT} (h : PB t m a b) : PB t m (upA a 14 9 v) (upA b 31 24 v) := by
  obtain ⟨p1, p2, p3, p4, p5, p6, p7, p8, p9, p10, p11⟩ := h
  refine ⟨?_, ?_, ?_, ?_, ?_, ?_, ?_, ?_, ?_, ?_, ?_⟩ <;> (try simp only [upA_get, reduceIte, Nat.reduceEqDiff]) <;> (try assumption)
theorem PB.pl {t : Nat} {m : Int32} {a b : aT} (h : PB t m a b) : PL (t + 1) (upA a 14 12 (a 14 12 + 1)) (upA (upA b 48 t m) 31 27 (b 31 27 + 1)) := by
  obtain ⟨p1, p2, p3, p4, p5, p6, p7, p8, p9, p10, p11⟩ := h
  refine ⟨?_, ?_, ?_, ?_, ?_, ?_, ?_, ?_, ?_, ?_⟩ <;> (try simp only [upA_get, reduceIte, Nat.reduceEqDiff]) <;> (try assumption)
  · intro i hi
    by_cases e : i = t
    · rw [if_pos e, e, p6]
    · rw [if_neg e]
      exact p4 i (by omega)
  · rw [p10]
theorem PB.not {t : Nat} {a b : aT} (v : Int32) (h : PB t 0 a (upA b 48 t 0)) : PL (t + 1) (upA a 14 13 v) (upA (upA b 48 t 0) 31 28 v) := by
  obtain ⟨p1, p2, p3, p4, p5, p6, p7, p8, p9, p10, p11⟩ := h
  simp only [upA_get, reduceIte, Nat.reduceEqDiff] at p1 p2 p3 p4 p5 p6 p7 p8 p9 p10 p11
  refine ⟨?_, ?_, ?_, ?_, ?_, ?_, ?_, ?_, ?_, ?_⟩ <;> (try simp only [upA_get, reduceIte, Nat.reduceEqDiff]) <;> (try assumption)
  · intro i hi
    by_cases e : i = t
    · rw [if_pos e, e, p6]
    · have := p4 i (by omega)
      rw [if_neg e] at this ⊢
      exact this
def lv (x : Int32) : Int32 := i_rem (i_ushr ((1103515245 * x) + 12345) 16) 16
def nx (x : Int32) : Int32 := (1103515245 * x) + 12345
theorem lot_C (a : aT) : f_P_lotOfSixteen a = some (lv (a 14 9), upA a 14 9 (nx (a 14 9))) := rfl
theorem lot_M (b : aT) : f_M_lot b = some (lv (b 31 24), upA b 31 24 (nx (b 31 24))) := rfl
theorem side_ex {a : aT} {w v : Int32} {q : Nat} (hw : a 7 0 = w) (hq : q < 8) : ∃ s y, s < 10 ∧ f_P_sideOf v a = some y ∧ nI q + y = nI s + (-1) ∧
    ∀ F : Int32 → Option (Int32 × aT), (if w ≤ v then if v < 16 - w then F (nI q + 0) else F (nI q + 1) else F (nI q + (-1))) = F (nI s + (-1)) := by
  have e0 : f_R_now 0 a = some w := by
    have := f_rnow (a := a) (k := 0) (by omega)
    rw [hw] at this
    exact this
  unfold f_P_sideOf
  rw [e0, bnd]
  have z0 : nI q + 0 = nI (q + 1) + (-1) := by rw [pk_m1]; exact nI_add q 0
  have z1 : nI q + 1 = nI (q + 2) + (-1) := by rw [pk_m1, np1]
  by_cases c1 : w ≤ v
  · by_cases c2 : v < 16 - w
    · refine ⟨q + 1, 0, by omega, by rw [if_pos c1, if_pos c2], z0, fun F => ?_⟩
      rw [if_pos c1, if_pos c2, z0]
    · refine ⟨q + 2, 1, by omega, by rw [if_pos c1, if_neg c2], z1, fun F => ?_⟩
      rw [if_pos c1, if_neg c2, z1]
  · refine ⟨q, -1, by omega, by rw [if_neg c1], rfl, fun F => ?_⟩
    rw [if_neg c1]
theorem jx_0 {r s L : Nat} : jx r s L 0 = if s = 0 then 1 else s := by
  unfold jx
  repeat' split
  all_goals omega
theorem l_bring0 {N t k g r s L : Nat} {hv m : Int32} {a b : aT} (hN : 10000 ≤ N) (ht : t < 20) (hk : k < 4) (hg4 : g < 4) (hr : r < 6) (hs : s < 10) (hL0 : 0 < L) (hL : L < 4) (hR : Rel N a b) (hT : PT a b) (hB : PB t m a b) (e1 : a 11 t = nI k) (e2 : b 39 g = hv) (e3 : b 40 g = nI L) :
    ∃ a' b' m', f_P_bringDown_39 N N (nI t) (nI r) hv (nI s + (-1) + nI L) (nI s + (-1)) a = some ((), a') ∧
      f_M_throwsOne_59 N N (nI k) (nI g) (nI r) (nI s + (-1)) m 0 b = f_M_throwsOne_124 N N (nI g) (nI r) (nI s + (-1)) m' 0 b' ∧ PB t m' a' b' ∧ FA LA a a' ∧ FA LB b b' := by
  have eE : nI s + (-1) + nI L = nI (s + L) + (-1) := by
    rw [← nI_add]
    grind
  rw [eE]
  by_cases c : s = 0
  · obtain ⟨a', b', m', k1, k2, k3, k4, k5⟩ := l_bring (hv := hv) (g := g) (s := s) hN ht hk hg4 hr hs hL0 hL 48 (N - 1) N 0 m a b (by omega) (by omega) (by omega) (by omega) hR hT hB e1 e2 e3
    refine ⟨a', b', m', ?_, k2, k3, k4, k5⟩
    rw [← k1, jx_0, if_pos c]
    obtain ⟨n, rfl⟩ : ∃ n, N = n + 1 := ⟨N - 1, by omega⟩
    conv => lhs; unfold f_P_bringDown_39
    rw [if_neg (mt (cmpEJ (s + L) (by omega) s (by omega)).mp (by omega)), h_out (by omega) (Or.inl c), bnd, if_pos rfl, pm1, c]
    rfl
  · obtain ⟨a', b', m', k1, k2, k3, k4, k5⟩ := l_bring (hv := hv) (g := g) (s := s) hN ht hk hg4 hr hs hL0 hL 48 N N 0 m a b (by omega) (by omega) (by omega) (by omega) hR hT hB e1 e2 e3
    rw [jx_0, if_neg c] at k1
    exact ⟨a', b', m', k1, k2, k3, k4, k5⟩
