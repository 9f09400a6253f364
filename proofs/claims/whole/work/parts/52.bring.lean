/-! the columns of the class against the cells of the reference -/
theorem nocol : ∀ J, J < 14 → (J = 0 ∨ 9 ≤ J) → f_C_isBelow (nI J + (-1)) 8 = 0 := by decide
theorem cmpEJ : ∀ E, E < 14 → ∀ J, J < 14 → (nI E + (-1) ≤ nI J + (-1) ↔ E ≤ J) := by decide
theorem pm1 (J : Nat) : nI J + (-1) + 1 = nI (J + 1) + (-1) := by
  rw [← np1]
  grind
theorem h_out {a : aT} {hv r : Int32} {J : Nat} (h : J < 14) (h2 : J = 0 ∨ 9 ≤ J) : f_P_hangsIfStruck hv r (nI J + (-1)) a = some (-1) := by
  unfold f_P_hangsIfStruck
  rw [if_pos (nocol J h h2)]
theorem h_in {a : aT} {hv : Int32} {r q : Nat} (hr : r < 6) (hq : q < 8) : f_P_hangsIfStruck hv (nI r) (nI q) a = some (if a 15 (8 * r + q) < hv then a 15 (8 * r + q) else -1) := by
  unfold f_P_hangsIfStruck
  rw [if_neg (show ¬ f_C_isBelow (nI q) 8 = 0 from mt blw.mp (nlt4 (n := 8) (L := 8) rfl (by decide) hq))]
  simp only [n8, nI_add]
  rw [if_neg (show ¬ f_C_isBelow (nI (8 * r + q)) 48 = 0 from mt blw.mp (nlt4 (n := 48) (L := 48) rfl (by decide) (by omega))), if_pos (inn (show 8 * r + q < 48 by omega) (by decide)), if_pos (inn (show 8 * r + q < 48 by omega) (by decide)), ixn (by omega)]
  by_cases c : a 15 (8 * r + q) < hv
  · rw [if_pos c, if_pos c]
  · rw [if_neg c, if_neg c]
theorem l_tail {N : Nat} {x1 r hv : Int32} {E : Nat} (hE : E < 14) : ∀ (n J : Nat) (a : aT), 9 ≤ J → J ≤ E → E - J < n → f_P_bringDown_39 N n x1 r hv (nI E + (-1)) (nI J + (-1)) a = some ((), a) := by
  intro n
  induction n with
  | zero => intro J a h1 h2 h3; omega
  | succ n ih =>
    intro J a h1 h2 h3
    unfold f_P_bringDown_39
    by_cases e : E = J
    · rw [if_pos ((cmpEJ E hE J (by omega)).mpr (by omega))]
    · rw [if_neg (mt (cmpEJ E hE J (by omega)).mp (by omega)), h_out (by omega) (Or.inr h1), bnd, if_pos rfl, pm1]
      exact ih (J + 1) a (by omega) (by omega) (by omega)
def jx (r s L x : Nat) : Nat := if x + 1 ≤ 8 * r + (if s = 0 then 1 else s) then (if s = 0 then 1 else s) else if (if 9 ≤ s + L then 9 else s + L) ≤ x + 1 - 8 * r then (if 9 ≤ s + L then 9 else s + L) else x + 1 - 8 * r
theorem jx_48 {r s L : Nat} (hr : r < 6) (hs : s < 10) (hL : 0 < L) : jx r s L 48 = if 9 ≤ s + L then 9 else s + L := by
  unfold jx
  repeat' split
  all_goals omega
theorem jx_in {r s L x : Nat} (hs : s < 10) (h : x / 8 = r ∧ s ≤ x % 8 + 1 ∧ x % 8 + 1 < s + L) : jx r s L x = x % 8 + 1 ∧ jx r s L (x + 1) = x % 8 + 2 := by
  unfold jx
  constructor
  all_goals repeat' split
  all_goals omega
theorem jx_out {r s L x : Nat} (hs : s < 10) (hL : 0 < L) (h : ¬ (x / 8 = r ∧ s ≤ x % 8 + 1 ∧ x % 8 + 1 < s + L)) : jx r s L (x + 1) = jx r s L x := by
  unfold jx
  repeat' split
  all_goals omega
theorem l_bring {N t k g r s L : Nat} {hv : Int32} (hN : 10000 ≤ N) (ht : t < 20) (hk : k < 4) (hg4 : g < 4) (hr : r < 6) (hs : s < 10) (hL0 : 0 < L) (hL : L < 4) :
    ∀ (d n1 n2 x : Nat) (m : Int32) (a b : aT), 48 - x = d → x ≤ 48 → d + 20 < n1 → d < n2 → Rel N a b → PT a b → PB t m a b → a 11 t = nI k → b 39 g = hv → b 40 g = nI L → 
    ∃ a' b' m', f_P_bringDown_39 N n1 (nI t) (nI r) hv (nI (s + L) + (-1)) (nI (jx r s L x) + (-1)) a = some ((), a') ∧
      f_M_throwsOne_59 N n2 (nI k) (nI g) (nI r) (nI s + (-1)) m (nI x) b = f_M_throwsOne_124 N N (nI g) (nI r) (nI s + (-1)) m' 0 b' ∧ PB t m' a' b' ∧ FA LA a a' ∧ FA LB b b' := by
  intro d
  induction d with
  | zero =>
    intro n1 n2 x m a b hd hx h1 h2 hR hT hB e1 e2 e3
    have ex : x = 48 := by omega
    subst ex
    obtain ⟨n2, rfl⟩ : ∃ k, n2 = k + 1 := ⟨n2 - 1, by omega⟩
    refine ⟨a, b, m, ?_, ?_, hB, FA_rf, FA_rf⟩
    · rw [jx_48 hr hs hL0]
      by_cases c : 9 ≤ s + L
      · rw [if_pos c]
        exact l_tail (by omega) n1 9 a (by omega) c (by omega)
      · obtain ⟨n1, rfl⟩ : ∃ k, n1 = k + 1 := ⟨n1 - 1, by omega⟩
        rw [if_neg c]
        unfold f_P_bringDown_39
        rw [if_pos ((cmpEJ (s + L) (by omega) (s + L) (by omega)).mpr (by omega))]
    · unfold f_M_throwsOne_59
      rw [if_pos (show 48 ≤ nI 48 by decide)]
  | succ d ih =>
    intro n1 n2 x m a b hd hx h1 h2 hR hT hB e1 e2 e3
    obtain ⟨n2, rfl⟩ : ∃ k, n2 = k + 1 := ⟨n2 - 1, by omega⟩
    have hx48 : x < 48 := by omega
    unfold f_M_throwsOne_59
    rw [if_neg (show ¬ 48 ≤ nI x from nI_ge (b := 48) hx48 (by decide)), if_pos (inn hx48 (by decide)), ixn (by omega), st_M hg4 hr hs hL hx48 e3, bnd, np1]
    by_cases hst : x / 8 = r ∧ s ≤ x % 8 + 1 ∧ x % 8 + 1 < s + L
    · obtain ⟨j1, j2⟩ := jx_in hs hst
      obtain ⟨n1, rfl⟩ : ∃ k, n1 = k + 1 := ⟨n1 - 1, by omega⟩
      have q8 : x % 8 < 8 := Nat.mod_lt _ (by omega)
      have ex : 8 * r + x % 8 = x := by omega
      rw [if_pos hst, if_neg (show ¬ (1 : Int32) = 0 by decide), j1]
      unfold f_P_bringDown_39
      have em : nI (x % 8 + 1) + (-1) = nI (x % 8) := pk_m1 _
      rw [if_neg (mt (cmpEJ (s + L) (by omega) (x % 8 + 1) (by omega)).mp (by omega)), em, h_in hr q8, bnd, ex, np1]
      have em2 : nI (x % 8 + 1) = nI (x % 8 + 2) + (-1) := (pk_m1 (x % 8 + 1)).symm
      have hb := hB.1 x hx48
      have h38 : 0 ≤ a 3 x → b 38 x = a 3 x := by
        intro z
        have := (hT.1 x hx48).2.2.2
        rw [if_neg (by grind)] at this
        exact this
      have hnow : 0 ≤ a 3 x → f_M_hangsNow (nI x) b = some (hg (a 3 x) (a 7 1)) := by
        intro z
        unfold f_M_hangsNow
        rw [if_pos (inn hx48 (by decide)), ixn (by omega), h38 z, (hR.ru 1 (by omega)).1, hg_M z]
      rw [em2, ← j2]
      rcases hb with hb | hb
      · rw [if_pos hb.1, hb.2, ite_self, if_pos rfl]
        exact ih n1 n2 (x + 1) m a b (by omega) (by omega) (by omega) (by omega) hR hT hB e1 e2 e3
      · rw [if_neg hb.1, hnow hb.2.1, bnd, if_pos (inn hg4 (by decide)), ixn (by omega), e2, hb.2.2]
        by_cases c : hg (a 3 x) (a 7 1) < hv
        · rw [if_pos c, if_neg (by have := hg_0 (d := a 7 1) hb.2.1; grind), if_neg (by grind)]
          obtain ⟨a2, b2, f1, f2, f3, f4, -, -, f5⟩ := take_step hN hR hT hB ht hx48 hb.1 hk e1
          rw [f1, bnd]
          obtain ⟨a', b', m', g1, g2, g3, g4, g5⟩ := ih n1 n2 (x + 1) (m + 1) a2 b2 (by omega) (by omega) (by omega) (by omega) (hR.lab f2 f3) (hT.fr f2 f3) f4 (by rw [f2 11 t (nwc (by decide))]; exact e1) (by rw [f3 39 g (nwc (by decide))]; exact e2) (by rw [f3 40 g (nwc (by decide))]; exact e3)
          refine ⟨a', b', m', ?_, g2, g3, FA_tr f2 g4 (fun _ h => h), FA_tr f3 g5 (fun _ h => h)⟩
          have f6 := f5 (fun w => f_P_bringDown_39 N n1 (nI t) (nI r) hv (nI (s + L) + (-1)) (nI (jx r s L (x + 1)) + (-1)) w)
          rw [hb.2.2] at f6
          rw [← g1, ← f6]
          simp only [n8, nI_add, ex]
        · rw [if_neg c, if_pos rfl, if_pos (by grind)]
          exact ih n1 n2 (x + 1) m a b (by omega) (by omega) (by omega) (by omega) hR hT hB e1 e2 e3
    · rw [if_neg hst, if_pos rfl, ite_self, ← jx_out hs hL0 hst]
      exact ih n1 n2 (x + 1) m a b (by omega) (by omega) (by omega) (by omega) hR hT hB e1 e2 e3
