/-! one throw, both sides -/
theorem f_tnow {a : aT} {g i : Nat} (hg : g < 4) (hi : i < 3) : f_T_now (nI g) (nI i) a = some (a 5 (3 * g + i)) := by
  unfold f_T_now
  rw [if_neg (show ¬ f_C_isBelow (nI g) 4 = 0 from mt blw.mp (nlt4 (n := 4) (L := 4) rfl (by decide) (by omega))), if_neg (show ¬ f_C_isBelow (nI i) 3 = 0 from mt blw.mp (nlt4 (n := 3) (L := 3) rfl (by decide) (by omega)))]
  simp only [n3, nI_add]
  rw [if_pos (inn (show 3 * g + i < 12 by omega) (by decide)), ixn (by omega)]
theorem f_stk {a : aT} {t : Nat} (ht : t < 20) : f_O_stickAt (nI t) a = some (a 12 t) := by
  unfold f_O_stickAt
  rw [if_neg (show ¬ f_C_isBelow (nI t) 20 = 0 from mt blw.mp (nlt4 (n := 20) (L := 20) rfl (by decide) (by omega))), if_pos (inn ht (by decide)), ixn (by omega)]
theorem f_cno {a : aT} {t : Nat} (ht : t < 20) : f_O_cellNumberAt (nI t) a = some (a 13 t) := by
  unfold f_O_cellNumberAt
  rw [if_neg (show ¬ f_C_isBelow (nI t) 20 = 0 from mt blw.mp (nlt4 (n := 20) (L := 20) rfl (by decide) (by omega))), if_pos (inn ht (by decide)), ixn (by omega)]
theorem f_iscC {a : aT} {c : Nat} (hc : c < 48) : f_E_isCell (nI c) a = some (if a 3 c = -2 then 0 else 1) := by
  unfold f_E_isCell
  rw [if_neg (show ¬ f_C_isBelow (nI c) 48 = 0 from mt blw.mp (nlt4 (n := 48) (L := 48) rfl (by decide) (by omega))), if_pos (inn hc (by decide)), ixn (by omega)]
  by_cases q : a 3 c = -2
  · rw [if_pos q, if_pos q]
  · rw [if_neg q, if_neg q]
theorem f_iscM {a b : aT} {c : Nat} (h : PC a b) (hc : c < 48) : f_M_isCell (nI c) b = some (if a 3 c = -2 then 0 else 1) := by
  unfold f_M_isCell
  rw [if_neg (show ¬ f_M_in (nI c).toInt64 0 47 = 0 from mt min_47.mp (nlt4 (n := 48) (L := 48) rfl (by decide) (by omega))), if_pos (inn hc (by decide)), ixn (by omega)]
  have z := (h c hc).2.2.1
  by_cases q : a 3 c = -2
  · rw [if_pos q, if_pos (z.mpr q)]
  · rw [if_neg q, if_neg (mt z.mp q)]
theorem l_lodge {N t g r s : Nat} {m y : Int32} {a b : aT} (hT : PT a b) (hB : PB t m a b) (hg4 : g < 4) (hr : r < 6) (hs : s < 10) (hl : a 16 g = -1) (hy : y = 0 ∨ y = 1) :
    ∃ a1 b1, f_P_throwOne_127 N (nI g) (nI r) (nI s + (-1)) y a = some ((), upA a1 14 12 (a1 14 12 + 1)) ∧ f_M_throwsOne_202 N (nI g) (nI r) (nI s + (-1)) m y b = some (m, b1) ∧ PB t m a1 b1 ∧ FA LA a a1 ∧ FA LB b b1 := by
  have ib : inb (nI g) 4 := inn hg4 (by decide)
  have bl : ¬ f_C_isBelow (nI g) 4 = 0 := mt blw.mp (nlt4 (n := 4) (L := 4) rfl (by decide) (by omega))
  have br : ¬ f_C_isBelow (nI r) 6 = 0 := mt blw.mp (nlt4 (n := 6) (L := 6) rfl (by decide) (by omega))
  have eb : upA b 46 g (b 46 g) = upA b 46 g (-1) := by rw [(hB.2.1 g hg4).1, hl]
  have ea : upA a 16 g (-1) = a := by
    funext c i
    rw [upA_get]
    by_cases h1 : c = 16
    · subst h1
      rw [if_pos rfl]
      by_cases h2 : i = g
      · rw [if_pos h2, h2, hl]
      · rw [if_neg h2]
    · rw [if_neg h1]
  have hm : PB t m a (upA b 46 g (-1)) := by
    have := hB.lodge (j := g) (v := -1) (by decide) (by decide)
    rw [ea] at this
    exact this
  have fb : ∀ v, FA LB b (upA b 46 g v) := fun v => FA_upN FA_rf (by decide)
  unfold f_P_throwOne_127 f_M_throwsOne_202
  rw [if_neg bl, ixn (by omega), eb]
  rcases hy with hy | hy
  · rw [if_pos hy, if_pos hy, if_pos ib, if_pos ib]
    exact ⟨a, _, rfl, rfl, hm, FA_rf, fb _⟩
  rw [if_neg (show ¬ y = 0 by rw [hy]; decide), if_neg (show ¬ y = 0 by rw [hy]; decide)]
  unfold f_E_cellAt
  rw [if_neg br]
  by_cases hc : f_C_isBelow (nI s + (-1)) 8 = 0
  · rw [if_pos hc, bnd, if_pos (min_7.mpr (blw.mp hc)), if_pos ib, if_pos ib, if_pos ib, ea]
    exact ⟨a, _, rfl, rfl, hm, FA_rf, fb _⟩
  rw [if_neg hc, if_neg (fun q => hc (blw.mpr (min_7.mp q)))]
  obtain ⟨q, hq, rfl⟩ : ∃ q, q < 8 ∧ s = q + 1 := by
    refine ⟨s - 1, ?_, ?_⟩
    · have : ¬ (s = 0 ∨ 9 ≤ s) := fun z => hc (nocol s (by omega) z)
      omega
    · have : ¬ (s = 0 ∨ 9 ≤ s) := fun z => hc (nocol s (by omega) z)
      omega
  rw [pk_m1]
  simp only [n8, nI_add]
  have i8 : inb (nI (8 * r + q)) 48 := inn (show 8 * r + q < 48 by omega) (by decide)
  have z := (hT.1 (8 * r + q) (by omega)).2.2.1
  simp only [if_neg (show ¬ f_C_isBelow (nI (8 * r + q)) 48 = 0 from mt blw.mp (nlt4 (n := 48) (L := 48) rfl (by decide) (by omega))), if_pos i8, ixn (show 8 * r + q < 2 ^ 31 by omega), if_pos ib]
  by_cases c3 : a 3 (8 * r + q) = -2
  · rw [if_pos c3, bnd, if_pos (z.mpr c3), ea]
    exact ⟨a, _, rfl, rfl, hm, FA_rf, fb _⟩
  · rw [if_neg c3, bnd, if_neg (mt z.mp c3)]
    refine ⟨upA a 16 g (nI (8 * r + q)), _, ?_, rfl, hB.lodge ?_ ?_, FA_upN FA_rf (by decide), fb _⟩
    · simp only [upA_get, reduceIte, Nat.reduceEqDiff]
    · have : (0 : Int32) ≤ nI (8 * r + q) := nI_pos' (by omega)
      grind
    · exact nI_le (b := 47) (by omega) (by decide)
