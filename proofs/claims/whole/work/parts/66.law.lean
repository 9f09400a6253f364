/-! the law's loop: class and reference in one world -/
theorem Rel.exA {N : Nat} {a a' b : aT} (h : Rel N a b) (e : ∀ c, c < 31 → a' c = a c) : Rel N a' b := by
  unfold Rel at *
  rw [e 1 (by omega), e 2 (by omega), e 3 (by omega), e 5 (by omega), e 6 (by omega), e 7 (by omega), e 9 (by omega), e 10 (by omega), e 11 (by omega), e 12 (by omega), e 13 (by omega), e 21 (by omega), e 22 (by omega), e 23 (by omega), e 24 (by omega), e 25 (by omega), e 26 (by omega), e 27 (by omega), e 28 (by omega), e 29 (by omega), e 30 (by omega)]
  exact h
theorem Rel.exB {N : Nat} {a b b' : aT} (h : Rel N a b) (e : ∀ c, 31 ≤ c → b' c = b c) : Rel N a b' := by
  unfold Rel at *
  rw [e 31 (by omega), e 32 (by omega), e 33 (by omega), e 34 (by omega), e 36 (by omega), e 39 (by omega), e 40 (by omega), e 41 (by omega), e 42 (by omega), e 43 (by omega), e 44 (by omega), e 49 (by omega), e 50 (by omega)]
  exact h
theorem FA.hi {L : List (Nat × Option Nat)} {a a' : aT} (h : FA L a a') (hL : (L.all fun e => decide (e.1 < 31)) = true) : ∀ c, 31 ≤ c → a' c = a c := by
  intro c hc
  funext i
  refine h c i (fun e he q => ?_)
  have h1 := of_decide_eq_true (List.all_eq_true.mp hL e he)
  have h2 := q.1
  omega
theorem FA.lo {L : List (Nat × Option Nat)} {a a' : aT} (h : FA L a a') (hL : (L.all fun e => decide (31 ≤ e.1)) = true) : ∀ c, c < 31 → a' c = a c := by
  intro c hc
  funext i
  refine h c i (fun e he q => ?_)
  have h1 := of_decide_eq_true (List.all_eq_true.mp hL e he)
  have h2 := q.1
  omega
theorem one_w {N : Nat} {w : aT} {α : Type} {x : Option (α × aT)} {G : aT → Option (α × aT)} {L L' : List (Nat × Option Nat)} (h : Rel N w w) (hF : FR L w x) (hG : ∀ a, FR L' a (G a)) (hL : (L.all fun e => decide (e.1 < 31)) = true) (hL' : (L'.all fun e => decide (31 ≤ e.1)) = true)
    (hq : ∀ b, Rel N w b → ∃ r a' b', x = some (r, a') ∧ G b = some (r, b') ∧ Rel N a' b') : ∃ r w1 w2, x = some (r, w1) ∧ G w1 = some (r, w2) ∧ Rel N w2 w2 := by
  obtain ⟨r, a1, b1, e1, -, -⟩ := hq w h
  obtain ⟨r2, a2, b2, e2, e3, e4⟩ := hq a1 (h.exB ((hF _ _ e1).hi hL))
  rw [e1] at e2
  cases e2
  exact ⟨r, a1, b2, e1, e3, e4.exA ((hG a1 _ _ e3).lo hL')⟩
theorem cmp_rf (x : Int64) : lg_cmp x x = 0 := by
  unfold lg_cmp
  rw [if_neg (Int64.lt_irrefl), if_pos rfl]
theorem bnd_inb {L i k : Nat} (hL : L ≤ 384) (h : i + 6 ≤ L) (hk : k < 6) : inb (nI i + nI k) L := by
  rw [nI_add]
  exact inn (by omega) (by omega)

set_option maxRecDepth 100000 in
set_option maxHeartbeats 4000000 in
theorem law_loop {N : Nat} {E : eT} (hN : 2 ^ 49 ≤ N) (hL : e_L E ≤ 384) : ∀ (n i : Nat) (w : aT), i ≤ 400 → 400 - i < n → Rel N w w → ∃ w', f_L_law_18 N E n (nI i) w = some (1, w') := by
  have hN1 : 10000 ≤ N := by omega
  intro n
  induction n with
  | zero => intro i w h1 h2; omega
  | succ n ih =>
    intro i w h1 h2 h
    unfold f_L_law_18
    by_cases hend : e_L E < i + 6
    · have e0 : Int32.ofNat (e_L E) - 6 < nI i := by
        rcases Nat.lt_or_ge (e_L E) 6 with c | c
        · have h3 : nI (e_L E) - nI 6 < 0 := pk_sneg (by omega) c
          have h4 : ¬ nI i < 0 := nI_pos (by omega)
          have h5 : Int32.ofNat (e_L E) - 6 < 0 := h3
          grind
        · have h3 : nI (e_L E) - nI 6 = nI (e_L E - 6) := pk_sub c
          have h4 : Int32.ofNat (e_L E) - 6 = nI (e_L E - 6) := h3
          rw [h4]
          exact nI_lt (by omega) (by omega)
      rw [if_pos e0]
      exact ⟨w, rfl⟩
    have e0 : ¬ Int32.ofNat (e_L E) - 6 < nI i := by
      have h3 : nI (e_L E) - nI 6 = nI (e_L E - 6) := pk_sub (by omega)
      have h4 : Int32.ofNat (e_L E) - 6 = nI (e_L E - 6) := h3
      rw [h4]
      exact nI_nlt (by omega) (by omega)
    have b0 : inb (nI i) (e_L E) := inn (by omega) (by omega)
    have b1 : inb (nI i + 1) (e_L E) := bnd_inb (k := 1) hL (by omega) (by omega)
    have b2 : inb (nI i + 2) (e_L E) := bnd_inb (k := 2) hL (by omega) (by omega)
    have b3 : inb (nI i + 3) (e_L E) := bnd_inb (k := 3) hL (by omega) (by omega)
    have b4 : inb (nI i + 4) (e_L E) := bnd_inb (k := 4) hL (by omega) (by omega)
    have b5 : inb (nI i + 5) (e_L E) := bnd_inb (k := 5) hL (by omega) (by omega)
    have n6 : nI i + 6 = nI (i + 6) := nI_add i 6
    have ih6 : ∀ w2, Rel N w2 w2 → ∃ w', f_L_law_18 N E n (nI i + 6) w2 = some (1, w') := fun w2 h2 => by
      rw [n6]
      exact ih (i + 6) w2 (by omega) (by omega) h2
    clear ih
    rw [if_neg e0, if_pos b0]
    by_cases c0 : (e_xs E (ix (nI i)) &&& 63) = 0
    · obtain ⟨r, w1, w2, g1, g2, g3⟩ := one_w (x := f_C_type N (e_xs E (ix (nI i + 1))) w) (G := fun b => f_M_type (e_xs E (ix (nI i + 1))) b) h (r_C_type N (e_xs E (ix (nI i + 1))) w) (fun b => r_M_type (e_xs E (ix (nI i + 1))) b) (by decide) (by decide) (fun b hb => q_type hN1 hb)
      rw [if_pos c0, if_pos b1, g1, bnd]
      dsimp only
      rw [if_pos b1, g2, bnd, if_pos rfl]
      exact ih6 _ g3
    rw [if_neg c0]
    by_cases c1 : (e_xs E (ix (nI i)) &&& 63) = 1
    · obtain ⟨r, w1, w2, g1, g2, g3⟩ := one_w (x := f_C_wipe N w) (G := fun b => f_M_wipe b) h (r_C_wipe N w) (fun b => r_M_wipe b) (by decide) (by decide) (fun b hb => q_wipe hN1 hb)
      rw [if_pos c1, g1, bnd]
      dsimp only
      rw [g2, bnd, if_pos rfl]
      exact ih6 _ g3
    rw [if_neg c1]
    by_cases c2 : (e_xs E (ix (nI i)) &&& 63) = 2
    · obtain ⟨r, w1, w2, g1, g2, g3⟩ := one_w (x := f_C_undo N w) (G := fun b => f_M_undo b) h (r_C_undo N w) (fun b => r_M_undo b) (by decide) (by decide) (fun b hb => q_undo hN1 hb)
      rw [if_pos c2, g1, bnd]
      dsimp only
      rw [g2, bnd, if_pos rfl]
      exact ih6 _ g3
    rw [if_neg c2]
    by_cases c3 : (e_xs E (ix (nI i)) &&& 63) = 3
    · obtain ⟨b', g1, g2⟩ := q_fault h
      rw [if_pos c3, g1, bnd, if_pos rfl]
      exact ih6 _ (g2.exA ((r_M_fault N w _ _ g1).lo (by decide)))
    rw [if_neg c3]
    by_cases c4 : (e_xs E (ix (nI i)) &&& 63) = 4
    · obtain ⟨r, w1, w2, g1, g2, g3⟩ := one_w (x := f_C_stick (e_xs E (ix (nI i + 1))) (e_xs E (ix (nI i + 2))) (e_xs E (ix (nI i + 3))) w) (G := fun b => f_M_stick (e_xs E (ix (nI i + 1))) (e_xs E (ix (nI i + 2))) (e_xs E (ix (nI i + 3))) b) h (r_C_stick (e_xs E (ix (nI i + 1))) (e_xs E (ix (nI i + 2))) (e_xs E (ix (nI i + 3))) w) (fun b => r_M_stick (e_xs E (ix (nI i + 1))) (e_xs E (ix (nI i + 2))) (e_xs E (ix (nI i + 3))) b) (by decide) (by decide) (fun b hb => q_stick hb)
      rw [if_pos c4, if_pos b1, if_pos b2, if_pos b3, g1, bnd]
      dsimp only
      rw [if_pos b1, if_pos b2, if_pos b3, g2, bnd, if_pos rfl]
      exact ih6 _ g3
    rw [if_neg c4]
    by_cases c5 : (e_xs E (ix (nI i)) &&& 63) = 5
    · obtain ⟨r, w1, w2, g1, g2, g3⟩ := one_w (x := f_C_set (e_xs E (ix (nI i + 1))) (e_xs E (ix (nI i + 2))) w) (G := fun b => f_M_set (e_xs E (ix (nI i + 1))) (e_xs E (ix (nI i + 2))) b) h (r_C_set (e_xs E (ix (nI i + 1))) (e_xs E (ix (nI i + 2))) w) (fun b => r_M_set (e_xs E (ix (nI i + 1))) (e_xs E (ix (nI i + 2))) b) (by decide) (by decide) (fun b hb => q_set hb)
      rw [if_pos c5, if_pos b1, if_pos b2, g1, bnd]
      dsimp only
      rw [if_pos b1, if_pos b2, g2, bnd, if_pos rfl]
      exact ih6 _ g3
    rw [if_neg c5]
    by_cases c6 : (e_xs E (ix (nI i)) &&& 63) = 6
    · obtain ⟨r, w1, w2, g1, g2, g3⟩ := one_w (x := f_C_seed (e_xs E (ix (nI i + 1))) w) (G := fun b => f_M_seed (e_xs E (ix (nI i + 1))) b) h (r_C_seed (e_xs E (ix (nI i + 1))) w) (fun b => r_M_seed (e_xs E (ix (nI i + 1))) b) (by decide) (by decide) (fun b hb => q_seed hb)
      rw [if_pos c6, if_pos b1, g1, bnd]
      dsimp only
      rw [if_pos b1, g2, bnd, if_pos rfl]
      exact ih6 _ g3
    rw [if_neg c6]
    by_cases c7 : (e_xs E (ix (nI i)) &&& 63) = 7
    · obtain ⟨r, w1, w2, g1, g2, g3⟩ := one_w (x := f_C_stands (e_xs E (ix (nI i + 1))) (e_xs E (ix (nI i + 2))) w) (G := fun b => f_M_stands (e_xs E (ix (nI i + 1))) (e_xs E (ix (nI i + 2))) b) h (r_C_stands (e_xs E (ix (nI i + 1))) (e_xs E (ix (nI i + 2))) w) (fun b => r_M_stands (e_xs E (ix (nI i + 1))) (e_xs E (ix (nI i + 2))) b) (by decide) (by decide) (fun b hb => q_stands hb)
      rw [if_pos c7, if_pos b1, if_pos b2, g1, bnd]
      dsimp only
      rw [if_pos b1, if_pos b2, g2, bnd, if_pos rfl]
      exact ih6 _ g3
    rw [if_neg c7]
    by_cases c8 : (e_xs E (ix (nI i)) &&& 63) = 8
    · obtain ⟨r, w1, w2, g1, g2, g3⟩ := one_w (x := f_C_read N (e_xs E (ix (nI i + 1))) w) (G := fun b => f_M_read N (e_xs E (ix (nI i + 1))) b) h (r_C_read N (e_xs E (ix (nI i + 1))) w) (fun b => r_M_read N (e_xs E (ix (nI i + 1))) b) (by decide) (by decide) (fun b hb => q_read hN1 hb)
      rw [if_pos c8, if_pos b1, g1, bnd]
      dsimp only
      rw [if_pos b1, g2, bnd, if_pos rfl]
      exact ih6 _ g3
    rw [if_neg c8]
    by_cases c9 : (e_xs E (ix (nI i)) &&& 63) = 9
    · obtain ⟨r, w1, w2, g1, g2, g3⟩ := one_w (x := f_C_toss (e_xs E (ix (nI i + 1))) (e_xs E (ix (nI i + 2))) (e_xs E (ix (nI i + 3))) w) (G := fun b => f_M_toss (e_xs E (ix (nI i + 1))) (e_xs E (ix (nI i + 2))) (e_xs E (ix (nI i + 3))) b) h (r_C_toss (e_xs E (ix (nI i + 1))) (e_xs E (ix (nI i + 2))) (e_xs E (ix (nI i + 3))) w) (fun b => r_M_toss (e_xs E (ix (nI i + 1))) (e_xs E (ix (nI i + 2))) (e_xs E (ix (nI i + 3))) b) (by decide) (by decide) (fun b hb => q_toss hb)
      rw [if_pos c9, if_pos b1, if_pos b2, if_pos b3, g1, bnd]
      dsimp only
      rw [if_pos b1, if_pos b2, if_pos b3, g2, bnd, if_pos rfl]
      exact ih6 _ g3
    rw [if_neg c9]
    by_cases c10 : (e_xs E (ix (nI i)) &&& 63) = 10
    · obtain ⟨r, w1, w2, g1, g2, g3⟩ := one_w (x := f_C_back w) (G := fun b => f_M_back b) h (r_C_back w) (fun b => r_M_back b) (by decide) (by decide) (fun b hb => q_back hb)
      rw [if_pos c10, g1, bnd]
      dsimp only
      rw [g2, bnd, if_pos rfl]
      exact ih6 _ g3
    rw [if_neg c10]
    by_cases c11 : (e_xs E (ix (nI i)) &&& 63) = 11
    · obtain ⟨r, w1, w2, g1, g2, g3⟩ := one_w (x := f_C_judged N w) (G := fun b => f_M_judged N b) h (r_C_judged N w) (fun b => r_M_judged N b) (by decide) (by decide) (fun b hb => q_judged hN1 hb)
      rw [if_pos c11, g1, bnd]
      dsimp only
      rw [g2, bnd, if_pos rfl]
      exact ih6 _ g3
    rw [if_neg c11]
    by_cases c12 : (e_xs E (ix (nI i)) &&& 63) = 12
    · obtain ⟨r, w1, w2, g1, g2, g3⟩ := one_w (x := f_C_state N (e_xs E (ix (nI i + 1))) (e_xs E (ix (nI i + 2))) w) (G := fun b => f_M_state N (e_xs E (ix (nI i + 1))) (e_xs E (ix (nI i + 2))) b) h (r_C_state N (e_xs E (ix (nI i + 1))) (e_xs E (ix (nI i + 2))) w) (fun b => r_M_state N (e_xs E (ix (nI i + 1))) (e_xs E (ix (nI i + 2))) b) (by decide) (by decide) (fun b hb => q_state hN1 hb)
      rw [if_pos c12, if_pos b1, if_pos b2, g1, bnd]
      dsimp only
      rw [if_pos b1, if_pos b2, g2, bnd, if_pos rfl]
      exact ih6 _ g3
    rw [if_neg c12]
    by_cases c13 : (e_xs E (ix (nI i)) &&& 63) = 13
    · obtain ⟨r, w1, w2, g1, g2, g3⟩ := one_w (x := f_C_hangs N (e_xs E (ix (nI i + 1))) w) (G := fun b => f_M_hangs N (e_xs E (ix (nI i + 1))) b) h (r_C_hangs N (e_xs E (ix (nI i + 1))) w) (fun b => r_M_hangs N (e_xs E (ix (nI i + 1))) b) (by decide) (by decide) (fun b hb => q_hangs hN1 hb)
      rw [if_pos c13, if_pos b1, g1, bnd]
      dsimp only
      rw [if_pos b1, g2, bnd, if_pos rfl]
      exact ih6 _ g3
    rw [if_neg c13]
    by_cases c14 : (e_xs E (ix (nI i)) &&& 63) = 14
    · obtain ⟨r, w1, w2, g1, g2, g3⟩ := one_w (x := f_C_has N (e_xs E (ix (nI i + 1))) w) (G := fun b => f_M_has N (e_xs E (ix (nI i + 1))) b) h (r_C_has N (e_xs E (ix (nI i + 1))) w) (fun b => r_M_has N (e_xs E (ix (nI i + 1))) b) (by decide) (by decide) (fun b hb => q_has hN1 hb)
      rw [if_pos c14, if_pos b1, g1, bnd]
      dsimp only
      rw [if_pos b1, g2, bnd, if_pos rfl]
      exact ih6 _ g3
    rw [if_neg c14]
    by_cases c15 : (e_xs E (ix (nI i)) &&& 63) = 15
    · obtain ⟨r, w1, w2, g1, g2, g3⟩ := one_w (x := f_C_brings N (e_xs E (ix (nI i + 1))) (e_xs E (ix (nI i + 2))) (e_xs E (ix (nI i + 3))) w) (G := fun b => f_M_brings N (e_xs E (ix (nI i + 1))) (e_xs E (ix (nI i + 2))) (e_xs E (ix (nI i + 3))) b) h (r_C_brings N (e_xs E (ix (nI i + 1))) (e_xs E (ix (nI i + 2))) (e_xs E (ix (nI i + 3))) w) (fun b => r_M_brings N (e_xs E (ix (nI i + 1))) (e_xs E (ix (nI i + 2))) (e_xs E (ix (nI i + 3))) b) (by decide) (by decide) (fun b hb => (by obtain ⟨r, a', b', g1, g2, -, g3, -⟩ := q_brings hN hb; exact ⟨r, a', b', g1, g2, g3⟩))
      rw [if_pos c15, if_pos b1, if_pos b2, if_pos b3, g1, bnd]
      dsimp only
      rw [if_pos b1, if_pos b2, if_pos b3, g2, bnd, if_pos (cmp_rf _)]
      exact ih6 _ g3
    rw [if_neg c15]
    by_cases c16 : (e_xs E (ix (nI i)) &&& 63) = 16
    · obtain ⟨r, w1, w2, g1, g2, g3⟩ := one_w (x := f_C_worth N (e_xs E (ix (nI i + 1))) (e_xs E (ix (nI i + 2))) w) (G := fun b => f_M_worth N (e_xs E (ix (nI i + 1))) (e_xs E (ix (nI i + 2))) b) h (r_C_worth N (e_xs E (ix (nI i + 1))) (e_xs E (ix (nI i + 2))) w) (fun b => r_M_worth N (e_xs E (ix (nI i + 1))) (e_xs E (ix (nI i + 2))) b) (by decide) (by decide) (fun b hb => (by obtain ⟨r, a', b', g1, g2, -, g3, -⟩ := q_worth hN1 hb; exact ⟨r, a', b', g1, g2, g3⟩))
      rw [if_pos c16, if_pos b1, if_pos b2, g1, bnd]
      dsimp only
      rw [if_pos b1, if_pos b2, g2, bnd, if_pos rfl]
      exact ih6 _ g3
    rw [if_neg c16]
    by_cases c17 : (e_xs E (ix (nI i)) &&& 63) = 17
    · obtain ⟨r, w1, w2, g1, g2, g3⟩ := one_w (x := f_C_where N (e_xs E (ix (nI i + 1))) w) (G := fun b => f_M_where N (e_xs E (ix (nI i + 1))) b) h (r_C_where N (e_xs E (ix (nI i + 1))) w) (fun b => r_M_where N (e_xs E (ix (nI i + 1))) b) (by decide) (by decide) (fun b hb => q_where hN1 hb)
      rw [if_pos c17, if_pos b1, g1, bnd]
      dsimp only
      rw [if_pos b1, g2, bnd, if_pos rfl]
      exact ih6 _ g3
    rw [if_neg c17]
    by_cases c18 : (e_xs E (ix (nI i)) &&& 63) = 18
    · obtain ⟨r, w1, w2, g1, g2, g3⟩ := one_w (x := f_C_which N w) (G := fun b => f_M_which N b) h (r_C_which N w) (fun b => r_M_which N b) (by decide) (by decide) (fun b hb => q_which hN1 hb)
      rw [if_pos c18, g1, bnd]
      dsimp only
      rw [g2, bnd, if_pos rfl]
      exact ih6 _ g3
    rw [if_neg c18]
    by_cases c19 : (e_xs E (ix (nI i)) &&& 63) = 19
    · obtain ⟨r, w1, w2, g1, g2, g3⟩ := one_w (x := f_C_frees N (e_xs E (ix (nI i + 1))) (e_xs E (ix (nI i + 2))) (e_xs E (ix (nI i + 3))) w) (G := fun b => f_M_frees N (e_xs E (ix (nI i + 1))) (e_xs E (ix (nI i + 2))) (e_xs E (ix (nI i + 3))) b) h (r_C_frees N (e_xs E (ix (nI i + 1))) (e_xs E (ix (nI i + 2))) (e_xs E (ix (nI i + 3))) w) (fun b => r_M_frees N (e_xs E (ix (nI i + 1))) (e_xs E (ix (nI i + 2))) (e_xs E (ix (nI i + 3))) b) (by decide) (by decide) (fun b hb => (by obtain ⟨r, a', b', g1, g2, -, g3, -⟩ := q_frees hN1 hb; exact ⟨r, a', b', g1, g2, g3⟩))
      rw [if_pos c19, if_pos b1, if_pos b2, if_pos b3, g1, bnd]
      dsimp only
      rw [if_pos b1, if_pos b2, if_pos b3, g2, bnd, if_pos rfl]
      exact ih6 _ g3
    rw [if_neg c19]
    by_cases c20 : (e_xs E (ix (nI i)) &&& 63) = 20
    · obtain ⟨r, b', g1, g2, g3⟩ := q_lie (p := e_xs E (ix (nI i + 1))) (q := e_xs E (ix (nI i + 2))) hN h
      rw [if_pos c20, if_pos b1, if_pos b2, g1, bnd, if_pos b1, if_pos b2, g2, bnd, if_pos (cmp_rf _)]
      exact ih6 _ (g3.exA ((r_M_lie N (e_xs E (ix (nI i + 1))) (e_xs E (ix (nI i + 2))) w _ _ g2).lo (by decide)))
    rw [if_neg c20]
    by_cases c21 : (e_xs E (ix (nI i)) &&& 63) = 21
    · obtain ⟨r, b', g1, g2, g3⟩ := q_ripe (p := e_xs E (ix (nI i + 1))) hN1 h
      rw [if_pos c21, if_pos b1, g1, bnd, if_pos b1, g2, bnd, if_pos rfl]
      exact ih6 _ (g3.exA ((r_M_ripe N (e_xs E (ix (nI i + 1))) w _ _ g2).lo (by decide)))
    rw [if_neg c21]
    by_cases c22 : (e_xs E (ix (nI i)) &&& 63) = 22
    · obtain ⟨r, w1, w2, g1, g2, g3⟩ := one_w (x := f_C_rests N (e_xs E (ix (nI i + 1))) w) (G := fun b => f_M_rests N (e_xs E (ix (nI i + 1))) b) h (r_C_rests N (e_xs E (ix (nI i + 1))) w) (fun b => r_M_rests N (e_xs E (ix (nI i + 1))) b) (by decide) (by decide) (fun b hb => q_rests hN1 hb)
      rw [if_pos c22, if_pos b1, g1, bnd]
      dsimp only
      rw [if_pos b1, g2, bnd, if_pos rfl]
      exact ih6 _ g3
    rw [if_neg c22]
    by_cases c23 : (e_xs E (ix (nI i)) &&& 63) = 23
    · obtain ⟨r, w1, w2, g1, g2, g3⟩ := one_w (x := f_C_ends N (e_xs E (ix (nI i + 1))) (e_xs E (ix (nI i + 2))) w) (G := fun b => f_M_ends N (e_xs E (ix (nI i + 1))) (e_xs E (ix (nI i + 2))) b) h (r_C_ends N (e_xs E (ix (nI i + 1))) (e_xs E (ix (nI i + 2))) w) (fun b => r_M_ends N (e_xs E (ix (nI i + 1))) (e_xs E (ix (nI i + 2))) b) (by decide) (by decide) (fun b hb => q_ends hN1 hb)
      rw [if_pos c23, if_pos b1, if_pos b2, g1, bnd]
      dsimp only
      rw [if_pos b1, if_pos b2, g2, bnd, if_pos rfl]
      exact ih6 _ g3
    rw [if_neg c23]
    by_cases c24 : (e_xs E (ix (nI i)) &&& 63) = 24
    · obtain ⟨r, w1, w2, g1, g2, g3⟩ := one_w (x := f_C_thrower (e_xs E (ix (nI i + 1))) (e_xs E (ix (nI i + 2))) w) (G := fun b => f_M_thrower (e_xs E (ix (nI i + 1))) (e_xs E (ix (nI i + 2))) b) h (r_C_thrower (e_xs E (ix (nI i + 1))) (e_xs E (ix (nI i + 2))) w) (fun b => r_M_thrower (e_xs E (ix (nI i + 1))) (e_xs E (ix (nI i + 2))) b) (by decide) (by decide) (fun b hb => q_thrower hb)
      rw [if_pos c24, if_pos b1, if_pos b2, g1, bnd]
      dsimp only
      rw [if_pos b1, if_pos b2, g2, bnd, if_pos rfl]
      exact ih6 _ g3
    rw [if_neg c24]
    by_cases c25 : (e_xs E (ix (nI i)) &&& 63) = 25
    · obtain ⟨r, w1, w2, g1, g2, g3⟩ := one_w (x := f_C_gone w) (G := fun b => f_M_gone b) h (r_C_gone w) (fun b => r_M_gone b) (by decide) (by decide) (fun b hb => q_gone hb)
      rw [if_pos c25, g1, bnd]
      dsimp only
      rw [g2, bnd, if_pos rfl]
      exact ih6 _ g3
    rw [if_neg c25]
    by_cases c26 : (e_xs E (ix (nI i)) &&& 63) = 26
    · obtain ⟨r, g1, g2⟩ := q_run (p := e_xs E (ix (nI i + 1))) (q := e_xs E (ix (nI i + 2))) hN1 h
      rw [if_pos c26, if_pos b1, if_pos b2, g1, bnd, if_pos b1, if_pos b2, g2, bnd, if_pos rfl]
      exact ih6 _ h
    rw [if_neg c26]
    by_cases c27 : (e_xs E (ix (nI i)) &&& 63) = 27
    · obtain ⟨r, g1, g2⟩ := q_hit (p := e_xs E (ix (nI i + 1))) (q := e_xs E (ix (nI i + 2))) hN1 h
      rw [if_pos c27, if_pos b1, if_pos b2, g1, bnd, if_pos b1, if_pos b2, g2, bnd, if_pos rfl]
      exact ih6 _ h
    rw [if_neg c27]
    by_cases c28 : (e_xs E (ix (nI i)) &&& 63) = 28
    · obtain ⟨r, w1, w2, g1, g2, g3⟩ := one_w (x := f_C_seen (e_xs E (ix (nI i + 1))) (e_xs E (ix (nI i + 2))) w) (G := fun b => f_M_seen (e_xs E (ix (nI i + 1))) (e_xs E (ix (nI i + 2))) b) h (r_C_seen (e_xs E (ix (nI i + 1))) (e_xs E (ix (nI i + 2))) w) (fun b => r_M_seen (e_xs E (ix (nI i + 1))) (e_xs E (ix (nI i + 2))) b) (by decide) (by decide) (fun b hb => q_seen hb)
      rw [if_pos c28, if_pos b1, if_pos b2, g1, bnd]
      dsimp only
      rw [if_pos b1, if_pos b2, g2, bnd, if_pos rfl]
      exact ih6 _ g3
    rw [if_neg c28]
    by_cases c29 : (e_xs E (ix (nI i)) &&& 63) = 29
    · obtain ⟨r, w1, w2, g1, g2, g3⟩ := one_w (x := f_C_forget w) (G := fun b => f_M_forget b) h (r_C_forget w) (fun b => r_M_forget b) (by decide) (by decide) (fun b hb => q_forget hb)
      rw [if_pos c29, g1, bnd]
      dsimp only
      rw [g2, bnd, if_pos rfl]
      exact ih6 _ g3
    rw [if_neg c29]
    by_cases c30 : (e_xs E (ix (nI i)) &&& 63) = 30
    · obtain ⟨r, w1, w2, g1, g2, g3⟩ := one_w (x := f_C_seeds N w) (G := fun b => f_M_seeds N b) h (r_C_seeds N w) (fun b => r_M_seeds N b) (by decide) (by decide) (fun b hb => q_seeds hN1 hb)
      rw [if_pos c30, g1, bnd]
      dsimp only
      rw [g2, bnd, if_pos rfl]
      exact ih6 _ g3
    rw [if_neg c30]
    by_cases c31 : (e_xs E (ix (nI i)) &&& 63) = 31
    · obtain ⟨r, w1, w2, g1, g2, g3⟩ := one_w (x := f_C_sheet N (e_xs E (ix (nI i + 1))) (e_xs E (ix (nI i + 2))) (e_xs E (ix (nI i + 3))) w) (G := fun b => f_M_sheet N (e_xs E (ix (nI i + 1))) (e_xs E (ix (nI i + 2))) (e_xs E (ix (nI i + 3))) b) h (r_C_sheet N (e_xs E (ix (nI i + 1))) (e_xs E (ix (nI i + 2))) (e_xs E (ix (nI i + 3))) w) (fun b => r_M_sheet N (e_xs E (ix (nI i + 1))) (e_xs E (ix (nI i + 2))) (e_xs E (ix (nI i + 3))) b) (by decide) (by decide) (fun b hb => q_sheet hN1 hb)
      rw [if_pos c31, if_pos b1, if_pos b2, if_pos b3, g1, bnd]
      dsimp only
      rw [if_pos b1, if_pos b2, if_pos b3, g2, bnd, if_pos rfl]
      exact ih6 _ g3
    rw [if_neg c31]
    by_cases c32 : (e_xs E (ix (nI i)) &&& 63) = 32
    · obtain ⟨r, w1, w2, g1, g2, g3⟩ := one_w (x := f_C_lose (e_xs E (ix (nI i + 1))) w) (G := fun b => f_M_lose (e_xs E (ix (nI i + 1))) b) h (r_C_lose (e_xs E (ix (nI i + 1))) w) (fun b => r_M_lose (e_xs E (ix (nI i + 1))) b) (by decide) (by decide) (fun b hb => q_lose hb)
      rw [if_pos c32, if_pos b1, g1, bnd]
      dsimp only
      rw [if_pos b1, g2, bnd, if_pos rfl]
      exact ih6 _ g3
    rw [if_neg c32]
    by_cases c33 : (e_xs E (ix (nI i)) &&& 63) = 33
    · obtain ⟨r, w1, w2, g1, g2, g3⟩ := one_w (x := f_C_lay (e_xs E (ix (nI i + 1))) (e_xs E (ix (nI i + 2))) (e_xs E (ix (nI i + 3))) (e_xs E (ix (nI i + 4))) w) (G := fun b => f_M_lay (e_xs E (ix (nI i + 1))) (e_xs E (ix (nI i + 2))) (e_xs E (ix (nI i + 3))) (e_xs E (ix (nI i + 4))) b) h (r_C_lay (e_xs E (ix (nI i + 1))) (e_xs E (ix (nI i + 2))) (e_xs E (ix (nI i + 3))) (e_xs E (ix (nI i + 4))) w) (fun b => r_M_lay (e_xs E (ix (nI i + 1))) (e_xs E (ix (nI i + 2))) (e_xs E (ix (nI i + 3))) (e_xs E (ix (nI i + 4))) b) (by decide) (by decide) (fun b hb => q_lay hb)
      rw [if_pos c33, if_pos b1, if_pos b2, if_pos b3, if_pos b4, g1, bnd]
      dsimp only
      rw [if_pos b1, if_pos b2, if_pos b3, if_pos b4, g2, bnd, if_pos rfl]
      exact ih6 _ g3
    rw [if_neg c33]
    by_cases c34 : (e_xs E (ix (nI i)) &&& 63) = 34
    · obtain ⟨r, w1, w2, g1, g2, g3⟩ := one_w (x := f_C_get (e_xs E (ix (nI i + 1))) (e_xs E (ix (nI i + 2))) (e_xs E (ix (nI i + 3))) w) (G := fun b => f_M_get (e_xs E (ix (nI i + 1))) (e_xs E (ix (nI i + 2))) (e_xs E (ix (nI i + 3))) b) h (r_C_get (e_xs E (ix (nI i + 1))) (e_xs E (ix (nI i + 2))) (e_xs E (ix (nI i + 3))) w) (fun b => r_M_get (e_xs E (ix (nI i + 1))) (e_xs E (ix (nI i + 2))) (e_xs E (ix (nI i + 3))) b) (by decide) (by decide) (fun b hb => q_get hb)
      rw [if_pos c34, if_pos b1, if_pos b2, if_pos b3, g1, bnd]
      dsimp only
      rw [if_pos b1, if_pos b2, if_pos b3, g2, bnd, if_pos rfl]
      exact ih6 _ g3
    rw [if_neg c34]
    by_cases c35 : (e_xs E (ix (nI i)) &&& 63) = 35
    · obtain ⟨r, w1, w2, g1, g2, g3⟩ := one_w (x := f_C_copy N (e_xs E (ix (nI i + 1))) (e_xs E (ix (nI i + 2))) (e_xs E (ix (nI i + 3))) (e_xs E (ix (nI i + 4))) (e_xs E (ix (nI i + 5))) w) (G := fun b => f_M_copy N (e_xs E (ix (nI i + 1))) (e_xs E (ix (nI i + 2))) (e_xs E (ix (nI i + 3))) (e_xs E (ix (nI i + 4))) (e_xs E (ix (nI i + 5))) b) h (r_C_copy N (e_xs E (ix (nI i + 1))) (e_xs E (ix (nI i + 2))) (e_xs E (ix (nI i + 3))) (e_xs E (ix (nI i + 4))) (e_xs E (ix (nI i + 5))) w) (fun b => r_M_copy N (e_xs E (ix (nI i + 1))) (e_xs E (ix (nI i + 2))) (e_xs E (ix (nI i + 3))) (e_xs E (ix (nI i + 4))) (e_xs E (ix (nI i + 5))) b) (by decide) (by decide) (fun b hb => q_copy hN1 hb)
      rw [if_pos c35, if_pos b1, if_pos b2, if_pos b3, if_pos b4, if_pos b5, g1, bnd]
      dsimp only
      rw [if_pos b1, if_pos b2, if_pos b3, if_pos b4, if_pos b5, g2, bnd, if_pos rfl]
      exact ih6 _ g3
    rw [if_neg c35]
    by_cases c36 : (e_xs E (ix (nI i)) &&& 63) = 36
    · obtain ⟨r, w1, w2, g1, g2, g3⟩ := one_w (x := f_C_write N (e_xs E (ix (nI i + 1))) w) (G := fun b => f_M_write N (e_xs E (ix (nI i + 1))) b) h (r_C_write N (e_xs E (ix (nI i + 1))) w) (fun b => r_M_write N (e_xs E (ix (nI i + 1))) b) (by decide) (by decide) (fun b hb => q_write hN1 hb)
      rw [if_pos c36, if_pos b1, g1, bnd]
      dsimp only
      rw [if_pos b1, g2, bnd, if_pos rfl]
      exact ih6 _ g3
    rw [if_neg c36]
    by_cases c37 : (e_xs E (ix (nI i)) &&& 63) = 37
    · obtain ⟨r, w1, w2, g1, g2, g3⟩ := one_w (x := f_C_count N (e_xs E (ix (nI i + 1))) w) (G := fun b => f_M_count N (e_xs E (ix (nI i + 1))) b) h (r_C_count N (e_xs E (ix (nI i + 1))) w) (fun b => r_M_count N (e_xs E (ix (nI i + 1))) b) (by decide) (by decide) (fun b hb => (by obtain ⟨r, a', b', g1, g2, -, g3, -⟩ := q_count hN1 hb; exact ⟨r, a', b', g1, g2, g3⟩))
      rw [if_pos c37, if_pos b1, g1, bnd]
      dsimp only
      rw [if_pos b1, g2, bnd, if_pos rfl]
      exact ih6 _ g3
    rw [if_neg c37]
    by_cases c38 : (e_xs E (ix (nI i)) &&& 63) = 38
    · obtain ⟨r, w1, w2, g1, g2, g3⟩ := one_w (x := f_C_digest N w) (G := fun b => f_M_digest N b) h (r_C_digest N w) (fun b => r_M_digest N b) (by decide) (by decide) (fun b hb => q_digest hN hb)
      rw [if_pos c38, g1, bnd]
      dsimp only
      rw [g2, bnd, if_pos (cmp_rf _)]
      exact ih6 _ g3
    rw [if_neg c38]
    exact ih6 _ h
