/-! which places a function may write -/
def nw (L : List (Nat × Option Nat)) (c i : Nat) : Prop := ∀ e ∈ L, ¬ (e.1 = c ∧ (e.2 = none ∨ e.2 = some i))
def FA (L : List (Nat × Option Nat)) (a a' : aT) : Prop := ∀ c i, nw L c i → a' c i = a c i
def FR {ρ : Type} (L : List (Nat × Option Nat)) (a : aT) (o : Option (ρ × aT)) : Prop := ∀ v a2, o = some (v, a2) → FA L a a2
theorem FA_rf {L : List (Nat × Option Nat)} {a : aT} : FA L a a := fun _ _ _ => rfl
theorem upA_get (a : aT) (c i : Nat) (v : Int32) (k j : Nat) : upA a c i v k j = if k = c then (if j = i then v else a k j) else a k j := by
  by_cases h : k = c
  · subst h
    rw [upA_eq, if_pos rfl]
    rfl
  · rw [upA_ne h, if_neg h]
theorem FA_upN {L : List (Nat × Option Nat)} {a x : aT} (h : FA L a x) {c i : Nat} {v : Int32} (hm : (c, none) ∈ L) : FA L a (upA x c i v) := by
  intro k j hk
  rw [upA_get, if_neg, h k j hk]
  intro q
  exact hk _ hm ⟨q.symm, Or.inl rfl⟩
theorem FA_upS {L : List (Nat × Option Nat)} {a x : aT} (h : FA L a x) {c i : Nat} {v : Int32} (hm : (c, some i) ∈ L) : FA L a (upA x c i v) := by
  intro k j hk
  rw [upA_get]
  by_cases h1 : k = c
  · rw [if_pos h1, if_neg, h k j hk]
    intro q
    exact hk _ hm ⟨h1.symm, Or.inr (by rw [q])⟩
  · rw [if_neg h1, h k j hk]
theorem FA_tr {L L' : List (Nat × Option Nat)} {a x y : aT} (h : FA L a x) (h2 : FA L' x y) (hs : ∀ e ∈ L', e ∈ L) : FA L a y := by
  intro c i hc
  rw [h2 c i (fun e he => hc e (hs e he)), h c i hc]
theorem FR_so {ρ : Type} {L : List (Nat × Option Nat)} {a a' : aT} {v : ρ} (h : FA L a a') : FR L a (some (v, a')) := by
  intro v2 a2 q
  cases q
  exact h
theorem FR_no {ρ : Type} {L : List (Nat × Option Nat)} {a : aT} : FR L a (none : Option (ρ × aT)) := fun _ _ q => by cases q
theorem FR_if {ρ : Type} {L : List (Nat × Option Nat)} {a : aT} {c : Prop} [Decidable c] {o1 o2 : Option (ρ × aT)} (h1 : FR L a o1) (h2 : FR L a o2) : FR L a (if c then o1 else o2) := by
  by_cases hc : c
  · rw [if_pos hc]; exact h1
  · rw [if_neg hc]; exact h2
theorem FR_bI {ρ ρ' : Type} {L L' : List (Nat × Option Nat)} {a x : aT} {o : Option (ρ' × aT)} {f : ρ' × aT → Option (ρ × aT)} (h : FA L a x) (ho : FR L' x o) (hs : ∀ e ∈ L', e ∈ L) (hf : ∀ q, FA L a q.2 → FR L a (f q)) : FR L a (o.bind f) := by
  intro v a2 q
  obtain ⟨⟨v9, a9⟩, h9, h10⟩ := Option.bind_eq_some_iff.mp q
  exact hf (v9, a9) (FA_tr h (ho v9 a9 h9) hs) v a2 h10
theorem FR_bP {ρ ρ' : Type} {L : List (Nat × Option Nat)} {a : aT} {o : Option ρ'} {f : ρ' → Option (ρ × aT)} (hf : ∀ q, FR L a (f q)) : FR L a (o.bind f) := by
  intro v a2 q
  obtain ⟨v9, h9, h10⟩ := Option.bind_eq_some_iff.mp q
  exact hf v9 v a2 h10
theorem FR_at {ρ : Type} {L : List (Nat × Option Nat)} {a x : aT} {o : Option (ρ × aT)} (h : FA L a x) (ho : FR L x o) : FR L a o := fun v a2 q => FA_tr h (ho v a2 q) (fun _ h => h)
abbrev w_E_clearCells : List (Nat × Option Nat) := [(3, none)]
set_option maxRecDepth 100000 in
theorem r_E_clearCells_2 (N : Nat) : ∀ (n : Nat) (x1 : Int32) (a : aT), FR w_E_clearCells a (f_E_clearCells_2 N n x1 a)
  | 0, _, _ => FR_no
  | n + 1, x1, a => by
    refine FR_if ?_ ?_
    · exact FR_so FA_rf
    · refine FR_if ?_ FR_no
      exact FR_at (FA_upN FA_rf (by decide)) (r_E_clearCells_2 N n (x1 + 1) (upA a 3 (ix x1) (-2)))
set_option maxRecDepth 100000 in
theorem r_E_clearCells (N : Nat) (a : aT) : FR w_E_clearCells a (f_E_clearCells N a) := by
  exact FR_at FA_rf (r_E_clearCells_2 N N 0 a)
abbrev w_E_fillCells : List (Nat × Option Nat) := [(3, none)]
set_option maxRecDepth 100000 in
theorem r_E_fillCells_139 (N : Nat) (x1 : Int32) (x2 : Int32) (x3 : Int32) (a : aT) : FR w_E_fillCells a (f_E_fillCells_139 N x1 x2 x3 a) := by
  refine FR_if ?_ ?_
  · exact FR_so FA_rf
  · refine FR_if ?_ ?_
    · exact FR_so FA_rf
    · exact FR_so FA_rf
set_option maxRecDepth 100000 in
theorem r_E_fillCells_10 (N : Nat) : ∀ (n : Nat) (x1 : Int32) (x2 : Int32) (x3 : Int32) (x4 : Int32) (a : aT), FR w_E_fillCells a (f_E_fillCells_10 N n x1 x2 x3 x4 a)
  | 0, _, _, _, _, _ => FR_no
  | n + 1, x1, x2, x3, x4, a => by
    refine FR_if ?_ ?_
    · exact FR_at FA_rf (r_E_fillCells_139 N x1 x2 x3 a)
    · refine FR_if ?_ ?_
      · exact FR_at FA_rf (r_E_fillCells_139 N x1 x2 x3 a)
      · refine FR_if ?_ FR_no
        refine FR_if ?_ ?_
        · refine FR_if ?_ ?_
          · refine FR_if ?_ ?_
            · exact FR_at FA_rf (r_E_fillCells_10 N n (x1 + 1) 0 x2 (x4 + 1) a)
            · exact FR_so FA_rf
          · refine FR_if ?_ ?_
            · exact FR_so FA_rf
            · refine FR_if ?_ ?_
              · exact FR_so FA_rf
              · refine FR_if ?_ ?_
                · exact FR_so FA_rf
                · refine FR_if ?_ ?_
                  · refine FR_if ?_ FR_no
                    exact FR_at (FA_upN FA_rf (by decide)) (r_E_fillCells_10 N n x1 (x2 + 1) x3 (x4 + 1) (upA a 3 (ix ((8 * x1) + x2)) (-1)))
                  · refine FR_if ?_ FR_no
                    exact FR_at (FA_upN FA_rf (by decide)) (r_E_fillCells_10 N n x1 (x2 + 1) x3 (x4 + 1) (upA a 3 (ix ((8 * x1) + x2)) ((a 2 (ix x4)) - 48)))
        · exact FR_so FA_rf
set_option maxRecDepth 100000 in
theorem r_E_fillCells (N : Nat) (a : aT) : FR w_E_fillCells a (f_E_fillCells N a) := by
  exact FR_at FA_rf (r_E_fillCells_10 N N 0 0 8 0 a)
abbrev w_E_parse : List (Nat × Option Nat) := [(1, some 3), (3, none)]
set_option maxRecDepth 100000 in
theorem r_E_parse (N : Nat) (a : aT) : FR w_E_parse a (f_E_parse N a) := by
  refine FR_bI FA_rf (r_E_clearCells N a) (by decide) (fun q1 hq1 => ?_)
  refine FR_bI hq1 (r_E_fillCells N q1.2) (by decide) (fun q2 hq2 => ?_)
  refine FR_if ?_ ?_
  · exact FR_so (FA_upS hq2 (by decide))
  · refine FR_bI (FA_upS hq2 (by decide)) (r_E_clearCells N (upA q2.2 1 3 q2.1)) (by decide) (fun q3 hq3 => ?_)
    exact FR_so hq3
abbrev w_E_append : List (Nat × Option Nat) := [(1, some 2), (1, some 3), (2, none), (3, none)]
set_option maxRecDepth 100000 in
theorem r_E_append (N : Nat) (p1 : Int32) (a : aT) : FR w_E_append a (f_E_append N p1 a) := by
  refine FR_if ?_ ?_
  · exact FR_so FA_rf
  · refine FR_if ?_ ?_
    · exact FR_so FA_rf
    · refine FR_if ?_ FR_no
      refine FR_bI (FA_upS (FA_upN FA_rf (by decide)) (by decide)) (r_E_parse N (upA (upA a 2 (ix (a 1 2)) p1) 1 2 ((a 1 2) + 1))) (by decide) (fun q3 hq3 => ?_)
      exact FR_so hq3
abbrev w_C_type : List (Nat × Option Nat) := [(1, some 2), (1, some 3), (2, none), (3, none)]
set_option maxRecDepth 100000 in
theorem r_C_type (N : Nat) (p1 : Int32) (a : aT) : FR w_C_type a (f_C_type N p1 a) := by
  refine FR_bI FA_rf (r_E_append N p1 a) (by decide) (fun q1 hq1 => ?_)
  exact FR_so hq1
abbrev w_M_type : List (Nat × Option Nat) := [(31, some 6), (36, none)]
set_option maxRecDepth 100000 in
theorem r_M_type (p1 : Int32) (a : aT) : FR w_M_type a (f_M_type p1 a) := by
  refine FR_if ?_ ?_
  · exact FR_so FA_rf
  · refine FR_if ?_ ?_
    · exact FR_so FA_rf
    · refine FR_if ?_ FR_no
      exact FR_so (FA_upS (FA_upN FA_rf (by decide)) (by decide))
abbrev w_E_empty : List (Nat × Option Nat) := [(1, some 2), (1, some 3), (3, none)]
set_option maxRecDepth 100000 in
theorem r_E_empty (N : Nat) (a : aT) : FR w_E_empty a (f_E_empty N a) := by
  refine FR_bI (FA_upS FA_rf (by decide)) (r_E_parse N (upA a 1 2 0)) (by decide) (fun q1 hq1 => ?_)
  exact FR_so hq1
abbrev w_C_wipe : List (Nat × Option Nat) := [(1, some 2), (1, some 3), (3, none)]
set_option maxRecDepth 100000 in
theorem r_C_wipe (N : Nat) (a : aT) : FR w_C_wipe a (f_C_wipe N a) := by
  refine FR_bI FA_rf (r_E_empty N a) (by decide) (fun q1 hq1 => ?_)
  exact FR_so hq1
abbrev w_M_wipe : List (Nat × Option Nat) := [(31, some 6)]
set_option maxRecDepth 100000 in
theorem r_M_wipe (a : aT) : FR w_M_wipe a (f_M_wipe a) := by
  exact FR_so (FA_upS FA_rf (by decide))
abbrev w_E_removeLast : List (Nat × Option Nat) := [(1, some 2), (1, some 3), (3, none)]
set_option maxRecDepth 100000 in
theorem r_E_removeLast (N : Nat) (a : aT) : FR w_E_removeLast a (f_E_removeLast N a) := by
  refine FR_if ?_ ?_
  · refine FR_bI (FA_upS FA_rf (by decide)) (r_E_parse N (upA a 1 2 ((a 1 2) - 1))) (by decide) (fun q1 hq1 => ?_)
    exact FR_so hq1
  · exact FR_so FA_rf
abbrev w_C_undo : List (Nat × Option Nat) := [(1, some 2), (1, some 3), (3, none)]
set_option maxRecDepth 100000 in
theorem r_C_undo (N : Nat) (a : aT) : FR w_C_undo a (f_C_undo N a) := by
  refine FR_bI FA_rf (r_E_removeLast N a) (by decide) (fun q1 hq1 => ?_)
  exact FR_so hq1
abbrev w_M_undo : List (Nat × Option Nat) := [(31, some 6)]
set_option maxRecDepth 100000 in
theorem r_M_undo (a : aT) : FR w_M_undo a (f_M_undo a) := by
  refine FR_if ?_ ?_
  · exact FR_so FA_rf
  · exact FR_so (FA_upS FA_rf (by decide))
abbrev w_M_clears : List (Nat × Option Nat) := [(31, some 10), (31, some 11), (37, none), (38, none)]
set_option maxRecDepth 100000 in
theorem r_M_clears_2 (N : Nat) : ∀ (n : Nat) (x1 : Int32) (a : aT), FR w_M_clears a (f_M_clears_2 N n x1 a)
  | 0, _, _ => FR_no
  | n + 1, x1, a => by
    refine FR_if ?_ ?_
    · exact FR_so (FA_upS (FA_upS FA_rf (by decide)) (by decide))
    · refine FR_if ?_ FR_no
      refine FR_if ?_ FR_no
      exact FR_at (FA_upN (FA_upN FA_rf (by decide)) (by decide)) (r_M_clears_2 N n (x1 + 1) (upA (upA a 37 (ix x1) 0) 38 (ix x1) (-1)))
set_option maxRecDepth 100000 in
theorem r_M_clears (N : Nat) (a : aT) : FR w_M_clears a (f_M_clears N a) := by
  exact FR_at FA_rf (r_M_clears_2 N N 0 a)
abbrev w_M_readsRow : List (Nat × Option Nat) := [(31, some 7), (31, some 10), (31, some 11), (37, none), (38, none)]
set_option maxRecDepth 100000 in
theorem r_M_readsRow_90 (N : Nat) (k19 : Int32 → Int32 → aT → Option (Int32 × aT)) (h19 : ∀ (x1 : Int32) (x2 : Int32) (a : aT), FR w_M_readsRow a (k19 x1 x2 a)) (x1 : Int32) (x2 : Int32) (x3 : Int32) (a : aT) : FR w_M_readsRow a (f_M_readsRow_90 N k19 x1 x2 x3 a) := by
  refine FR_if ?_ FR_no
  refine FR_if ?_ ?_
  · refine FR_if ?_ FR_no
    exact FR_at (FA_upS (FA_upN (FA_upN FA_rf (by decide)) (by decide)) (by decide)) (h19 (x1 + 1) x2 (upA (upA (upA a 37 (ix ((8 * (a 31 10)) + x1)) 1) 38 (ix ((8 * (a 31 10)) + x1)) (-1)) 31 7 ((a 31 7) + 1)))
  · refine FR_if ?_ FR_no
    exact FR_at (FA_upS (FA_upN (FA_upN FA_rf (by decide)) (by decide)) (by decide)) (h19 (x1 + 1) x2 (upA (upA (upA a 37 (ix ((8 * (a 31 10)) + x1)) 1) 38 (ix ((8 * (a 31 10)) + x1)) (x3 - 48)) 31 7 ((a 31 7) + 1)))
set_option maxRecDepth 100000 in
theorem r_M_readsRow_149 (N : Nat) (x1 : Int32) (a : aT) : FR w_M_readsRow a (f_M_readsRow_149 N x1 a) := by
  refine FR_if ?_ ?_
  · exact FR_so FA_rf
  · refine FR_if ?_ ?_
    · exact FR_so (FA_upS (FA_upS FA_rf (by decide)) (by decide))
    · refine FR_if ?_ ?_
      · exact FR_so (FA_upS (FA_upS FA_rf (by decide)) (by decide))
      · exact FR_so FA_rf
set_option maxRecDepth 100000 in
theorem r_M_readsRow_19 (N : Nat) : ∀ (n : Nat) (x1 : Int32) (x2 : Int32) (a : aT), FR w_M_readsRow a (f_M_readsRow_19 N n x1 x2 a)
  | 0, _, _, _ => FR_no
  | n + 1, x1, x2, a => by
    refine FR_if ?_ ?_
    · exact FR_at FA_rf (r_M_readsRow_149 N x1 a)
    · refine FR_if ?_ FR_no
      refine FR_if ?_ ?_
      · exact FR_at FA_rf (r_M_readsRow_149 N x1 a)
      · refine FR_if ?_ FR_no
        refine FR_if ?_ ?_
        · exact FR_so FA_rf
        · refine FR_if ?_ ?_
          · exact FR_so FA_rf
          · refine FR_if ?_ ?_
            · exact FR_at FA_rf (r_M_readsRow_90 N (f_M_readsRow_19 N n) (r_M_readsRow_19 N n) x1 x2 (a 36 (ix (a 31 7))) a)
            · refine FR_if ?_ ?_
              · exact FR_so FA_rf
              · exact FR_at FA_rf (r_M_readsRow_90 N (f_M_readsRow_19 N n) (r_M_readsRow_19 N n) x1 x2 (a 36 (ix (a 31 7))) a)
set_option maxRecDepth 100000 in
theorem r_M_readsRow (N : Nat) (a : aT) : FR w_M_readsRow a (f_M_readsRow N a) := by
  refine FR_if ?_ ?_
  · exact FR_at FA_rf (r_M_readsRow_19 N N 0 8 a)
  · exact FR_at FA_rf (r_M_readsRow_19 N N 0 (a 31 11) a)
abbrev w_M_reads : List (Nat × Option Nat) := [(31, some 7), (31, some 10), (31, some 11), (37, none), (38, none)]
set_option maxRecDepth 100000 in
theorem r_M_reads_58 (N : Nat) (k22 : Int32 → aT → Option (Int32 × aT)) (h22 : ∀ (x1 : Int32) (a : aT), FR w_M_reads a (k22 x1 a)) (y1 : Int32) (a : aT) : FR w_M_reads a (f_M_reads_58 N k22 y1 a) := by
  refine FR_if ?_ ?_
  · exact FR_at (FA_upS FA_rf (by decide)) (h22 y1 (upA a 31 7 ((a 31 7) + 0)))
  · exact FR_at (FA_upS FA_rf (by decide)) (h22 y1 (upA a 31 7 ((a 31 7) + 1)))
set_option maxRecDepth 100000 in
theorem r_M_reads_22 (N : Nat) : ∀ (n : Nat) (x1 : Int32) (a : aT), FR w_M_reads a (f_M_reads_22 N n x1 a)
  | 0, _, _ => FR_no
  | n + 1, x1, a => by
    refine FR_if ?_ ?_
    · exact FR_so FA_rf
    · refine FR_bI FA_rf (r_M_readsRow N a) (by decide) (fun q2 hq2 => ?_)
      refine FR_if ?_ ?_
      · refine FR_bI hq2 (r_M_clears N q2.2) (by decide) (fun q3 hq3 => ?_)
        exact FR_so hq3
      · refine FR_if ?_ ?_
        · exact FR_at hq2 (r_M_reads_58 N (f_M_reads_22 N n) (r_M_reads_22 N n) 0 q2.2)
        · exact FR_at hq2 (r_M_reads_58 N (f_M_reads_22 N n) (r_M_reads_22 N n) 1 q2.2)
set_option maxRecDepth 100000 in
theorem r_M_reads (N : Nat) (a : aT) : FR w_M_reads a (f_M_reads N a) := by
  refine FR_bI FA_rf (r_M_clears N a) (by decide) (fun q1 hq1 => ?_)
  refine FR_if ?_ ?_
  · exact FR_at (FA_upS hq1 (by decide)) (r_M_reads_22 N N 0 (upA q1.2 31 7 0))
  · exact FR_at (FA_upS hq1 (by decide)) (r_M_reads_22 N N 1 (upA q1.2 31 7 0))
abbrev w_M_fault : List (Nat × Option Nat) := [(31, some 7), (31, some 10), (31, some 11), (37, none), (38, none)]
set_option maxRecDepth 100000 in
theorem r_M_fault (N : Nat) (a : aT) : FR w_M_fault a (f_M_fault N a) := by
  refine FR_bI FA_rf (r_M_reads N a) (by decide) (fun q1 hq1 => ?_)
  exact FR_so hq1
abbrev w_T_change : List (Nat × Option Nat) := [(5, none)]
set_option maxRecDepth 100000 in
theorem r_T_change (p1 : Int32) (p2 : Int32) (p3 : Int32) (a : aT) : FR w_T_change a (f_T_change p1 p2 p3 a) := by
  refine FR_if ?_ ?_
  · exact FR_so FA_rf
  · refine FR_if ?_ ?_
    · exact FR_so FA_rf
    · refine FR_if ?_ FR_no
      refine FR_if ?_ ?_
      · exact FR_so FA_rf
      · refine FR_if ?_ FR_no
        refine FR_if ?_ ?_
        · refine FR_bP (fun q3 => ?_)
          refine FR_if ?_ FR_no
          exact FR_so (FA_upN FA_rf (by decide))
        · exact FR_so FA_rf
abbrev w_C_stick : List (Nat × Option Nat) := [(5, none)]
set_option maxRecDepth 100000 in
theorem r_C_stick (p1 : Int32) (p2 : Int32) (p3 : Int32) (a : aT) : FR w_C_stick a (f_C_stick p1 p2 p3 a) := by
  refine FR_bI FA_rf (r_T_change p1 p2 p3 a) (by decide) (fun q1 hq1 => ?_)
  exact FR_so hq1
abbrev w_M_stick : List (Nat × Option Nat) := [(39, none), (40, none), (41, none)]
set_option maxRecDepth 100000 in
theorem r_M_stick_139 (x1 : Int32) (x2 : Int32) (x3 : Int32) (x4 : Int32) (y3 : Int32) (y2 : Int32) (a : aT) : FR w_M_stick a (f_M_stick_139 x1 x2 x3 x4 y3 y2 a) := by
  refine FR_if ?_ FR_no
  refine FR_if ?_ ?_
  · refine FR_if ?_ FR_no
    exact FR_so (FA_upN (FA_upN FA_rf (by decide)) (by decide))
  · refine FR_if ?_ FR_no
    refine FR_if ?_ FR_no
    exact FR_so (FA_upN (FA_upN FA_rf (by decide)) (by decide))
set_option maxRecDepth 100000 in
theorem r_M_stick_118 (x1 : Int32) (x2 : Int32) (x3 : Int32) (x4 : Int32) (y3 : Int32) (y2 : Int32) (a : aT) : FR w_M_stick a (f_M_stick_118 x1 x2 x3 x4 y3 y2 a) := by
  refine FR_if ?_ FR_no
  refine FR_if ?_ ?_
  · exact FR_at (FA_upN FA_rf (by decide)) (r_M_stick_139 x1 x2 x3 x4 x3 x1 (upA a 39 (ix y2) y3))
  · refine FR_if ?_ FR_no
    exact FR_at (FA_upN FA_rf (by decide)) (r_M_stick_139 x1 x2 x3 x4 (a 40 (ix x1)) x1 (upA a 39 (ix y2) y3))
set_option maxRecDepth 100000 in
theorem r_M_stick_97 (x1 : Int32) (x2 : Int32) (x3 : Int32) (y1 : Int32) (a : aT) : FR w_M_stick a (f_M_stick_97 x1 x2 x3 y1 a) := by
  refine FR_if ?_ ?_
  · exact FR_at FA_rf (r_M_stick_118 x1 x2 x3 y1 x3 x1 a)
  · refine FR_if ?_ FR_no
    exact FR_at FA_rf (r_M_stick_118 x1 x2 x3 y1 (a 39 (ix x1)) x1 a)
set_option maxRecDepth 100000 in
theorem r_M_stick_55 (x1 : Int32) (x2 : Int32) (x3 : Int32) (y3 : Int64) (y2 : Int64) (y1 : Int64) (a : aT) : FR w_M_stick a (f_M_stick_55 x1 x2 x3 y3 y2 y1 a) := by
  refine FR_if ?_ ?_
  · exact FR_so FA_rf
  · refine FR_if ?_ ?_
    · refine FR_if ?_ FR_no
      exact FR_at FA_rf (r_M_stick_97 x1 x2 x3 (a 39 (ix x1)) a)
    · refine FR_if ?_ ?_
      · refine FR_if ?_ FR_no
        exact FR_at FA_rf (r_M_stick_97 x1 x2 x3 (a 40 (ix x1)) a)
      · refine FR_if ?_ FR_no
        exact FR_at FA_rf (r_M_stick_97 x1 x2 x3 (a 41 (ix x1)) a)
set_option maxRecDepth 100000 in
theorem r_M_stick_31 (x1 : Int32) (x2 : Int32) (x3 : Int32) (y2 : Int64) (y1 : Int64) (a : aT) : FR w_M_stick a (f_M_stick_31 x1 x2 x3 y2 y1 a) := by
  refine FR_if ?_ ?_
  · exact FR_at FA_rf (r_M_stick_55 x1 x2 x3 9 y2 y1 a)
  · refine FR_if ?_ ?_
    · exact FR_at FA_rf (r_M_stick_55 x1 x2 x3 3 y2 y1 a)
    · exact FR_at FA_rf (r_M_stick_55 x1 x2 x3 16 y2 y1 a)
set_option maxRecDepth 100000 in
theorem r_M_stick (p1 : Int32) (p2 : Int32) (p3 : Int32) (a : aT) : FR w_M_stick a (f_M_stick p1 p2 p3 a) := by
  refine FR_if ?_ ?_
  · exact FR_so FA_rf
  · refine FR_if ?_ ?_
    · exact FR_so FA_rf
    · refine FR_if ?_ ?_
      · exact FR_at FA_rf (r_M_stick_31 p1 p2 p3 0 p3.toInt64 a)
      · exact FR_at FA_rf (r_M_stick_31 p1 p2 p3 1 p3.toInt64 a)
abbrev w_R_change : List (Nat × Option Nat) := [(7, none)]
set_option maxRecDepth 100000 in
theorem r_R_change (p1 : Int32) (p2 : Int32) (a : aT) : FR w_R_change a (f_R_change p1 p2 a) := by
  refine FR_if ?_ ?_
  · exact FR_so FA_rf
  · refine FR_if ?_ ?_
    · exact FR_so FA_rf
    · refine FR_if ?_ FR_no
      refine FR_if ?_ ?_
      · refine FR_if ?_ FR_no
        refine FR_if ?_ FR_no
        exact FR_so (FA_upN FA_rf (by decide))
      · exact FR_so FA_rf
abbrev w_C_set : List (Nat × Option Nat) := [(7, none)]
set_option maxRecDepth 100000 in
theorem r_C_set (p1 : Int32) (p2 : Int32) (a : aT) : FR w_C_set a (f_C_set p1 p2 a) := by
  refine FR_bI FA_rf (r_R_change p1 p2 a) (by decide) (fun q1 hq1 => ?_)
  exact FR_so hq1
abbrev w_M_set : List (Nat × Option Nat) := [(42, none)]
set_option maxRecDepth 100000 in
theorem r_M_set (p1 : Int32) (p2 : Int32) (a : aT) : FR w_M_set a (f_M_set p1 p2 a) := by
  refine FR_if ?_ ?_
  · exact FR_so FA_rf
  · refine FR_if ?_ ?_
    · exact FR_so FA_rf
    · refine FR_if ?_ FR_no
      refine FR_if ?_ FR_no
      exact FR_so (FA_upN FA_rf (by decide))
abbrev w_R_changeSeed : List (Nat × Option Nat) := [(6, some 1)]
set_option maxRecDepth 100000 in
theorem r_R_changeSeed (p1 : Int32) (a : aT) : FR w_R_changeSeed a (f_R_changeSeed p1 a) := by
  exact FR_so (FA_upS FA_rf (by decide))
abbrev w_C_seed : List (Nat × Option Nat) := [(6, some 1)]
set_option maxRecDepth 100000 in
theorem r_C_seed (p1 : Int32) (a : aT) : FR w_C_seed a (f_C_seed p1 a) := by
  refine FR_bI FA_rf (r_R_changeSeed p1 a) (by decide) (fun q1 hq1 => ?_)
  exact FR_so hq1
abbrev w_M_seed : List (Nat × Option Nat) := [(31, some 16)]
set_option maxRecDepth 100000 in
theorem r_M_seed (p1 : Int32) (a : aT) : FR w_M_seed a (f_M_seed p1 a) := by
  exact FR_so (FA_upS FA_rf (by decide))
abbrev w_K_place : List (Nat × Option Nat) := [(9, none)]
set_option maxRecDepth 100000 in
theorem r_K_place (p1 : Int32) (p2 : Int32) (a : aT) : FR w_K_place a (f_K_place p1 p2 a) := by
  refine FR_if ?_ ?_
  · exact FR_so FA_rf
  · refine FR_if ?_ ?_
    · exact FR_so FA_rf
    · refine FR_if ?_ FR_no
      refine FR_if ?_ FR_no
      exact FR_so (FA_upN FA_rf (by decide))
abbrev w_C_stands : List (Nat × Option Nat) := [(9, none)]
set_option maxRecDepth 100000 in
theorem r_C_stands (p1 : Int32) (p2 : Int32) (a : aT) : FR w_C_stands a (f_C_stands p1 p2 a) := by
  refine FR_bI FA_rf (r_K_place p1 p2 a) (by decide) (fun q1 hq1 => ?_)
  exact FR_so hq1
abbrev w_M_stands : List (Nat × Option Nat) := [(43, none)]
set_option maxRecDepth 100000 in
theorem r_M_stands (p1 : Int32) (p2 : Int32) (a : aT) : FR w_M_stands a (f_M_stands p1 p2 a) := by
  refine FR_if ?_ ?_
  · exact FR_so FA_rf
  · refine FR_if ?_ ?_
    · exact FR_so FA_rf
    · refine FR_if ?_ FR_no
      refine FR_if ?_ FR_no
      exact FR_so (FA_upN FA_rf (by decide))
abbrev w_H_find : List (Nat × Option Nat) := [(27, some 3)]
set_option maxRecDepth 100000 in
theorem r_H_find (p1 : Int32) (a : aT) : FR w_H_find a (f_H_find p1 a) := by
  exact FR_so (FA_upS FA_rf (by decide))
abbrev w_C_read : List (Nat × Option Nat) := [(9, none), (27, some 3)]
set_option maxRecDepth 100000 in
theorem r_C_read_46 (N : Nat) : ∀ (n : Nat) (x1 : Int32) (x2 : Int32) (x3 : Int32) (a : aT), FR w_C_read a (f_C_read_46 N n x1 x2 x3 a)
  | 0, _, _, _, _ => FR_no
  | n + 1, x1, x2, x3, a => by
    refine FR_if ?_ ?_
    · exact FR_so FA_rf
    · refine FR_bP (fun q6 => ?_)
      refine FR_bI FA_rf (r_K_place x3 q6 a) (by decide) (fun q7 hq7 => ?_)
      refine FR_if ?_ ?_
      · exact FR_so hq7
      · exact FR_at hq7 (r_C_read_46 N n x1 x2 (x3 + 1) q7.2)
set_option maxRecDepth 100000 in
theorem r_C_read (N : Nat) (p1 : Int32) (a : aT) : FR w_C_read a (f_C_read N p1 a) := by
  refine FR_if ?_ ?_
  · exact FR_so FA_rf
  · refine FR_bP (fun q2 => ?_)
    refine FR_if ?_ ?_
    · refine FR_bP (fun q3 => ?_)
      exact FR_at FA_rf (r_C_read_46 N N p1 (f_J_min 4 q3) 0 a)
    · refine FR_bI FA_rf (r_H_find 1 a) (by decide) (fun q5 hq5 => ?_)
      exact FR_so hq5
abbrev w_M_met : List (Nat × Option Nat) := [(31, some 4)]
set_option maxRecDepth 100000 in
theorem r_M_met (p1 : Int32) (a : aT) : FR w_M_met a (f_M_met p1 a) := by
  exact FR_so (FA_upS FA_rf (by decide))
abbrev w_M_read : List (Nat × Option Nat) := [(31, some 4), (43, none)]
set_option maxRecDepth 100000 in
theorem r_M_read_27 (N : Nat) : ∀ (n : Nat) (x1 : Int32) (x2 : Int32) (a : aT), FR w_M_read a (f_M_read_27 N n x1 x2 a)
  | 0, _, _, _ => FR_no
  | n + 1, x1, x2, a => by
    refine FR_if ?_ FR_no
    refine FR_if ?_ ?_
    · exact FR_so FA_rf
    · refine FR_if ?_ FR_no
      refine FR_bI FA_rf (r_M_stands x2 (a 34 (ix ((60 * x1) + x2))) a) (by decide) (fun q3 hq3 => ?_)
      refine FR_if ?_ ?_
      · exact FR_so hq3
      · exact FR_at hq3 (r_M_read_27 N n x1 (x2 + 1) q3.2)
set_option maxRecDepth 100000 in
theorem r_M_read (N : Nat) (p1 : Int32) (a : aT) : FR w_M_read a (f_M_read N p1 a) := by
  refine FR_if ?_ ?_
  · exact FR_so FA_rf
  · refine FR_if ?_ FR_no
    refine FR_if ?_ ?_
    · exact FR_at FA_rf (r_M_read_27 N N p1 0 a)
    · refine FR_bI FA_rf (r_M_met 1 a) (by decide) (fun q2 hq2 => ?_)
      exact FR_so hq2
abbrev w_O_append : List (Nat × Option Nat) := [(10, some 3), (11, none), (12, none), (13, none)]
set_option maxRecDepth 100000 in
theorem r_O_append (p1 : Int32) (p2 : Int32) (p3 : Int32) (a : aT) : FR w_O_append a (f_O_append p1 p2 p3 a) := by
  refine FR_if ?_ ?_
  · exact FR_so FA_rf
  · refine FR_if ?_ ?_
    · exact FR_so FA_rf
    · refine FR_if ?_ ?_
      · exact FR_so FA_rf
      · refine FR_if ?_ ?_
        · exact FR_so FA_rf
        · refine FR_if ?_ FR_no
          refine FR_if ?_ FR_no
          refine FR_if ?_ FR_no
          exact FR_so (FA_upS (FA_upN (FA_upN (FA_upN FA_rf (by decide)) (by decide)) (by decide)) (by decide))
abbrev w_C_toss : List (Nat × Option Nat) := [(10, some 3), (11, none), (12, none), (13, none)]
set_option maxRecDepth 100000 in
theorem r_C_toss (p1 : Int32) (p2 : Int32) (p3 : Int32) (a : aT) : FR w_C_toss a (f_C_toss p1 p2 p3 a) := by
  refine FR_bI FA_rf (r_O_append p1 p2 p3 a) (by decide) (fun q1 hq1 => ?_)
  exact FR_so hq1
abbrev w_M_toss : List (Nat × Option Nat) := [(31, some 18), (44, none)]
set_option maxRecDepth 100000 in
theorem r_M_toss (p1 : Int32) (p2 : Int32) (p3 : Int32) (a : aT) : FR w_M_toss a (f_M_toss p1 p2 p3 a) := by
  refine FR_if ?_ ?_
  · exact FR_so FA_rf
  · refine FR_if ?_ ?_
    · exact FR_so FA_rf
    · refine FR_if ?_ ?_
      · exact FR_so FA_rf
      · refine FR_if ?_ ?_
        · exact FR_so FA_rf
        · refine FR_if ?_ FR_no
          refine FR_if ?_ FR_no
          refine FR_if ?_ FR_no
          exact FR_so (FA_upS (FA_upN (FA_upN (FA_upN FA_rf (by decide)) (by decide)) (by decide)) (by decide))
abbrev w_O_removeLast : List (Nat × Option Nat) := [(10, some 3)]
set_option maxRecDepth 100000 in
theorem r_O_removeLast (a : aT) : FR w_O_removeLast a (f_O_removeLast a) := by
  refine FR_if ?_ ?_
  · exact FR_so (FA_upS FA_rf (by decide))
  · exact FR_so FA_rf
abbrev w_C_back : List (Nat × Option Nat) := [(10, some 3)]
set_option maxRecDepth 100000 in
theorem r_C_back (a : aT) : FR w_C_back a (f_C_back a) := by
  refine FR_bI FA_rf (r_O_removeLast a) (by decide) (fun q1 hq1 => ?_)
  exact FR_so hq1
abbrev w_M_back : List (Nat × Option Nat) := [(31, some 18)]
set_option maxRecDepth 100000 in
theorem r_M_back (a : aT) : FR w_M_back a (f_M_back a) := by
  refine FR_if ?_ ?_
  · exact FR_so FA_rf
  · exact FR_so (FA_upS FA_rf (by decide))
abbrev w_P_begin : List (Nat × Option Nat) := [(14, some 9), (14, some 10), (14, some 11), (14, some 12), (14, some 13), (15, none), (16, none), (17, none), (18, none)]
set_option maxRecDepth 100000 in
theorem r_P_begin_118 (N : Nat) : ∀ (n : Nat) (x2 : Int32) (a : aT), FR w_P_begin a (f_P_begin_118 N n x2 a)
  | 0, _, _ => FR_no
  | n + 1, x2, a => by
    refine FR_if ?_ ?_
    · exact FR_so FA_rf
    · refine FR_if ?_ FR_no
      exact FR_at (FA_upN FA_rf (by decide)) (r_P_begin_118 N n (x2 + 1) (upA a 18 (ix x2) 0))
set_option maxRecDepth 100000 in
theorem r_P_begin_98 (N : Nat) : ∀ (n : Nat) (x2 : Int32) (a : aT), FR w_P_begin a (f_P_begin_98 N n x2 a)
  | 0, _, _ => FR_no
  | n + 1, x2, a => by
    refine FR_if ?_ ?_
    · exact FR_at FA_rf (r_P_begin_118 N N 0 a)
    · refine FR_if ?_ FR_no
      exact FR_at (FA_upN FA_rf (by decide)) (r_P_begin_98 N n (x2 + 1) (upA a 17 (ix x2) 0))
set_option maxRecDepth 100000 in
theorem r_P_begin_78 (N : Nat) : ∀ (n : Nat) (x2 : Int32) (a : aT), FR w_P_begin a (f_P_begin_78 N n x2 a)
  | 0, _, _ => FR_no
  | n + 1, x2, a => by
    refine FR_if ?_ ?_
    · exact FR_at FA_rf (r_P_begin_98 N N 0 a)
    · refine FR_if ?_ FR_no
      exact FR_at (FA_upN FA_rf (by decide)) (r_P_begin_78 N n (x2 + 1) (upA a 16 (ix x2) (-1)))
set_option maxRecDepth 100000 in
theorem r_P_begin_27 (N : Nat) : ∀ (n : Nat) (x2 : Int32) (a : aT), FR w_P_begin a (f_P_begin_27 N n x2 a)
  | 0, _, _ => FR_no
  | n + 1, x2, a => by
    refine FR_if ?_ ?_
    · exact FR_at FA_rf (r_P_begin_78 N N 0 a)
    · refine FR_bP (fun q1 => ?_)
      refine FR_if ?_ ?_
      · refine FR_if ?_ FR_no
        exact FR_at (FA_upN FA_rf (by decide)) (r_P_begin_27 N n (x2 + 1) (upA a 15 (ix x2) (-1)))
      · refine FR_bP (fun q2 => ?_)
        refine FR_bP (fun q3 => ?_)
        refine FR_if ?_ FR_no
        exact FR_at (FA_upN FA_rf (by decide)) (r_P_begin_27 N n (x2 + 1) (upA a 15 (ix x2) q3))
set_option maxRecDepth 100000 in
theorem r_P_begin (N : Nat) (p1 : Int32) (a : aT) : FR w_P_begin a (f_P_begin N p1 a) := by
  exact FR_at (FA_upS (FA_upS (FA_upS (FA_upS (FA_upS FA_rf (by decide)) (by decide)) (by decide)) (by decide)) (by decide)) (r_P_begin_27 N N 0 (upA (upA (upA (upA (upA a 14 9 p1) 14 10 0) 14 11 0) 14 12 0) 14 13 (-1)))
abbrev w_P_lotOfSixteen : List (Nat × Option Nat) := [(14, some 9)]
set_option maxRecDepth 100000 in
theorem r_P_lotOfSixteen (a : aT) : FR w_P_lotOfSixteen a (f_P_lotOfSixteen a) := by
  exact FR_so (FA_upS FA_rf (by decide))
abbrev w_P_takeDown : List (Nat × Option Nat) := [(15, none), (18, none)]
set_option maxRecDepth 100000 in
theorem r_P_takeDown (p1 : Int32) (p2 : Int32) (a : aT) : FR w_P_takeDown a (f_P_takeDown p1 p2 a) := by
  refine FR_if ?_ ?_
  · exact FR_so FA_rf
  · refine FR_if ?_ ?_
    · exact FR_so FA_rf
    · refine FR_if ?_ FR_no
      refine FR_if ?_ FR_no
      refine FR_if ?_ FR_no
      exact FR_so (FA_upN (FA_upN FA_rf (by decide)) (by decide))
abbrev w_P_give : List (Nat × Option Nat) := [(17, none)]
set_option maxRecDepth 100000 in
theorem r_P_give (p1 : Int32) (a : aT) : FR w_P_give a (f_P_give p1 a) := by
  refine FR_if ?_ ?_
  · exact FR_so FA_rf
  · refine FR_if ?_ FR_no
    refine FR_if ?_ FR_no
    exact FR_so (FA_upN FA_rf (by decide))
abbrev w_P_bringDown : List (Nat × Option Nat) := [(14, some 10), (14, some 11), (15, none), (17, none), (18, none)]
set_option maxRecDepth 100000 in
theorem r_P_bringDown_39 (N : Nat) : ∀ (n : Nat) (x1 : Int32) (x2 : Int32) (x5 : Int32) (x6 : Int32) (x7 : Int32) (a : aT), FR w_P_bringDown a (f_P_bringDown_39 N n x1 x2 x5 x6 x7 a)
  | 0, _, _, _, _, _, _ => FR_no
  | n + 1, x1, x2, x5, x6, x7, a => by
    refine FR_if ?_ ?_
    · exact FR_so FA_rf
    · refine FR_bP (fun q4 => ?_)
      refine FR_if ?_ ?_
      · exact FR_at FA_rf (r_P_bringDown_39 N n x1 x2 x5 x6 (x7 + 1) a)
      · refine FR_bI FA_rf (r_P_takeDown x1 ((8 * x2) + x7) a) (by decide) (fun q5 hq5 => ?_)
        refine FR_if ?_ ?_
        · exact FR_at (FA_upS hq5 (by decide)) (r_P_bringDown_39 N n x1 x2 x5 x6 (x7 + 1) (upA q5.2 14 11 ((q5.2 14 11) + 1)))
        · refine FR_bP (fun q6 => ?_)
          refine FR_if ?_ ?_
          · refine FR_bP (fun q7 => ?_)
            refine FR_bI (FA_upS hq5 (by decide)) (r_P_give q7 (upA q5.2 14 10 ((q5.2 14 10) + 1))) (by decide) (fun q8 hq8 => ?_)
            exact FR_at hq8 (r_P_bringDown_39 N n x1 x2 x5 x6 (x7 + 1) q8.2)
          · refine FR_bP (fun q9 => ?_)
            refine FR_bI (FA_upS hq5 (by decide)) (r_P_give q9 (upA q5.2 14 10 ((q5.2 14 10) + 1))) (by decide) (fun q10 hq10 => ?_)
            exact FR_at hq10 (r_P_bringDown_39 N n x1 x2 x5 x6 (x7 + 1) q10.2)
set_option maxRecDepth 100000 in
theorem r_P_bringDown (N : Nat) (p1 : Int32) (p2 : Int32) (p3 : Int32) (a : aT) : FR w_P_bringDown a (f_P_bringDown N p1 p2 p3 a) := by
  refine FR_bP (fun q1 => ?_)
  refine FR_bP (fun q2 => ?_)
  refine FR_bP (fun q3 => ?_)
  exact FR_at FA_rf (r_P_bringDown_39 N N p1 p2 q2 (p3 + q3) p3 a)
abbrev w_P_freeSticks : List (Nat × Option Nat) := [(16, none)]
set_option maxRecDepth 100000 in
theorem r_P_freeSticks_3 (N : Nat) : ∀ (n : Nat) (x1 : Int32) (x2 : Int32) (x3 : Int32) (x4 : Int32) (a : aT), FR w_P_freeSticks a (f_P_freeSticks_3 N n x1 x2 x3 x4 a)
  | 0, _, _, _, _, _ => FR_no
  | n + 1, x1, x2, x3, x4, a => by
    refine FR_if ?_ ?_
    · exact FR_so FA_rf
    · refine FR_if ?_ FR_no
      refine FR_if ?_ ?_
      · exact FR_at FA_rf (r_P_freeSticks_3 N n x1 x2 x3 (x4 + 1) a)
      · refine FR_if ?_ FR_no
        refine FR_if ?_ ?_
        · exact FR_at FA_rf (r_P_freeSticks_3 N n x1 x2 x3 (x4 + 1) a)
        · refine FR_if ?_ FR_no
          exact FR_at (FA_upN FA_rf (by decide)) (r_P_freeSticks_3 N n x1 x2 x3 (x4 + 1) (upA a 16 (ix x4) (-1)))
set_option maxRecDepth 100000 in
theorem r_P_freeSticks (N : Nat) (p1 : Int32) (p2 : Int32) (p3 : Int32) (a : aT) : FR w_P_freeSticks a (f_P_freeSticks N p1 p2 p3 a) := by
  exact FR_at FA_rf (r_P_freeSticks_3 N N p1 p2 p3 0 a)
abbrev w_P_throwOne : List (Nat × Option Nat) := [(14, some 9), (14, some 10), (14, some 11), (14, some 12), (14, some 13), (15, none), (16, none), (17, none), (18, none)]
set_option maxRecDepth 100000 in
theorem r_P_throwOne_38 (N : Nat) (x1 : Int32) (a : aT) : FR w_P_throwOne a (f_P_throwOne_38 N x1 a) := by
  refine FR_if ?_ ?_
  · exact FR_so (FA_upS FA_rf (by decide))
  · exact FR_so (FA_upS FA_rf (by decide))
set_option maxRecDepth 100000 in
theorem r_P_throwOne_127 (N : Nat) (x2 : Int32) (x4 : Int32) (x5 : Int32) (y1 : Int32) (a : aT) : FR w_P_throwOne a (f_P_throwOne_127 N x2 x4 x5 y1 a) := by
  refine FR_if ?_ ?_
  · exact FR_so (FA_upS FA_rf (by decide))
  · refine FR_if ?_ ?_
    · exact FR_so (FA_upS FA_rf (by decide))
    · refine FR_bP (fun q13 => ?_)
      refine FR_if ?_ FR_no
      exact FR_so (FA_upS (FA_upN FA_rf (by decide)) (by decide))
set_option maxRecDepth 100000 in
theorem r_P_throwOne (N : Nat) (p1 : Int32) (a : aT) : FR w_P_throwOne a (f_P_throwOne N p1 a) := by
  refine FR_bP (fun q1 => ?_)
  refine FR_bP (fun q2 => ?_)
  refine FR_bP (fun q3 => ?_)
  refine FR_if ?_ ?_
  · exact FR_at FA_rf (r_P_throwOne_38 N p1 a)
  · refine FR_bP (fun q4 => ?_)
    refine FR_if ?_ ?_
    · refine FR_bI FA_rf (r_P_lotOfSixteen a) (by decide) (fun q5 hq5 => ?_)
      refine FR_bP (fun q6 => ?_)
      refine FR_bI hq5 (r_P_bringDown N p1 (q2 / 8) ((i_rem q2 8) + q6) q5.2) (by decide) (fun q7 hq7 => ?_)
      refine FR_bP (fun q8 => ?_)
      refine FR_bI hq7 (r_P_freeSticks N (q2 / 8) ((i_rem q2 8) + q6) q8 q7.2) (by decide) (fun q9 hq9 => ?_)
      refine FR_bI hq9 (r_P_lotOfSixteen q9.2) (by decide) (fun q10 hq10 => ?_)
      refine FR_bP (fun q11 => ?_)
      refine FR_if ?_ ?_
      · exact FR_at hq10 (r_P_throwOne_127 N q1 (q2 / 8) ((i_rem q2 8) + q6) 0 q10.2)
      · exact FR_at hq10 (r_P_throwOne_127 N q1 (q2 / 8) ((i_rem q2 8) + q6) 1 q10.2)
    · exact FR_at FA_rf (r_P_throwOne_38 N p1 a)
abbrev w_P_replay : List (Nat × Option Nat) := [(14, some 9), (14, some 10), (14, some 11), (14, some 12), (14, some 13), (15, none), (16, none), (17, none), (18, none)]
set_option maxRecDepth 100000 in
theorem r_P_replay_7 (N : Nat) : ∀ (n : Nat) (x1 : Int32) (x3 : Int32) (a : aT), FR w_P_replay a (f_P_replay_7 N n x1 x3 a)
  | 0, _, _, _ => FR_no
  | n + 1, x1, x3, a => by
    refine FR_if ?_ ?_
    · exact FR_so FA_rf
    · refine FR_if ?_ ?_
      · exact FR_so FA_rf
      · refine FR_bI FA_rf (r_P_throwOne N x3 a) (by decide) (fun q2 hq2 => ?_)
        exact FR_at hq2 (r_P_replay_7 N n x1 (x3 + 1) q2.2)
set_option maxRecDepth 100000 in
theorem r_P_replay (N : Nat) (p1 : Int32) (p2 : Int32) (a : aT) : FR w_P_replay a (f_P_replay N p1 p2 a) := by
  refine FR_bI FA_rf (r_P_begin N p2 a) (by decide) (fun q1 hq1 => ?_)
  exact FR_at hq1 (r_P_replay_7 N N p1 0 q1.2)
abbrev w_P_replayAll : List (Nat × Option Nat) := [(14, some 9), (14, some 10), (14, some 11), (14, some 12), (14, some 13), (15, none), (16, none), (17, none), (18, none)]
set_option maxRecDepth 100000 in
theorem r_P_replayAll (N : Nat) (a : aT) : FR w_P_replayAll a (f_P_replayAll N a) := by
  refine FR_bI FA_rf (r_P_replay N (f_O_size a) (f_R_seedNow a) a) (by decide) (fun q3 hq3 => ?_)
  exact FR_so hq3
abbrev w_C_judged : List (Nat × Option Nat) := [(14, some 9), (14, some 10), (14, some 11), (14, some 12), (14, some 13), (15, none), (16, none), (17, none), (18, none)]
set_option maxRecDepth 100000 in
theorem r_C_judged (N : Nat) (a : aT) : FR w_C_judged a (f_C_judged N a) := by
  refine FR_bI FA_rf (r_P_replayAll N a) (by decide) (fun q1 hq1 => ?_)
  exact FR_so hq1
abbrev w_M_lot : List (Nat × Option Nat) := [(31, some 24)]
set_option maxRecDepth 100000 in
theorem r_M_lot (a : aT) : FR w_M_lot a (f_M_lot a) := by
  exact FR_so (FA_upS FA_rf (by decide))
abbrev w_M_falls : List (Nat × Option Nat) := [(31, some 25), (31, some 26), (45, none), (47, none)]
set_option maxRecDepth 100000 in
theorem r_M_falls (N : Nat) (p1 : Int32) (p2 : Int32) (a : aT) : FR w_M_falls a (f_M_falls N p1 p2 a) := by
  refine FR_if ?_ FR_no
  refine FR_bP (fun q1 => ?_)
  refine FR_if ?_ ?_
  · exact FR_so (FA_upS (FA_upN FA_rf (by decide)) (by decide))
  · refine FR_bP (fun q2 => ?_)
    refine FR_if ?_ FR_no
    refine FR_if ?_ FR_no
    exact FR_so (FA_upN (FA_upS (FA_upN FA_rf (by decide)) (by decide)) (by decide))
abbrev w_M_throwsOne : List (Nat × Option Nat) := [(31, some 24), (31, some 25), (31, some 26), (45, none), (46, none), (47, none)]
set_option maxRecDepth 100000 in
theorem r_M_throwsOne_202 (N : Nat) (x2 : Int32) (x4 : Int32) (x6 : Int32) (x7 : Int32) (y1 : Int32) (a : aT) : FR w_M_throwsOne a (f_M_throwsOne_202 N x2 x4 x6 x7 y1 a) := by
  refine FR_if ?_ ?_
  · refine FR_if ?_ FR_no
    refine FR_if ?_ FR_no
    exact FR_so (FA_upN FA_rf (by decide))
  · refine FR_if ?_ ?_
    · refine FR_if ?_ FR_no
      refine FR_if ?_ FR_no
      exact FR_so (FA_upN FA_rf (by decide))
    · refine FR_if ?_ FR_no
      refine FR_if ?_ ?_
      · refine FR_if ?_ FR_no
        refine FR_if ?_ FR_no
        exact FR_so (FA_upN FA_rf (by decide))
      · refine FR_if ?_ FR_no
        exact FR_so (FA_upN FA_rf (by decide))
set_option maxRecDepth 100000 in
theorem r_M_throwsOne_124 (N : Nat) : ∀ (n : Nat) (x2 : Int32) (x4 : Int32) (x6 : Int32) (x7 : Int32) (x8 : Int32) (a : aT), FR w_M_throwsOne a (f_M_throwsOne_124 N n x2 x4 x6 x7 x8 a)
  | 0, _, _, _, _, _, _ => FR_no
  | n + 1, x2, x4, x6, x7, x8, a => by
    refine FR_if ?_ ?_
    · refine FR_bI FA_rf (r_M_lot a) (by decide) (fun q5 hq5 => ?_)
      refine FR_if ?_ FR_no
      refine FR_if ?_ ?_
      · exact FR_at hq5 (r_M_throwsOne_202 N x2 x4 x6 x7 0 q5.2)
      · exact FR_at hq5 (r_M_throwsOne_202 N x2 x4 x6 x7 1 q5.2)
    · refine FR_if ?_ FR_no
      refine FR_if ?_ ?_
      · refine FR_if ?_ FR_no
        refine FR_if ?_ FR_no
        exact FR_at (FA_upN FA_rf (by decide)) (r_M_throwsOne_124 N n x2 x4 x6 x7 (x8 + 1) (upA a 46 (ix x8) (a 46 (ix x8))))
      · refine FR_if ?_ FR_no
        refine FR_bP (fun q6 => ?_)
        refine FR_if ?_ ?_
        · refine FR_if ?_ FR_no
          refine FR_if ?_ FR_no
          exact FR_at (FA_upN FA_rf (by decide)) (r_M_throwsOne_124 N n x2 x4 x6 x7 (x8 + 1) (upA a 46 (ix x8) (a 46 (ix x8))))
        · refine FR_if ?_ FR_no
          exact FR_at (FA_upN FA_rf (by decide)) (r_M_throwsOne_124 N n x2 x4 x6 x7 (x8 + 1) (upA a 46 (ix x8) (-1)))
set_option maxRecDepth 100000 in
theorem r_M_throwsOne_59 (N : Nat) : ∀ (n : Nat) (x1 : Int32) (x2 : Int32) (x4 : Int32) (x6 : Int32) (x7 : Int32) (x8 : Int32) (a : aT), FR w_M_throwsOne a (f_M_throwsOne_59 N n x1 x2 x4 x6 x7 x8 a)
  | 0, _, _, _, _, _, _, _ => FR_no
  | n + 1, x1, x2, x4, x6, x7, x8, a => by
    refine FR_if ?_ ?_
    · exact FR_at FA_rf (r_M_throwsOne_124 N N x2 x4 x6 x7 0 a)
    · refine FR_if ?_ FR_no
      refine FR_if ?_ ?_
      · exact FR_at FA_rf (r_M_throwsOne_59 N n x1 x2 x4 x6 x7 (x8 + 1) a)
      · refine FR_bP (fun q2 => ?_)
        refine FR_if ?_ ?_
        · exact FR_at FA_rf (r_M_throwsOne_59 N n x1 x2 x4 x6 x7 (x8 + 1) a)
        · refine FR_bP (fun q3 => ?_)
          refine FR_if ?_ FR_no
          refine FR_if ?_ ?_
          · exact FR_at FA_rf (r_M_throwsOne_59 N n x1 x2 x4 x6 x7 (x8 + 1) a)
          · refine FR_bI FA_rf (r_M_falls N x1 x8 a) (by decide) (fun q4 hq4 => ?_)
            exact FR_at hq4 (r_M_throwsOne_59 N n x1 x2 x4 x6 (x7 + 1) (x8 + 1) q4.2)
set_option maxRecDepth 100000 in
theorem r_M_throwsOne (N : Nat) (p1 : Int32) (p2 : Int32) (p3 : Int32) (a : aT) : FR w_M_throwsOne a (f_M_throwsOne N p1 p2 p3 a) := by
  refine FR_bI FA_rf (r_M_lot a) (by decide) (fun q1 hq1 => ?_)
  refine FR_if ?_ ?_
  · refine FR_if ?_ ?_
    · exact FR_at hq1 (r_M_throwsOne_59 N N p1 p2 (p3 / 8) ((i_rem p3 8) + 0) 0 0 q1.2)
    · exact FR_at hq1 (r_M_throwsOne_59 N N p1 p2 (p3 / 8) ((i_rem p3 8) + 1) 0 0 q1.2)
  · exact FR_at hq1 (r_M_throwsOne_59 N N p1 p2 (p3 / 8) ((i_rem p3 8) + (-1)) 0 0 q1.2)
abbrev w_M_throwsAll : List (Nat × Option Nat) := [(31, some 7), (31, some 10), (31, some 11), (31, some 24), (31, some 25), (31, some 26), (31, some 27), (31, some 28), (37, none), (38, none), (45, none), (46, none), (47, none), (48, none)]
set_option maxRecDepth 100000 in
theorem r_M_throwsAll_185 (N : Nat) (k94 : Int32 → Int32 → aT → Option (Unit × aT)) (h94 : ∀ (x2 : Int32) (x3 : Int32) (a : aT), FR w_M_throwsAll a (k94 x2 x3 a)) (x2 : Int32) (x3 : Int32) (a : aT) : FR w_M_throwsAll a (f_M_throwsAll_185 N k94 x2 x3 a) := by
  refine FR_if ?_ ?_
  · exact FR_at (FA_upS FA_rf (by decide)) (h94 x2 (x3 + 1) (upA a 31 28 x3))
  · exact FR_at (FA_upS FA_rf (by decide)) (h94 x2 (x3 + 1) (upA a 31 28 (a 31 28)))
set_option maxRecDepth 100000 in
theorem r_M_throwsAll_94 (N : Nat) : ∀ (n : Nat) (x2 : Int32) (x3 : Int32) (a : aT), FR w_M_throwsAll a (f_M_throwsAll_94 N n x2 x3 a)
  | 0, _, _, _ => FR_no
  | n + 1, x2, x3, a => by
    refine FR_if ?_ ?_
    · exact FR_so FA_rf
    · refine FR_if ?_ FR_no
      refine FR_if ?_ FR_no
      refine FR_if ?_ FR_no
      refine FR_bP (fun q2 => ?_)
      refine FR_if ?_ ?_
      · exact FR_at (FA_upN FA_rf (by decide)) (r_M_throwsAll_185 N (f_M_throwsAll_94 N n) (r_M_throwsAll_94 N n) x2 x3 (upA a 48 (ix x3) 0))
      · refine FR_if ?_ FR_no
        refine FR_if ?_ ?_
        · refine FR_if ?_ FR_no
          refine FR_bI (FA_upN FA_rf (by decide)) (r_M_throwsOne N (a 44 (ix (3 * x3))) (a 44 (ix ((3 * x3) + 1))) (a 44 (ix ((3 * x3) + 2))) (upA a 48 (ix x3) 0)) (by decide) (fun q3 hq3 => ?_)
          refine FR_if ?_ FR_no
          exact FR_at (FA_upS (FA_upN hq3 (by decide)) (by decide)) (r_M_throwsAll_94 N n x2 (x3 + 1) (upA (upA q3.2 48 (ix x3) q3.1) 31 27 ((q3.2 31 27) + 1)))
        · exact FR_at (FA_upN FA_rf (by decide)) (r_M_throwsAll_185 N (f_M_throwsAll_94 N n) (r_M_throwsAll_94 N n) x2 x3 (upA a 48 (ix x3) 0))
set_option maxRecDepth 100000 in
theorem r_M_throwsAll_42 (N : Nat) : ∀ (n : Nat) (x1 : Int32) (x2 : Int32) (x3 : Int32) (a : aT), FR w_M_throwsAll a (f_M_throwsAll_42 N n x1 x2 x3 a)
  | 0, _, _, _, _ => FR_no
  | n + 1, x1, x2, x3, a => by
    refine FR_if ?_ ?_
    · exact FR_at (FA_upS (FA_upS (FA_upS (FA_upS (FA_upS FA_rf (by decide)) (by decide)) (by decide)) (by decide)) (by decide)) (r_M_throwsAll_94 N N x2 0 (upA (upA (upA (upA (upA a 31 24 x1) 31 25 0) 31 26 0) 31 27 0) 31 28 (-1)))
    · refine FR_if ?_ FR_no
      refine FR_if ?_ FR_no
      exact FR_at (FA_upN (FA_upN FA_rf (by decide)) (by decide)) (r_M_throwsAll_42 N n x1 x2 (x3 + 1) (upA (upA a 46 (ix x3) (-1)) 47 (ix x3) 0))
set_option maxRecDepth 100000 in
theorem r_M_throwsAll_7 (N : Nat) : ∀ (n : Nat) (x1 : Int32) (x2 : Int32) (x3 : Int32) (a : aT), FR w_M_throwsAll a (f_M_throwsAll_7 N n x1 x2 x3 a)
  | 0, _, _, _, _ => FR_no
  | n + 1, x1, x2, x3, a => by
    refine FR_if ?_ ?_
    · exact FR_at FA_rf (r_M_throwsAll_42 N N x1 x2 0 a)
    · refine FR_if ?_ FR_no
      refine FR_if ?_ ?_
      · refine FR_if ?_ FR_no
        exact FR_at (FA_upN FA_rf (by decide)) (r_M_throwsAll_7 N n x1 x2 (x3 + 1) (upA a 45 (ix x3) 0))
      · refine FR_if ?_ FR_no
        exact FR_at (FA_upN FA_rf (by decide)) (r_M_throwsAll_7 N n x1 x2 (x3 + 1) (upA a 45 (ix x3) 1))
set_option maxRecDepth 100000 in
theorem r_M_throwsAll (N : Nat) (p1 : Int32) (p2 : Int32) (a : aT) : FR w_M_throwsAll a (f_M_throwsAll N p1 p2 a) := by
  refine FR_bI FA_rf (r_M_reads N a) (by decide) (fun q1 hq1 => ?_)
  exact FR_at hq1 (r_M_throwsAll_7 N N p1 p2 0 q1.2)
abbrev w_M_find : List (Nat × Option Nat) := [(31, some 7), (31, some 10), (31, some 11), (31, some 24), (31, some 25), (31, some 26), (31, some 27), (31, some 28), (37, none), (38, none), (45, none), (46, none), (47, none), (48, none)]
set_option maxRecDepth 100000 in
theorem r_M_find (N : Nat) (a : aT) : FR w_M_find a (f_M_find N a) := by
  refine FR_bI FA_rf (r_M_throwsAll N (a 31 16) (a 31 18) a) (by decide) (fun q1 hq1 => ?_)
  exact FR_so hq1
abbrev w_M_judged : List (Nat × Option Nat) := [(31, some 7), (31, some 10), (31, some 11), (31, some 24), (31, some 25), (31, some 26), (31, some 27), (31, some 28), (37, none), (38, none), (45, none), (46, none), (47, none), (48, none)]
set_option maxRecDepth 100000 in
theorem r_M_judged (N : Nat) (a : aT) : FR w_M_judged a (f_M_judged N a) := by
  refine FR_bI FA_rf (r_M_find N a) (by decide) (fun q1 hq1 => ?_)
  exact FR_so hq1
abbrev w_C_state : List (Nat × Option Nat) := [(14, some 9), (14, some 10), (14, some 11), (14, some 12), (14, some 13), (15, none), (16, none), (17, none), (18, none)]
set_option maxRecDepth 100000 in
theorem r_C_state (N : Nat) (p1 : Int32) (p2 : Int32) (a : aT) : FR w_C_state a (f_C_state N p1 p2 a) := by
  refine FR_if ?_ ?_
  · exact FR_so FA_rf
  · refine FR_if ?_ ?_
    · exact FR_so FA_rf
    · refine FR_if ?_ ?_
      · exact FR_so FA_rf
      · refine FR_bI FA_rf (r_P_replay N p1 (f_R_seedNow a) a) (by decide) (fun q4 hq4 => ?_)
        refine FR_if ?_ ?_
        · refine FR_bP (fun q5 => ?_)
          exact FR_so hq4
        refine FR_if ?_ ?_
        · exact FR_so hq4
        refine FR_if ?_ ?_
        · exact FR_so hq4
        refine FR_if ?_ ?_
        · refine FR_bP (fun q8 => ?_)
          exact FR_so hq4
        refine FR_bP (fun q9 => ?_)
        exact FR_so hq4
abbrev w_M_stateOf : List (Nat × Option Nat) := [(31, some 7), (31, some 10), (31, some 11), (31, some 24), (31, some 25), (31, some 26), (31, some 27), (31, some 28), (37, none), (38, none), (45, none), (46, none), (47, none), (48, none)]
set_option maxRecDepth 100000 in
theorem r_M_stateOf (N : Nat) (p1 : Int32) (p2 : Int32) (a : aT) : FR w_M_stateOf a (f_M_stateOf N p1 p2 a) := by
  refine FR_bI FA_rf (r_M_throwsAll N (a 31 16) p1 a) (by decide) (fun q1 hq1 => ?_)
  refine FR_if ?_ ?_
  · refine FR_bP (fun q2 => ?_)
    exact FR_so hq1
  refine FR_if ?_ ?_
  · exact FR_so hq1
  refine FR_if ?_ ?_
  · exact FR_so hq1
  refine FR_if ?_ ?_
  · refine FR_bP (fun q3 => ?_)
    exact FR_so hq1
  refine FR_if ?_ ?_
  · exact FR_so hq1
  · refine FR_if ?_ FR_no
    exact FR_so hq1
abbrev w_M_state : List (Nat × Option Nat) := [(31, some 7), (31, some 10), (31, some 11), (31, some 24), (31, some 25), (31, some 26), (31, some 27), (31, some 28), (37, none), (38, none), (45, none), (46, none), (47, none), (48, none)]
set_option maxRecDepth 100000 in
theorem r_M_state (N : Nat) (p1 : Int32) (p2 : Int32) (a : aT) : FR w_M_state a (f_M_state N p1 p2 a) := by
  refine FR_if ?_ ?_
  · exact FR_so FA_rf
  · refine FR_if ?_ ?_
    · exact FR_so FA_rf
    · refine FR_bI FA_rf (r_M_stateOf N p1 p2 a) (by decide) (fun q3 hq3 => ?_)
      exact FR_so hq3
abbrev w_C_hangs : List (Nat × Option Nat) := [(14, some 9), (14, some 10), (14, some 11), (14, some 12), (14, some 13), (15, none), (16, none), (17, none), (18, none)]
set_option maxRecDepth 100000 in
theorem r_C_hangs (N : Nat) (p1 : Int32) (a : aT) : FR w_C_hangs a (f_C_hangs N p1 a) := by
  refine FR_bP (fun q1 => ?_)
  refine FR_if ?_ ?_
  · exact FR_so FA_rf
  · refine FR_bI FA_rf (r_P_replayAll N a) (by decide) (fun q2 hq2 => ?_)
    refine FR_bP (fun q3 => ?_)
    exact FR_so hq2
abbrev w_M_hangs : List (Nat × Option Nat) := [(31, some 7), (31, some 10), (31, some 11), (31, some 24), (31, some 25), (31, some 26), (31, some 27), (31, some 28), (37, none), (38, none), (45, none), (46, none), (47, none), (48, none)]
set_option maxRecDepth 100000 in
theorem r_M_hangs (N : Nat) (p1 : Int32) (a : aT) : FR w_M_hangs a (f_M_hangs N p1 a) := by
  refine FR_bI FA_rf (r_M_find N a) (by decide) (fun q1 hq1 => ?_)
  refine FR_bP (fun q2 => ?_)
  refine FR_if ?_ ?_
  · exact FR_so hq1
  · refine FR_if ?_ FR_no
    refine FR_if ?_ ?_
    · exact FR_so hq1
    · refine FR_bP (fun q3 => ?_)
      exact FR_so hq1
abbrev w_C_has : List (Nat × Option Nat) := [(14, some 9), (14, some 10), (14, some 11), (14, some 12), (14, some 13), (15, none), (16, none), (17, none), (18, none)]
set_option maxRecDepth 100000 in
theorem r_C_has (N : Nat) (p1 : Int32) (a : aT) : FR w_C_has a (f_C_has N p1 a) := by
  refine FR_if ?_ ?_
  · exact FR_so FA_rf
  · refine FR_bI FA_rf (r_P_replayAll N a) (by decide) (fun q2 hq2 => ?_)
    refine FR_bP (fun q3 => ?_)
    exact FR_so hq2
abbrev w_M_has : List (Nat × Option Nat) := [(31, some 7), (31, some 10), (31, some 11), (31, some 24), (31, some 25), (31, some 26), (31, some 27), (31, some 28), (37, none), (38, none), (45, none), (46, none), (47, none), (48, none)]
set_option maxRecDepth 100000 in
theorem r_M_has (N : Nat) (p1 : Int32) (a : aT) : FR w_M_has a (f_M_has N p1 a) := by
  refine FR_bI FA_rf (r_M_find N a) (by decide) (fun q1 hq1 => ?_)
  refine FR_if ?_ ?_
  · exact FR_so hq1
  · refine FR_if ?_ FR_no
    exact FR_so hq1
abbrev w_C_brings : List (Nat × Option Nat) := [(14, some 9), (14, some 10), (14, some 11), (14, some 12), (14, some 13), (15, none), (16, none), (17, none), (18, none)]
set_option maxRecDepth 100000 in
theorem r_C_brings_71 (N : Nat) (x4 : Int32) (y4 : Int32) (y3 : Int32) (y2 : Int32) (a : aT) : FR w_C_brings a (f_C_brings_71 N x4 y4 y3 y2 a) := by
  refine FR_bP (fun q5 => ?_)
  refine FR_bP (fun q6 => ?_)
  exact FR_so FA_rf
set_option maxRecDepth 100000 in
theorem r_C_brings_53 (N : Nat) (x1 : Int32) (x2 : Int32) (x3 : Int32) (y1 : Int32) (a : aT) : FR w_C_brings a (f_C_brings_53 N x1 x2 x3 y1 a) := by
  refine FR_if ?_ ?_
  · exact FR_at FA_rf (r_C_brings_71 N y1 0 x2 x1 a)
  · exact FR_at FA_rf (r_C_brings_71 N y1 1 x2 x1 a)
set_option maxRecDepth 100000 in
theorem r_C_brings_48 (N : Nat) (x1 : Int32) (x2 : Int32) (x3 : Int32) (a : aT) : FR w_C_brings a (f_C_brings_48 N x1 x2 x3 a) := by
  exact FR_at FA_rf (r_C_brings_53 N x1 x2 x3 1 a)
set_option maxRecDepth 100000 in
theorem r_C_brings (N : Nat) (p1 : Int32) (p2 : Int32) (p3 : Int32) (a : aT) : FR w_C_brings a (f_C_brings N p1 p2 p3 a) := by
  refine FR_if ?_ ?_
  · exact FR_so FA_rf
  · refine FR_bP (fun q2 => ?_)
    refine FR_if ?_ ?_
    · exact FR_so FA_rf
    · refine FR_if ?_ ?_
      · exact FR_so FA_rf
      · refine FR_bI FA_rf (r_P_replayAll N a) (by decide) (fun q4 hq4 => ?_)
        refine FR_if ?_ ?_
        · exact FR_at hq4 (r_C_brings_48 N p1 p2 p3 q4.2)
        · refine FR_if ?_ ?_
          · exact FR_at hq4 (r_C_brings_48 N p1 p2 p3 q4.2)
          · exact FR_at hq4 (r_C_brings_53 N p1 p2 p3 0 q4.2)
abbrev w_M_brings : List (Nat × Option Nat) := [(31, some 7), (31, some 10), (31, some 11), (31, some 24), (31, some 25), (31, some 26), (31, some 27), (31, some 28), (37, none), (38, none), (45, none), (46, none), (47, none), (48, none)]
set_option maxRecDepth 100000 in
theorem r_M_brings_44 (N : Nat) (x3 : Int32) (y4 : Int32) (y3 : Int32) (y2 : Int32) (a : aT) : FR w_M_brings a (f_M_brings_44 N x3 y4 y3 y2 a) := by
  refine FR_bP (fun q8 => ?_)
  refine FR_bP (fun q9 => ?_)
  exact FR_so FA_rf
set_option maxRecDepth 100000 in
theorem r_M_brings (N : Nat) (p1 : Int32) (p2 : Int32) (p3 : Int32) (a : aT) : FR w_M_brings a (f_M_brings N p1 p2 p3 a) := by
  refine FR_bI FA_rf (r_M_find N a) (by decide) (fun q1 hq1 => ?_)
  refine FR_if ?_ ?_
  · exact FR_so hq1
  · refine FR_bP (fun q4 => ?_)
    refine FR_if ?_ ?_
    · exact FR_so hq1
    · refine FR_if ?_ ?_
      · exact FR_so hq1
      · refine FR_if ?_ ?_
        · exact FR_at hq1 (r_M_brings_44 N p3 0 p2 p1 q1.2)
        · exact FR_at hq1 (r_M_brings_44 N p3 1 p2 p1 q1.2)
abbrev w_C_worth : List (Nat × Option Nat) := [(14, some 9), (14, some 10), (14, some 11), (14, some 12), (14, some 13), (15, none), (16, none), (17, none), (18, none)]
set_option maxRecDepth 100000 in
theorem r_C_worth (N : Nat) (p1 : Int32) (p2 : Int32) (a : aT) : FR w_C_worth a (f_C_worth N p1 p2 a) := by
  refine FR_if ?_ ?_
  · exact FR_so FA_rf
  · refine FR_bP (fun q2 => ?_)
    refine FR_if ?_ ?_
    · exact FR_so FA_rf
    · refine FR_bI FA_rf (r_P_replayAll N a) (by decide) (fun q3 hq3 => ?_)
      refine FR_bP (fun q4 => ?_)
      exact FR_so hq3
abbrev w_M_worth : List (Nat × Option Nat) := [(31, some 7), (31, some 10), (31, some 11), (31, some 24), (31, some 25), (31, some 26), (31, some 27), (31, some 28), (37, none), (38, none), (45, none), (46, none), (47, none), (48, none)]
set_option maxRecDepth 100000 in
theorem r_M_worth (N : Nat) (p1 : Int32) (p2 : Int32) (a : aT) : FR w_M_worth a (f_M_worth N p1 p2 a) := by
  refine FR_bI FA_rf (r_M_find N a) (by decide) (fun q1 hq1 => ?_)
  refine FR_if ?_ ?_
  · exact FR_so hq1
  · refine FR_bP (fun q3 => ?_)
    refine FR_if ?_ ?_
    · exact FR_so hq1
    · refine FR_bP (fun q4 => ?_)
      exact FR_so hq1
abbrev w_C_where : List (Nat × Option Nat) := [(14, some 9), (14, some 10), (14, some 11), (14, some 12), (14, some 13), (15, none), (16, none), (17, none), (18, none)]
set_option maxRecDepth 100000 in
theorem r_C_where (N : Nat) (p1 : Int32) (a : aT) : FR w_C_where a (f_C_where N p1 a) := by
  refine FR_if ?_ ?_
  · exact FR_so FA_rf
  · refine FR_bI FA_rf (r_P_replayAll N a) (by decide) (fun q2 hq2 => ?_)
    refine FR_bP (fun q3 => ?_)
    exact FR_so hq2
abbrev w_M_where : List (Nat × Option Nat) := [(31, some 7), (31, some 10), (31, some 11), (31, some 24), (31, some 25), (31, some 26), (31, some 27), (31, some 28), (37, none), (38, none), (45, none), (46, none), (47, none), (48, none)]
set_option maxRecDepth 100000 in
theorem r_M_where (N : Nat) (p1 : Int32) (a : aT) : FR w_M_where a (f_M_where N p1 a) := by
  refine FR_bI FA_rf (r_M_find N a) (by decide) (fun q1 hq1 => ?_)
  refine FR_if ?_ ?_
  · exact FR_so hq1
  · refine FR_bP (fun q3 => ?_)
    exact FR_so hq1
abbrev w_C_which : List (Nat × Option Nat) := [(14, some 9), (14, some 10), (14, some 11), (14, some 12), (14, some 13), (15, none), (16, none), (17, none), (18, none)]
set_option maxRecDepth 100000 in
theorem r_C_which_42 (N : Nat) (k13 : Int32 → Int32 → Int32 → aT → Option (Int32 × aT)) (h13 : ∀ (x1 : Int32) (x2 : Int32) (x3 : Int32) (a : aT), FR w_C_which a (k13 x1 x2 x3 a)) (x1 : Int32) (x2 : Int32) (x3 : Int32) (y1 : Int32) (a : aT) : FR w_C_which a (f_C_which_42 N k13 x1 x2 x3 y1 a) := by
  refine FR_if ?_ ?_
  · exact FR_at FA_rf (h13 x1 x2 (x3 + 1) a)
  · refine FR_bP (fun q4 => ?_)
    refine FR_if ?_ ?_
    · exact FR_at FA_rf (h13 x3 q4 (x3 + 1) a)
    · refine FR_if ?_ ?_
      · exact FR_at FA_rf (h13 x1 x2 (x3 + 1) a)
      · exact FR_at FA_rf (h13 x3 q4 (x3 + 1) a)
set_option maxRecDepth 100000 in
theorem r_C_which_13 (N : Nat) : ∀ (n : Nat) (x1 : Int32) (x2 : Int32) (x3 : Int32) (a : aT), FR w_C_which a (f_C_which_13 N n x1 x2 x3 a)
  | 0, _, _, _, _ => FR_no
  | n + 1, x1, x2, x3, a => by
    refine FR_if ?_ ?_
    · exact FR_so FA_rf
    · refine FR_bP (fun q2 => ?_)
      refine FR_if ?_ ?_
      · refine FR_bP (fun q3 => ?_)
        exact FR_at FA_rf (r_C_which_42 N (f_C_which_13 N n) (r_C_which_13 N n) x1 x2 x3 q3 a)
      · exact FR_at FA_rf (r_C_which_42 N (f_C_which_13 N n) (r_C_which_13 N n) x1 x2 x3 (-1) a)
set_option maxRecDepth 100000 in
theorem r_C_which (N : Nat) (a : aT) : FR w_C_which a (f_C_which N a) := by
  refine FR_bI FA_rf (r_P_replayAll N a) (by decide) (fun q1 hq1 => ?_)
  exact FR_at hq1 (r_C_which_13 N N (-1) 0 0 q1.2)
abbrev w_M_which : List (Nat × Option Nat) := [(31, some 7), (31, some 10), (31, some 11), (31, some 24), (31, some 25), (31, some 26), (31, some 27), (31, some 28), (37, none), (38, none), (45, none), (46, none), (47, none), (48, none)]
set_option maxRecDepth 100000 in
theorem r_M_which (N : Nat) (a : aT) : FR w_M_which a (f_M_which N a) := by
  refine FR_bI FA_rf (r_M_find N a) (by decide) (fun q1 hq1 => ?_)
  refine FR_bP (fun q2 => ?_)
  exact FR_so hq1
abbrev w_C_frees : List (Nat × Option Nat) := [(14, some 9), (14, some 10), (14, some 11), (14, some 12), (14, some 13), (15, none), (16, none), (17, none), (18, none)]
set_option maxRecDepth 100000 in
theorem r_C_frees (N : Nat) (p1 : Int32) (p2 : Int32) (p3 : Int32) (a : aT) : FR w_C_frees a (f_C_frees N p1 p2 p3 a) := by
  refine FR_if ?_ ?_
  · exact FR_so FA_rf
  · refine FR_bP (fun q2 => ?_)
    refine FR_if ?_ ?_
    · exact FR_so FA_rf
    · refine FR_if ?_ ?_
      · exact FR_so FA_rf
      · refine FR_bI FA_rf (r_P_replayAll N a) (by decide) (fun q4 hq4 => ?_)
        refine FR_bP (fun q5 => ?_)
        refine FR_if ?_ ?_
        · exact FR_so hq4
        · refine FR_bP (fun q6 => ?_)
          exact FR_so hq4
abbrev w_M_frees : List (Nat × Option Nat) := [(31, some 7), (31, some 10), (31, some 11), (31, some 24), (31, some 25), (31, some 26), (31, some 27), (31, some 28), (37, none), (38, none), (45, none), (46, none), (47, none), (48, none)]
set_option maxRecDepth 100000 in
theorem r_M_frees (N : Nat) (p1 : Int32) (p2 : Int32) (p3 : Int32) (a : aT) : FR w_M_frees a (f_M_frees N p1 p2 p3 a) := by
  refine FR_bI FA_rf (r_M_find N a) (by decide) (fun q1 hq1 => ?_)
  refine FR_if ?_ ?_
  · exact FR_so hq1
  · refine FR_bP (fun q3 => ?_)
    refine FR_if ?_ ?_
    · exact FR_so hq1
    · refine FR_if ?_ ?_
      · exact FR_so hq1
      · refine FR_bP (fun q5 => ?_)
        exact FR_so hq1
abbrev w_M_lie : List (Nat × Option Nat) := [(31, some 7), (31, some 10), (31, some 11), (37, none), (38, none)]
set_option maxRecDepth 100000 in
theorem r_M_lie (N : Nat) (p1 : Int32) (p2 : Int32) (a : aT) : FR w_M_lie a (f_M_lie N p1 p2 a) := by
  refine FR_bI FA_rf (r_M_reads N a) (by decide) (fun q1 hq1 => ?_)
  refine FR_if ?_ ?_
  · exact FR_so hq1
  · refine FR_if ?_ ?_
    · exact FR_so hq1
    · refine FR_bP (fun q6 => ?_)
      exact FR_so hq1
abbrev w_M_ripe : List (Nat × Option Nat) := [(31, some 7), (31, some 10), (31, some 11), (37, none), (38, none)]
set_option maxRecDepth 100000 in
theorem r_M_ripe (N : Nat) (p1 : Int32) (a : aT) : FR w_M_ripe a (f_M_ripe N p1 a) := by
  refine FR_bI FA_rf (r_M_reads N a) (by decide) (fun q1 hq1 => ?_)
  refine FR_if ?_ ?_
  · exact FR_so hq1
  · refine FR_bP (fun q3 => ?_)
    exact FR_so hq1
abbrev w_S_fillRipe : List (Nat × Option Nat) := [(20, none)]
set_option maxRecDepth 100000 in
theorem r_S_fillRipe_2 (N : Nat) : ∀ (n : Nat) (x1 : Int32) (a : aT), FR w_S_fillRipe a (f_S_fillRipe_2 N n x1 a)
  | 0, _, _ => FR_no
  | n + 1, x1, a => by
    refine FR_if ?_ ?_
    · exact FR_so FA_rf
    · refine FR_bP (fun q1 => ?_)
      refine FR_if ?_ FR_no
      exact FR_at (FA_upN FA_rf (by decide)) (r_S_fillRipe_2 N n (x1 + 1) (upA a 20 (ix x1) q1))
set_option maxRecDepth 100000 in
theorem r_S_fillRipe (N : Nat) (a : aT) : FR w_S_fillRipe a (f_S_fillRipe N a) := by
  exact FR_at FA_rf (r_S_fillRipe_2 N N 0 a)
abbrev w_S_restBits : List (Nat × Option Nat) := [(20, none)]
set_option maxRecDepth 100000 in
theorem r_S_restBits_8 (N : Nat) : ∀ (n : Nat) (x1 : Int32) (x2 : Int32) (x3 : Int32) (a : aT), FR w_S_restBits a (f_S_restBits_8 N n x1 x2 x3 a)
  | 0, _, _, _, _ => FR_no
  | n + 1, x1, x2, x3, a => by
    refine FR_if ?_ ?_
    · exact FR_so FA_rf
    · refine FR_bP (fun q2 => ?_)
      refine FR_if ?_ ?_
      · exact FR_at FA_rf (r_S_restBits_8 N n x1 (x2 ||| (i_shl 1 x3)) (x3 + 1) a)
      · exact FR_at FA_rf (r_S_restBits_8 N n x1 (x2 ||| 0) (x3 + 1) a)
set_option maxRecDepth 100000 in
theorem r_S_restBits (N : Nat) (p1 : Int32) (a : aT) : FR w_S_restBits a (f_S_restBits N p1 a) := by
  refine FR_bI FA_rf (r_S_fillRipe N a) (by decide) (fun q1 hq1 => ?_)
  exact FR_at hq1 (r_S_restBits_8 N N p1 0 0 q1.2)
abbrev w_C_rests : List (Nat × Option Nat) := [(20, none)]
set_option maxRecDepth 100000 in
theorem r_C_rests (N : Nat) (p1 : Int32) (a : aT) : FR w_C_rests a (f_C_rests N p1 a) := by
  refine FR_if ?_ ?_
  · exact FR_so FA_rf
  · refine FR_if ?_ ?_
    · refine FR_bI FA_rf (r_S_restBits N p1 a) (by decide) (fun q1 hq1 => ?_)
      exact FR_so hq1
    · exact FR_so FA_rf
abbrev w_M_rests : List (Nat × Option Nat) := [(31, some 7), (31, some 10), (31, some 11), (37, none), (38, none)]
set_option maxRecDepth 100000 in
theorem r_M_rests (N : Nat) (p1 : Int32) (a : aT) : FR w_M_rests a (f_M_rests N p1 a) := by
  refine FR_bI FA_rf (r_M_reads N a) (by decide) (fun q1 hq1 => ?_)
  refine FR_if ?_ ?_
  · exact FR_so hq1
  · refine FR_bP (fun q3 => ?_)
    exact FR_so hq1
abbrev w_S_endOf : List (Nat × Option Nat) := [(20, none)]
set_option maxRecDepth 100000 in
theorem r_S_endOf_11 (N : Nat) : ∀ (n : Nat) (x1 : Int32) (x2 : Int32) (x3 : Int32) (a : aT), FR w_S_endOf a (f_S_endOf_11 N n x1 x2 x3 a)
  | 0, _, _, _, _ => FR_no
  | n + 1, x1, x2, x3, a => by
    refine FR_if ?_ ?_
    · exact FR_so FA_rf
    · refine FR_bP (fun q3 => ?_)
      refine FR_if ?_ ?_
      · exact FR_so FA_rf
      · exact FR_at FA_rf (r_S_endOf_11 N n x1 q3 (x3 + 1) a)
set_option maxRecDepth 100000 in
theorem r_S_endOf (N : Nat) (p1 : Int32) (a : aT) : FR w_S_endOf a (f_S_endOf N p1 a) := by
  refine FR_bI FA_rf (r_S_fillRipe N a) (by decide) (fun q1 hq1 => ?_)
  refine FR_bP (fun q2 => ?_)
  exact FR_at hq1 (r_S_endOf_11 N N p1 q2 0 q1.2)
abbrev w_C_ends : List (Nat × Option Nat) := [(20, none)]
set_option maxRecDepth 100000 in
theorem r_C_ends (N : Nat) (p1 : Int32) (p2 : Int32) (a : aT) : FR w_C_ends a (f_C_ends N p1 p2 a) := by
  refine FR_if ?_ ?_
  · exact FR_so FA_rf
  · refine FR_if ?_ ?_
    · exact FR_so FA_rf
    · refine FR_if ?_ ?_
      · exact FR_so FA_rf
      · refine FR_bI FA_rf (r_S_endOf N p1 a) (by decide) (fun q2 hq2 => ?_)
        refine FR_if ?_ ?_
        · exact FR_so hq2
        · refine FR_bP (fun q3 => ?_)
          exact FR_so hq2
abbrev w_M_ends : List (Nat × Option Nat) := [(31, some 7), (31, some 10), (31, some 11), (37, none), (38, none)]
set_option maxRecDepth 100000 in
theorem r_M_ends (N : Nat) (p1 : Int32) (p2 : Int32) (a : aT) : FR w_M_ends a (f_M_ends N p1 p2 a) := by
  refine FR_bI FA_rf (r_M_reads N a) (by decide) (fun q1 hq1 => ?_)
  refine FR_if ?_ ?_
  · exact FR_so hq1
  · refine FR_if ?_ ?_
    · exact FR_so hq1
    · refine FR_bP (fun q4 => ?_)
      exact FR_so hq1
abbrev w_W_append : List (Nat × Option Nat) := [(21, some 2), (22, none), (23, none)]
set_option maxRecDepth 100000 in
theorem r_W_append (p1 : Int32) (p2 : Int32) (a : aT) : FR w_W_append a (f_W_append p1 p2 a) := by
  refine FR_if ?_ ?_
  · exact FR_so FA_rf
  · refine FR_if ?_ ?_
    · exact FR_so FA_rf
    · refine FR_if ?_ ?_
      · exact FR_so FA_rf
      · refine FR_if ?_ ?_
        · refine FR_if ?_ ?_
          · exact FR_so FA_rf
          · refine FR_if ?_ FR_no
            refine FR_if ?_ FR_no
            exact FR_so (FA_upS (FA_upN (FA_upN FA_rf (by decide)) (by decide)) (by decide))
        · exact FR_so FA_rf
abbrev w_C_thrower : List (Nat × Option Nat) := [(21, some 2), (22, none), (23, none)]
set_option maxRecDepth 100000 in
theorem r_C_thrower (p1 : Int32) (p2 : Int32) (a : aT) : FR w_C_thrower a (f_C_thrower p1 p2 a) := by
  refine FR_bI FA_rf (r_W_append p1 p2 a) (by decide) (fun q1 hq1 => ?_)
  exact FR_so hq1
abbrev w_M_thrower : List (Nat × Option Nat) := [(31, some 29), (49, none)]
set_option maxRecDepth 100000 in
theorem r_M_thrower (p1 : Int32) (p2 : Int32) (a : aT) : FR w_M_thrower a (f_M_thrower p1 p2 a) := by
  refine FR_if ?_ ?_
  · exact FR_so FA_rf
  · refine FR_if ?_ ?_
    · exact FR_so FA_rf
    · refine FR_if ?_ ?_
      · exact FR_so FA_rf
      · refine FR_if ?_ FR_no
        refine FR_if ?_ FR_no
        exact FR_so (FA_upS (FA_upN (FA_upN FA_rf (by decide)) (by decide)) (by decide))
abbrev w_W_empty : List (Nat × Option Nat) := [(21, some 2)]
set_option maxRecDepth 100000 in
theorem r_W_empty (a : aT) : FR w_W_empty a (f_W_empty a) := by
  exact FR_so (FA_upS FA_rf (by decide))
abbrev w_C_gone : List (Nat × Option Nat) := [(21, some 2)]
set_option maxRecDepth 100000 in
theorem r_C_gone (a : aT) : FR w_C_gone a (f_C_gone a) := by
  refine FR_bI FA_rf (r_W_empty a) (by decide) (fun q1 hq1 => ?_)
  exact FR_so hq1
abbrev w_M_gone : List (Nat × Option Nat) := [(31, some 29)]
set_option maxRecDepth 100000 in
theorem r_M_gone (a : aT) : FR w_M_gone a (f_M_gone a) := by
  exact FR_so (FA_upS FA_rf (by decide))
abbrev w_G_append : List (Nat × Option Nat) := [(24, some 2), (25, none), (26, none)]
set_option maxRecDepth 100000 in
theorem r_G_append (p1 : Int32) (p2 : Int32) (a : aT) : FR w_G_append a (f_G_append p1 p2 a) := by
  refine FR_if ?_ ?_
  · exact FR_so FA_rf
  · refine FR_if ?_ ?_
    · exact FR_so FA_rf
    · refine FR_if ?_ ?_
      · exact FR_so FA_rf
      · refine FR_if ?_ FR_no
        refine FR_if ?_ FR_no
        exact FR_so (FA_upS (FA_upN (FA_upN FA_rf (by decide)) (by decide)) (by decide))
abbrev w_C_seen : List (Nat × Option Nat) := [(24, some 2), (25, none), (26, none)]
set_option maxRecDepth 100000 in
theorem r_C_seen (p1 : Int32) (p2 : Int32) (a : aT) : FR w_C_seen a (f_C_seen p1 p2 a) := by
  refine FR_bI FA_rf (r_G_append p1 p2 a) (by decide) (fun q1 hq1 => ?_)
  exact FR_so hq1
abbrev w_M_seen : List (Nat × Option Nat) := [(31, some 31), (50, none)]
set_option maxRecDepth 100000 in
theorem r_M_seen (p1 : Int32) (p2 : Int32) (a : aT) : FR w_M_seen a (f_M_seen p1 p2 a) := by
  refine FR_if ?_ ?_
  · exact FR_so FA_rf
  · refine FR_if ?_ ?_
    · exact FR_so FA_rf
    · refine FR_if ?_ ?_
      · exact FR_so FA_rf
      · refine FR_if ?_ FR_no
        refine FR_if ?_ FR_no
        exact FR_so (FA_upS (FA_upN (FA_upN FA_rf (by decide)) (by decide)) (by decide))
abbrev w_G_empty : List (Nat × Option Nat) := [(24, some 2)]
set_option maxRecDepth 100000 in
theorem r_G_empty (a : aT) : FR w_G_empty a (f_G_empty a) := by
  exact FR_so (FA_upS FA_rf (by decide))
abbrev w_C_forget : List (Nat × Option Nat) := [(24, some 2)]
set_option maxRecDepth 100000 in
theorem r_C_forget (a : aT) : FR w_C_forget a (f_C_forget a) := by
  refine FR_bI FA_rf (r_G_empty a) (by decide) (fun q1 hq1 => ?_)
  exact FR_so hq1
abbrev w_M_forget : List (Nat × Option Nat) := [(31, some 31)]
set_option maxRecDepth 100000 in
theorem r_M_forget (a : aT) : FR w_M_forget a (f_M_forget a) := by
  exact FR_so (FA_upS FA_rf (by decide))
abbrev w_C_seeds : List (Nat × Option Nat) := [(14, some 9), (14, some 10), (14, some 11), (14, some 12), (14, some 13), (15, none), (16, none), (17, none), (18, none)]
set_option maxRecDepth 100000 in
theorem r_C_seeds_4 (N : Nat) : ∀ (n : Nat) (x1 : Int32) (x2 : Int32) (a : aT), FR w_C_seeds a (f_C_seeds_4 N n x1 x2 a)
  | 0, _, _, _ => FR_no
  | n + 1, x1, x2, a => by
    refine FR_if ?_ ?_
    · exact FR_so FA_rf
    · refine FR_bI FA_rf (r_P_replay N (f_O_size a) x2 a) (by decide) (fun q2 hq2 => ?_)
      refine FR_bP (fun q4 => ?_)
      refine FR_if ?_ ?_
      · exact FR_at hq2 (r_C_seeds_4 N n x1 (x2 + 1) q2.2)
      · exact FR_at hq2 (r_C_seeds_4 N n (x1 ||| (i_shl 1 x2)) (x2 + 1) q2.2)
set_option maxRecDepth 100000 in
theorem r_C_seeds (N : Nat) (a : aT) : FR w_C_seeds a (f_C_seeds N a) := by
  exact FR_at FA_rf (r_C_seeds_4 N N 0 0 a)
abbrev w_M_seedsNow : List (Nat × Option Nat) := [(31, some 7), (31, some 10), (31, some 11), (31, some 24), (31, some 25), (31, some 26), (31, some 27), (31, some 28), (37, none), (38, none), (45, none), (46, none), (47, none), (48, none)]
set_option maxRecDepth 100000 in
theorem r_M_seedsNow_24 (N : Nat) (k4 : Int32 → Int32 → aT → Option (Int32 × aT)) (h4 : ∀ (x1 : Int32) (x2 : Int32) (a : aT), FR w_M_seedsNow a (k4 x1 x2 a)) : ∀ (n : Nat) (x1 : Int32) (x2 : Int32) (x3 : Int32) (x4 : Int32) (a : aT), FR w_M_seedsNow a (f_M_seedsNow_24 N k4 n x1 x2 x3 x4 a)
  | 0, _, _, _, _, _ => FR_no
  | n + 1, x1, x2, x3, x4, a => by
    refine FR_if ?_ ?_
    · refine FR_if ?_ ?_
      · exact FR_at FA_rf (h4 (x1 ||| 0) (x2 + 1) a)
      · exact FR_at FA_rf (h4 (x1 ||| (i_shl 1 x2)) (x2 + 1) a)
    · refine FR_if ?_ ?_
      · exact FR_at FA_rf (r_M_seedsNow_24 N k4 h4 n x1 x2 0 (x4 + 1) a)
      · refine FR_if ?_ FR_no
        refine FR_if ?_ ?_
        · exact FR_at FA_rf (r_M_seedsNow_24 N k4 h4 n x1 x2 1 (x4 + 1) a)
        · refine FR_if ?_ FR_no
          refine FR_if ?_ FR_no
          refine FR_if ?_ FR_no
          refine FR_if ?_ ?_
          · exact FR_at FA_rf (r_M_seedsNow_24 N k4 h4 n x1 x2 1 (x4 + 1) a)
          · exact FR_at FA_rf (r_M_seedsNow_24 N k4 h4 n x1 x2 0 (x4 + 1) a)
set_option maxRecDepth 100000 in
theorem r_M_seedsNow_4 (N : Nat) : ∀ (n : Nat) (x1 : Int32) (x2 : Int32) (a : aT), FR w_M_seedsNow a (f_M_seedsNow_4 N n x1 x2 a)
  | 0, _, _, _ => FR_no
  | n + 1, x1, x2, a => by
    refine FR_if ?_ ?_
    · exact FR_so FA_rf
    · refine FR_bI FA_rf (r_M_throwsAll N x2 (a 31 18) a) (by decide) (fun q1 hq1 => ?_)
      exact FR_at hq1 (r_M_seedsNow_24 N (f_M_seedsNow_4 N n) (r_M_seedsNow_4 N n) N x1 x2 1 0 q1.2)
set_option maxRecDepth 100000 in
theorem r_M_seedsNow (N : Nat) (a : aT) : FR w_M_seedsNow a (f_M_seedsNow N a) := by
  exact FR_at FA_rf (r_M_seedsNow_4 N N 0 0 a)
abbrev w_M_seeds : List (Nat × Option Nat) := [(31, some 7), (31, some 10), (31, some 11), (31, some 24), (31, some 25), (31, some 26), (31, some 27), (31, some 28), (37, none), (38, none), (45, none), (46, none), (47, none), (48, none)]
set_option maxRecDepth 100000 in
theorem r_M_seeds (N : Nat) (a : aT) : FR w_M_seeds a (f_M_seeds N a) := by
  refine FR_bI FA_rf (r_M_seedsNow N a) (by decide) (fun q1 hq1 => ?_)
  exact FR_so hq1
abbrev w_H_makeNew : List (Nat × Option Nat) := [(28, none), (29, none), (30, none)]
set_option maxRecDepth 100000 in
theorem r_H_makeNew_35 (N : Nat) : ∀ (n : Nat) (x1 : Int32) (x4 : Int32) (a : aT), FR w_H_makeNew a (f_H_makeNew_35 N n x1 x4 a)
  | 0, _, _, _ => FR_no
  | n + 1, x1, x4, a => by
    refine FR_if ?_ ?_
    · exact FR_so FA_rf
    · refine FR_if ?_ FR_no
      exact FR_at (FA_upN FA_rf (by decide)) (r_H_makeNew_35 N n x1 (x4 + 1) (upA a 30 (ix ((60 * x1) + x4)) 0))
set_option maxRecDepth 100000 in
theorem r_H_makeNew (N : Nat) (p1 : Int32) (p2 : Int32) (p3 : Int32) (a : aT) : FR w_H_makeNew a (f_H_makeNew N p1 p2 p3 a) := by
  refine FR_if ?_ ?_
  · exact FR_so FA_rf
  · refine FR_if ?_ ?_
    · exact FR_so FA_rf
    · refine FR_if ?_ ?_
      · exact FR_so FA_rf
      · refine FR_if ?_ FR_no
        refine FR_if ?_ FR_no
        exact FR_at (FA_upN (FA_upN FA_rf (by decide)) (by decide)) (r_H_makeNew_35 N N p1 0 (upA (upA a 28 (ix p1) p2) 29 (ix p1) p3))
abbrev w_C_sheet : List (Nat × Option Nat) := [(27, some 3), (28, none), (29, none), (30, none)]
set_option maxRecDepth 100000 in
theorem r_C_sheet (N : Nat) (p1 : Int32) (p2 : Int32) (p3 : Int32) (a : aT) : FR w_C_sheet a (f_C_sheet N p1 p2 p3 a) := by
  refine FR_if ?_ ?_
  · exact FR_so FA_rf
  · refine FR_if ?_ ?_
    · exact FR_so FA_rf
    · refine FR_if ?_ ?_
      · refine FR_if ?_ ?_
        · refine FR_bI FA_rf (r_H_makeNew N p1 p2 p3 a) (by decide) (fun q3 hq3 => ?_)
          exact FR_so hq3
        · refine FR_bI FA_rf (r_H_find 5 a) (by decide) (fun q4 hq4 => ?_)
          exact FR_so hq4
      · exact FR_so FA_rf
abbrev w_M_sheet : List (Nat × Option Nat) := [(31, some 4), (32, none), (33, none), (34, none)]
set_option maxRecDepth 100000 in
theorem r_M_sheet_55 (N : Nat) : ∀ (n : Nat) (x1 : Int32) (x3 : Int32) (x4 : Int32) (a : aT), FR w_M_sheet a (f_M_sheet_55 N n x1 x3 x4 a)
  | 0, _, _, _, _ => FR_no
  | n + 1, x1, x3, x4, a => by
    refine FR_if ?_ ?_
    · exact FR_so FA_rf
    · refine FR_if ?_ FR_no
      exact FR_at (FA_upN FA_rf (by decide)) (r_M_sheet_55 N n x1 x3 (x4 + 1) (upA a 34 (ix ((60 * x1) + x4)) 0))
set_option maxRecDepth 100000 in
theorem r_M_sheet (N : Nat) (p1 : Int32) (p2 : Int32) (p3 : Int32) (a : aT) : FR w_M_sheet a (f_M_sheet N p1 p2 p3 a) := by
  refine FR_if ?_ ?_
  · exact FR_so FA_rf
  · refine FR_if ?_ ?_
    · exact FR_so FA_rf
    · refine FR_if ?_ ?_
      · refine FR_if ?_ ?_
        · refine FR_if ?_ FR_no
          refine FR_if ?_ FR_no
          exact FR_at (FA_upN (FA_upN FA_rf (by decide)) (by decide)) (r_M_sheet_55 N N p1 p3 0 (upA (upA a 32 (ix p1) p2) 33 (ix p1) p3))
        · refine FR_bI FA_rf (r_M_met 5 a) (by decide) (fun q3 hq3 => ?_)
          exact FR_so hq3
      · exact FR_so FA_rf
abbrev w_H_makeLost : List (Nat × Option Nat) := [(28, none), (29, none)]
set_option maxRecDepth 100000 in
theorem r_H_makeLost (p1 : Int32) (a : aT) : FR w_H_makeLost a (f_H_makeLost p1 a) := by
  refine FR_bP (fun q1 => ?_)
  refine FR_if ?_ ?_
  · exact FR_so FA_rf
  · refine FR_if ?_ FR_no
    refine FR_if ?_ FR_no
    exact FR_so (FA_upN (FA_upN FA_rf (by decide)) (by decide))
abbrev w_C_lose : List (Nat × Option Nat) := [(27, some 3), (28, none), (29, none)]
set_option maxRecDepth 100000 in
theorem r_C_lose (p1 : Int32) (a : aT) : FR w_C_lose a (f_C_lose p1 a) := by
  refine FR_if ?_ ?_
  · exact FR_so FA_rf
  · refine FR_bP (fun q2 => ?_)
    refine FR_if ?_ ?_
    · refine FR_bI FA_rf (r_H_makeLost p1 a) (by decide) (fun q3 hq3 => ?_)
      exact FR_so hq3
    · refine FR_bI FA_rf (r_H_find 1 a) (by decide) (fun q4 hq4 => ?_)
      exact FR_so hq4
abbrev w_M_lose : List (Nat × Option Nat) := [(31, some 4), (32, none)]
set_option maxRecDepth 100000 in
theorem r_M_lose (p1 : Int32) (a : aT) : FR w_M_lose a (f_M_lose p1 a) := by
  refine FR_if ?_ ?_
  · exact FR_so FA_rf
  · refine FR_if ?_ FR_no
    refine FR_if ?_ ?_
    · refine FR_if ?_ FR_no
      refine FR_if ?_ FR_no
      exact FR_so (FA_upN FA_rf (by decide))
    · refine FR_bI FA_rf (r_M_met 1 a) (by decide) (fun q2 hq2 => ?_)
      exact FR_so hq2
abbrev w_H_put : List (Nat × Option Nat) := [(30, none)]
set_option maxRecDepth 100000 in
theorem r_H_put (p1 : Int32) (p2 : Int32) (p3 : Int32) (a : aT) : FR w_H_put a (f_H_put p1 p2 p3 a) := by
  refine FR_if ?_ ?_
  · exact FR_so FA_rf
  · refine FR_if ?_ ?_
    · exact FR_so FA_rf
    · refine FR_if ?_ FR_no
      refine FR_if ?_ FR_no
      exact FR_so (FA_upN FA_rf (by decide))
abbrev w_C_lay : List (Nat × Option Nat) := [(27, some 3), (30, none)]
set_option maxRecDepth 100000 in
theorem r_C_lay (p1 : Int32) (p2 : Int32) (p3 : Int32) (p4 : Int32) (a : aT) : FR w_C_lay a (f_C_lay p1 p2 p3 p4 a) := by
  refine FR_if ?_ ?_
  · exact FR_so FA_rf
  · refine FR_if ?_ ?_
    · exact FR_so FA_rf
    · refine FR_bP (fun q3 => ?_)
      refine FR_if ?_ ?_
      · refine FR_bI FA_rf (r_H_put p1 p3 p4 a) (by decide) (fun q4 hq4 => ?_)
        exact FR_so hq4
      · refine FR_bI FA_rf (r_H_find q3 a) (by decide) (fun q5 hq5 => ?_)
        exact FR_so hq5
abbrev w_M_lacks : List (Nat × Option Nat) := [(31, some 4)]
set_option maxRecDepth 100000 in
theorem r_M_lacks (p1 : Int32) (p2 : Int32) (p3 : Int32) (a : aT) : FR w_M_lacks a (f_M_lacks p1 p2 p3 a) := by
  refine FR_if ?_ FR_no
  refine FR_if ?_ ?_
  · refine FR_if ?_ FR_no
    refine FR_if ?_ ?_
    · refine FR_if ?_ FR_no
      refine FR_if ?_ ?_
      · refine FR_bI FA_rf (r_M_met 2 a) (by decide) (fun q2 hq2 => ?_)
        exact FR_so hq2
      · exact FR_so FA_rf
    · refine FR_bI FA_rf (r_M_met 3 a) (by decide) (fun q3 hq3 => ?_)
      exact FR_so hq3
  · refine FR_bI FA_rf (r_M_met 1 a) (by decide) (fun q4 hq4 => ?_)
    exact FR_so hq4
abbrev w_M_lay : List (Nat × Option Nat) := [(31, some 4), (34, none)]
set_option maxRecDepth 100000 in
theorem r_M_lay (p1 : Int32) (p2 : Int32) (p3 : Int32) (p4 : Int32) (a : aT) : FR w_M_lay a (f_M_lay p1 p2 p3 p4 a) := by
  refine FR_if ?_ ?_
  · exact FR_so FA_rf
  · refine FR_if ?_ ?_
    · exact FR_so FA_rf
    · refine FR_bI FA_rf (r_M_lacks p1 p2 p3 a) (by decide) (fun q3 hq3 => ?_)
      refine FR_if ?_ ?_
      · refine FR_if ?_ FR_no
        exact FR_so (FA_upN hq3 (by decide))
      · exact FR_so hq3
abbrev w_C_get : List (Nat × Option Nat) := [(27, some 3)]
set_option maxRecDepth 100000 in
theorem r_C_get (p1 : Int32) (p2 : Int32) (p3 : Int32) (a : aT) : FR w_C_get a (f_C_get p1 p2 p3 a) := by
  refine FR_if ?_ ?_
  · exact FR_so FA_rf
  · refine FR_if ?_ ?_
    · exact FR_so FA_rf
    · refine FR_bP (fun q3 => ?_)
      refine FR_if ?_ ?_
      · refine FR_bP (fun q4 => ?_)
        exact FR_so FA_rf
      · refine FR_bI FA_rf (r_H_find q3 a) (by decide) (fun q5 hq5 => ?_)
        exact FR_so hq5
abbrev w_M_get : List (Nat × Option Nat) := [(31, some 4)]
set_option maxRecDepth 100000 in
theorem r_M_get (p1 : Int32) (p2 : Int32) (p3 : Int32) (a : aT) : FR w_M_get a (f_M_get p1 p2 p3 a) := by
  refine FR_if ?_ ?_
  · exact FR_so FA_rf
  · refine FR_if ?_ ?_
    · exact FR_so FA_rf
    · refine FR_bI FA_rf (r_M_lacks p1 p2 p3 a) (by decide) (fun q3 hq3 => ?_)
      refine FR_if ?_ ?_
      · refine FR_if ?_ FR_no
        exact FR_so hq3
      · exact FR_so hq3
abbrev w_H_move : List (Nat × Option Nat) := [(30, none)]
set_option maxRecDepth 100000 in
theorem r_H_move_28 (N : Nat) (k3 : Int32 → Int32 → Int32 → Int32 → Int32 → Int32 → aT → Option (Unit × aT)) (h3 : ∀ (x1 : Int32) (x2 : Int32) (x3 : Int32) (x4 : Int32) (x5 : Int32) (x6 : Int32) (a : aT), FR w_H_move a (k3 x1 x2 x3 x4 x5 x6 a)) (x1 : Int32) (x2 : Int32) (x3 : Int32) (x4 : Int32) (x5 : Int32) (x6 : Int32) (y1 : Int32) (a : aT) : FR w_H_move a (f_H_move_28 N k3 x1 x2 x3 x4 x5 x6 y1 a) := by
  refine FR_bP (fun q1 => ?_)
  refine FR_bI FA_rf (r_H_put x3 (x4 + y1) q1 a) (by decide) (fun q2 hq2 => ?_)
  exact FR_at hq2 (h3 x1 x2 x3 x4 x5 (x6 + 1) q2.2)
set_option maxRecDepth 100000 in
theorem r_H_move_3 (N : Nat) : ∀ (n : Nat) (x1 : Int32) (x2 : Int32) (x3 : Int32) (x4 : Int32) (x5 : Int32) (x6 : Int32) (a : aT), FR w_H_move a (f_H_move_3 N n x1 x2 x3 x4 x5 x6 a)
  | 0, _, _, _, _, _, _, _ => FR_no
  | n + 1, x1, x2, x3, x4, x5, x6, a => by
    refine FR_if ?_ ?_
    · exact FR_so FA_rf
    · refine FR_if ?_ ?_
      · exact FR_at FA_rf (r_H_move_28 N (f_H_move_3 N n) (r_H_move_3 N n) x1 x2 x3 x4 x5 x6 x6 a)
      · exact FR_at FA_rf (r_H_move_28 N (f_H_move_3 N n) (r_H_move_3 N n) x1 x2 x3 x4 x5 x6 ((x5 - 1) - x6) a)
set_option maxRecDepth 100000 in
theorem r_H_move (N : Nat) (p1 : Int32) (p2 : Int32) (p3 : Int32) (p4 : Int32) (p5 : Int32) (a : aT) : FR w_H_move a (f_H_move N p1 p2 p3 p4 p5 a) := by
  exact FR_at FA_rf (r_H_move_3 N N p1 p2 p3 p4 p5 0 a)
abbrev w_C_copy : List (Nat × Option Nat) := [(27, some 3), (30, none)]
set_option maxRecDepth 100000 in
theorem r_C_copy (N : Nat) (p1 : Int32) (p2 : Int32) (p3 : Int32) (p4 : Int32) (p5 : Int32) (a : aT) : FR w_C_copy a (f_C_copy N p1 p2 p3 p4 p5 a) := by
  refine FR_if ?_ ?_
  · exact FR_so FA_rf
  · refine FR_if ?_ ?_
    · exact FR_so FA_rf
    · refine FR_bP (fun q3 => ?_)
      refine FR_if ?_ ?_
      · refine FR_bP (fun q4 => ?_)
        refine FR_if ?_ ?_
        · refine FR_bP (fun q5 => ?_)
          refine FR_bP (fun q6 => ?_)
          refine FR_if ?_ ?_
          · refine FR_bP (fun q7 => ?_)
            refine FR_if ?_ ?_
            · refine FR_bI FA_rf (r_H_find 2 a) (by decide) (fun q8 hq8 => ?_)
              exact FR_so hq8
            · refine FR_bP (fun q9 => ?_)
              refine FR_if ?_ ?_
              · refine FR_bI FA_rf (r_H_find 2 a) (by decide) (fun q10 hq10 => ?_)
                exact FR_so hq10
              · refine FR_bI FA_rf (r_H_move N p1 p2 p3 p4 p5 a) (by decide) (fun q11 hq11 => ?_)
                exact FR_so hq11
          · refine FR_bI FA_rf (r_H_find 4 a) (by decide) (fun q12 hq12 => ?_)
            exact FR_so hq12
        · refine FR_bI FA_rf (r_H_find 1 a) (by decide) (fun q13 hq13 => ?_)
          exact FR_so hq13
      · refine FR_bI FA_rf (r_H_find 1 a) (by decide) (fun q14 hq14 => ?_)
        exact FR_so hq14
abbrev w_M_copy : List (Nat × Option Nat) := [(31, some 4), (34, none), (35, none)]
set_option maxRecDepth 100000 in
theorem r_M_copy_157 (N : Nat) : ∀ (n : Nat) (x3 : Int32) (x4 : Int32) (x5 : Int32) (x6 : Int32) (a : aT), FR w_M_copy a (f_M_copy_157 N n x3 x4 x5 x6 a)
  | 0, _, _, _, _, _ => FR_no
  | n + 1, x3, x4, x5, x6, a => by
    refine FR_if ?_ ?_
    · exact FR_so FA_rf
    · refine FR_if ?_ FR_no
      refine FR_if ?_ FR_no
      exact FR_at (FA_upN FA_rf (by decide)) (r_M_copy_157 N n x3 x4 x5 (x6 + 1) (upA a 34 (ix (((60 * x3) + x4) + x6)) (a 35 (ix x6))))
set_option maxRecDepth 100000 in
theorem r_M_copy_120 (N : Nat) : ∀ (n : Nat) (x1 : Int32) (x2 : Int32) (x3 : Int32) (x4 : Int32) (x5 : Int32) (x6 : Int32) (a : aT), FR w_M_copy a (f_M_copy_120 N n x1 x2 x3 x4 x5 x6 a)
  | 0, _, _, _, _, _, _, _ => FR_no
  | n + 1, x1, x2, x3, x4, x5, x6, a => by
    refine FR_if ?_ ?_
    · exact FR_at FA_rf (r_M_copy_157 N N x3 x4 x5 0 a)
    · refine FR_if ?_ FR_no
      refine FR_if ?_ FR_no
      exact FR_at (FA_upN FA_rf (by decide)) (r_M_copy_120 N n x1 x2 x3 x4 x5 (x6 + 1) (upA a 35 (ix x6) (a 34 (ix (((60 * x1) + x2) + x6)))))
set_option maxRecDepth 100000 in
theorem r_M_copy (N : Nat) (p1 : Int32) (p2 : Int32) (p3 : Int32) (p4 : Int32) (p5 : Int32) (a : aT) : FR w_M_copy a (f_M_copy N p1 p2 p3 p4 p5 a) := by
  refine FR_if ?_ ?_
  · exact FR_so FA_rf
  · refine FR_if ?_ ?_
    · exact FR_so FA_rf
    · refine FR_if ?_ FR_no
      refine FR_if ?_ ?_
      · refine FR_bI FA_rf (r_M_met 1 a) (by decide) (fun q3 hq3 => ?_)
        exact FR_so hq3
      · refine FR_if ?_ FR_no
        refine FR_if ?_ ?_
        · refine FR_if ?_ FR_no
          refine FR_if ?_ FR_no
          refine FR_if ?_ ?_
          · refine FR_if ?_ ?_
            · refine FR_bI FA_rf (r_M_met 2 a) (by decide) (fun q4 hq4 => ?_)
              exact FR_so hq4
            · refine FR_if ?_ ?_
              · refine FR_bI FA_rf (r_M_met 2 a) (by decide) (fun q5 hq5 => ?_)
                exact FR_so hq5
              · refine FR_if ?_ ?_
                · refine FR_bI FA_rf (r_M_met 2 a) (by decide) (fun q6 hq6 => ?_)
                  exact FR_so hq6
                · refine FR_if ?_ FR_no
                  refine FR_if ?_ ?_
                  · refine FR_bI FA_rf (r_M_met 2 a) (by decide) (fun q7 hq7 => ?_)
                    exact FR_so hq7
                  · refine FR_if ?_ FR_no
                    refine FR_if ?_ ?_
                    · exact FR_at FA_rf (r_M_copy_120 N N p1 p2 p3 p4 p5 0 a)
                    · refine FR_bI FA_rf (r_M_met 2 a) (by decide) (fun q8 hq8 => ?_)
                      exact FR_so hq8
          · refine FR_bI FA_rf (r_M_met 4 a) (by decide) (fun q9 hq9 => ?_)
            exact FR_so hq9
        · refine FR_bI FA_rf (r_M_met 1 a) (by decide) (fun q10 hq10 => ?_)
          exact FR_so hq10
abbrev w_C_write : List (Nat × Option Nat) := [(14, some 9), (14, some 10), (14, some 11), (14, some 12), (14, some 13), (15, none), (16, none), (17, none), (18, none), (27, some 3), (30, none)]
set_option maxRecDepth 100000 in
theorem r_C_write_59 (N : Nat) : ∀ (n : Nat) (x1 : Int32) (x2 : Int32) (x3 : Int32) (a : aT), FR w_C_write a (f_C_write_59 N n x1 x2 x3 a)
  | 0, _, _, _, _ => FR_no
  | n + 1, x1, x2, x3, a => by
    refine FR_if ?_ ?_
    · exact FR_so FA_rf
    · refine FR_bP (fun q8 => ?_)
      refine FR_bI FA_rf (r_H_put x1 x3 q8 a) (by decide) (fun q9 hq9 => ?_)
      exact FR_at hq9 (r_C_write_59 N n x1 x2 (x3 + 1) q9.2)
set_option maxRecDepth 100000 in
theorem r_C_write (N : Nat) (p1 : Int32) (a : aT) : FR w_C_write a (f_C_write N p1 a) := by
  refine FR_if ?_ ?_
  · exact FR_so FA_rf
  · refine FR_bP (fun q2 => ?_)
    refine FR_if ?_ ?_
    · refine FR_bI FA_rf (r_P_replayAll N a) (by decide) (fun q3 hq3 => ?_)
      refine FR_bP (fun q4 => ?_)
      exact FR_at hq3 (r_C_write_59 N N p1 (f_J_min q4 (f_O_size q3.2)) 0 q3.2)
    · refine FR_bI FA_rf (r_H_find 1 a) (by decide) (fun q7 hq7 => ?_)
      exact FR_so hq7
abbrev w_M_write : List (Nat × Option Nat) := [(31, some 4), (31, some 7), (31, some 10), (31, some 11), (31, some 24), (31, some 25), (31, some 26), (31, some 27), (31, some 28), (34, none), (37, none), (38, none), (45, none), (46, none), (47, none), (48, none)]
set_option maxRecDepth 100000 in
theorem r_M_write_58 (N : Nat) : ∀ (n : Nat) (x1 : Int32) (x2 : Int32) (x3 : Int32) (a : aT), FR w_M_write a (f_M_write_58 N n x1 x2 x3 a)
  | 0, _, _, _, _ => FR_no
  | n + 1, x1, x2, x3, a => by
    refine FR_if ?_ ?_
    · exact FR_so FA_rf
    · refine FR_if ?_ FR_no
      refine FR_if ?_ FR_no
      refine FR_if ?_ FR_no
      exact FR_at (FA_upN FA_rf (by decide)) (r_M_write_58 N n x1 x2 (x3 + 1) (upA a 34 (ix ((60 * x1) + x3)) (f_M_cut (a 32 (ix x1)) (a 48 (ix x3)))))
set_option maxRecDepth 100000 in
theorem r_M_write (N : Nat) (p1 : Int32) (a : aT) : FR w_M_write a (f_M_write N p1 a) := by
  refine FR_if ?_ ?_
  · exact FR_so FA_rf
  · refine FR_if ?_ FR_no
    refine FR_if ?_ ?_
    · refine FR_bI FA_rf (r_M_find N a) (by decide) (fun q2 hq2 => ?_)
      refine FR_if ?_ FR_no
      refine FR_if ?_ ?_
      · exact FR_at hq2 (r_M_write_58 N N p1 (q2.2 31 18) 0 q2.2)
      · refine FR_if ?_ FR_no
        exact FR_at hq2 (r_M_write_58 N N p1 (q2.2 33 (ix p1)) 0 q2.2)
    · refine FR_bI FA_rf (r_M_met 1 a) (by decide) (fun q3 hq3 => ?_)
      exact FR_so hq3
abbrev w_C_count : List (Nat × Option Nat) := [(14, some 9), (14, some 10), (14, some 11), (14, some 12), (14, some 13), (15, none), (16, none), (17, none), (18, none)]
set_option maxRecDepth 100000 in
theorem r_C_count (N : Nat) (p1 : Int32) (a : aT) : FR w_C_count a (f_C_count N p1 a) := by
  refine FR_if ?_ ?_
  · refine FR_bP (fun q1 => ?_)
    exact FR_so FA_rf
  refine FR_if ?_ ?_
  · refine FR_bP (fun q2 => ?_)
    exact FR_so FA_rf
  refine FR_if ?_ ?_
  · exact FR_so FA_rf
  refine FR_if ?_ ?_
  · exact FR_so FA_rf
  refine FR_if ?_ ?_
  · refine FR_bI FA_rf (r_P_replayAll N a) (by decide) (fun q5 hq5 => ?_)
    exact FR_so hq5
  refine FR_if ?_ ?_
  · exact FR_so FA_rf
  refine FR_if ?_ ?_
  · exact FR_so FA_rf
  refine FR_if ?_ ?_
  · refine FR_bP (fun q9 => ?_)
    exact FR_so FA_rf
  refine FR_if ?_ ?_
  · exact FR_so FA_rf
  exact FR_so FA_rf
abbrev w_M_count : List (Nat × Option Nat) := [(31, some 7), (31, some 10), (31, some 11), (31, some 24), (31, some 25), (31, some 26), (31, some 27), (31, some 28), (37, none), (38, none), (45, none), (46, none), (47, none), (48, none)]
set_option maxRecDepth 100000 in
theorem r_M_count_68 (N : Nat) : ∀ (n : Nat) (x2 : Int32) (x3 : Int32) (a : aT), FR w_M_count a (f_M_count_68 N n x2 x3 a)
  | 0, _, _, _ => FR_no
  | n + 1, x2, x3, a => by
    refine FR_if ?_ ?_
    · exact FR_so FA_rf
    · refine FR_if ?_ FR_no
      refine FR_if ?_ ?_
      · exact FR_at FA_rf (r_M_count_68 N n (x2 + 0) (x3 + 1) a)
      · exact FR_at FA_rf (r_M_count_68 N n (x2 + 1) (x3 + 1) a)
set_option maxRecDepth 100000 in
theorem r_M_count (N : Nat) (p1 : Int32) (a : aT) : FR w_M_count a (f_M_count N p1 a) := by
  refine FR_bI FA_rf (r_M_find N a) (by decide) (fun q1 hq1 => ?_)
  refine FR_if ?_ ?_
  · exact FR_so hq1
  refine FR_if ?_ ?_
  · exact FR_at hq1 (r_M_count_68 N N 0 0 q1.2)
  refine FR_if ?_ ?_
  · exact FR_so hq1
  refine FR_if ?_ ?_
  · exact FR_so hq1
  refine FR_if ?_ ?_
  · exact FR_so hq1
  refine FR_if ?_ ?_
  · exact FR_so hq1
  refine FR_if ?_ ?_
  · exact FR_so hq1
  refine FR_if ?_ ?_
  · exact FR_so hq1
  refine FR_if ?_ ?_
  · exact FR_so hq1
  exact FR_so hq1
abbrev w_C_digest : List (Nat × Option Nat) := [(14, some 9), (14, some 10), (14, some 11), (14, some 12), (14, some 13), (15, none), (16, none), (17, none), (18, none), (20, none)]
set_option maxRecDepth 100000 in
theorem r_C_digest_124 (N : Nat) (k116 : Int64 → Int32 → aT → Option (Int64 × aT)) (h116 : ∀ (x1 : Int64) (x3 : Int32) (a : aT), FR w_C_digest a (k116 x1 x3 a)) : ∀ (n : Nat) (x1 : Int64) (x3 : Int32) (x4 : Int32) (a : aT), FR w_C_digest a (f_C_digest_124 N k116 n x1 x3 x4 a)
  | 0, _, _, _, _ => FR_no
  | n + 1, x1, x3, x4, a => by
    refine FR_if ?_ ?_
    · refine FR_bI FA_rf (r_C_worth N x3 9 a) (by decide) (fun q20 hq20 => ?_)
      refine FR_bI hq20 (r_C_where N x3 q20.2) (by decide) (fun q21 hq21 => ?_)
      exact FR_at hq21 (h116 ((31 * ((31 * x1) + q20.1.toInt64)) + q21.1.toInt64) (x3 + 1) q21.2)
    · refine FR_bI FA_rf (r_C_brings N x3 9 x4 a) (by decide) (fun q22 hq22 => ?_)
      exact FR_at hq22 (r_C_digest_124 N k116 h116 n ((31 * x1) + q22.1) x3 (x4 + 1) q22.2)
set_option maxRecDepth 100000 in
theorem r_C_digest_116 (N : Nat) : ∀ (n : Nat) (x1 : Int64) (x3 : Int32) (a : aT), FR w_C_digest a (f_C_digest_116 N n x1 x3 a)
  | 0, _, _, _ => FR_no
  | n + 1, x1, x3, a => by
    refine FR_if ?_ ?_
    · refine FR_bI FA_rf (r_C_which N a) (by decide) (fun q7 hq7 => ?_)
      refine FR_bI hq7 (r_C_frees N 0 9 1 q7.2) (by decide) (fun q8 hq8 => ?_)
      refine FR_bP (fun q9 => ?_)
      refine FR_bP (fun q10 => ?_)
      refine FR_bP (fun q11 => ?_)
      refine FR_bP (fun q12 => ?_)
      refine FR_bI hq8 (r_C_rests N 3 q8.2) (by decide) (fun q13 hq13 => ?_)
      refine FR_bI hq13 (r_C_ends N 3 0 q13.2) (by decide) (fun q14 hq14 => ?_)
      refine FR_bI hq14 (r_C_ends N 3 1 q14.2) (by decide) (fun q15 hq15 => ?_)
      refine FR_bP (fun q16 => ?_)
      refine FR_bP (fun q17 => ?_)
      refine FR_bP (fun q18 => ?_)
      refine FR_bI hq15 (r_C_seeds N q15.2) (by decide) (fun q19 hq19 => ?_)
      exact FR_so hq19
    · exact FR_at FA_rf (r_C_digest_124 N (f_C_digest_116 N n) (r_C_digest_116 N n) N x1 x3 0 a)
set_option maxRecDepth 100000 in
theorem r_C_digest_90 (N : Nat) : ∀ (n : Nat) (x1 : Int64) (x3 : Int32) (a : aT), FR w_C_digest a (f_C_digest_90 N n x1 x3 a)
  | 0, _, _, _ => FR_no
  | n + 1, x1, x3, a => by
    refine FR_if ?_ ?_
    · exact FR_at FA_rf (r_C_digest_116 N N x1 0 a)
    · refine FR_bI FA_rf (r_C_has N x3 a) (by decide) (fun q6 hq6 => ?_)
      exact FR_at hq6 (r_C_digest_90 N n ((31 * x1) + q6.1.toInt64) (x3 + 1) q6.2)
set_option maxRecDepth 100000 in
theorem r_C_digest_57 (N : Nat) : ∀ (n : Nat) (x1 : Int64) (x3 : Int32) (a : aT), FR w_C_digest a (f_C_digest_57 N n x1 x3 a)
  | 0, _, _, _ => FR_no
  | n + 1, x1, x3, a => by
    refine FR_if ?_ ?_
    · exact FR_at FA_rf (r_C_digest_90 N N x1 0 a)
    · refine FR_bI FA_rf (r_C_state N (f_O_size a) x3 a) (by decide) (fun q5 hq5 => ?_)
      exact FR_at hq5 (r_C_digest_57 N n ((31 * x1) + q5.1.toInt64) (x3 + 1) q5.2)
set_option maxRecDepth 100000 in
theorem r_C_digest_6 (N : Nat) : ∀ (n : Nat) (x1 : Int64) (x3 : Int32) (a : aT), FR w_C_digest a (f_C_digest_6 N n x1 x3 a)
  | 0, _, _, _ => FR_no
  | n + 1, x1, x3, a => by
    refine FR_if ?_ ?_
    · refine FR_bI FA_rf (r_C_judged N a) (by decide) (fun q2 hq2 => ?_)
      exact FR_at hq2 (r_C_digest_57 N N ((31 * ((31 * x1) + (f_C_fault a).toInt64)) + q2.1.toInt64) 0 q2.2)
    · refine FR_bI FA_rf (r_C_count N x3 a) (by decide) (fun q3 hq3 => ?_)
      exact FR_at hq3 (r_C_digest_6 N n ((31 * x1) + q3.1.toInt64) (x3 + 1) q3.2)
set_option maxRecDepth 100000 in
theorem r_C_digest (N : Nat) (a : aT) : FR w_C_digest a (f_C_digest N a) := by
  exact FR_at FA_rf (r_C_digest_6 N N 17 0 a)
abbrev w_M_digest : List (Nat × Option Nat) := [(31, some 7), (31, some 10), (31, some 11), (31, some 24), (31, some 25), (31, some 26), (31, some 27), (31, some 28), (37, none), (38, none), (45, none), (46, none), (47, none), (48, none)]
set_option maxRecDepth 100000 in
theorem r_M_digest_122 (N : Nat) (k114 : Int64 → Int32 → aT → Option (Int64 × aT)) (h114 : ∀ (x1 : Int64) (x3 : Int32) (a : aT), FR w_M_digest a (k114 x1 x3 a)) : ∀ (n : Nat) (x1 : Int64) (x3 : Int32) (x4 : Int32) (a : aT), FR w_M_digest a (f_M_digest_122 N k114 n x1 x3 x4 a)
  | 0, _, _, _, _ => FR_no
  | n + 1, x1, x3, x4, a => by
    refine FR_if ?_ ?_
    · refine FR_bI FA_rf (r_M_worth N x3 9 a) (by decide) (fun q17 hq17 => ?_)
      refine FR_bP (fun q18 => ?_)
      exact FR_at hq17 (h114 ((31 * ((31 * x1) + q17.1.toInt64)) + q18.toInt64) (x3 + 1) q17.2)
    · refine FR_bI FA_rf (r_M_brings N x3 9 x4 a) (by decide) (fun q19 hq19 => ?_)
      exact FR_at hq19 (r_M_digest_122 N k114 h114 n ((31 * x1) + q19.1) x3 (x4 + 1) q19.2)
set_option maxRecDepth 100000 in
theorem r_M_digest_214 (N : Nat) : ∀ (n : Nat) (x1 : Int64) (x3 : Int32) (a : aT), FR w_M_digest a (f_M_digest_214 N n x1 x3 a)
  | 0, _, _, _ => FR_no
  | n + 1, x1, x3, a => by
    refine FR_if ?_ ?_
    · refine FR_bP (fun q7 => ?_)
      refine FR_bP (fun q8 => ?_)
      refine FR_bP (fun q9 => ?_)
      refine FR_bP (fun q10 => ?_)
      refine FR_bP (fun q11 => ?_)
      refine FR_bP (fun q12 => ?_)
      refine FR_bP (fun q13 => ?_)
      refine FR_bP (fun q14 => ?_)
      refine FR_bI FA_rf (r_M_seedsNow N a) (by decide) (fun q15 hq15 => ?_)
      exact FR_so hq15
    · refine FR_bP (fun q16 => ?_)
      exact FR_at FA_rf (r_M_digest_214 N n ((31 * x1) + q16) (x3 + 1) a)
set_option maxRecDepth 100000 in
theorem r_M_digest_114 (N : Nat) : ∀ (n : Nat) (x1 : Int64) (x3 : Int32) (a : aT), FR w_M_digest a (f_M_digest_114 N n x1 x3 a)
  | 0, _, _, _ => FR_no
  | n + 1, x1, x3, a => by
    refine FR_if ?_ ?_
    · refine FR_bP (fun q5 => ?_)
      refine FR_bI FA_rf (r_M_frees N 0 9 1 a) (by decide) (fun q6 hq6 => ?_)
      exact FR_at hq6 (r_M_digest_214 N N ((31 * ((31 * x1) + q5.toInt64)) + q6.1.toInt64) 0 q6.2)
    · exact FR_at FA_rf (r_M_digest_122 N (f_M_digest_114 N n) (r_M_digest_114 N n) N x1 x3 0 a)
set_option maxRecDepth 100000 in
theorem r_M_digest_87 (N : Nat) : ∀ (n : Nat) (x1 : Int64) (x3 : Int32) (a : aT), FR w_M_digest a (f_M_digest_87 N n x1 x3 a)
  | 0, _, _, _ => FR_no
  | n + 1, x1, x3, a => by
    refine FR_if ?_ ?_
    · exact FR_at FA_rf (r_M_digest_114 N N x1 0 a)
    · refine FR_if ?_ FR_no
      exact FR_at FA_rf (r_M_digest_87 N n ((31 * x1) + (a 47 (ix x3)).toInt64) (x3 + 1) a)
set_option maxRecDepth 100000 in
theorem r_M_digest_57 (N : Nat) : ∀ (n : Nat) (x1 : Int64) (x3 : Int32) (a : aT), FR w_M_digest a (f_M_digest_57 N n x1 x3 a)
  | 0, _, _, _ => FR_no
  | n + 1, x1, x3, a => by
    refine FR_if ?_ ?_
    · exact FR_at FA_rf (r_M_digest_87 N N x1 0 a)
    · refine FR_bI FA_rf (r_M_stateOf N (a 31 18) x3 a) (by decide) (fun q4 hq4 => ?_)
      exact FR_at hq4 (r_M_digest_57 N n ((31 * x1) + q4.1.toInt64) (x3 + 1) q4.2)
set_option maxRecDepth 100000 in
theorem r_M_digest_6 (N : Nat) : ∀ (n : Nat) (x1 : Int64) (x3 : Int32) (a : aT), FR w_M_digest a (f_M_digest_6 N n x1 x3 a)
  | 0, _, _, _ => FR_no
  | n + 1, x1, x3, a => by
    refine FR_if ?_ ?_
    · refine FR_bI FA_rf (r_M_reads N a) (by decide) (fun q1 hq1 => ?_)
      refine FR_bI hq1 (r_M_judged N q1.2) (by decide) (fun q2 hq2 => ?_)
      exact FR_at hq2 (r_M_digest_57 N N ((31 * ((31 * x1) + q1.1.toInt64)) + q2.1.toInt64) 0 q2.2)
    · refine FR_bI FA_rf (r_M_count N x3 a) (by decide) (fun q3 hq3 => ?_)
      exact FR_at hq3 (r_M_digest_6 N n ((31 * x1) + q3.1.toInt64) (x3 + 1) q3.2)
set_option maxRecDepth 100000 in
theorem r_M_digest (N : Nat) (a : aT) : FR w_M_digest a (f_M_digest N a) := by
  exact FR_at FA_rf (r_M_digest_6 N N 17 0 a)
abbrev w_L_law : List (Nat × Option Nat) := [(1, some 2), (1, some 3), (2, none), (3, none), (5, none), (6, some 1), (7, none), (9, none), (10, some 3), (11, none), (12, none), (13, none), (14, some 9), (14, some 10), (14, some 11), (14, some 12), (14, some 13), (15, none), (16, none), (17, none), (18, none), (20, none), (21, some 2), (22, none), (23, none), (24, some 2), (25, none), (26, none), (27, some 3), (28, none), (29, none), (30, none), (31, some 4), (31, some 6), (31, some 7), (31, some 10), (31, some 11), (31, some 16), (31, some 18), (31, some 24), (31, some 25), (31, some 26), (31, some 27), (31, some 28), (31, some 29), (31, some 31), (32, none), (33, none), (34, none), (35, none), (36, none), (37, none), (38, none), (39, none), (40, none), (41, none), (42, none), (43, none), (44, none), (45, none), (46, none), (47, none), (48, none), (49, none), (50, none)]
set_option maxRecDepth 100000 in
theorem r_L_law_18 (N : Nat) (E : eT) : ∀ (n : Nat) (x3 : Int32) (a : aT), FR w_L_law a (f_L_law_18 N E n x3 a)
  | 0, _, _ => FR_no
  | n + 1, x3, a => by
    refine FR_if ?_ ?_
    · exact FR_so FA_rf
    · refine FR_if ?_ FR_no
      refine FR_if ?_ ?_
      · refine FR_if ?_ FR_no
        refine FR_bI FA_rf (r_C_type N (e_xs E (ix (x3 + 1))) a) (by decide) (fun q1 hq1 => ?_)
        refine FR_if ?_ FR_no
        refine FR_bI hq1 (r_M_type (e_xs E (ix (x3 + 1))) q1.2) (by decide) (fun q2 hq2 => ?_)
        refine FR_if ?_ ?_
        · exact FR_at hq2 (r_L_law_18 N E n (x3 + 6) q2.2)
        · exact FR_so hq2
      refine FR_if ?_ ?_
      · refine FR_bI FA_rf (r_C_wipe N a) (by decide) (fun q3 hq3 => ?_)
        refine FR_bI hq3 (r_M_wipe q3.2) (by decide) (fun q4 hq4 => ?_)
        refine FR_if ?_ ?_
        · exact FR_at hq4 (r_L_law_18 N E n (x3 + 6) q4.2)
        · exact FR_so hq4
      refine FR_if ?_ ?_
      · refine FR_bI FA_rf (r_C_undo N a) (by decide) (fun q5 hq5 => ?_)
        refine FR_bI hq5 (r_M_undo q5.2) (by decide) (fun q6 hq6 => ?_)
        refine FR_if ?_ ?_
        · exact FR_at hq6 (r_L_law_18 N E n (x3 + 6) q6.2)
        · exact FR_so hq6
      refine FR_if ?_ ?_
      · refine FR_bI FA_rf (r_M_fault N a) (by decide) (fun q8 hq8 => ?_)
        refine FR_if ?_ ?_
        · exact FR_at hq8 (r_L_law_18 N E n (x3 + 6) q8.2)
        · exact FR_so hq8
      refine FR_if ?_ ?_
      · refine FR_if ?_ FR_no
        refine FR_if ?_ FR_no
        refine FR_if ?_ FR_no
        refine FR_bI FA_rf (r_C_stick (e_xs E (ix (x3 + 1))) (e_xs E (ix (x3 + 2))) (e_xs E (ix (x3 + 3))) a) (by decide) (fun q9 hq9 => ?_)
        refine FR_if ?_ FR_no
        refine FR_if ?_ FR_no
        refine FR_if ?_ FR_no
        refine FR_bI hq9 (r_M_stick (e_xs E (ix (x3 + 1))) (e_xs E (ix (x3 + 2))) (e_xs E (ix (x3 + 3))) q9.2) (by decide) (fun q10 hq10 => ?_)
        refine FR_if ?_ ?_
        · exact FR_at hq10 (r_L_law_18 N E n (x3 + 6) q10.2)
        · exact FR_so hq10
      refine FR_if ?_ ?_
      · refine FR_if ?_ FR_no
        refine FR_if ?_ FR_no
        refine FR_bI FA_rf (r_C_set (e_xs E (ix (x3 + 1))) (e_xs E (ix (x3 + 2))) a) (by decide) (fun q11 hq11 => ?_)
        refine FR_if ?_ FR_no
        refine FR_if ?_ FR_no
        refine FR_bI hq11 (r_M_set (e_xs E (ix (x3 + 1))) (e_xs E (ix (x3 + 2))) q11.2) (by decide) (fun q12 hq12 => ?_)
        refine FR_if ?_ ?_
        · exact FR_at hq12 (r_L_law_18 N E n (x3 + 6) q12.2)
        · exact FR_so hq12
      refine FR_if ?_ ?_
      · refine FR_if ?_ FR_no
        refine FR_bI FA_rf (r_C_seed (e_xs E (ix (x3 + 1))) a) (by decide) (fun q13 hq13 => ?_)
        refine FR_if ?_ FR_no
        refine FR_bI hq13 (r_M_seed (e_xs E (ix (x3 + 1))) q13.2) (by decide) (fun q14 hq14 => ?_)
        refine FR_if ?_ ?_
        · exact FR_at hq14 (r_L_law_18 N E n (x3 + 6) q14.2)
        · exact FR_so hq14
      refine FR_if ?_ ?_
      · refine FR_if ?_ FR_no
        refine FR_if ?_ FR_no
        refine FR_bI FA_rf (r_C_stands (e_xs E (ix (x3 + 1))) (e_xs E (ix (x3 + 2))) a) (by decide) (fun q15 hq15 => ?_)
        refine FR_if ?_ FR_no
        refine FR_if ?_ FR_no
        refine FR_bI hq15 (r_M_stands (e_xs E (ix (x3 + 1))) (e_xs E (ix (x3 + 2))) q15.2) (by decide) (fun q16 hq16 => ?_)
        refine FR_if ?_ ?_
        · exact FR_at hq16 (r_L_law_18 N E n (x3 + 6) q16.2)
        · exact FR_so hq16
      refine FR_if ?_ ?_
      · refine FR_if ?_ FR_no
        refine FR_bI FA_rf (r_C_read N (e_xs E (ix (x3 + 1))) a) (by decide) (fun q17 hq17 => ?_)
        refine FR_if ?_ FR_no
        refine FR_bI hq17 (r_M_read N (e_xs E (ix (x3 + 1))) q17.2) (by decide) (fun q18 hq18 => ?_)
        refine FR_if ?_ ?_
        · exact FR_at hq18 (r_L_law_18 N E n (x3 + 6) q18.2)
        · exact FR_so hq18
      refine FR_if ?_ ?_
      · refine FR_if ?_ FR_no
        refine FR_if ?_ FR_no
        refine FR_if ?_ FR_no
        refine FR_bI FA_rf (r_C_toss (e_xs E (ix (x3 + 1))) (e_xs E (ix (x3 + 2))) (e_xs E (ix (x3 + 3))) a) (by decide) (fun q19 hq19 => ?_)
        refine FR_if ?_ FR_no
        refine FR_if ?_ FR_no
        refine FR_if ?_ FR_no
        refine FR_bI hq19 (r_M_toss (e_xs E (ix (x3 + 1))) (e_xs E (ix (x3 + 2))) (e_xs E (ix (x3 + 3))) q19.2) (by decide) (fun q20 hq20 => ?_)
        refine FR_if ?_ ?_
        · exact FR_at hq20 (r_L_law_18 N E n (x3 + 6) q20.2)
        · exact FR_so hq20
      refine FR_if ?_ ?_
      · refine FR_bI FA_rf (r_C_back a) (by decide) (fun q21 hq21 => ?_)
        refine FR_bI hq21 (r_M_back q21.2) (by decide) (fun q22 hq22 => ?_)
        refine FR_if ?_ ?_
        · exact FR_at hq22 (r_L_law_18 N E n (x3 + 6) q22.2)
        · exact FR_so hq22
      refine FR_if ?_ ?_
      · refine FR_bI FA_rf (r_C_judged N a) (by decide) (fun q23 hq23 => ?_)
        refine FR_bI hq23 (r_M_judged N q23.2) (by decide) (fun q24 hq24 => ?_)
        refine FR_if ?_ ?_
        · exact FR_at hq24 (r_L_law_18 N E n (x3 + 6) q24.2)
        · exact FR_so hq24
      refine FR_if ?_ ?_
      · refine FR_if ?_ FR_no
        refine FR_if ?_ FR_no
        refine FR_bI FA_rf (r_C_state N (e_xs E (ix (x3 + 1))) (e_xs E (ix (x3 + 2))) a) (by decide) (fun q25 hq25 => ?_)
        refine FR_if ?_ FR_no
        refine FR_if ?_ FR_no
        refine FR_bI hq25 (r_M_state N (e_xs E (ix (x3 + 1))) (e_xs E (ix (x3 + 2))) q25.2) (by decide) (fun q26 hq26 => ?_)
        refine FR_if ?_ ?_
        · exact FR_at hq26 (r_L_law_18 N E n (x3 + 6) q26.2)
        · exact FR_so hq26
      refine FR_if ?_ ?_
      · refine FR_if ?_ FR_no
        refine FR_bI FA_rf (r_C_hangs N (e_xs E (ix (x3 + 1))) a) (by decide) (fun q27 hq27 => ?_)
        refine FR_if ?_ FR_no
        refine FR_bI hq27 (r_M_hangs N (e_xs E (ix (x3 + 1))) q27.2) (by decide) (fun q28 hq28 => ?_)
        refine FR_if ?_ ?_
        · exact FR_at hq28 (r_L_law_18 N E n (x3 + 6) q28.2)
        · exact FR_so hq28
      refine FR_if ?_ ?_
      · refine FR_if ?_ FR_no
        refine FR_bI FA_rf (r_C_has N (e_xs E (ix (x3 + 1))) a) (by decide) (fun q29 hq29 => ?_)
        refine FR_if ?_ FR_no
        refine FR_bI hq29 (r_M_has N (e_xs E (ix (x3 + 1))) q29.2) (by decide) (fun q30 hq30 => ?_)
        refine FR_if ?_ ?_
        · exact FR_at hq30 (r_L_law_18 N E n (x3 + 6) q30.2)
        · exact FR_so hq30
      refine FR_if ?_ ?_
      · refine FR_if ?_ FR_no
        refine FR_if ?_ FR_no
        refine FR_if ?_ FR_no
        refine FR_bI FA_rf (r_C_brings N (e_xs E (ix (x3 + 1))) (e_xs E (ix (x3 + 2))) (e_xs E (ix (x3 + 3))) a) (by decide) (fun q31 hq31 => ?_)
        refine FR_if ?_ FR_no
        refine FR_if ?_ FR_no
        refine FR_if ?_ FR_no
        refine FR_bI hq31 (r_M_brings N (e_xs E (ix (x3 + 1))) (e_xs E (ix (x3 + 2))) (e_xs E (ix (x3 + 3))) q31.2) (by decide) (fun q32 hq32 => ?_)
        refine FR_if ?_ ?_
        · exact FR_at hq32 (r_L_law_18 N E n (x3 + 6) q32.2)
        · exact FR_so hq32
      refine FR_if ?_ ?_
      · refine FR_if ?_ FR_no
        refine FR_if ?_ FR_no
        refine FR_bI FA_rf (r_C_worth N (e_xs E (ix (x3 + 1))) (e_xs E (ix (x3 + 2))) a) (by decide) (fun q33 hq33 => ?_)
        refine FR_if ?_ FR_no
        refine FR_if ?_ FR_no
        refine FR_bI hq33 (r_M_worth N (e_xs E (ix (x3 + 1))) (e_xs E (ix (x3 + 2))) q33.2) (by decide) (fun q34 hq34 => ?_)
        refine FR_if ?_ ?_
        · exact FR_at hq34 (r_L_law_18 N E n (x3 + 6) q34.2)
        · exact FR_so hq34
      refine FR_if ?_ ?_
      · refine FR_if ?_ FR_no
        refine FR_bI FA_rf (r_C_where N (e_xs E (ix (x3 + 1))) a) (by decide) (fun q35 hq35 => ?_)
        refine FR_if ?_ FR_no
        refine FR_bI hq35 (r_M_where N (e_xs E (ix (x3 + 1))) q35.2) (by decide) (fun q36 hq36 => ?_)
        refine FR_if ?_ ?_
        · exact FR_at hq36 (r_L_law_18 N E n (x3 + 6) q36.2)
        · exact FR_so hq36
      refine FR_if ?_ ?_
      · refine FR_bI FA_rf (r_C_which N a) (by decide) (fun q37 hq37 => ?_)
        refine FR_bI hq37 (r_M_which N q37.2) (by decide) (fun q38 hq38 => ?_)
        refine FR_if ?_ ?_
        · exact FR_at hq38 (r_L_law_18 N E n (x3 + 6) q38.2)
        · exact FR_so hq38
      refine FR_if ?_ ?_
      · refine FR_if ?_ FR_no
        refine FR_if ?_ FR_no
        refine FR_if ?_ FR_no
        refine FR_bI FA_rf (r_C_frees N (e_xs E (ix (x3 + 1))) (e_xs E (ix (x3 + 2))) (e_xs E (ix (x3 + 3))) a) (by decide) (fun q39 hq39 => ?_)
        refine FR_if ?_ FR_no
        refine FR_if ?_ FR_no
        refine FR_if ?_ FR_no
        refine FR_bI hq39 (r_M_frees N (e_xs E (ix (x3 + 1))) (e_xs E (ix (x3 + 2))) (e_xs E (ix (x3 + 3))) q39.2) (by decide) (fun q40 hq40 => ?_)
        refine FR_if ?_ ?_
        · exact FR_at hq40 (r_L_law_18 N E n (x3 + 6) q40.2)
        · exact FR_so hq40
      refine FR_if ?_ ?_
      · refine FR_if ?_ FR_no
        refine FR_if ?_ FR_no
        refine FR_bP (fun q41 => ?_)
        refine FR_if ?_ FR_no
        refine FR_if ?_ FR_no
        refine FR_bI FA_rf (r_M_lie N (e_xs E (ix (x3 + 1))) (e_xs E (ix (x3 + 2))) a) (by decide) (fun q42 hq42 => ?_)
        refine FR_if ?_ ?_
        · exact FR_at hq42 (r_L_law_18 N E n (x3 + 6) q42.2)
        · exact FR_so hq42
      refine FR_if ?_ ?_
      · refine FR_if ?_ FR_no
        refine FR_bP (fun q43 => ?_)
        refine FR_if ?_ FR_no
        refine FR_bI FA_rf (r_M_ripe N (e_xs E (ix (x3 + 1))) a) (by decide) (fun q44 hq44 => ?_)
        refine FR_if ?_ ?_
        · exact FR_at hq44 (r_L_law_18 N E n (x3 + 6) q44.2)
        · exact FR_so hq44
      refine FR_if ?_ ?_
      · refine FR_if ?_ FR_no
        refine FR_bI FA_rf (r_C_rests N (e_xs E (ix (x3 + 1))) a) (by decide) (fun q45 hq45 => ?_)
        refine FR_if ?_ FR_no
        refine FR_bI hq45 (r_M_rests N (e_xs E (ix (x3 + 1))) q45.2) (by decide) (fun q46 hq46 => ?_)
        refine FR_if ?_ ?_
        · exact FR_at hq46 (r_L_law_18 N E n (x3 + 6) q46.2)
        · exact FR_so hq46
      refine FR_if ?_ ?_
      · refine FR_if ?_ FR_no
        refine FR_if ?_ FR_no
        refine FR_bI FA_rf (r_C_ends N (e_xs E (ix (x3 + 1))) (e_xs E (ix (x3 + 2))) a) (by decide) (fun q47 hq47 => ?_)
        refine FR_if ?_ FR_no
        refine FR_if ?_ FR_no
        refine FR_bI hq47 (r_M_ends N (e_xs E (ix (x3 + 1))) (e_xs E (ix (x3 + 2))) q47.2) (by decide) (fun q48 hq48 => ?_)
        refine FR_if ?_ ?_
        · exact FR_at hq48 (r_L_law_18 N E n (x3 + 6) q48.2)
        · exact FR_so hq48
      refine FR_if ?_ ?_
      · refine FR_if ?_ FR_no
        refine FR_if ?_ FR_no
        refine FR_bI FA_rf (r_C_thrower (e_xs E (ix (x3 + 1))) (e_xs E (ix (x3 + 2))) a) (by decide) (fun q49 hq49 => ?_)
        refine FR_if ?_ FR_no
        refine FR_if ?_ FR_no
        refine FR_bI hq49 (r_M_thrower (e_xs E (ix (x3 + 1))) (e_xs E (ix (x3 + 2))) q49.2) (by decide) (fun q50 hq50 => ?_)
        refine FR_if ?_ ?_
        · exact FR_at hq50 (r_L_law_18 N E n (x3 + 6) q50.2)
        · exact FR_so hq50
      refine FR_if ?_ ?_
      · refine FR_bI FA_rf (r_C_gone a) (by decide) (fun q51 hq51 => ?_)
        refine FR_bI hq51 (r_M_gone q51.2) (by decide) (fun q52 hq52 => ?_)
        refine FR_if ?_ ?_
        · exact FR_at hq52 (r_L_law_18 N E n (x3 + 6) q52.2)
        · exact FR_so hq52
      refine FR_if ?_ ?_
      · refine FR_if ?_ FR_no
        refine FR_if ?_ FR_no
        refine FR_bP (fun q53 => ?_)
        refine FR_if ?_ FR_no
        refine FR_if ?_ FR_no
        refine FR_bP (fun q54 => ?_)
        refine FR_if ?_ ?_
        · exact FR_at FA_rf (r_L_law_18 N E n (x3 + 6) a)
        · exact FR_so FA_rf
      refine FR_if ?_ ?_
      · refine FR_if ?_ FR_no
        refine FR_if ?_ FR_no
        refine FR_bP (fun q55 => ?_)
        refine FR_if ?_ FR_no
        refine FR_if ?_ FR_no
        refine FR_bP (fun q56 => ?_)
        refine FR_if ?_ ?_
        · exact FR_at FA_rf (r_L_law_18 N E n (x3 + 6) a)
        · exact FR_so FA_rf
      refine FR_if ?_ ?_
      · refine FR_if ?_ FR_no
        refine FR_if ?_ FR_no
        refine FR_bI FA_rf (r_C_seen (e_xs E (ix (x3 + 1))) (e_xs E (ix (x3 + 2))) a) (by decide) (fun q57 hq57 => ?_)
        refine FR_if ?_ FR_no
        refine FR_if ?_ FR_no
        refine FR_bI hq57 (r_M_seen (e_xs E (ix (x3 + 1))) (e_xs E (ix (x3 + 2))) q57.2) (by decide) (fun q58 hq58 => ?_)
        refine FR_if ?_ ?_
        · exact FR_at hq58 (r_L_law_18 N E n (x3 + 6) q58.2)
        · exact FR_so hq58
      refine FR_if ?_ ?_
      · refine FR_bI FA_rf (r_C_forget a) (by decide) (fun q59 hq59 => ?_)
        refine FR_bI hq59 (r_M_forget q59.2) (by decide) (fun q60 hq60 => ?_)
        refine FR_if ?_ ?_
        · exact FR_at hq60 (r_L_law_18 N E n (x3 + 6) q60.2)
        · exact FR_so hq60
      refine FR_if ?_ ?_
      · refine FR_bI FA_rf (r_C_seeds N a) (by decide) (fun q61 hq61 => ?_)
        refine FR_bI hq61 (r_M_seeds N q61.2) (by decide) (fun q62 hq62 => ?_)
        refine FR_if ?_ ?_
        · exact FR_at hq62 (r_L_law_18 N E n (x3 + 6) q62.2)
        · exact FR_so hq62
      refine FR_if ?_ ?_
      · refine FR_if ?_ FR_no
        refine FR_if ?_ FR_no
        refine FR_if ?_ FR_no
        refine FR_bI FA_rf (r_C_sheet N (e_xs E (ix (x3 + 1))) (e_xs E (ix (x3 + 2))) (e_xs E (ix (x3 + 3))) a) (by decide) (fun q63 hq63 => ?_)
        refine FR_if ?_ FR_no
        refine FR_if ?_ FR_no
        refine FR_if ?_ FR_no
        refine FR_bI hq63 (r_M_sheet N (e_xs E (ix (x3 + 1))) (e_xs E (ix (x3 + 2))) (e_xs E (ix (x3 + 3))) q63.2) (by decide) (fun q64 hq64 => ?_)
        refine FR_if ?_ ?_
        · exact FR_at hq64 (r_L_law_18 N E n (x3 + 6) q64.2)
        · exact FR_so hq64
      refine FR_if ?_ ?_
      · refine FR_if ?_ FR_no
        refine FR_bI FA_rf (r_C_lose (e_xs E (ix (x3 + 1))) a) (by decide) (fun q65 hq65 => ?_)
        refine FR_if ?_ FR_no
        refine FR_bI hq65 (r_M_lose (e_xs E (ix (x3 + 1))) q65.2) (by decide) (fun q66 hq66 => ?_)
        refine FR_if ?_ ?_
        · exact FR_at hq66 (r_L_law_18 N E n (x3 + 6) q66.2)
        · exact FR_so hq66
      refine FR_if ?_ ?_
      · refine FR_if ?_ FR_no
        refine FR_if ?_ FR_no
        refine FR_if ?_ FR_no
        refine FR_if ?_ FR_no
        refine FR_bI FA_rf (r_C_lay (e_xs E (ix (x3 + 1))) (e_xs E (ix (x3 + 2))) (e_xs E (ix (x3 + 3))) (e_xs E (ix (x3 + 4))) a) (by decide) (fun q67 hq67 => ?_)
        refine FR_if ?_ FR_no
        refine FR_if ?_ FR_no
        refine FR_if ?_ FR_no
        refine FR_if ?_ FR_no
        refine FR_bI hq67 (r_M_lay (e_xs E (ix (x3 + 1))) (e_xs E (ix (x3 + 2))) (e_xs E (ix (x3 + 3))) (e_xs E (ix (x3 + 4))) q67.2) (by decide) (fun q68 hq68 => ?_)
        refine FR_if ?_ ?_
        · exact FR_at hq68 (r_L_law_18 N E n (x3 + 6) q68.2)
        · exact FR_so hq68
      refine FR_if ?_ ?_
      · refine FR_if ?_ FR_no
        refine FR_if ?_ FR_no
        refine FR_if ?_ FR_no
        refine FR_bI FA_rf (r_C_get (e_xs E (ix (x3 + 1))) (e_xs E (ix (x3 + 2))) (e_xs E (ix (x3 + 3))) a) (by decide) (fun q69 hq69 => ?_)
        refine FR_if ?_ FR_no
        refine FR_if ?_ FR_no
        refine FR_if ?_ FR_no
        refine FR_bI hq69 (r_M_get (e_xs E (ix (x3 + 1))) (e_xs E (ix (x3 + 2))) (e_xs E (ix (x3 + 3))) q69.2) (by decide) (fun q70 hq70 => ?_)
        refine FR_if ?_ ?_
        · exact FR_at hq70 (r_L_law_18 N E n (x3 + 6) q70.2)
        · exact FR_so hq70
      refine FR_if ?_ ?_
      · refine FR_if ?_ FR_no
        refine FR_if ?_ FR_no
        refine FR_if ?_ FR_no
        refine FR_if ?_ FR_no
        refine FR_if ?_ FR_no
        refine FR_bI FA_rf (r_C_copy N (e_xs E (ix (x3 + 1))) (e_xs E (ix (x3 + 2))) (e_xs E (ix (x3 + 3))) (e_xs E (ix (x3 + 4))) (e_xs E (ix (x3 + 5))) a) (by decide) (fun q71 hq71 => ?_)
        refine FR_if ?_ FR_no
        refine FR_if ?_ FR_no
        refine FR_if ?_ FR_no
        refine FR_if ?_ FR_no
        refine FR_if ?_ FR_no
        refine FR_bI hq71 (r_M_copy N (e_xs E (ix (x3 + 1))) (e_xs E (ix (x3 + 2))) (e_xs E (ix (x3 + 3))) (e_xs E (ix (x3 + 4))) (e_xs E (ix (x3 + 5))) q71.2) (by decide) (fun q72 hq72 => ?_)
        refine FR_if ?_ ?_
        · exact FR_at hq72 (r_L_law_18 N E n (x3 + 6) q72.2)
        · exact FR_so hq72
      refine FR_if ?_ ?_
      · refine FR_if ?_ FR_no
        refine FR_bI FA_rf (r_C_write N (e_xs E (ix (x3 + 1))) a) (by decide) (fun q73 hq73 => ?_)
        refine FR_if ?_ FR_no
        refine FR_bI hq73 (r_M_write N (e_xs E (ix (x3 + 1))) q73.2) (by decide) (fun q74 hq74 => ?_)
        refine FR_if ?_ ?_
        · exact FR_at hq74 (r_L_law_18 N E n (x3 + 6) q74.2)
        · exact FR_so hq74
      refine FR_if ?_ ?_
      · refine FR_if ?_ FR_no
        refine FR_bI FA_rf (r_C_count N (e_xs E (ix (x3 + 1))) a) (by decide) (fun q75 hq75 => ?_)
        refine FR_if ?_ FR_no
        refine FR_bI hq75 (r_M_count N (e_xs E (ix (x3 + 1))) q75.2) (by decide) (fun q76 hq76 => ?_)
        refine FR_if ?_ ?_
        · exact FR_at hq76 (r_L_law_18 N E n (x3 + 6) q76.2)
        · exact FR_so hq76
      refine FR_if ?_ ?_
      · refine FR_bI FA_rf (r_C_digest N a) (by decide) (fun q77 hq77 => ?_)
        refine FR_bI hq77 (r_M_digest N q77.2) (by decide) (fun q78 hq78 => ?_)
        refine FR_if ?_ ?_
        · exact FR_at hq78 (r_L_law_18 N E n (x3 + 6) q78.2)
        · exact FR_so hq78
      exact FR_at FA_rf (r_L_law_18 N E n (x3 + 6) a)
