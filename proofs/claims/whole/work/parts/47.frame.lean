/-! what only touches scratch keeps the relation -/
def scA (e : Nat × Option Nat) : Bool := [14, 15, 16, 17, 18, 20].contains e.1
def scB (e : Nat × Option Nat) : Bool := [35, 37, 38, 45, 46, 47, 48].contains e.1 || (e.1 == 31 && [some 7, some 10, some 11, some 24, some 25, some 26, some 27, some 28].contains e.2)
theorem scA_k {L : List (Nat × Option Nat)} {a a' : aT} (h : FA L a a') (hL : L.all scA = true) (c : Nat) (hc : scA (c, none) = false) : a' c = a c := by
  funext i
  refine h c i (fun e he q => ?_)
  have h1 := List.all_eq_true.mp hL e he
  obtain ⟨q1, -⟩ := q
  have : scA (c, none) = true := by rw [← q1]; exact h1
  rw [this] at hc
  cases hc
theorem scB_k {L : List (Nat × Option Nat)} {b b' : aT} (h : FA L b b') (hL : L.all scB = true) (c : Nat) (hc : [31, 35, 37, 38, 45, 46, 47, 48].contains c = false) : b' c = b c := by
  funext i
  refine h c i (fun e he q => ?_)
  have h1 := List.all_eq_true.mp hL e he
  obtain ⟨q1, -⟩ := q
  subst q1
  unfold scB at h1
  simp at h1 hc
  omega
theorem scB_s {L : List (Nat × Option Nat)} {b b' : aT} (h : FA L b b') (hL : L.all scB = true) (i : Nat) (hi : [7, 10, 11, 24, 25, 26, 27, 28].contains i = false) : b' 31 i = b 31 i := by
  refine h 31 i (fun e he q => ?_)
  have h1 := List.all_eq_true.mp hL e he
  obtain ⟨q1, q2⟩ := q
  unfold scB at h1
  rcases q2 with q2 | q2
  · simp [q1, q2] at h1
  · simp [q1, q2] at h1 hi
    omega
theorem Rel.fr {N : Nat} {a b a' b' : aT} {La Lb : List (Nat × Option Nat)} (h : Rel N a b) (ha : FA La a a') (hb : FA Lb b b') (oa : La.all scA = true) (ob : Lb.all scB = true) : Rel N a' b' := by
  have ka := scA_k ha oa
  have kb := scB_k hb ob
  have ks := scB_s hb ob
  have a1 := ka 1 (by decide)
  have a2 := ka 2 (by decide)
  have a3 := ka 3 (by decide)
  have a5 := ka 5 (by decide)
  have a6 := ka 6 (by decide)
  have a7 := ka 7 (by decide)
  have a9 := ka 9 (by decide)
  have a10 := ka 10 (by decide)
  have a11 := ka 11 (by decide)
  have a12 := ka 12 (by decide)
  have a13 := ka 13 (by decide)
  have a21 := ka 21 (by decide)
  have a22 := ka 22 (by decide)
  have a23 := ka 23 (by decide)
  have a24 := ka 24 (by decide)
  have a25 := ka 25 (by decide)
  have a26 := ka 26 (by decide)
  have a27 := ka 27 (by decide)
  have a28 := ka 28 (by decide)
  have a29 := ka 29 (by decide)
  have a30 := ka 30 (by decide)
  have b32 := kb 32 (by decide)
  have b33 := kb 33 (by decide)
  have b34 := kb 34 (by decide)
  have b36 := kb 36 (by decide)
  have b39 := kb 39 (by decide)
  have b40 := kb 40 (by decide)
  have b41 := kb 41 (by decide)
  have b42 := kb 42 (by decide)
  have b43 := kb 43 (by decide)
  have b44 := kb 44 (by decide)
  have b49 := kb 49 (by decide)
  have b50 := kb 50 (by decide)
  have s4 := ks 4 (by decide)
  have s6 := ks 6 (by decide)
  have s16 := ks 16 (by decide)
  have s18 := ks 18 (by decide)
  have s29 := ks 29 (by decide)
  have s31 := ks 31 (by decide)
  unfold Rel
  rw [a1, a2, a3, a5, a6, a7, a9, a10, a11, a12, a13, a21, a22, a23, a24, a25, a26, a27, a28, a29, a30, b32, b33, b34, b36, b39, b40, b41, b42, b43, b44, b49, b50, s4, s6, s16, s18, s29, s31]
  exact h
theorem q_fault {N : Nat} {a b : aT} (h : Rel N a b) : ∃ b', f_M_fault N b = some (f_C_fault a, b') ∧ Rel N a b' := by
  obtain ⟨b', h1, -⟩ := h.par b h.len h.txt
  refine ⟨b', ?_, ?_⟩
  · unfold f_M_fault
    rw [h1, bnd]
    rfl
  · exact h.fr (La := []) FA_rf (r_M_reads N b _ _ h1) (by decide) (by decide)
