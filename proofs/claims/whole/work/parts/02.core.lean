/-! The abstract machine: cells as a list, references as places in it; one simple step as a function, and that the machine follows it. -/
abbrev ac_C : Type := (Bool × Nat × (Nat → Int32)) ⊕ (Nat × List Value)
abbrev ac_H : Type := List ac_C
abbrev ac_R : Type := List (Nat × (Nat → Int32))
/-- globals: the classes' numbers, the two array classes, the base, the read-only arrays' addresses, the read-only arrays -/
abbrev ac_G : Type := va_G × (ClassId × ClassId) × Nat × (Nat → Nat) × ac_R
def g_B (G : ac_G) : Nat := G.2.2.1
def g_aS (G : ac_G) : Nat → Nat := G.2.2.2.1
def g_ro (G : ac_G) : ac_R := G.2.2.2.2
def g_A (G : ac_G) : Nat → Prop := fun q => g_B G ≤ q
def g_ad (G : ac_G) (k : Nat) : Nat := if k < 1000 then g_B G + k else g_aS G (k - 1000)
def g_v (G : ac_G) : Value → Value
  | .ref k => .ref (g_ad G k)
  | v => v
def g_e (G : ac_G) : ac_C → va_E
  | .inl (b, n, f) => .inl (if b = true then G.2.1.2 else G.2.1.1, (n, .inl f))
  | .inr (c, fs) => .inr (c, fs.map (g_v G))
def g_w (G : ac_G) (hp : ac_H) : va_W := hp.mapIdx (fun k c => (g_ad G k, g_e G c))
def g_tys (G : ac_G) : List (ClassId × FieldType) := [(G.2.1.1, .int), (G.2.1.2, .boolean)]
def pic (G : ac_G) (hp : ac_H) (H : Heap) : Prop := va_P G.1 vwCl (g_w G hp) H ∧ hp.length ≤ 1000
theorem g_v_cat (G : ac_G) (v : Value) : (g_v G v).category = v.category := by cases v <;> rfl
theorem g_v_null {G : ac_G} {v : Value} (h : v ≠ .null) : g_v G v ≠ .null := by
  cases v <;> first | exact absurd rfl h | (intro q; cases q)
theorem g_w_get {G : ac_G} {hp : ac_H} {k : Nat} {c : ac_C} (h : hp[k]? = some c) : (g_w G hp)[k]? = some (g_ad G k, g_e G c) := by
  simp [g_w, List.getElem?_mapIdx, h]
theorem g_w_set {G : ac_G} {hp : ac_H} {k : Nat} {c : ac_C} : (g_w G hp).set k (g_ad G k, g_e G c) = g_w G (hp.set k c) := by
  apply List.ext_getElem?
  intro j
  by_cases hj : k = j
  · subst hj
    by_cases hl : k < hp.length
    · simp [g_w, List.getElem?_mapIdx, List.getElem?_set, hl]
    · simp [g_w, List.getElem?_mapIdx, List.getElem?_set, hl]
  · simp [g_w, List.getElem?_mapIdx, List.getElem?_set, hj]
theorem g_w_push {G : ac_G} {hp : ac_H} {c : ac_C} : g_w G hp ++ [(g_ad G hp.length, g_e G c)] = g_w G (hp ++ [c]) := by
  simp [g_w, List.mapIdx_append]
theorem g_D {G : ac_G} {hp : ac_H} (hl : hp.length ≤ 1000) : va_D (g_A G) (g_w G hp) := by
  have key : ∀ (k : Nat) (q : Nat × va_E), (g_w G hp)[k]? = some q → k < 1000 ∧ q.1 = g_B G + k := by
    intro k q hk
    have h1 : k < (g_w G hp).length := (List.getElem?_eq_some_iff.mp hk).1
    have h2 : k < hp.length := by simpa [g_w] using h1
    have h3 : k < 1000 := by omega
    obtain ⟨c, hc⟩ : ∃ c, hp[k]? = some c := ⟨hp[k], by simp [h2]⟩
    rw [g_w_get hc] at hk
    cases hk
    exact ⟨h3, by simp [g_ad, h3]⟩
  refine ⟨fun i j p q hi hj hpq => ?_, fun k q hk => ?_⟩
  · obtain ⟨-, e1⟩ := key i p hi
    obtain ⟨-, e2⟩ := key j q hj
    omega
  · obtain ⟨-, e1⟩ := key k q hk
    show g_B G ≤ q.1
    omega
/-! methods: name, bytes, locals, return type, room (frames, locals) -/
abbrev md_T : Type := MethodName × ByteArray × Nat × Option FieldType × Nat × Nat
def m_y (M : md_T) : MethodName := M.1
def m_b (M : md_T) : ByteArray := M.2.1
def m_L (M : md_T) : Nat := M.2.2.1
def m_r (M : md_T) : Option FieldType := M.2.2.2.1
def m_f (M : md_T) : Nat := M.2.2.2.2.1
def m_l (M : md_T) : Nat := M.2.2.2.2.2
/-! the words across the nest, and the static arrays -/
def sa_n : Nat → String
  | 0 => "STICK_LEAST"
  | 1 => "STICK_MOST"
  | _ => "RULE_MOST"
def good_T : List Cond := lw_tbl.filter goodWord
theorem gd {w : Cond} (h : w ∈ lw_tbl) (hg : goodWord w = true) : w ∈ good_T := List.mem_filter.mpr ⟨h, hg⟩
def nest_W : List Cond := lw_tbl.filter (fun w => match w with | .methodLinkNest _ _ _ _ => true | .fieldLinkNest _ _ _ _ _ _ => true | _ => false)
def kx (G : ac_G) (U : State) : Prop := va_K G.1 vwCl (g_tys G) U ∧ (∀ w ∈ nest_W, va_Nw w U) ∧ (∀ (j : Nat) (r : Nat × (Nat → Int32)), (g_ro G)[j]? = some r → va_T .int (g_aS G j) r.1 (fun i => .int (r.2 i)) (g_A G) U U.heap) ∧
  (∀ j, j < 3 → va_Z "ChestnutSticks" (sa_n j) "[I" (.ref (g_aS G j)) (g_A G) U U.heap) ∧ g_B G ≤ U.heap.size
theorem nest_warm {s U : State} (hW : s.WarmedH U.vm) {w : Cond} (hw : w ∈ nest_W) (h : va_Nw w s) : va_Nw w U := by
  have h2 := (List.mem_filter.mp hw).2
  cases w <;> first | (simp at h2; done) | exact va_Nw.warmF hW h | exact va_Nw.warmM hW h
theorem nest_same {s U : State} (hv : s.vm = U.vm) {w : Cond} (hw : w ∈ nest_W) (h : va_Nw w s) : va_Nw w U := by
  have h2 := (List.mem_filter.mp hw).2
  cases w <;> first | (simp at h2; done) | exact va_Nw.same rfl hv h
theorem kx.next {G : ac_G} {s U : State} {H : Heap} {locs : List Loc} (h : kx G s) (hS : va_S (g_A G) s.heap H locs) (hU : U.heap = H) (hW : s.WarmedH U.vm) : kx G U := by
  obtain ⟨h1, h2, h3, h4, h5⟩ := h
  refine ⟨va_K.moved hW.alike h1, fun w hw => nest_warm hW hw (h2 w hw), fun j r hr => ?_, fun j hj => ?_, by rw [hU]; exact Nat.le_trans h5 hS.1⟩
  · rw [hU]
    exact va_T.moved hW.alike ((h3 j r hr).kept (fun a h6 h7 => hS.2.1 a h6 h7))
  · rw [hU]
    exact va_Z.moved hW.alike ((h4 j hj).kept (fun a h6 h7 => hS.2.1 a h6 h7))
theorem kx.calling {G : ac_G} {U : State} (g : JFrame) (mk : MethodId) (a : Array Value) (h : kx G U) : kx G (U.calling g mk a) := by
  obtain ⟨h1, h2, h3, h4, h5⟩ := h
  exact ⟨va_K.moved (u := U) (U := U.calling g mk a) (Vm.Alike.refl U.vm) h1, fun w hw => nest_same (s := U) (U := U.calling g mk a) rfl hw (h2 w hw), fun j r hr => va_T.moved (u := U) (U := U.calling g mk a) (Vm.Alike.refl U.vm) (h3 j r hr), fun j hj => va_Z.moved (u := U) (U := U.calling g mk a) (Vm.Alike.refl U.vm) (h4 j hj), h5⟩
/-! locals by place; null stands for what isn't known -/
def lr (G : ac_G) (ls : List Value) (Ls : Array Slot) (nL : Nat) : Prop := Ls.size = nL ∧ lv_wf Ls ∧ ∀ (k : Nat) (v : Value), ls[k]? = some v → v ≠ .null → Ls[k]? = some (.val (g_v G v))
def l_al (G : ac_G) (ls : List Value) : List (Nat × Value) := (List.range ls.length).filterMap (fun (k : Nat) => match (ls[k]? : Option Value) with
  | some Value.null => none
  | some v => some (k, g_v G v)
  | none => none)
theorem l_al_mem {G : ac_G} {ls : List Value} {k : Nat} {v : Value} (h : ls[k]? = some v) (hv : v ≠ .null) : (k, g_v G v) ∈ l_al G ls := by
  refine List.mem_filterMap.mpr ⟨k, List.mem_range.mpr (List.getElem?_eq_some_iff.mp h).1, ?_⟩
  rw [h]
  cases v <;> first | exact absurd rfl hv | rfl
theorem l_al_of {G : ac_G} {ls : List Value} {q : Nat × Value} (h : q ∈ l_al G ls) : ∃ v, ls[q.1]? = some v ∧ v ≠ .null ∧ q.2 = g_v G v := by
  obtain ⟨k, -, hk⟩ := List.mem_filterMap.mp h
  cases hv : ls[k]? with
  | none => rw [hv] at hk; cases hk
  | some v =>
    rw [hv] at hk
    cases v <;> first | (cases hk; done) | (cases hk; exact ⟨_, hv, (fun z => by cases z), rfl⟩)
theorem lr.has {G : ac_G} {ls : List Value} {Ls : Array Slot} {nL : Nat} (h : lr G ls Ls nL) : lv_has Ls nL (l_al G ls) := by
  refine ⟨h.1, h.2.1, fun q hq => ?_⟩
  obtain ⟨v, h1, h2, h3⟩ := l_al_of hq
  rw [h3]
  exact h.2.2 q.1 v h1 h2
def l_k2 (ls : List Value) (j : Nat) : List Value := match ls[j]? with
  | some (.long _) => ls.set j .null
  | some (.double _) => ls.set j .null
  | _ => ls
def l_kill (ls : List Value) : Nat → List Value
  | 0 => ls
  | j + 1 => l_k2 ls j
def l_s1 (ls : List Value) (i : Nat) (v : Value) : List Value := (l_kill ls i).set i v
def l_s2 (ls : List Value) (i : Nat) (v : Value) : List Value := ((l_kill ls i).set i v).set (i + 1) .null
theorem l_kill_get {ls : List Value} {i k : Nat} {w : Value} (h : (l_kill ls i)[k]? = some w) (hw : w ≠ .null) : ls[k]? = some w ∧ ¬ (k + 1 = i ∧ w.category = 2) := by
  cases i with
  | zero => exact ⟨h, fun q => by omega⟩
  | succ j =>
    have h : (l_k2 ls j)[k]? = some w := h
    unfold l_k2 at h
    by_cases hk : j = k
    · subst hk
      split at h
      · simp [List.getElem?_set] at h; exact absurd h.2.symm hw
      · simp [List.getElem?_set] at h; exact absurd h.2.symm hw
      · rename_i h1 h2
        refine ⟨h, fun q => ?_⟩
        cases w <;> first | exact h1 _ h | exact h2 _ h | (simp [Value.category] at q; done)
    · have h2 : ls[k]? = some w := by
        split at h
        · simpa [List.getElem?_set, hk] using h
        · simpa [List.getElem?_set, hk] using h
        · exact h
      exact ⟨h2, fun q => by omega⟩
theorem lr.set1 {G : ac_G} {ls : List Value} {L' : Array Slot} {nL i : Nat} {v x : Value} (hx : g_v G v = x) (h : lv_has L' nL ((i, x) :: (l_al G ls).filter (fun q => !(q.1 == i) && !(q.1 + 1 == i && q.2.category == 2)))) : lr G (l_s1 ls i v) L' nL := by
  subst hx
  refine ⟨h.1, h.2.1, fun k w hk hw => ?_⟩
  unfold l_s1 at hk
  by_cases hki : i = k
  · subst hki
    have : w = v := by
      simp [List.getElem?_set] at hk
      exact hk.2.symm
    subst this
    exact h.2.2 (i, g_v G w) List.mem_cons_self
  · rw [List.getElem?_set_ne hki] at hk
    obtain ⟨h1, h2⟩ := l_kill_get hk hw
    refine h.2.2 (k, g_v G w) (List.mem_cons_of_mem _ (List.mem_filter.mpr ⟨l_al_mem h1 hw, ?_⟩))
    have h3 : ¬ k = i := fun q => hki q.symm
    simp only [g_v_cat, Bool.and_eq_true, Bool.not_eq_true', beq_eq_false_iff_ne, ne_eq, Bool.and_eq_false_iff]
    refine ⟨h3, ?_⟩
    by_cases h4 : k + 1 = i
    · exact Or.inr (fun q => h2 ⟨h4, q⟩)
    · exact Or.inl h4
theorem lr.set2 {G : ac_G} {ls : List Value} {L' : Array Slot} {nL i : Nat} {v x : Value} (hx : g_v G v = x) (h : lv_has L' nL ((i, x) :: (l_al G ls).filter (fun q => !(q.1 == i) && (!(q.1 == i + 1) && !(q.1 + 1 == i && q.2.category == 2))))) : lr G (l_s2 ls i v) L' nL := by
  subst hx
  refine ⟨h.1, h.2.1, fun k w hk hw => ?_⟩
  unfold l_s2 at hk
  by_cases hk2 : i + 1 = k
  · subst hk2
    simp [List.getElem?_set] at hk
    exact absurd hk.2.symm hw
  · rw [List.getElem?_set_ne hk2] at hk
    by_cases hki : i = k
    · subst hki
      have : w = v := by
        simp [List.getElem?_set] at hk
        exact hk.2.symm
      subst this
      exact h.2.2 (i, g_v G w) List.mem_cons_self
    · rw [List.getElem?_set_ne hki] at hk
      obtain ⟨h1, h2⟩ := l_kill_get hk hw
      refine h.2.2 (k, g_v G w) (List.mem_cons_of_mem _ (List.mem_filter.mpr ⟨l_al_mem h1 hw, ?_⟩))
      have h3 : ¬ k = i := fun q => hki q.symm
      have h5 : ¬ k = i + 1 := fun q => hk2 q.symm
      simp only [g_v_cat, Bool.and_eq_true, Bool.not_eq_true', beq_eq_false_iff_ne, ne_eq, Bool.and_eq_false_iff]
      refine ⟨h3, h5, ?_⟩
      by_cases h4 : k + 1 = i
      · exact Or.inr (fun q => h2 ⟨h4, q⟩)
      · exact Or.inl h4
/-! one simple step -/
abbrev inb (i : Int32) (n : Nat) : Prop := ¬ i < 0 ∧ i.toNatClampNeg < n
theorem inb_vp {i : Int32} {n : Nat} (h : inb i n) : vp_in i n := fun q => q.elim h.1 (fun z => absurd h.2 (Nat.not_lt.mpr z))
def i_rem (x y : Int32) : Int32 := x - x / y * y
def l_rem (x y : Int64) : Int64 := x - x / y * y
def i_shl (x y : Int32) : Int32 := x <<< (y &&& 31)
def i_ushr (x y : Int32) : Int32 := (x.toUInt32 >>> (y.toUInt32 &&& Int32.toUInt32 31)).toInt32
abbrev in_T : Type := Instr × Nat × Nat × Value
abbrev st_T : Type := Nat × List Value × List Value × ac_H
def a_arr (ro : ac_R) (hp : ac_H) (a : Nat) : Option (Bool × Nat × (Nat → Int32)) :=
  bif Nat.blt a 1000 then (match hp[a]? with
    | some (.inl x) => some x
    | _ => none) else (match ro[a - 1000]? with
    | some r => some (false, r.1, r.2)
    | none => none)
def stp (ro : ac_R) (e : in_T) (pc : Nat) (ls st : List Value) (hp : ac_H) : Option st_T :=
  match e.1 with
  | .iconst _ => some (pc + e.2.1, ls, e.2.2.2 :: st, hp)
  | .bipush _ => some (pc + e.2.1, ls, e.2.2.2 :: st, hp)
  | .sipush _ => some (pc + e.2.1, ls, e.2.2.2 :: st, hp)
  | .lconst _ => some (pc + e.2.1, ls, e.2.2.2 :: st, hp)
  | .ldc _ => some (pc + e.2.1, ls, e.2.2.2 :: st, hp)
  | .ldc2_w _ => some (pc + e.2.1, ls, e.2.2.2 :: st, hp)
  | .getstatic _ => some (pc + e.2.1, ls, e.2.2.2 :: st, hp)
  | .iload _ => match ls[e.2.2.1]? with | some (.int x) => some (pc + e.2.1, ls, .int x :: st, hp) | _ => none
  | .iload_n _ => match ls[e.2.2.1]? with | some (.int x) => some (pc + e.2.1, ls, .int x :: st, hp) | _ => none
  | .lload _ => match ls[e.2.2.1]? with | some (.long x) => some (pc + e.2.1, ls, .long x :: st, hp) | _ => none
  | .lload_n _ => match ls[e.2.2.1]? with | some (.long x) => some (pc + e.2.1, ls, .long x :: st, hp) | _ => none
  | .aload _ => match ls[e.2.2.1]? with | some (.ref x) => some (pc + e.2.1, ls, .ref x :: st, hp) | _ => none
  | .aload_n _ => match ls[e.2.2.1]? with | some (.ref x) => some (pc + e.2.1, ls, .ref x :: st, hp) | _ => none
  | .istore _ => match st with | .int x :: r => some (pc + e.2.1, l_s1 ls e.2.2.1 (.int x), r, hp) | _ => none
  | .istore_n _ => match st with | .int x :: r => some (pc + e.2.1, l_s1 ls e.2.2.1 (.int x), r, hp) | _ => none
  | .lstore _ => match st with | .long x :: r => some (pc + e.2.1, l_s2 ls e.2.2.1 (.long x), r, hp) | _ => none
  | .lstore_n _ => match st with | .long x :: r => some (pc + e.2.1, l_s2 ls e.2.2.1 (.long x), r, hp) | _ => none
  | .astore_n _ => match st with | .ref x :: r => some (pc + e.2.1, l_s1 ls e.2.2.1 (.ref x), r, hp) | _ => none
  | .iinc _ _ => match ls[e.2.2.1]?, e.2.2.2 with | some (.int x), .int c => some (pc + e.2.1, l_s1 ls e.2.2.1 (.int (x + c)), st, hp) | _, _ => none
  | .iadd => match st with | .int y :: .int x :: r => some (pc + e.2.1, ls, .int (x + y) :: r, hp) | _ => none
  | .isub => match st with | .int y :: .int x :: r => some (pc + e.2.1, ls, .int (x - y) :: r, hp) | _ => none
  | .imul => match st with | .int y :: .int x :: r => some (pc + e.2.1, ls, .int (x * y) :: r, hp) | _ => none
  | .iand => match st with | .int y :: .int x :: r => some (pc + e.2.1, ls, .int (x &&& y) :: r, hp) | _ => none
  | .ior => match st with | .int y :: .int x :: r => some (pc + e.2.1, ls, .int (x ||| y) :: r, hp) | _ => none
  | .ixor => match st with | .int y :: .int x :: r => some (pc + e.2.1, ls, .int (x ^^^ y) :: r, hp) | _ => none
  | .ineg => match st with | .int x :: r => some (pc + e.2.1, ls, .int (-x) :: r, hp) | _ => none
  | .ishl => match st with | .int y :: .int x :: r => some (pc + e.2.1, ls, .int (i_shl x y) :: r, hp) | _ => none
  | .iushr => match st with | .int y :: .int x :: r => some (pc + e.2.1, ls, .int (i_ushr x y) :: r, hp) | _ => none
  | .idiv => match st with | .int y :: .int x :: r => if y = 0 then none else some (pc + e.2.1, ls, .int (x / y) :: r, hp) | _ => none
  | .irem => match st with | .int y :: .int x :: r => if y = 0 then none else some (pc + e.2.1, ls, .int (i_rem x y) :: r, hp) | _ => none
  | .ladd => match st with | .long y :: .long x :: r => some (pc + e.2.1, ls, .long (x + y) :: r, hp) | _ => none
  | .lsub => match st with | .long y :: .long x :: r => some (pc + e.2.1, ls, .long (x - y) :: r, hp) | _ => none
  | .lmul => match st with | .long y :: .long x :: r => some (pc + e.2.1, ls, .long (x * y) :: r, hp) | _ => none
  | .ldiv => match st with | .long y :: .long x :: r => if y = 0 then none else some (pc + e.2.1, ls, .long (x / y) :: r, hp) | _ => none
  | .lrem => match st with | .long y :: .long x :: r => if y = 0 then none else some (pc + e.2.1, ls, .long (l_rem x y) :: r, hp) | _ => none
  | .lcmp => match st with | .long y :: .long x :: r => some (pc + e.2.1, ls, .int (lg_cmp x y) :: r, hp) | _ => none
  | .i2l => match st with | .int x :: r => some (pc + e.2.1, ls, .long x.toInt64 :: r, hp) | _ => none
  | .i2b => match st with | .int x :: r => some (pc + e.2.1, ls, .int x.toInt8.toInt32 :: r, hp) | _ => none
  | .i2s => match st with | .int x :: r => some (pc + e.2.1, ls, .int x.toInt16.toInt32 :: r, hp) | _ => none
  | .dup => match st with
    | .int x :: r => some (pc + e.2.1, ls, .int x :: .int x :: r, hp)
    | .ref x :: r => some (pc + e.2.1, ls, .ref x :: .ref x :: r, hp)
    | _ => none
  | .dup2 => match st with | .int y :: .ref x :: r => some (pc + e.2.1, ls, .int y :: .ref x :: .int y :: .ref x :: r, hp) | _ => none
  | .pop => match st with | .int _ :: r => some (pc + e.2.1, ls, r, hp) | _ => none
  | .goto _ => some (e.2.2.1, ls, st, hp)
  | .ifCond .eq _ => match st with | .int x :: r => some (if x = 0 then e.2.2.1 else pc + e.2.1, ls, r, hp) | _ => none
  | .ifCond .ne _ => match st with | .int x :: r => some (if x = 0 then pc + e.2.1 else e.2.2.1, ls, r, hp) | _ => none
  | .ifCond .lt _ => match st with | .int x :: r => some (if x < 0 then e.2.2.1 else pc + e.2.1, ls, r, hp) | _ => none
  | .ifCond .ge _ => match st with | .int x :: r => some (if 0 ≤ x then e.2.2.1 else pc + e.2.1, ls, r, hp) | _ => none
  | .ifCond .gt _ => match st with | .int x :: r => some (if 0 < x then e.2.2.1 else pc + e.2.1, ls, r, hp) | _ => none
  | .ifCond .le _ => match st with | .int x :: r => some (if x ≤ 0 then e.2.2.1 else pc + e.2.1, ls, r, hp) | _ => none
  | .if_icmp .eq _ => match st with | .int y :: .int x :: r => some (if x = y then e.2.2.1 else pc + e.2.1, ls, r, hp) | _ => none
  | .if_icmp .ne _ => match st with | .int y :: .int x :: r => some (if x = y then pc + e.2.1 else e.2.2.1, ls, r, hp) | _ => none
  | .if_icmp .lt _ => match st with | .int y :: .int x :: r => some (if x < y then e.2.2.1 else pc + e.2.1, ls, r, hp) | _ => none
  | .if_icmp .ge _ => match st with | .int y :: .int x :: r => some (if y ≤ x then e.2.2.1 else pc + e.2.1, ls, r, hp) | _ => none
  | .if_icmp .gt _ => match st with | .int y :: .int x :: r => some (if y < x then e.2.2.1 else pc + e.2.1, ls, r, hp) | _ => none
  | .if_icmp .le _ => match st with | .int y :: .int x :: r => some (if x ≤ y then e.2.2.1 else pc + e.2.1, ls, r, hp) | _ => none
  | .getfield _ => match st with
    | .ref a :: r => (match hp[a]? with
      | some (.inr o) => bif Nat.beq o.1 (e.2.2.1 / 100) then (match o.2[e.2.2.1 % 100]? with | some v => some (pc + e.2.1, ls, v :: r, hp) | none => none) else none
      | _ => none)
    | _ => none
  | .putfield _ => match st with
    | v :: .ref a :: r => (match hp[a]? with
      | some (.inr o) => bif Nat.beq o.1 (e.2.2.1 / 100) then (match o.2[e.2.2.1 % 100]? with
        | some _ => (match e.2.2.2, v with
          | .int _, .int x => some (pc + e.2.1, ls, r, hp.set a (.inr (o.1, o.2.set (e.2.2.1 % 100) (.int x))))
          | .null, .ref x => some (pc + e.2.1, ls, r, hp.set a (.inr (o.1, o.2.set (e.2.2.1 % 100) (.ref x))))
          | _, _ => none)
        | none => none) else none
      | _ => none)
    | _ => none
  | .iaload => match st with
    | .int i :: .ref a :: r => (match a_arr ro hp a with
      | some (false, n, f) => if inb i n then some (pc + e.2.1, ls, .int (f i.toNatClampNeg) :: r, hp) else none
      | _ => none)
    | _ => none
  | .baload => match st with
    | .int i :: .ref a :: r => (match hp[a]? with
      | some (.inl (true, n, f)) => if inb i n then some (pc + e.2.1, ls, .int (f i.toNatClampNeg) :: r, hp) else none
      | _ => none)
    | _ => none
  | .iastore => match st with
    | .int x :: .int i :: .ref a :: r => (match hp[a]? with
      | some (.inl (false, n, f)) => if inb i n then some (pc + e.2.1, ls, r, hp.set a (.inl (false, n, upd f i.toNatClampNeg x))) else none
      | _ => none)
    | _ => none
  | .bastore => match st with
    | .int x :: .int i :: .ref a :: r => (match hp[a]? with
      | some (.inl (true, n, f)) => if inb i n then some (pc + e.2.1, ls, r, hp.set a (.inl (true, n, upd f i.toNatClampNeg (vp_nar .boolean x)))) else none
      | _ => none)
    | _ => none
  | .arraylength => match st with
    | .ref a :: r => (match a_arr ro hp a with
      | some (_, n, _) => some (pc + e.2.1, ls, .int (Int32.ofNat n) :: r, hp)
      | _ => none)
    | _ => none
  | _ => none
