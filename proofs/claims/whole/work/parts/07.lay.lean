/-! the cells of the class and of the reference, by the order in which they are made; their contents as numbers -/
abbrev aT : Type := Nat → Nat → Int32
def upA (a : aT) (c i : Nat) (v : Int32) : aT := fun k => bif Nat.beq k c then upd (a k) i v else a k
def ix (i : Int32) : Nat := i.toNatClampNeg
abbrev sh_T : Type := (Bool × Nat) ⊕ (Nat × List (Option Nat))
def shp : List sh_T := [
  .inr (10, [some 1, some 4, some 6, some 8, some 10, some 14, some 19, some 21, some 24, some 27]),
  .inr (9, [some 2, some 3, none, none]),
  .inl (false, 53),
  .inl (false, 48),
  .inr (6, [some 5]),
  .inl (false, 12),
  .inr (2, [some 7, none]),
  .inl (false, 6),
  .inr (0, [some 9]),
  .inl (false, 4),
  .inr (8, [some 11, some 12, some 13, none]),
  .inl (false, 20),
  .inl (false, 20),
  .inl (false, 20),
  .inr (1, [some 1, some 4, some 6, some 8, some 10, some 15, some 16, some 17, some 18, none, none, none, none, none]),
  .inl (false, 48),
  .inl (false, 4),
  .inl (false, 4),
  .inl (false, 20),
  .inr (3, [some 1, some 20]),
  .inl (false, 30),
  .inr (7, [some 22, some 23, none]),
  .inl (false, 3),
  .inl (false, 3),
  .inr (5, [some 25, some 26, none]),
  .inl (false, 8),
  .inl (false, 8),
  .inr (4, [some 28, some 29, some 30, none]),
  .inl (false, 4),
  .inl (false, 4),
  .inl (false, 240),
  .inr (11, [some 32, some 33, some 34, some 35, none, some 36, none, none, some 37, some 38, none, none, some 39, some 40, some 41, some 42, none, some 43, none, some 44, some 45, some 46, some 47, some 48, none, none, none, none, none, none, some 49, none, some 50]),
  .inl (false, 4),
  .inl (false, 4),
  .inl (false, 240),
  .inl (false, 60),
  .inl (false, 53),
  .inl (true, 48),
  .inl (false, 48),
  .inl (false, 4),
  .inl (false, 4),
  .inl (false, 4),
  .inl (false, 6),
  .inl (false, 4),
  .inl (false, 60),
  .inl (true, 48),
  .inl (false, 4),
  .inl (false, 4),
  .inl (false, 20),
  .inl (false, 6),
  .inl (false, 16)]
def fdOf (a : aT) (c k : Nat) (f : Option Nat) : Value := match f with
  | some r => .ref r
  | none => .int (a c k)
def cellOf (a : aT) (c : Nat) (s : sh_T) : ac_C := match s with
  | .inl q => .inl (q.1, q.2, a c)
  | .inr q => .inr (q.1, q.2.mapIdx (fdOf a c))
theorem hp_ex : ∃ f : aT → ac_H, ∀ a, f a = shp.mapIdx (cellOf a) := ⟨_, fun _ => rfl⟩
noncomputable def hpOf : aT → ac_H := Classical.choose hp_ex
theorem hpOf_eq (a : aT) : hpOf a = shp.mapIdx (cellOf a) := Classical.choose_spec hp_ex a
theorem hp_get {a : aT} {c : Nat} {s : sh_T} (h : shp[c]? = some s) : (hpOf a)[c]? = some (cellOf a c s) := by simp [hpOf_eq, List.getElem?_mapIdx, h]
theorem upA_ne {a : aT} {c i : Nat} {v : Int32} {k : Nat} (h : k ≠ c) : upA a c i v k = a k := by
  unfold upA
  cases hb : Nat.beq k c with
  | true => exact absurd (Nat.eq_of_beq_eq_true hb) h
  | false => rfl
theorem upA_eq {a : aT} {c i : Nat} {v : Int32} : upA a c i v c = upd (a c) i v := by
  unfold upA
  rw [show Nat.beq c c = true from Nat.beq_refl c]
  rfl
theorem hp_set {a : aT} {c i : Nat} {v : Int32} {s : sh_T} (h : shp[c]? = some s) : hpOf (upA a c i v) = (hpOf a).set c (cellOf (upA a c i v) c s) := by
  apply List.ext_getElem?
  intro j
  by_cases hj : c = j
  · subst hj
    rw [hp_get h]
    rw [List.getElem?_set_self]
    have := (List.getElem?_eq_some_iff.mp (hp_get (a := a) h)).1
    exact this
  · rw [List.getElem?_set_ne hj]
    simp only [hpOf_eq, List.getElem?_mapIdx]
    congr 1
    funext s'
    have e1 : upA a c i v j = a j := upA_ne (fun q => hj q.symm)
    unfold cellOf
    cases s' with
    | inl q => simp only [e1]
    | inr q =>
      have e2 : fdOf (upA a c i v) j = fdOf a j := by
        funext k f
        unfold fdOf
        rw [e1]
      simp only [e2]
abbrev sa_T : Type := Nat × List Value × List Value × aT
def noh (e : in_T) : Bool := match e.1 with
  | .getfield _ | .putfield _ | .iaload | .baload | .iastore | .bastore | .arraylength | .idiv | .irem | .ldiv | .lrem => false
  | _ => true
noncomputable def stpA (ro : ac_R) (e : in_T) (pc : Nat) (ls st : List Value) (a : aT) : Option sa_T :=
  match e.1 with
  | .getfield _ => match st with
    | .ref c :: r => (match shp[c]? with
      | some (.inr o) => bif Nat.beq o.1 (e.2.2.1 / 100) then (match o.2[e.2.2.1 % 100]? with
        | some (some rf) => some (pc + e.2.1, ls, .ref rf :: r, a)
        | some none => some (pc + e.2.1, ls, .int (a c (e.2.2.1 % 100)) :: r, a)
        | none => none) else none
      | _ => none)
    | _ => none
  | .putfield _ => match st with
    | .int x :: .ref c :: r => (match shp[c]? with
      | some (.inr o) => bif Nat.beq o.1 (e.2.2.1 / 100) then (match o.2[e.2.2.1 % 100]? with
        | some none => (match e.2.2.2 with
          | .int _ => some (pc + e.2.1, ls, r, upA a c (e.2.2.1 % 100) x)
          | _ => none)
        | _ => none) else none
      | _ => none)
    | _ => none
  | .iaload => match st with
    | .int i :: .ref c :: r => (bif Nat.blt c 1000 then (match shp[c]? with
      | some (.inl (false, n)) => if inb i n then some (pc + e.2.1, ls, .int (a c (ix i)) :: r, a) else none
      | _ => none) else (match ro[c - 1000]? with
      | some q => if inb i q.1 then some (pc + e.2.1, ls, .int (q.2 (ix i)) :: r, a) else none
      | none => none))
    | _ => none
  | .baload => match st with
    | .int i :: .ref c :: r => (match shp[c]? with
      | some (.inl (true, n)) => if inb i n then some (pc + e.2.1, ls, .int (a c (ix i)) :: r, a) else none
      | _ => none)
    | _ => none
  | .iastore => match st with
    | .int x :: .int i :: .ref c :: r => (match shp[c]? with
      | some (.inl (false, n)) => if inb i n then some (pc + e.2.1, ls, r, upA a c (ix i) x) else none
      | _ => none)
    | _ => none
  | .bastore => match st with
    | .int x :: .int i :: .ref c :: r => (match shp[c]? with
      | some (.inl (true, n)) => if inb i n then some (pc + e.2.1, ls, r, upA a c (ix i) (vp_nar .boolean x)) else none
      | _ => none)
    | _ => none
  | .arraylength => match st with
    | .ref c :: r => (bif Nat.blt c 1000 then none else (match ro[c - 1000]? with
      | some q => some (pc + e.2.1, ls, .int (Int32.ofNat q.1) :: r, a)
      | none => none))
    | _ => none
  | .idiv => match st with
    | .int y :: .int x :: r => if y = 0 then none else some (pc + e.2.1, ls, .int (x / y) :: r, a)
    | _ => none
  | .irem => match st with
    | .int y :: .int x :: r => if y = 0 then none else some (pc + e.2.1, ls, .int (i_rem x y) :: r, a)
    | _ => none
  | .ldiv => match st with
    | .long y :: .long x :: r => if y = 0 then none else some (pc + e.2.1, ls, .long (x / y) :: r, a)
    | _ => none
  | .lrem => match st with
    | .long y :: .long x :: r => if y = 0 then none else some (pc + e.2.1, ls, .long (l_rem x y) :: r, a)
    | _ => none
  | _ => match stp ro e pc ls st (hpOf a) with
    | some q => some (q.1, q.2.1, q.2.2.1, a)
    | none => none
set_option maxHeartbeats 4000000 in
theorem stp_noh {ro : ac_R} {e : in_T} {pc : Nat} {ls st : List Value} {q : st_T} {hp : ac_H} (hn : noh e = true) (h : stp ro e pc ls st hp = some q) : q.2.2.2 = hp := by
  obtain ⟨i, len, kk, vv⟩ := e
  obtain ⟨q1, q2, q3, q4⟩ := q
  cases i
  all_goals try (have h9 : (none : Option st_T) = some (q1, q2, q3, q4) := h; cases h9; done)
  all_goals try (cases hn; done)
  case ifCond cnd off =>
    cases cnd <;> (unfold stp at h; dsimp only at h; split at h <;> (cases h; try rfl))
  case if_icmp cnd off =>
    cases cnd <;> (unfold stp at h; dsimp only at h; split at h <;> (cases h; try rfl))
  all_goals (unfold stp at h; dsimp only at h)
  all_goals first
    | (cases h; rfl)
    | (split at h <;> first | (cases h; rfl) | (cases h; done) | (split at h <;> first | (cases h; rfl) | (cases h; done)))
theorem stpA_ok {ro : ac_R} {e : in_T} {pc pc' : Nat} {ls st ls' st' : List Value} {a a' : aT} (h : stpA ro e pc ls st a = some (pc', ls', st', a')) : stp ro e pc ls st (hpOf a) = some (pc', ls', st', hpOf a') := by
  by_cases hn : noh e = true
  · have h2 : (match stp ro e pc ls st (hpOf a) with | some q => some (q.1, q.2.1, q.2.2.1, a) | none => none) = some (pc', ls', st', a') := by
      obtain ⟨i, len, kk, vv⟩ := e
      cases i <;> first | exact h | (cases hn; done)
    split at h2
    · rename_i q hq
      cases h2
      have e1 := stp_noh hn hq
      obtain ⟨q1, q2, q3, q4⟩ := q
      have e1 : q4 = hpOf a := e1
      subst e1
      exact hq
    · cases h2
  · obtain ⟨i, len, kk, vv⟩ := e
    cases i <;> first | exact absurd rfl hn | skip
    case idiv =>
      unfold stpA at h
      dsimp only at h
      split at h
      · split at h
        · cases h
        · rename_i hne
          cases h
          unfold stp
          dsimp only
          rw [if_neg hne]
      · cases h
    case irem =>
      unfold stpA at h
      dsimp only at h
      split at h
      · split at h
        · cases h
        · rename_i hne
          cases h
          unfold stp
          dsimp only
          rw [if_neg hne]
      · cases h
    case ldiv =>
      unfold stpA at h
      dsimp only at h
      split at h
      · split at h
        · cases h
        · rename_i hne
          cases h
          unfold stp
          dsimp only
          rw [if_neg hne]
      · cases h
    case lrem =>
      unfold stpA at h
      dsimp only at h
      split at h
      · split at h
        · cases h
        · rename_i hne
          cases h
          unfold stp
          dsimp only
          rw [if_neg hne]
      · cases h
    case getfield n =>
      unfold stpA at h
      dsimp only at h
      split at h
      · rename_i c r
        split at h
        · rename_i o ho
          cases hb : Nat.beq o.1 (kk / 100) with
          | false => rw [hb] at h; cases h
          | true =>
            rw [hb] at h
            dsimp only [cond_true] at h
            unfold stp
            dsimp only
            rw [hp_get ho]
            show (bif Nat.beq o.1 (kk / 100) then _ else none) = _
            rw [hb]
            show (match (o.2.mapIdx (fdOf a c))[kk % 100]? with | some v => some (pc + len, ls, v :: r, hpOf a) | none => none) = _
            rw [List.getElem?_mapIdx]
            split at h
            · rename_i rf hf
              cases h
              rw [hf]
              rfl
            · rename_i hf
              cases h
              rw [hf]
              rfl
            · cases h
        · cases h
      · cases h
    case putfield n =>
      unfold stpA at h
      dsimp only at h
      split at h
      · rename_i x c r
        split at h
        · rename_i o ho
          cases hb : Nat.beq o.1 (kk / 100) with
          | false => rw [hb] at h; cases h
          | true =>
            rw [hb] at h
            dsimp only [cond_true] at h
            split at h
            · rename_i hf
              split at h
              · cases h
                unfold stp
                dsimp only
                rw [hp_get ho]
                show (bif Nat.beq o.1 (kk / 100) then _ else none) = _
                rw [hb]
                show (match (o.2.mapIdx (fdOf a c))[kk % 100]? with | some _ => some (pc + len, ls, _, (hpOf a).set c (.inr (o.1, (o.2.mapIdx (fdOf a c)).set (kk % 100) (.int x)))) | none => none) = _
                rw [List.getElem?_mapIdx, hf]
                show some (pc + len, ls, _, (hpOf a).set c (.inr (o.1, (o.2.mapIdx (fdOf a c)).set (kk % 100) (.int x)))) = _
                rw [hp_set ho]
                congr 6
                refine congrArg (fun z => (o.1, z)) ?_
                show _ = o.2.mapIdx (fdOf (upA a c (kk % 100) x) c)
                apply List.ext_getElem?
                intro j
                by_cases hj : kk % 100 = j
                · subst hj
                  rw [List.getElem?_set_self (by rw [List.length_mapIdx]; exact (List.getElem?_eq_some_iff.mp hf).1), List.getElem?_mapIdx, hf]
                  simp [fdOf, upA_eq, upd]
                · rw [List.getElem?_set_ne hj, List.getElem?_mapIdx, List.getElem?_mapIdx]
                  congr 1
                  funext f
                  unfold fdOf
                  cases f with
                  | some r => rfl
                  | none => simp [upA_eq, upd, Ne.symm hj]
              · cases h
            · cases h
        · cases h
      · cases h
    case iaload =>
      unfold stpA at h
      dsimp only at h
      split at h
      · rename_i i c r
        unfold stp
        dsimp only
        unfold a_arr
        cases hb : Nat.blt c 1000 with
        | true =>
          rw [hb] at h
          dsimp only [cond_true] at h ⊢
          split at h
          · rename_i n ho
            rw [hp_get ho]
            split at h
            · rename_i hi
              cases h
              show (if inb i n then _ else none) = _
              rw [if_pos hi]
              rfl
            · cases h
          · cases h
        | false =>
          rw [hb] at h
          dsimp only [cond_false] at h ⊢
          split at h
          · rename_i q ho
            rw [ho]
            split at h
            · rename_i hi
              cases h
              show (if inb i q.1 then _ else none) = _
              rw [if_pos hi]
              rfl
            · cases h
          · cases h
      · cases h
    case arraylength =>
      unfold stpA at h
      dsimp only at h
      split at h
      · rename_i c r
        unfold stp
        dsimp only
        unfold a_arr
        cases hb : Nat.blt c 1000 with
        | true => rw [hb] at h; cases h
        | false =>
          rw [hb] at h
          dsimp only [cond_false] at h ⊢
          split at h
          · rename_i q ho
            rw [ho]
            cases h
            rfl
          · cases h
      · cases h
    case baload =>
      unfold stpA at h
      dsimp only at h
      split at h
      · rename_i i c r
        unfold stp
        dsimp only
        split at h
        · rename_i n ho
          rw [hp_get ho]
          split at h
          · rename_i hi
            cases h
            show (if inb i n then _ else none) = _
            rw [if_pos hi]
            rfl
          · cases h
        · cases h
      · cases h
    case iastore =>
      unfold stpA at h
      dsimp only at h
      split at h
      · rename_i x i c r
        unfold stp
        dsimp only
        split at h
        · rename_i n ho
          rw [hp_get ho]
          split at h
          · rename_i hi
            cases h
            show (if inb i n then some (pc + len, ls, st', (hpOf a).set c (.inl (false, n, upd (a c) i.toNatClampNeg x))) else none) = _
            rw [if_pos hi, hp_set ho]
            show _ = some (pc + len, ls, st', (hpOf a).set c (.inl (false, n, upA a c (ix i) x c)))
            rw [upA_eq]
            rfl
          · cases h
        · cases h
      · cases h
    case bastore =>
      unfold stpA at h
      dsimp only at h
      split at h
      · rename_i x i c r
        unfold stp
        dsimp only
        split at h
        · rename_i n ho
          rw [hp_get ho]
          split at h
          · rename_i hi
            cases h
            show (if inb i n then some (pc + len, ls, st', (hpOf a).set c (.inl (true, n, upd (a c) i.toNatClampNeg (vp_nar .boolean x)))) else none) = _
            rw [if_pos hi, hp_set ho]
            show _ = some (pc + len, ls, st', (hpOf a).set c (.inl (true, n, upA a c (ix i) (vp_nar .boolean x) c)))
            rw [upA_eq]
            rfl
          · cases h
        · cases h
      · cases h
noncomputable def stpAL (ro : ac_R) : List in_T → Nat → List Value → List Value → aT → Option sa_T
  | [], pc, ls, st, a => some (pc, ls, st, a)
  | [e], pc, ls, st, a => stpA ro e pc ls st a
  | e :: e2 :: r, pc, ls, st, a => match stpA ro e pc ls st a with
    | some q => bif Nat.beq q.1 (n_pc e pc) then stpAL ro (e2 :: r) (n_pc e pc) q.2.1 q.2.2.1 q.2.2.2 else none
    | none => none
theorem stpAL_ok {ro : ac_R} : ∀ (sg : List in_T) {pc pc' : Nat} {ls st ls' st' : List Value} {a a' : aT}, stpAL ro sg pc ls st a = some (pc', ls', st', a') → stpL ro sg pc ls st (hpOf a) = some (pc', ls', st', hpOf a')
  | [], pc, pc', ls, st, ls', st', a, a', h => by cases h; rfl
  | [e], pc, pc', ls, st, ls', st', a, a', h => stpA_ok h
  | e :: e2 :: r, pc, pc', ls, st, ls', st', a, a', h => by
    unfold stpAL at h
    split at h
    · rename_i q hq
      cases hb : Nat.beq q.1 (n_pc e pc) with
      | false => rw [hb] at h; cases h
      | true =>
        rw [hb] at h
        dsimp only [cond_true] at h
        obtain ⟨q1, q2, q3, q4⟩ := q
        have hb : Nat.beq q1 (n_pc e pc) = true := hb
        have ih := stpAL_ok (e2 :: r) h
        unfold stpL
        simp only [stpA_ok hq, hb, cond_true]
        exact ih
    · cases h
def s_least : Nat → Int32 := fun j => match j with
  | 0 => 1
  | 1 => 1
  | _ => 0
def s_most : Nat → Int32 := fun j => match j with
  | 0 => 9
  | 1 => 3
  | _ => 16
def r_most : Nat → Int32 := fun j => match j with
  | 0 => 8
  | 1 => 29
  | 2 => 9
  | 3 => 1
  | 4 => 9
  | _ => 16
abbrev eT : Type := va_G × (ClassId × ClassId) × Nat × (Nat → Nat) × Nat × (Nat → Int32)
def e_L (E : eT) : Nat := E.2.2.2.2.1
def e_xs (E : eT) : Nat → Int32 := E.2.2.2.2.2
def gE (E : eT) : ac_G := (E.1, E.2.1, E.2.2.1, E.2.2.2.1, [(3, s_least), (3, s_most), (6, r_most), (e_L E, e_xs E)])
theorem hpOf_len (a : aT) : (hpOf a).length = 51 := by simp [hpOf_eq, shp]
