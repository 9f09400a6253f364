def XQ (E : eT) (M : md_T) (pc : Nat) (ls st : List Value) (a : aT) (Q : Option Value → aT → Prop) : Prop := RW (gE E) M 0 0 pc ls st (hpOf a) (fun r hp => ∃ a', hp = hpOf a' ∧ Q r a')
def qI (v : Int32) (a2 : aT) : Option Value → aT → Prop := fun r a' => r = some (.int v) ∧ a' = a2
def qZ (v : Int32) (a2 : aT) : Option Value → aT → Prop := fun r a' => (∃ v0, r = some (.int v0) ∧ vp_nar .boolean v0 = v) ∧ a' = a2
def qL (v : Int64) (a2 : aT) : Option Value → aT → Prop := fun r a' => r = some (.long v) ∧ a' = a2
def qV (_ : Unit) (a2 : aT) : Option Value → aT → Prop := fun r a' => r = none ∧ a' = a2
def r_ft : Option FieldType → Option Value → Prop
  | none, none => True
  | some .int, some (.int _) => True
  | some .boolean, some (.int _) => True
  | some .long, some (.long _) => True
  | _, _ => False
/-- what a post says to the caller -/
def q_says {ρ : Type} (M : md_T) (q : ρ → aT → Option Value → aT → Prop) (tv : ρ → List Value) : Prop := ∀ v a2 r a', q v a2 r a' → (r_n (m_r M) r).toList = tv v ∧ a' = a2 ∧ r_ft (m_r M) r ∧ ∀ b, r ≠ some (.ref b)
theorem qI_h {M : md_T} (h : m_r M = some .int) : q_says M qI (fun v => [.int v]) := by
  rintro v a2 r a' ⟨rfl, rfl⟩
  rw [h]
  exact ⟨rfl, rfl, trivial, fun b q => by cases q⟩
theorem qZ_h {M : md_T} (h : m_r M = some .boolean) : q_says M qZ (fun v => [.int v]) := by
  rintro v a2 r a' ⟨⟨v0, rfl, rfl⟩, rfl⟩
  rw [h]
  exact ⟨rfl, rfl, trivial, fun b q => by cases q⟩
theorem qL_h {M : md_T} (h : m_r M = some .long) : q_says M qL (fun v => [.long v]) := by
  rintro v a2 r a' ⟨rfl, rfl⟩
  rw [h]
  exact ⟨rfl, rfl, trivial, fun b q => by cases q⟩
theorem qV_h {M : md_T} (h : m_r M = none) : q_says M qV (fun _ => []) := by
  rintro v a2 r a' ⟨rfl, rfl⟩
  rw [h]
  exact ⟨rfl, rfl, trivial, fun b q => by cases q⟩
theorem q_fit {ρ : Type} {M : md_T} {q : ρ → aT → Option Value → aT → Prop} {tv : ρ → List Value} (h : q_says M q tv) (v : ρ) (a2 : aT) : r_fit M (fun r hp => ∃ a', hp = hpOf a' ∧ q v a2 r a') := by
  rintro r hp ⟨a', -, hq⟩
  have := (h v a2 r a' hq).2.2.1
  unfold r_ft at this
  exact this
def l_mk : List Bool → List Value → List Value
  | true :: b, v :: r => v :: l_mk b r
  | false :: b, _ :: r => .null :: l_mk b r
  | _, _ => []
theorem l_mk_get : ∀ (b : List Bool) (ls : List Value) (k : Nat) (v : Value), (l_mk b ls)[k]? = some v → v ≠ .null → ls[k]? = some v
  | [], ls, k, v, h, hv => by simp [l_mk] at h
  | true :: b, [], k, v, h, hv => by simp [l_mk] at h
  | false :: b, [], k, v, h, hv => by simp [l_mk] at h
  | true :: b, w :: r, 0, v, h, hv => h
  | false :: b, w :: r, 0, v, h, hv => by cases h; exact absurd rfl hv
  | true :: b, w :: r, k + 1, v, h, hv => l_mk_get b r k v h hv
  | false :: b, w :: r, k + 1, v, h, hv => l_mk_get b r k v h hv
theorem XQ_fg {E : eT} {M : md_T} {pc : Nat} {ls st : List Value} {a : aT} {Q : Option Value → aT → Prop} (b : List Bool) (k : XQ E M pc (l_mk b ls) st a Q) : XQ E M pc ls st a Q :=
  fun p l e R s m args below meth c H locs cells slots QQ Ls hc hl hP hS h1 h2 hz K => k p l e R s m args below meth c H locs cells slots QQ Ls hc ⟨hl.1, hl.2.1, fun j v hj hv => hl.2.2 j v (l_mk_get b ls j v hj hv) hv⟩ hP hS h1 h2 hz K
theorem XQ_go {E : eT} {M : md_T} {pc pc' : Nat} {ls st ls' st' : List Value} {a a' : aT} {Q : Option Value → aT → Prop} (sg : List in_T) (hk : e_okL M pc sg = true) (h : stpAL (g_ro (gE E)) sg pc ls st a = some (pc', ls', st', a')) (k : XQ E M pc' ls' st' a' Q) : XQ E M pc ls st a Q := RW_seg sg hk (stpAL_ok sg h) k
theorem XQ_ret {E : eT} {M : md_T} {pc : Nat} {ls : List Value} {a : aT} {Q : Option Value → aT → Prop} (r : Option Value) (hr : ∀ b, r ≠ some (.ref b)) (hd : decode (m_b M) pc = .ok (r_in r, 1)) (hq : Q r a) : XQ E M pc ls r.toList a Q := RW_ret r hr hd ⟨a, rfl, hq⟩

theorem XQ_callV {ρ' : Type} {E : eT} {M M' : md_T} {pc idx b ci : Nat} {ls rest As : List Value} {a a2 : aT} {Q : Option Value → aT → Prop} {q' : ρ' → aT → Option Value → aT → Prop} {tv : ρ' → List Value} {v : ρ'} {q : vw_C} {fs : List (Option Nat)} (hd : decode (m_b M) pc = .ok (.invokevirtual idx, 3)) (hok : m_ok M') (hV : Cond.instanceMethod (m_y M') ∈ lw_tbl ∧ Cond.selects (m_y M').cls (m_y M') (m_y M') ∈ lw_tbl) {n : Nat} (hlk : c_lk M M' idx n) (hn : As.length = n) (ho : shp[b]? = some (.inr (ci, fs))) (hcq : vwCl[ci]? = some q) (hqc : q.1 = (m_y M').cls) (hw : (rest.map Value.category).sum ≤ 8) (hav : (l_en (.ref b :: As)).length ≤ m_L M') (hq : q_says M' q' tv)
    (hR : XQ E M' 0 (l_ent (.ref b :: As) (m_L M')) [] a (q' v a2)) (k : XQ E M (pc + 3) ls (tv v ++ rest) a2 Q) : XQ E M pc ls (As.reverse ++ .ref b :: rest) a Q := by
  subst hn
  have := RW_callV (cb := 0) (sb := 0) (cb1 := 0) (sb1 := 0) (Q := fun r hp => ∃ a', hp = hpOf a' ∧ Q r a') (ls := ls) (rest := rest) hd hok hV hlk (hp_get ho) hcq hqc hw hav (q_fit hq v a2) (fun r hp' h => by obtain ⟨a', rfl, -⟩ := h; rw [hpOf_len, hpOf_len]) hR (fun r hp' h => by
    obtain ⟨a', rfl, h⟩ := h
    obtain ⟨e1, e2, -, -⟩ := hq v a2 r a' h
    subst e2
    rw [e1]
    exact k)
  exact this

theorem XQ_callS {ρ' : Type} {E : eT} {M M' : md_T} {pc idx : Nat} {ls rest As : List Value} {a a2 : aT} {Q : Option Value → aT → Prop} {q' : ρ' → aT → Option Value → aT → Prop} {tv : ρ' → List Value} {v : ρ'} (hd : decode (m_b M) pc = .ok (.invokestatic idx, 3)) (hok : m_ok M') (hV : Cond.static (m_y M') ∈ lw_tbl) {n : Nat} (hlk : c_lk M M' idx n) (hn : As.length = n) (hw : (rest.map Value.category).sum ≤ 8) (hav : (l_en As).length ≤ m_L M') (hq : q_says M' q' tv)
    (hR : XQ E M' 0 (l_ent As (m_L M')) [] a (q' v a2)) (k : XQ E M (pc + 3) ls (tv v ++ rest) a2 Q) : XQ E M pc ls (As.reverse ++ rest) a Q := by
  subst hn
  have := RW_callS (cb := 0) (sb := 0) (cb1 := 0) (sb1 := 0) (Q := fun r hp => ∃ a', hp = hpOf a' ∧ Q r a') (ls := ls) (rest := rest) hd hok hV hlk hw hav (q_fit hq v a2) (fun r hp' h => by obtain ⟨a', rfl, -⟩ := h; rw [hpOf_len, hpOf_len]) hR (fun r hp' h => by
    obtain ⟨a', rfl, h⟩ := h
    obtain ⟨e1, e2, -, -⟩ := hq v a2 r a' h
    subst e2
    rw [e1]
    exact k)
  exact this

theorem XQ_callSN {ρ' : Type} {E : eT} {M M' : md_T} {pc idx : Nat} {ls rest As : List Value} {a a2 : aT} {Q : Option Value → aT → Prop} {q' : ρ' → aT → Option Value → aT → Prop} {tv : ρ' → List Value} {v : ρ'} (hd : decode (m_b M) pc = .ok (.invokestatic idx, 3)) (hok : m_ok M') (hV : Cond.static (m_y M') ∈ lw_tbl) {n : Nat} (hlk : c_lkN M M' idx n) (hn : As.length = n) (hw : (rest.map Value.category).sum ≤ 8) (hav : (l_en As).length ≤ m_L M') (hq : q_says M' q' tv)
    (hR : XQ E M' 0 (l_ent As (m_L M')) [] a (q' v a2)) (k : XQ E M (pc + 3) ls (tv v ++ rest) a2 Q) : XQ E M pc ls (As.reverse ++ rest) a Q := by
  subst hn
  have := RW_callSN (cb := 0) (sb := 0) (cb1 := 0) (sb1 := 0) (Q := fun r hp => ∃ a', hp = hpOf a' ∧ Q r a') (ls := ls) (rest := rest) hd hok hV hlk hw hav (q_fit hq v a2) (fun r hp' h => by obtain ⟨a', rfl, -⟩ := h; rw [hpOf_len, hpOf_len]) hR (fun r hp' h => by
    obtain ⟨a', rfl, h⟩ := h
    obtain ⟨e1, e2, -, -⟩ := hq v a2 r a' h
    subst e2
    rw [e1]
    exact k)
  exact this

def XI {ρ : Type} (q : ρ → aT → Option Value → aT → Prop) (E : eT) (M : md_T) (pc : Nat) (ls st : List Value) (a : aT) (o : Option (ρ × aT)) : Prop := ∀ v a2, o = some (v, a2) → XQ E M pc ls st a (q v a2)
def XP {ρ : Type} (q : ρ → aT → Option Value → aT → Prop) (E : eT) (M : md_T) (pc : Nat) (ls st : List Value) (a : aT) (o : Option ρ) : Prop := ∀ v, o = some v → XQ E M pc ls st a (q v a)
def XT {ρ : Type} (q : ρ → aT → Option Value → aT → Prop) (E : eT) (M : md_T) (pc : Nat) (ls st : List Value) (a : aT) (v : ρ) : Prop := XQ E M pc ls st a (q v a)
theorem XI_go {ρ : Type} {q : ρ → aT → Option Value → aT → Prop} {E : eT} {M : md_T} {pc : Nat} {ls st : List Value} {pc' : Nat} {ls' st' : List Value} {a a' : aT} {o : Option (ρ × aT)} (sg : List in_T) (hk : e_okL M pc sg = true) (h9 : stpAL (g_ro (gE E)) sg pc ls st a = some (pc', ls', st', a')) (k : XI q E M pc' ls' st' a' o) : XI q E M pc ls st a o := fun v a2 h => XQ_go sg hk h9 (k v a2 h)
theorem XI_fg {ρ : Type} {q : ρ → aT → Option Value → aT → Prop} {E : eT} {M : md_T} {pc : Nat} {ls st : List Value} {a : aT} {o : Option (ρ × aT)} (b : List Bool) (k : XI q E M pc (l_mk b ls) st a o) : XI q E M pc ls st a o := fun v a2 h => XQ_fg b (k v a2 h)
theorem XI_br {ρ : Type} {q : ρ → aT → Option Value → aT → Prop} {E : eT} {M : md_T} {pc : Nat} {ls st : List Value} {a a' : aT} {c : Prop} [Decidable c] {t e : Nat} {ls' st' : List Value} {o1 o2 : Option (ρ × aT)} (sg : List in_T) (hk : e_okL M pc sg = true) (h9 : stpAL (g_ro (gE E)) sg pc ls st a = some (if c then t else e, ls', st', a')) (kt : XI q E M t ls' st' a' o1) (ke : XI q E M e ls' st' a' o2) : XI q E M pc ls st a (if c then o1 else o2) := by
  intro v a2 h
  by_cases hc : c
  · rw [if_pos hc] at h9 h
    exact XQ_go sg hk h9 (kt v a2 h)
  · rw [if_neg hc] at h9 h
    exact XQ_go sg hk h9 (ke v a2 h)
theorem XI_if {ρ : Type} {q : ρ → aT → Option Value → aT → Prop} {E : eT} {M : md_T} {pc : Nat} {ls st : List Value} {a : aT} {c : Prop} [Decidable c] {o1 o2 : Option (ρ × aT)} (kt : c → XI q E M pc ls st a o1) (ke : ¬ c → XI q E M pc ls st a o2) : XI q E M pc ls st a (if c then o1 else o2) := by
  by_cases hc : c
  · rw [if_pos hc]; exact kt hc
  · rw [if_neg hc]; exact ke hc
theorem XI_no {ρ : Type} {q : ρ → aT → Option Value → aT → Prop} {E : eT} {M : md_T} {pc : Nat} {ls st : List Value} {a : aT} {o : Option (ρ × aT)} (h : o = none) : XI q E M pc ls st a o := by
  intro v a2 h9
  rw [h] at h9
  cases h9
theorem XI_ck {ρ : Type} {q : ρ → aT → Option Value → aT → Prop} {E : eT} {M : md_T} {pc : Nat} {ls st : List Value} {a a' : aT} {pc' : Nat} {c : Prop} [Decidable c] {ls' st' : List Value} {o : Option (ρ × aT)} (sg : List in_T) (hk : e_okL M pc sg = true) (h9 : stpAL (g_ro (gE E)) sg pc ls st a = if c then some (pc', ls', st', a') else none) (k : XI q E M pc' ls' st' a' o) : XI q E M pc ls st a (if c then o else none) := by
  intro v a2 h
  by_cases hc : c
  · rw [if_pos hc] at h9 h
    exact XQ_go sg hk h9 (k v a2 h)
  · rw [if_neg hc] at h
    cases h
theorem XI_dv {ρ : Type} {q : ρ → aT → Option Value → aT → Prop} {E : eT} {M : md_T} {pc : Nat} {ls st : List Value} {a a' : aT} {pc' : Nat} {c : Prop} [Decidable c] {ls' st' : List Value} {o : Option (ρ × aT)} (sg : List in_T) (hk : e_okL M pc sg = true) (h9 : stpAL (g_ro (gE E)) sg pc ls st a = if c then none else some (pc', ls', st', a')) (k : XI q E M pc' ls' st' a' o) : XI q E M pc ls st a (if c then none else o) := by
  intro v a2 h
  by_cases hc : c
  · rw [if_pos hc] at h
    cases h
  · rw [if_neg hc] at h9 h
    exact XQ_go sg hk h9 (k v a2 h)
theorem XI_retI {E : eT} {M : md_T} {pc : Nat} {ls : List Value} {a : aT} {v : Int32} (hd : decode (m_b M) pc = .ok (.ireturn, 1)) : XI qI E M pc ls [.int v] a (some (v, a)) := by
  intro v1 a1 h
  cases h
  exact XQ_ret (some (.int v)) (fun b q => by cases q) hd ⟨rfl, rfl⟩
theorem XI_retZ {E : eT} {M : md_T} {pc : Nat} {ls : List Value} {a : aT} {v v0 : Int32} (hd : decode (m_b M) pc = .ok (.ireturn, 1)) (hv : vp_nar .boolean v0 = v) : XI qZ E M pc ls [.int v0] a (some (v, a)) := by
  intro v1 a1 h
  cases h
  exact XQ_ret (some (.int v0)) (fun b q => by cases q) hd ⟨⟨v0, rfl, hv⟩, rfl⟩
theorem XI_retJ {E : eT} {M : md_T} {pc : Nat} {ls : List Value} {a : aT} {v : Int64} (hd : decode (m_b M) pc = .ok (.lreturn, 1)) : XI qL E M pc ls [.long v] a (some (v, a)) := by
  intro v1 a1 h
  cases h
  exact XQ_ret (some (.long v)) (fun b q => by cases q) hd ⟨rfl, rfl⟩
theorem XI_retV {E : eT} {M : md_T} {pc : Nat} {ls : List Value} {a : aT} (hd : decode (m_b M) pc = .ok (.return_, 1)) : XI qV E M pc ls [] a (some ((), a)) := by
  intro v1 a1 h
  cases h
  exact XQ_ret none (fun b q => by cases q) hd ⟨rfl, rfl⟩
theorem XI_VI {ρ ρ' : Type} {q : ρ → aT → Option Value → aT → Prop} {q' : ρ' → aT → Option Value → aT → Prop} {tv : ρ' → List Value} {E : eT} {M M' : md_T} {pc idx : Nat} {ls rest As : List Value} {b ci : Nat} {fs : List (Option Nat)} {qc : vw_C} {a : aT} {o9 : Option (ρ' × aT)} {f : ρ' × aT → Option (ρ × aT)} (hd : decode (m_b M) pc = .ok (.invokevirtual idx, 3)) (hok : m_ok M') (hV : Cond.instanceMethod (m_y M') ∈ lw_tbl ∧ Cond.selects (m_y M').cls (m_y M') (m_y M') ∈ lw_tbl) {n : Nat} (hlk : c_lk M M' idx n) (hn : As.length = n) (ho : shp[b]? = some (.inr (ci, fs))) (hcq : vwCl[ci]? = some qc) (hqc : qc.1 = (m_y M').cls) (hw : (rest.map Value.category).sum ≤ 8) (hav : (l_en (.ref b :: As)).length ≤ m_L M') (hq : q_says M' q' tv) (hR : XI q' E M' 0 (l_ent (.ref b :: As) (m_L M')) [] a o9) (k : ∀ q9, XI q E M (pc + 3) ls (tv q9.1 ++ rest) q9.2 (f q9)) : XI q E M pc ls (As.reverse ++ .ref b :: rest) a (o9.bind f) := by
  intro v a2 h
  obtain ⟨⟨v9, a9⟩, h9, h⟩ := Option.bind_eq_some_iff.mp h
  exact XQ_callV hd hok hV hlk hn ho hcq hqc hw hav hq (hR v9 a9 h9) (k (v9, a9) v a2 h)
theorem XI_VP {ρ ρ' : Type} {q : ρ → aT → Option Value → aT → Prop} {q' : ρ' → aT → Option Value → aT → Prop} {tv : ρ' → List Value} {E : eT} {M M' : md_T} {pc idx : Nat} {ls rest As : List Value} {b ci : Nat} {fs : List (Option Nat)} {qc : vw_C} {a : aT} {o9 : Option ρ'} {f : ρ' → Option (ρ × aT)} (hd : decode (m_b M) pc = .ok (.invokevirtual idx, 3)) (hok : m_ok M') (hV : Cond.instanceMethod (m_y M') ∈ lw_tbl ∧ Cond.selects (m_y M').cls (m_y M') (m_y M') ∈ lw_tbl) {n : Nat} (hlk : c_lk M M' idx n) (hn : As.length = n) (ho : shp[b]? = some (.inr (ci, fs))) (hcq : vwCl[ci]? = some qc) (hqc : qc.1 = (m_y M').cls) (hw : (rest.map Value.category).sum ≤ 8) (hav : (l_en (.ref b :: As)).length ≤ m_L M') (hq : q_says M' q' tv) (hR : XP q' E M' 0 (l_ent (.ref b :: As) (m_L M')) [] a o9) (k : ∀ v9, XI q E M (pc + 3) ls (tv v9 ++ rest) a (f v9)) : XI q E M pc ls (As.reverse ++ .ref b :: rest) a (o9.bind f) := by
  intro v a2 h
  obtain ⟨v9, h9, h⟩ := Option.bind_eq_some_iff.mp h
  exact XQ_callV hd hok hV hlk hn ho hcq hqc hw hav hq (hR v9 h9) (k v9 v a2 h)
theorem XI_VT {ρ ρ' : Type} {q : ρ → aT → Option Value → aT → Prop} {q' : ρ' → aT → Option Value → aT → Prop} {tv : ρ' → List Value} {E : eT} {M M' : md_T} {pc idx : Nat} {ls rest As : List Value} {b ci : Nat} {fs : List (Option Nat)} {qc : vw_C} {a : aT} {v9 : ρ'} {o : Option (ρ × aT)} (hd : decode (m_b M) pc = .ok (.invokevirtual idx, 3)) (hok : m_ok M') (hV : Cond.instanceMethod (m_y M') ∈ lw_tbl ∧ Cond.selects (m_y M').cls (m_y M') (m_y M') ∈ lw_tbl) {n : Nat} (hlk : c_lk M M' idx n) (hn : As.length = n) (ho : shp[b]? = some (.inr (ci, fs))) (hcq : vwCl[ci]? = some qc) (hqc : qc.1 = (m_y M').cls) (hw : (rest.map Value.category).sum ≤ 8) (hav : (l_en (.ref b :: As)).length ≤ m_L M') (hq : q_says M' q' tv) (hR : XT q' E M' 0 (l_ent (.ref b :: As) (m_L M')) [] a v9) (k : XI q E M (pc + 3) ls (tv v9 ++ rest) a o) : XI q E M pc ls (As.reverse ++ .ref b :: rest) a o := fun v a2 h => XQ_callV hd hok hV hlk hn ho hcq hqc hw hav hq hR (k v a2 h)
theorem XI_SI {ρ ρ' : Type} {q : ρ → aT → Option Value → aT → Prop} {q' : ρ' → aT → Option Value → aT → Prop} {tv : ρ' → List Value} {E : eT} {M M' : md_T} {pc idx : Nat} {ls rest As : List Value} {a : aT} {o9 : Option (ρ' × aT)} {f : ρ' × aT → Option (ρ × aT)} (hd : decode (m_b M) pc = .ok (.invokestatic idx, 3)) (hok : m_ok M') (hV : Cond.static (m_y M') ∈ lw_tbl) {n : Nat} (hlk : c_lk M M' idx n) (hn : As.length = n) (hw : (rest.map Value.category).sum ≤ 8) (hav : (l_en As).length ≤ m_L M') (hq : q_says M' q' tv) (hR : XI q' E M' 0 (l_ent As (m_L M')) [] a o9) (k : ∀ q9, XI q E M (pc + 3) ls (tv q9.1 ++ rest) q9.2 (f q9)) : XI q E M pc ls (As.reverse ++ rest) a (o9.bind f) := by
  intro v a2 h
  obtain ⟨⟨v9, a9⟩, h9, h⟩ := Option.bind_eq_some_iff.mp h
  exact XQ_callS hd hok hV hlk hn hw hav hq (hR v9 a9 h9) (k (v9, a9) v a2 h)
theorem XI_SP {ρ ρ' : Type} {q : ρ → aT → Option Value → aT → Prop} {q' : ρ' → aT → Option Value → aT → Prop} {tv : ρ' → List Value} {E : eT} {M M' : md_T} {pc idx : Nat} {ls rest As : List Value} {a : aT} {o9 : Option ρ'} {f : ρ' → Option (ρ × aT)} (hd : decode (m_b M) pc = .ok (.invokestatic idx, 3)) (hok : m_ok M') (hV : Cond.static (m_y M') ∈ lw_tbl) {n : Nat} (hlk : c_lk M M' idx n) (hn : As.length = n) (hw : (rest.map Value.category).sum ≤ 8) (hav : (l_en As).length ≤ m_L M') (hq : q_says M' q' tv) (hR : XP q' E M' 0 (l_ent As (m_L M')) [] a o9) (k : ∀ v9, XI q E M (pc + 3) ls (tv v9 ++ rest) a (f v9)) : XI q E M pc ls (As.reverse ++ rest) a (o9.bind f) := by
  intro v a2 h
  obtain ⟨v9, h9, h⟩ := Option.bind_eq_some_iff.mp h
  exact XQ_callS hd hok hV hlk hn hw hav hq (hR v9 h9) (k v9 v a2 h)
theorem XI_ST {ρ ρ' : Type} {q : ρ → aT → Option Value → aT → Prop} {q' : ρ' → aT → Option Value → aT → Prop} {tv : ρ' → List Value} {E : eT} {M M' : md_T} {pc idx : Nat} {ls rest As : List Value} {a : aT} {v9 : ρ'} {o : Option (ρ × aT)} (hd : decode (m_b M) pc = .ok (.invokestatic idx, 3)) (hok : m_ok M') (hV : Cond.static (m_y M') ∈ lw_tbl) {n : Nat} (hlk : c_lk M M' idx n) (hn : As.length = n) (hw : (rest.map Value.category).sum ≤ 8) (hav : (l_en As).length ≤ m_L M') (hq : q_says M' q' tv) (hR : XT q' E M' 0 (l_ent As (m_L M')) [] a v9) (k : XI q E M (pc + 3) ls (tv v9 ++ rest) a o) : XI q E M pc ls (As.reverse ++ rest) a o := fun v a2 h => XQ_callS hd hok hV hlk hn hw hav hq hR (k v a2 h)
theorem XI_SNI {ρ ρ' : Type} {q : ρ → aT → Option Value → aT → Prop} {q' : ρ' → aT → Option Value → aT → Prop} {tv : ρ' → List Value} {E : eT} {M M' : md_T} {pc idx : Nat} {ls rest As : List Value} {a : aT} {o9 : Option (ρ' × aT)} {f : ρ' × aT → Option (ρ × aT)} (hd : decode (m_b M) pc = .ok (.invokestatic idx, 3)) (hok : m_ok M') (hV : Cond.static (m_y M') ∈ lw_tbl) {n : Nat} (hlk : c_lkN M M' idx n) (hn : As.length = n) (hw : (rest.map Value.category).sum ≤ 8) (hav : (l_en As).length ≤ m_L M') (hq : q_says M' q' tv) (hR : XI q' E M' 0 (l_ent As (m_L M')) [] a o9) (k : ∀ q9, XI q E M (pc + 3) ls (tv q9.1 ++ rest) q9.2 (f q9)) : XI q E M pc ls (As.reverse ++ rest) a (o9.bind f) := by
  intro v a2 h
  obtain ⟨⟨v9, a9⟩, h9, h⟩ := Option.bind_eq_some_iff.mp h
  exact XQ_callSN hd hok hV hlk hn hw hav hq (hR v9 a9 h9) (k (v9, a9) v a2 h)
theorem XI_SNP {ρ ρ' : Type} {q : ρ → aT → Option Value → aT → Prop} {q' : ρ' → aT → Option Value → aT → Prop} {tv : ρ' → List Value} {E : eT} {M M' : md_T} {pc idx : Nat} {ls rest As : List Value} {a : aT} {o9 : Option ρ'} {f : ρ' → Option (ρ × aT)} (hd : decode (m_b M) pc = .ok (.invokestatic idx, 3)) (hok : m_ok M') (hV : Cond.static (m_y M') ∈ lw_tbl) {n : Nat} (hlk : c_lkN M M' idx n) (hn : As.length = n) (hw : (rest.map Value.category).sum ≤ 8) (hav : (l_en As).length ≤ m_L M') (hq : q_says M' q' tv) (hR : XP q' E M' 0 (l_ent As (m_L M')) [] a o9) (k : ∀ v9, XI q E M (pc + 3) ls (tv v9 ++ rest) a (f v9)) : XI q E M pc ls (As.reverse ++ rest) a (o9.bind f) := by
  intro v a2 h
  obtain ⟨v9, h9, h⟩ := Option.bind_eq_some_iff.mp h
  exact XQ_callSN hd hok hV hlk hn hw hav hq (hR v9 h9) (k v9 v a2 h)
theorem XI_SNT {ρ ρ' : Type} {q : ρ → aT → Option Value → aT → Prop} {q' : ρ' → aT → Option Value → aT → Prop} {tv : ρ' → List Value} {E : eT} {M M' : md_T} {pc idx : Nat} {ls rest As : List Value} {a : aT} {v9 : ρ'} {o : Option (ρ × aT)} (hd : decode (m_b M) pc = .ok (.invokestatic idx, 3)) (hok : m_ok M') (hV : Cond.static (m_y M') ∈ lw_tbl) {n : Nat} (hlk : c_lkN M M' idx n) (hn : As.length = n) (hw : (rest.map Value.category).sum ≤ 8) (hav : (l_en As).length ≤ m_L M') (hq : q_says M' q' tv) (hR : XT q' E M' 0 (l_ent As (m_L M')) [] a v9) (k : XI q E M (pc + 3) ls (tv v9 ++ rest) a o) : XI q E M pc ls (As.reverse ++ rest) a o := fun v a2 h => XQ_callSN hd hok hV hlk hn hw hav hq hR (k v a2 h)
theorem tab_out {x : Int32} {n : Nat} {lo hi : Int} (h : ∀ i, i < n → ¬ x = OfNat.ofNat i) (hn : lo = 0 ∧ hi + 1 = (n : Int) ∧ n < 1000) : x.toInt < lo ∨ hi < x.toInt := by
  obtain ⟨rfl, h1, h2⟩ := hn
  rcases Int.lt_or_le x.toInt 0 with h3 | h3
  · exact Or.inl h3
  · refine Or.inr ?_
    rcases Int.lt_or_le hi x.toInt with h4 | h4
    · exact h4
    · exfalso
      obtain ⟨j, hj, hx⟩ := nI_of (x := x) (fun q => by rw [Int32.lt_iff_toInt_lt, Int32.toInt_zero] at q; omega)
      have h5 : x.toInt = j := by rw [hx]; exact nI_toInt hj
      exact h j (by omega) (by rw [hx]; rfl)
theorem look_out {x : Int32} {o0 o1 d : Int} (h0 : ¬ x = 0) (h1 : ¬ x = 1) : Op.lookupswitch.offset [(0, o0), (1, o1)] d x.toInt = d := by
  rw [Op.lookupswitch.offset_cons, if_neg, Op.lookupswitch.offset_cons, if_neg, Op.lookupswitch.offset_nil]
  · intro q
    exact h1 (Int32.toInt_inj.mp (q.symm.trans (by decide)))
  · intro q
    exact h0 (Int32.toInt_inj.mp (q.symm.trans (by decide)))
theorem XI_tabIn {ρ : Type} {q : ρ → aT → Option Value → aT → Prop} {E : eT} {M : md_T} {pc : Nat} {ls st : List Value} {a : aT} {o : Option (ρ × aT)} {dflt lo hi off : Int} {offs : Array Int} {len tgt : Nat} {x x0 : Int32} (h0 : x = x0) (hd : decode (m_b M) pc = .ok (.tableswitch dflt lo hi offs, len)) (h3 : ¬ x0.toInt < lo) (h4 : ¬ hi < x0.toInt) (ho : offs[(x0.toInt - lo).toNat]? = some off) (ht : (pc : Int) + off = (tgt : Int)) (k : XI q E M tgt ls st a o) : XI q E M pc ls (.int x :: st) a o := by
  subst h0
  exact fun v a2 h => RW_tabIn hd h3 h4 ho ht (k v a2 h)
theorem XI_tabOut {ρ : Type} {q : ρ → aT → Option Value → aT → Prop} {E : eT} {M : md_T} {pc : Nat} {ls st : List Value} {a : aT} {o : Option (ρ × aT)} {dflt lo hi : Int} {offs : Array Int} {len tgt n : Nat} {x : Int32} (hd : decode (m_b M) pc = .ok (.tableswitch dflt lo hi offs, len)) (h3 : ∀ i, i < n → ¬ x = OfNat.ofNat i) (hn : lo = 0 ∧ hi + 1 = (n : Int) ∧ n < 1000) (ht : (pc : Int) + dflt = (tgt : Int)) (k : XI q E M tgt ls st a o) : XI q E M pc ls (.int x :: st) a o := fun v a2 h => RW_tabOut hd (tab_out h3 hn) ht (k v a2 h)
theorem XI_look {ρ : Type} {q : ρ → aT → Option Value → aT → Prop} {E : eT} {M : md_T} {pc : Nat} {ls st : List Value} {a : aT} {o : Option (ρ × aT)} {dflt off : Int} {ps : Array (Int × Int)} {len tgt : Nat} {x : Int32} (hd : decode (m_b M) pc = .ok (.lookupswitch dflt ps, len)) (hs : (ps.toList.zip (ps.toList.drop 1)).all (fun (a, next) => a.1 < next.1) = true) (ho : Op.lookupswitch.offset ps.toList dflt x.toInt = off) (ht : (pc : Int) + off = (tgt : Int)) (k : XI q E M tgt ls st a o) : XI q E M pc ls (.int x :: st) a o := fun v a2 h => RW_look hd hs ho ht (k v a2 h)
theorem XP_go {ρ : Type} {q : ρ → aT → Option Value → aT → Prop} {E : eT} {M : md_T} {pc : Nat} {ls st : List Value} {pc' : Nat} {ls' st' : List Value} {a' : aT} {o : Option ρ} (sg : List in_T) (hk : e_okL M pc sg = true) (h9 : stpAL (g_ro (gE E)) sg pc ls st a' = some (pc', ls', st', a')) (k : XP q E M pc' ls' st' a' o) : XP q E M pc ls st a' o := fun v h => XQ_go sg hk h9 (k v h)
theorem XP_fg {ρ : Type} {q : ρ → aT → Option Value → aT → Prop} {E : eT} {M : md_T} {pc : Nat} {ls st : List Value} {a : aT} {o : Option ρ} (b : List Bool) (k : XP q E M pc (l_mk b ls) st a o) : XP q E M pc ls st a o := fun v h => XQ_fg b (k v h)
theorem XP_br {ρ : Type} {q : ρ → aT → Option Value → aT → Prop} {E : eT} {M : md_T} {pc : Nat} {ls st : List Value} {a' : aT} {c : Prop} [Decidable c] {t e : Nat} {ls' st' : List Value} {o1 o2 : Option ρ} (sg : List in_T) (hk : e_okL M pc sg = true) (h9 : stpAL (g_ro (gE E)) sg pc ls st a' = some (if c then t else e, ls', st', a')) (kt : XP q E M t ls' st' a' o1) (ke : XP q E M e ls' st' a' o2) : XP q E M pc ls st a' (if c then o1 else o2) := by
  intro v h
  by_cases hc : c
  · rw [if_pos hc] at h9 h
    exact XQ_go sg hk h9 (kt v h)
  · rw [if_neg hc] at h9 h
    exact XQ_go sg hk h9 (ke v h)
theorem XP_if {ρ : Type} {q : ρ → aT → Option Value → aT → Prop} {E : eT} {M : md_T} {pc : Nat} {ls st : List Value} {a : aT} {c : Prop} [Decidable c] {o1 o2 : Option ρ} (kt : c → XP q E M pc ls st a o1) (ke : ¬ c → XP q E M pc ls st a o2) : XP q E M pc ls st a (if c then o1 else o2) := by
  by_cases hc : c
  · rw [if_pos hc]; exact kt hc
  · rw [if_neg hc]; exact ke hc
theorem XP_no {ρ : Type} {q : ρ → aT → Option Value → aT → Prop} {E : eT} {M : md_T} {pc : Nat} {ls st : List Value} {a : aT} {o : Option ρ} (h : o = none) : XP q E M pc ls st a o := by
  intro v h9
  rw [h] at h9
  cases h9
theorem XP_ck {ρ : Type} {q : ρ → aT → Option Value → aT → Prop} {E : eT} {M : md_T} {pc : Nat} {ls st : List Value} {a' : aT} {pc' : Nat} {c : Prop} [Decidable c] {ls' st' : List Value} {o : Option ρ} (sg : List in_T) (hk : e_okL M pc sg = true) (h9 : stpAL (g_ro (gE E)) sg pc ls st a' = if c then some (pc', ls', st', a') else none) (k : XP q E M pc' ls' st' a' o) : XP q E M pc ls st a' (if c then o else none) := by
  intro v h
  by_cases hc : c
  · rw [if_pos hc] at h9 h
    exact XQ_go sg hk h9 (k v h)
  · rw [if_neg hc] at h
    cases h
theorem XP_dv {ρ : Type} {q : ρ → aT → Option Value → aT → Prop} {E : eT} {M : md_T} {pc : Nat} {ls st : List Value} {a' : aT} {pc' : Nat} {c : Prop} [Decidable c] {ls' st' : List Value} {o : Option ρ} (sg : List in_T) (hk : e_okL M pc sg = true) (h9 : stpAL (g_ro (gE E)) sg pc ls st a' = if c then none else some (pc', ls', st', a')) (k : XP q E M pc' ls' st' a' o) : XP q E M pc ls st a' (if c then none else o) := by
  intro v h
  by_cases hc : c
  · rw [if_pos hc] at h
    cases h
  · rw [if_neg hc] at h9 h
    exact XQ_go sg hk h9 (k v h)
theorem XP_retI {E : eT} {M : md_T} {pc : Nat} {ls : List Value} {a : aT} {v : Int32} (hd : decode (m_b M) pc = .ok (.ireturn, 1)) : XP qI E M pc ls [.int v] a (some v) := by
  intro v1 h
  cases h
  exact XQ_ret (some (.int v)) (fun b q => by cases q) hd ⟨rfl, rfl⟩
theorem XP_retZ {E : eT} {M : md_T} {pc : Nat} {ls : List Value} {a : aT} {v v0 : Int32} (hd : decode (m_b M) pc = .ok (.ireturn, 1)) (hv : vp_nar .boolean v0 = v) : XP qZ E M pc ls [.int v0] a (some v) := by
  intro v1 h
  cases h
  exact XQ_ret (some (.int v0)) (fun b q => by cases q) hd ⟨⟨v0, rfl, hv⟩, rfl⟩
theorem XP_retJ {E : eT} {M : md_T} {pc : Nat} {ls : List Value} {a : aT} {v : Int64} (hd : decode (m_b M) pc = .ok (.lreturn, 1)) : XP qL E M pc ls [.long v] a (some v) := by
  intro v1 h
  cases h
  exact XQ_ret (some (.long v)) (fun b q => by cases q) hd ⟨rfl, rfl⟩
theorem XP_retV {E : eT} {M : md_T} {pc : Nat} {ls : List Value} {a : aT} (hd : decode (m_b M) pc = .ok (.return_, 1)) : XP qV E M pc ls [] a (some ()) := by
  intro v1 h
  cases h
  exact XQ_ret none (fun b q => by cases q) hd ⟨rfl, rfl⟩
theorem XP_VP {ρ ρ' : Type} {q : ρ → aT → Option Value → aT → Prop} {q' : ρ' → aT → Option Value → aT → Prop} {tv : ρ' → List Value} {E : eT} {M M' : md_T} {pc idx : Nat} {ls rest As : List Value} {b ci : Nat} {fs : List (Option Nat)} {qc : vw_C} {a : aT} {o9 : Option ρ'} {f : ρ' → Option ρ} (hd : decode (m_b M) pc = .ok (.invokevirtual idx, 3)) (hok : m_ok M') (hV : Cond.instanceMethod (m_y M') ∈ lw_tbl ∧ Cond.selects (m_y M').cls (m_y M') (m_y M') ∈ lw_tbl) {n : Nat} (hlk : c_lk M M' idx n) (hn : As.length = n) (ho : shp[b]? = some (.inr (ci, fs))) (hcq : vwCl[ci]? = some qc) (hqc : qc.1 = (m_y M').cls) (hw : (rest.map Value.category).sum ≤ 8) (hav : (l_en (.ref b :: As)).length ≤ m_L M') (hq : q_says M' q' tv) (hR : XP q' E M' 0 (l_ent (.ref b :: As) (m_L M')) [] a o9) (k : ∀ v9, XP q E M (pc + 3) ls (tv v9 ++ rest) a (f v9)) : XP q E M pc ls (As.reverse ++ .ref b :: rest) a (o9.bind f) := by
  intro v h
  obtain ⟨v9, h9, h⟩ := Option.bind_eq_some_iff.mp h
  exact XQ_callV hd hok hV hlk hn ho hcq hqc hw hav hq (hR v9 h9) (k v9 v h)
theorem XP_VT {ρ ρ' : Type} {q : ρ → aT → Option Value → aT → Prop} {q' : ρ' → aT → Option Value → aT → Prop} {tv : ρ' → List Value} {E : eT} {M M' : md_T} {pc idx : Nat} {ls rest As : List Value} {b ci : Nat} {fs : List (Option Nat)} {qc : vw_C} {a : aT} {v9 : ρ'} {o : Option ρ} (hd : decode (m_b M) pc = .ok (.invokevirtual idx, 3)) (hok : m_ok M') (hV : Cond.instanceMethod (m_y M') ∈ lw_tbl ∧ Cond.selects (m_y M').cls (m_y M') (m_y M') ∈ lw_tbl) {n : Nat} (hlk : c_lk M M' idx n) (hn : As.length = n) (ho : shp[b]? = some (.inr (ci, fs))) (hcq : vwCl[ci]? = some qc) (hqc : qc.1 = (m_y M').cls) (hw : (rest.map Value.category).sum ≤ 8) (hav : (l_en (.ref b :: As)).length ≤ m_L M') (hq : q_says M' q' tv) (hR : XT q' E M' 0 (l_ent (.ref b :: As) (m_L M')) [] a v9) (k : XP q E M (pc + 3) ls (tv v9 ++ rest) a o) : XP q E M pc ls (As.reverse ++ .ref b :: rest) a o := fun v h => XQ_callV hd hok hV hlk hn ho hcq hqc hw hav hq hR (k v h)
theorem XP_SP {ρ ρ' : Type} {q : ρ → aT → Option Value → aT → Prop} {q' : ρ' → aT → Option Value → aT → Prop} {tv : ρ' → List Value} {E : eT} {M M' : md_T} {pc idx : Nat} {ls rest As : List Value} {a : aT} {o9 : Option ρ'} {f : ρ' → Option ρ} (hd : decode (m_b M) pc = .ok (.invokestatic idx, 3)) (hok : m_ok M') (hV : Cond.static (m_y M') ∈ lw_tbl) {n : Nat} (hlk : c_lk M M' idx n) (hn : As.length = n) (hw : (rest.map Value.category).sum ≤ 8) (hav : (l_en As).length ≤ m_L M') (hq : q_says M' q' tv) (hR : XP q' E M' 0 (l_ent As (m_L M')) [] a o9) (k : ∀ v9, XP q E M (pc + 3) ls (tv v9 ++ rest) a (f v9)) : XP q E M pc ls (As.reverse ++ rest) a (o9.bind f) := by
  intro v h
  obtain ⟨v9, h9, h⟩ := Option.bind_eq_some_iff.mp h
  exact XQ_callS hd hok hV hlk hn hw hav hq (hR v9 h9) (k v9 v h)
theorem XP_ST {ρ ρ' : Type} {q : ρ → aT → Option Value → aT → Prop} {q' : ρ' → aT → Option Value → aT → Prop} {tv : ρ' → List Value} {E : eT} {M M' : md_T} {pc idx : Nat} {ls rest As : List Value} {a : aT} {v9 : ρ'} {o : Option ρ} (hd : decode (m_b M) pc = .ok (.invokestatic idx, 3)) (hok : m_ok M') (hV : Cond.static (m_y M') ∈ lw_tbl) {n : Nat} (hlk : c_lk M M' idx n) (hn : As.length = n) (hw : (rest.map Value.category).sum ≤ 8) (hav : (l_en As).length ≤ m_L M') (hq : q_says M' q' tv) (hR : XT q' E M' 0 (l_ent As (m_L M')) [] a v9) (k : XP q E M (pc + 3) ls (tv v9 ++ rest) a o) : XP q E M pc ls (As.reverse ++ rest) a o := fun v h => XQ_callS hd hok hV hlk hn hw hav hq hR (k v h)
theorem XP_SNP {ρ ρ' : Type} {q : ρ → aT → Option Value → aT → Prop} {q' : ρ' → aT → Option Value → aT → Prop} {tv : ρ' → List Value} {E : eT} {M M' : md_T} {pc idx : Nat} {ls rest As : List Value} {a : aT} {o9 : Option ρ'} {f : ρ' → Option ρ} (hd : decode (m_b M) pc = .ok (.invokestatic idx, 3)) (hok : m_ok M') (hV : Cond.static (m_y M') ∈ lw_tbl) {n : Nat} (hlk : c_lkN M M' idx n) (hn : As.length = n) (hw : (rest.map Value.category).sum ≤ 8) (hav : (l_en As).length ≤ m_L M') (hq : q_says M' q' tv) (hR : XP q' E M' 0 (l_ent As (m_L M')) [] a o9) (k : ∀ v9, XP q E M (pc + 3) ls (tv v9 ++ rest) a (f v9)) : XP q E M pc ls (As.reverse ++ rest) a (o9.bind f) := by
  intro v h
  obtain ⟨v9, h9, h⟩ := Option.bind_eq_some_iff.mp h
  exact XQ_callSN hd hok hV hlk hn hw hav hq (hR v9 h9) (k v9 v h)
theorem XP_SNT {ρ ρ' : Type} {q : ρ → aT → Option Value → aT → Prop} {q' : ρ' → aT → Option Value → aT → Prop} {tv : ρ' → List Value} {E : eT} {M M' : md_T} {pc idx : Nat} {ls rest As : List Value} {a : aT} {v9 : ρ'} {o : Option ρ} (hd : decode (m_b M) pc = .ok (.invokestatic idx, 3)) (hok : m_ok M') (hV : Cond.static (m_y M') ∈ lw_tbl) {n : Nat} (hlk : c_lkN M M' idx n) (hn : As.length = n) (hw : (rest.map Value.category).sum ≤ 8) (hav : (l_en As).length ≤ m_L M') (hq : q_says M' q' tv) (hR : XT q' E M' 0 (l_ent As (m_L M')) [] a v9) (k : XP q E M (pc + 3) ls (tv v9 ++ rest) a o) : XP q E M pc ls (As.reverse ++ rest) a o := fun v h => XQ_callSN hd hok hV hlk hn hw hav hq hR (k v h)
theorem XP_tabIn {ρ : Type} {q : ρ → aT → Option Value → aT → Prop} {E : eT} {M : md_T} {pc : Nat} {ls st : List Value} {a : aT} {o : Option ρ} {dflt lo hi off : Int} {offs : Array Int} {len tgt : Nat} {x x0 : Int32} (h0 : x = x0) (hd : decode (m_b M) pc = .ok (.tableswitch dflt lo hi offs, len)) (h3 : ¬ x0.toInt < lo) (h4 : ¬ hi < x0.toInt) (ho : offs[(x0.toInt - lo).toNat]? = some off) (ht : (pc : Int) + off = (tgt : Int)) (k : XP q E M tgt ls st a o) : XP q E M pc ls (.int x :: st) a o := by
  subst h0
  exact fun v h => RW_tabIn hd h3 h4 ho ht (k v h)
theorem XP_tabOut {ρ : Type} {q : ρ → aT → Option Value → aT → Prop} {E : eT} {M : md_T} {pc : Nat} {ls st : List Value} {a : aT} {o : Option ρ} {dflt lo hi : Int} {offs : Array Int} {len tgt n : Nat} {x : Int32} (hd : decode (m_b M) pc = .ok (.tableswitch dflt lo hi offs, len)) (h3 : ∀ i, i < n → ¬ x = OfNat.ofNat i) (hn : lo = 0 ∧ hi + 1 = (n : Int) ∧ n < 1000) (ht : (pc : Int) + dflt = (tgt : Int)) (k : XP q E M tgt ls st a o) : XP q E M pc ls (.int x :: st) a o := fun v h => RW_tabOut hd (tab_out h3 hn) ht (k v h)
theorem XP_look {ρ : Type} {q : ρ → aT → Option Value → aT → Prop} {E : eT} {M : md_T} {pc : Nat} {ls st : List Value} {a : aT} {o : Option ρ} {dflt off : Int} {ps : Array (Int × Int)} {len tgt : Nat} {x : Int32} (hd : decode (m_b M) pc = .ok (.lookupswitch dflt ps, len)) (hs : (ps.toList.zip (ps.toList.drop 1)).all (fun (a, next) => a.1 < next.1) = true) (ho : Op.lookupswitch.offset ps.toList dflt x.toInt = off) (ht : (pc : Int) + off = (tgt : Int)) (k : XP q E M tgt ls st a o) : XP q E M pc ls (.int x :: st) a o := fun v h => RW_look hd hs ho ht (k v h)
theorem XT_go {ρ : Type} {q : ρ → aT → Option Value → aT → Prop} {E : eT} {M : md_T} {pc : Nat} {ls st : List Value} {pc' : Nat} {ls' st' : List Value} {a' : aT} {o : ρ} (sg : List in_T) (hk : e_okL M pc sg = true) (h9 : stpAL (g_ro (gE E)) sg pc ls st a' = some (pc', ls', st', a')) (k : XT q E M pc' ls' st' a' o) : XT q E M pc ls st a' o := XQ_go sg hk h9 (k)
theorem XT_fg {ρ : Type} {q : ρ → aT → Option Value → aT → Prop} {E : eT} {M : md_T} {pc : Nat} {ls st : List Value} {a : aT} {o : ρ} (b : List Bool) (k : XT q E M pc (l_mk b ls) st a o) : XT q E M pc ls st a o := XQ_fg b (k)
theorem XT_br {ρ : Type} {q : ρ → aT → Option Value → aT → Prop} {E : eT} {M : md_T} {pc : Nat} {ls st : List Value} {a' : aT} {c : Prop} [Decidable c] {t e : Nat} {ls' st' : List Value} {o1 o2 : ρ} (sg : List in_T) (hk : e_okL M pc sg = true) (h : stpAL (g_ro (gE E)) sg pc ls st a' = some (if c then t else e, ls', st', a')) (kt : XT q E M t ls' st' a' o1) (ke : XT q E M e ls' st' a' o2) : XT q E M pc ls st a' (if c then o1 else o2) := by
  by_cases hc : c
  · rw [if_pos hc] at h ⊢
    exact XQ_go sg hk h kt
  · rw [if_neg hc] at h ⊢
    exact XQ_go sg hk h ke
theorem XT_if {ρ : Type} {q : ρ → aT → Option Value → aT → Prop} {E : eT} {M : md_T} {pc : Nat} {ls st : List Value} {a : aT} {c : Prop} [Decidable c] {o1 o2 : ρ} (kt : c → XT q E M pc ls st a o1) (ke : ¬ c → XT q E M pc ls st a o2) : XT q E M pc ls st a (if c then o1 else o2) := by
  by_cases hc : c
  · rw [if_pos hc]; exact kt hc
  · rw [if_neg hc]; exact ke hc
theorem XT_retI {E : eT} {M : md_T} {pc : Nat} {ls : List Value} {a : aT} {v : Int32} (hd : decode (m_b M) pc = .ok (.ireturn, 1)) : XT qI E M pc ls [.int v] a v := by
  exact XQ_ret (some (.int v)) (fun b q => by cases q) hd ⟨rfl, rfl⟩
theorem XT_retZ {E : eT} {M : md_T} {pc : Nat} {ls : List Value} {a : aT} {v v0 : Int32} (hd : decode (m_b M) pc = .ok (.ireturn, 1)) (hv : vp_nar .boolean v0 = v) : XT qZ E M pc ls [.int v0] a v := by
  exact XQ_ret (some (.int v0)) (fun b q => by cases q) hd ⟨⟨v0, rfl, hv⟩, rfl⟩
theorem XT_retJ {E : eT} {M : md_T} {pc : Nat} {ls : List Value} {a : aT} {v : Int64} (hd : decode (m_b M) pc = .ok (.lreturn, 1)) : XT qL E M pc ls [.long v] a v := by
  exact XQ_ret (some (.long v)) (fun b q => by cases q) hd ⟨rfl, rfl⟩
theorem XT_retV {E : eT} {M : md_T} {pc : Nat} {ls : List Value} {a : aT} (hd : decode (m_b M) pc = .ok (.return_, 1)) : XT qV E M pc ls [] a () := by
  exact XQ_ret none (fun b q => by cases q) hd ⟨rfl, rfl⟩
theorem XT_VT {ρ ρ' : Type} {q : ρ → aT → Option Value → aT → Prop} {q' : ρ' → aT → Option Value → aT → Prop} {tv : ρ' → List Value} {E : eT} {M M' : md_T} {pc idx : Nat} {ls rest As : List Value} {b ci : Nat} {fs : List (Option Nat)} {qc : vw_C} {a : aT} {v9 : ρ'} {o : ρ} (hd : decode (m_b M) pc = .ok (.invokevirtual idx, 3)) (hok : m_ok M') (hV : Cond.instanceMethod (m_y M') ∈ lw_tbl ∧ Cond.selects (m_y M').cls (m_y M') (m_y M') ∈ lw_tbl) {n : Nat} (hlk : c_lk M M' idx n) (hn : As.length = n) (ho : shp[b]? = some (.inr (ci, fs))) (hcq : vwCl[ci]? = some qc) (hqc : qc.1 = (m_y M').cls) (hw : (rest.map Value.category).sum ≤ 8) (hav : (l_en (.ref b :: As)).length ≤ m_L M') (hq : q_says M' q' tv) (hR : XT q' E M' 0 (l_ent (.ref b :: As) (m_L M')) [] a v9) (k : XT q E M (pc + 3) ls (tv v9 ++ rest) a o) : XT q E M pc ls (As.reverse ++ .ref b :: rest) a o := XQ_callV hd hok hV hlk hn ho hcq hqc hw hav hq hR (k)
theorem XT_ST {ρ ρ' : Type} {q : ρ → aT → Option Value → aT → Prop} {q' : ρ' → aT → Option Value → aT → Prop} {tv : ρ' → List Value} {E : eT} {M M' : md_T} {pc idx : Nat} {ls rest As : List Value} {a : aT} {v9 : ρ'} {o : ρ} (hd : decode (m_b M) pc = .ok (.invokestatic idx, 3)) (hok : m_ok M') (hV : Cond.static (m_y M') ∈ lw_tbl) {n : Nat} (hlk : c_lk M M' idx n) (hn : As.length = n) (hw : (rest.map Value.category).sum ≤ 8) (hav : (l_en As).length ≤ m_L M') (hq : q_says M' q' tv) (hR : XT q' E M' 0 (l_ent As (m_L M')) [] a v9) (k : XT q E M (pc + 3) ls (tv v9 ++ rest) a o) : XT q E M pc ls (As.reverse ++ rest) a o := XQ_callS hd hok hV hlk hn hw hav hq hR (k)
theorem XT_SNT {ρ ρ' : Type} {q : ρ → aT → Option Value → aT → Prop} {q' : ρ' → aT → Option Value → aT → Prop} {tv : ρ' → List Value} {E : eT} {M M' : md_T} {pc idx : Nat} {ls rest As : List Value} {a : aT} {v9 : ρ'} {o : ρ} (hd : decode (m_b M) pc = .ok (.invokestatic idx, 3)) (hok : m_ok M') (hV : Cond.static (m_y M') ∈ lw_tbl) {n : Nat} (hlk : c_lkN M M' idx n) (hn : As.length = n) (hw : (rest.map Value.category).sum ≤ 8) (hav : (l_en As).length ≤ m_L M') (hq : q_says M' q' tv) (hR : XT q' E M' 0 (l_ent As (m_L M')) [] a v9) (k : XT q E M (pc + 3) ls (tv v9 ++ rest) a o) : XT q E M pc ls (As.reverse ++ rest) a o := XQ_callSN hd hok hV hlk hn hw hav hq hR (k)
theorem XT_tabIn {ρ : Type} {q : ρ → aT → Option Value → aT → Prop} {E : eT} {M : md_T} {pc : Nat} {ls st : List Value} {a : aT} {o : ρ} {dflt lo hi off : Int} {offs : Array Int} {len tgt : Nat} {x x0 : Int32} (h0 : x = x0) (hd : decode (m_b M) pc = .ok (.tableswitch dflt lo hi offs, len)) (h3 : ¬ x0.toInt < lo) (h4 : ¬ hi < x0.toInt) (ho : offs[(x0.toInt - lo).toNat]? = some off) (ht : (pc : Int) + off = (tgt : Int)) (k : XT q E M tgt ls st a o) : XT q E M pc ls (.int x :: st) a o := by
  subst h0
  exact RW_tabIn hd h3 h4 ho ht (k)
theorem XT_tabOut {ρ : Type} {q : ρ → aT → Option Value → aT → Prop} {E : eT} {M : md_T} {pc : Nat} {ls st : List Value} {a : aT} {o : ρ} {dflt lo hi : Int} {offs : Array Int} {len tgt n : Nat} {x : Int32} (hd : decode (m_b M) pc = .ok (.tableswitch dflt lo hi offs, len)) (h3 : ∀ i, i < n → ¬ x = OfNat.ofNat i) (hn : lo = 0 ∧ hi + 1 = (n : Int) ∧ n < 1000) (ht : (pc : Int) + dflt = (tgt : Int)) (k : XT q E M tgt ls st a o) : XT q E M pc ls (.int x :: st) a o := RW_tabOut hd (tab_out h3 hn) ht (k)
theorem XT_look {ρ : Type} {q : ρ → aT → Option Value → aT → Prop} {E : eT} {M : md_T} {pc : Nat} {ls st : List Value} {a : aT} {o : ρ} {dflt off : Int} {ps : Array (Int × Int)} {len tgt : Nat} {x : Int32} (hd : decode (m_b M) pc = .ok (.lookupswitch dflt ps, len)) (hs : (ps.toList.zip (ps.toList.drop 1)).all (fun (a, next) => a.1 < next.1) = true) (ho : Op.lookupswitch.offset ps.toList dflt x.toInt = off) (ht : (pc : Int) + off = (tgt : Int)) (k : XT q E M tgt ls st a o) : XT q E M pc ls (.int x :: st) a o := RW_look hd hs ho ht (k)
