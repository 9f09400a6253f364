/-! what a table row must keep -/
def i_len : Instr → Nat
  | .iconst _ => 1 | .lconst _ => 1 | .bipush _ => 2 | .sipush _ => 3 | .ldc _ => 2 | .ldc2_w _ => 3 | .getstatic _ => 3
  | .iload _ => 2 | .lload _ => 2 | .aload _ => 2 | .istore _ => 2 | .lstore _ => 2 | .iinc _ _ => 3
  | .goto _ => 3 | .ifCond _ _ => 3 | .if_icmp _ _ => 3 | .getfield _ => 3 | .putfield _ => 3
  | _ => 1
/-- the fields' pool numbers: class, pool number, field -/
def f_ok (own : String) (idx k : Nat) : Bool := match vwCl[k / 100]? with
  | some q => decide (q.1 = own) && fl_T.any (fun e => Nat.beq e.1 (k / 100) && (Nat.beq e.2.1 idx && Nat.beq e.2.2.1 (k % 100)))
  | none => false
theorem f_ok_of {own : String} {idx k : Nat} (h : f_ok own idx k = true) : ∃ q, vwCl[k / 100]? = some q ∧ q.1 = own ∧ k % 100 < q.2.2 ∧ Cond.fieldLink own idx (q.2.1 (k % 100)).1 (q.2.1 (k % 100)).2.1 (q.2.1 (k % 100)).2.2.1 ∈ lw_tbl := by
  unfold f_ok at h
  split at h
  · rename_i q hq
    simp only [Bool.and_eq_true, decide_eq_true_eq] at h
    obtain ⟨h1, h2⟩ := h
    obtain ⟨e, he, h3⟩ := List.any_eq_true.mp h2
    simp only [Bool.and_eq_true] at h3
    have e1 := Nat.eq_of_beq_eq_true h3.1
    have e2 := Nat.eq_of_beq_eq_true h3.2.1
    have e3 := Nat.eq_of_beq_eq_true h3.2.2
    obtain ⟨q', hq', h4, h5⟩ := fl_spec he
    rw [e1] at hq'
    have : q' = q := Option.some.inj (hq'.symm.trans hq)
    subst this
    rw [e2, e3, h1] at h5
    rw [e3] at h4
    exact ⟨q', hq, h1, h4, h5⟩
  · cases h
def ki_ok (own : String) (idx : Nat) (v : Int32) : Bool := ki_T.any (fun e => Nat.beq e.2.2.1 idx && (decide (e.2.1 = own) && decide (e.2.2.2 = v)))
def kl_ok (own : String) (idx : Nat) (v : Int64) : Bool := kl_T.any (fun e => Nat.beq e.2.2.1 idx && (decide (e.2.1 = own) && decide (e.2.2.2 = v)))
theorem ki_ok_of {own : String} {idx : Nat} {v : Int32} (h : ki_ok own idx v = true) : Cond.constant own idx v ∈ lw_tbl := by
  obtain ⟨⟨p, C, i, z⟩, he, h3⟩ := List.any_eq_true.mp h
  simp only [Bool.and_eq_true, decide_eq_true_eq] at h3
  have e1 : i = idx := Nat.eq_of_beq_eq_true h3.1
  obtain ⟨rfl, rfl⟩ := h3.2
  subst e1
  exact ki_spec he
theorem kl_ok_of {own : String} {idx : Nat} {v : Int64} (h : kl_ok own idx v = true) : Cond.constantLong own idx v ∈ lw_tbl := by
  obtain ⟨⟨p, C, i, z⟩, he, h3⟩ := List.any_eq_true.mp h
  simp only [Bool.and_eq_true, decide_eq_true_eq] at h3
  have e1 : i = idx := Nat.eq_of_beq_eq_true h3.1
  obtain ⟨rfl, rfl⟩ := h3.2
  subst e1
  exact kl_spec he
def p_ok (nm : String) (k : Nat) (v : Value) : Bool := match vwCl[k / 100]?, v with
  | some q, .int _ => decide ((q.2.1 (k % 100)).2.2.1 = "I") && (q.2.1 (k % 100)).2.2.2 == false
  | some q, .null => ((q.2.1 (k % 100)).2.2.2 == true) && decide (nm = "<init>") && decide ((q.2.1 (k % 100)).1 = q.1) && (match parseFieldDescriptor (q.2.1 (k % 100)).2.2.1 with | some (.object _) => true | some (.array _) => true | _ => false)
  | _, _ => false
def s_ok (own : String) (idx : Nat) (v : Value) : Bool := match v with
  | .ref k => decide (1000 ≤ k) && decide (k - 1000 < 3) && decide (Cond.fieldLinkNest own idx "ChestnutSticks" (sa_n (k - 1000)) "[I" "ChestnutSticks" ∈ nest_W)
  | _ => false
def x_ok (M : md_T) (pc : Nat) (e : in_T) : Bool := match e.1 with
  | .iconst n => decide (e.2.2.2 = .int (Int32.ofInt n))
  | .bipush n => decide (e.2.2.2 = .int (Int8.ofInt n).toInt32)
  | .sipush n => decide (e.2.2.2 = .int (Int16.ofInt n).toInt32)
  | .lconst n => decide (e.2.2.2 = .long (Int64.ofNat (n : Nat)))
  | .ldc idx => (match e.2.2.2 with | .int v => ki_ok (m_y M).cls idx v | _ => false)
  | .ldc2_w idx => (match e.2.2.2 with | .long v => kl_ok (m_y M).cls idx v | _ => false)
  | .getstatic idx => s_ok (m_y M).cls idx e.2.2.2
  | .iload i => decide (i = e.2.2.1)
  | .iload_n i => decide ((i : Nat) = e.2.2.1)
  | .lload i => decide (i = e.2.2.1)
  | .lload_n i => decide ((i : Nat) = e.2.2.1)
  | .aload i => decide (i = e.2.2.1)
  | .aload_n i => decide ((i : Nat) = e.2.2.1)
  | .istore i => decide (i = e.2.2.1) && decide (e.2.2.1 < m_L M)
  | .istore_n i => decide ((i : Nat) = e.2.2.1) && decide (e.2.2.1 < m_L M)
  | .lstore i => decide (i = e.2.2.1) && decide (e.2.2.1 + 1 < m_L M)
  | .lstore_n i => decide ((i : Nat) = e.2.2.1) && decide (e.2.2.1 + 1 < m_L M)
  | .astore_n i => decide ((i : Nat) = e.2.2.1) && decide (e.2.2.1 < m_L M)
  | .iinc i n => decide (i = e.2.2.1) && decide (e.2.2.1 < m_L M) && decide (e.2.2.2 = .int (Int32.ofInt n))
  | .goto off => decide ((pc : Int) + off = (e.2.2.1 : Int))
  | .ifCond _ off => decide ((pc : Int) + off = (e.2.2.1 : Int))
  | .if_icmp _ off => decide ((pc : Int) + off = (e.2.2.1 : Int))
  | .getfield idx => f_ok (m_y M).cls idx e.2.2.1
  | .putfield idx => f_ok (m_y M).cls idx e.2.2.1 && p_ok (m_y M).name e.2.2.1 e.2.2.2
  | _ => true
def e_ok (M : md_T) (pc : Nat) (e : in_T) : Bool := decide (decode (m_b M) pc = .ok (e.1, e.2.1)) && decide (e.2.1 = i_len e.1) && x_ok M pc e
theorem cl_facts : ∀ (ci : Nat) (q : vw_C), vwCl[ci]? = some q → (∀ w ∈ u_ws q.1 q.2.1 q.2.2, w ∈ good_T) ∧ (∀ a, a < q.2.2 → ∀ b, b < q.2.2 → a ≠ b → (q.2.1 a).2.1 ≠ (q.2.1 b).2.1) ∧ ∃ ty : Nat → FieldType, ∀ k, k < q.2.2 → parseFieldDescriptor (q.2.1 k).2.2.1 = some (ty k)
  | 0, q, h => by cases h; exact ⟨by decide +kernel, nmX0, tyX0, tyX0_ok⟩
  | 1, q, h => by cases h; exact ⟨by decide +kernel, nmX1, tyX1, tyX1_ok⟩
  | 2, q, h => by cases h; exact ⟨by decide +kernel, nmX2, tyX2, tyX2_ok⟩
  | 3, q, h => by cases h; exact ⟨by decide +kernel, nmX3, tyX3, tyX3_ok⟩
  | 4, q, h => by cases h; exact ⟨by decide +kernel, nmX4, tyX4, tyX4_ok⟩
  | 5, q, h => by cases h; exact ⟨by decide +kernel, nmX5, tyX5, tyX5_ok⟩
  | 6, q, h => by cases h; exact ⟨by decide +kernel, nmX6, tyX6, tyX6_ok⟩
  | 7, q, h => by cases h; exact ⟨by decide +kernel, nmX7, tyX7, tyX7_ok⟩
  | 8, q, h => by cases h; exact ⟨by decide +kernel, nmX8, tyX8, tyX8_ok⟩
  | 9, q, h => by cases h; exact ⟨by decide +kernel, nmX9, tyX9, tyX9_ok⟩
  | 10, q, h => by cases h; exact ⟨by decide +kernel, nmX10, tyX10, tyX10_ok⟩
  | 11, q, h => by cases h; exact ⟨by decide +kernel, nmX11, tyX11, tyX11_ok⟩
  | n + 12, q, h => by simp [vwCl] at h
/-! the judgement -/
def cx (G : ac_G) (M : md_T) (p : Program) (R : Room) (s : State) (m : MethodId) (args : Array Value) (meth : Method) (c : Code) : Prop :=
  p.tables.exec = Jvm.exec ∧ c.code = m_b M ∧ c.maxLocals = m_L M ∧ s.vm.findClass (m_y M).cls = some m.cls ∧ (∀ w ∈ good_T, w.before args s = true) ∧ kx G s ∧ m_f M ≤ R.frames ∧ m_l M ≤ R.locals ∧ ((m_y M).name = "<init>" → meth.name = "<init>")
def r_in : Option Value → Instr
  | none => .return_
  | some (.long _) => .lreturn
  | some _ => .ireturn
def RW (G : ac_G) (M : md_T) (cb sb : Nat) (pc : Nat) (ls st : List Value) (hp : ac_H) (Q : Option Value → ac_H → Prop) : Prop :=
  ∀ (p : Program) (l : Launch) (e : Env) (R : Room) (s : State) (m : MethodId) (args : Array Value) (below : List Frame) (meth : Method) (c : Code) (H : Heap) (locs : List Loc) (cells slots : Nat) (QQ : State → Prop) (Ls : Array Slot),
    cx G M p R s m args meth c → lr G ls Ls (m_L M) → pic G hp H → va_S (g_A G) s.heap H locs → cells + cb ≤ R.cells → slots + sb ≤ R.slots → s.heap.size + cells = g_B G + hp.length →
    (∀ (r : Option Value) (hp' : ac_H) (H' : Heap) (locs' : List Loc) (Ls' : Array Slot) (pc' : Nat), Q r hp' → pic G hp' H' → va_S (g_A G) s.heap H' locs' → decode (m_b M) pc' = .ok (r_in r, 1) → (∀ a, r ≠ some (.ref a)) → s.heap.size + (cells + cb) = g_B G + hp'.length →
      W p l e R s m args below meth c H' locs' (cells + cb) (slots + sb) QQ (F0 m pc' Ls' r.toList)) →
    W p l e R s m args below meth c H locs cells slots QQ (F0 m pc Ls (st.map (g_v G)))
theorem RW.mono {G : ac_G} {M : md_T} {cb sb pc : Nat} {ls st : List Value} {hp : ac_H} {Q Q' : Option Value → ac_H → Prop} (h : RW G M cb sb pc ls st hp Q) (hq : ∀ r h, Q r h → Q' r h) : RW G M cb sb pc ls st hp Q' :=
  fun p l e R s m args below meth c H locs cells slots QQ Ls hc hl hP hS h1 h2 hz K => h p l e R s m args below meth c H locs cells slots QQ Ls hc hl hP hS h1 h2 hz (fun r hp' H' locs' Ls' pc' hq' => K r hp' H' locs' Ls' pc' (hq r hp' hq'))
theorem pic.put {G : ac_G} {hp : ac_H} {H1 : Heap} {k : Nat} {c : ac_C} {ws' : va_W} (hl : hp.length ≤ 1000) (hw : ws' = (g_w G hp).set k (g_ad G k, g_e G c)) (hP : va_P G.1 vwCl ws' H1) : pic G (hp.set k c) H1 := by
  refine ⟨?_, by rw [List.length_set]; exact hl⟩
  rw [hw, g_w_set] at hP
  exact hP
