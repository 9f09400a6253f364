/-! calls -/
def l_en : List Value → List Value
  | [] => []
  | .long x :: r => .long x :: .null :: l_en r
  | .double x :: r => .double x :: .null :: l_en r
  | v :: r => v :: l_en r
def l_ent (av : List Value) (n : Nat) : List Value := l_en av ++ List.replicate (n - (l_en av).length) .null
theorem l_en_cons (v : Value) (r : List Value) : l_en (v :: r) = if v.category = 2 then v :: .null :: l_en r else v :: l_en r := by
  cases v <;> simp [l_en, Value.category]
theorem l_en_len (G : ac_G) : ∀ av : List Value, (lg_sl (av.map (g_v G))).length = (l_en av).length
  | [] => rfl
  | v :: r => by
    have ih := l_en_len G r
    rw [l_en_cons]
    by_cases h : v.category = 2
    · have h2 : (g_v G v).category = 2 := by rw [g_v_cat]; exact h
      simp [lg_sl, h, h2] at ih ⊢
      exact ih
    · have h2 : ¬ (g_v G v).category = 2 := by rw [g_v_cat]; exact h
      simp [lg_sl, h, h2] at ih ⊢
      exact ih
theorem l_en_mem (G : ac_G) : ∀ (av : List Value) (o k : Nat) (w : Value), (l_en av)[k]? = some w → w ≠ .null → (o + k, g_v G w) ∈ lv_args o (av.map (g_v G))
  | [], o, k, w, h, hw => by simp [l_en] at h
  | v :: r, o, k, w, h, hw => by
    rw [l_en_cons] at h
    rw [List.map_cons]
    unfold lv_args
    rw [g_v_cat]
    by_cases hc : v.category = 2
    · rw [if_pos hc] at h ⊢
      match k, h with
      | 0, h => cases h; exact List.mem_cons_self
      | 1, h => cases h; exact absurd rfl hw
      | j + 2, h =>
        have ih := l_en_mem G r (o + 2) j w h hw
        rw [show o + (j + 2) = o + 2 + j by omega]
        exact List.mem_cons_of_mem _ ih
    · rw [if_neg hc] at h ⊢
      match k, h with
      | 0, h => cases h; exact List.mem_cons_self
      | j + 1, h =>
        have ih := l_en_mem G r (o + 1) j w h hw
        rw [show o + (j + 1) = o + 1 + j by omega]
        exact List.mem_cons_of_mem _ ih
theorem lr_entry {G : ac_G} {av : List Value} {n : Nat} (h : (l_en av).length ≤ n) : lr G (l_ent av n) ((lg_sl (av.map (g_v G)) ++ List.replicate (n - (lg_sl (av.map (g_v G))).length) Slot.unset).toArray) n := by
  have h1 := lv_entry (av.map (g_v G)) (n := n) (by rw [l_en_len]; exact h)
  refine ⟨h1.1, h1.2.1, fun k w hk hw => ?_⟩
  unfold l_ent at hk
  by_cases hl : k < (l_en av).length
  · rw [List.getElem?_append_left hl] at hk
    have := h1.2.2 _ (l_en_mem G av 0 k w hk hw)
    rw [Nat.zero_add] at this
    exact this
  · rw [List.getElem?_append_right (by omega)] at hk
    have := List.eq_of_mem_replicate (List.mem_of_getElem? hk)
    exact absurd this hw
/-! which words a method's contract has: its own code, and all good words of the tables -/
def m_ws (M : md_T) : List Cond := .code (m_y M) (m_b M) (m_L M) (m_r M) :: good_T
def m_rm (M : md_T) (cb sb : Nat) : Room := { frames := m_f M, cells := cb, slots := sb, locals := m_l M }
theorem nest_use {s : State} {args : Array Value} {w : Cond} (hw : w ∈ nest_W) (h : va_Nw w s) : w.before args s = true := by
  have h2 := (List.mem_filter.mp hw).2
  cases w <;> first | (simp at h2; done) | exact va_Nw.use rfl h
def m_ok (M : md_T) : Prop := Cond.code (m_y M) (m_b M) (m_L M) (m_r M) ∈ lw_tbl ∧ plainFor (m_y M) = true ∧ Cond.initialized (m_y M).cls ∈ lw_tbl ∧ ((m_y M).cls ≠ "java/lang/invoke/MethodHandle" ∧ (m_y M).cls ≠ "java/lang/invoke/VarHandle")
theorem m_good {M : md_T} (h : m_ok M) : GoodIn good_T (m_ws M) := by
  intro w hw
  rcases List.mem_cons.mp hw with rfl | hw
  · exact ⟨gd h.1 rfl, Or.inl rfl⟩
  · exact ⟨hw, good_of_word (List.mem_filter.mp hw).2⟩
def r_n : Option FieldType → Option Value → Option Value
  | some .boolean, some (.int v) => some (.int (vp_nar .boolean v))
  | _, r => r
/-- a boolean answer is cut to its lowest bit -/
theorem W.bret {p : Program} {l : Launch} {e : Env} {R : Room} {s : State} {m : MethodId} {args : Array Value} {below : List Frame} {meth : Method} {c : Code} {H : Heap} {locs : List Loc} {cells slots : Nat} {cc : ByteArray} {Qc : Array Value → State → Outcome → State → Prop} {free : Addr → Prop} {v : Int32} (hexec : p.tables.exec = Jvm.exec) (hb : c.code = cc) (hr : meth.sig.returnType = some .boolean) (hlocks : meth.locks = false)
    (hq : ∀ t : State, t.heap = H → s.WarmedH t.vm → Qc args s (.returned (some (.int (vp_nar .boolean v)))) t) (hf : ∀ q ∈ locs, free q.base)
    {pc : Nat} {ls : Array Slot} (hdg : decode cc pc = .ok (.ireturn, 1)) : W p l e R s m args below meth c H locs cells slots (MQ below Qc args s cells slots free) (F0 m pc ls [.int v]) := by
  have hn : narrow .boolean (.int v) = .int (vp_nar .boolean v) := rfl
  generalize vp_nar .boolean v = z at hn hq
  intro T hT X
  obtain ⟨fs, hret, hrun, hended, hW, hframe⟩ := X.leave (v := some (.int z)) (fun h => by rw [hr] at h; cases h)
  have hmeth' : T.vm.method? m = some meth := X.method'
  refine ⟨T.setFrames fs, ?_, .returned (some (.int z)), hrun, hended, hq _ hT hW, locs, ⟨⟨_, rfl⟩, hW, hframe⟩, hf⟩
  jvm_step X.here [X.here.top, hexec, hb, hdg, hmeth', hr, hn]
  (try refine ⟨rfl, ?_⟩); (try refine ⟨rfl, ?_⟩)
  first | (intro acts; rw [hret _ acts rfl rfl rfl]) | rw [hret _ _ rfl rfl rfl]
  exact Steps.refl _
def c_Pc (G : ac_G) (av : List Value) (hp : ac_H) : Array Value → State → Prop := va_Pc (av.map (g_v G)) (fun U => kx G U ∧ pic G hp U.heap ∧ U.heap.size = g_B G + hp.length)
def c_Qc (G : ac_G) (M : md_T) (Q : Option Value → ac_H → Prop) : Array Value → State → Outcome → State → Prop := fun _ st oc t => ∃ (r : Option Value) (hp' : ac_H), oc = .returned (r_n (m_r M) r) ∧ (∀ a, r ≠ some (.ref a)) ∧ Q r hp' ∧ pic G hp' t.heap ∧ va_F (g_A G) st t ∧ t.heap.size = g_B G + hp'.length
/-- what a method answers fits its return type -/
def r_fit (M : md_T) (Q : Option Value → ac_H → Prop) : Prop := ∀ r hp, Q r hp → match m_r M, r with
  | none, none => True
  | some .int, some (.int _) => True
  | some .boolean, some (.int _) => True
  | some .long, some (.long _) => True
  | _, _ => False
theorem Met.ofWF {l : Launch} {y : MethodName} {ws ws' : List Cond} {rm : Room} {Pc : Array Value → State → Prop} {Qc : Array Value → State → Outcome → State → Prop} {mc ms : Nat} {free : Addr → Prop} {cc : ByteArray} {maxL : Nat} {ret : Option FieldType}
    (hy : plainFor y = true) (hw : ws = Cond.code y cc maxL ret :: ws')
    (body : ∀ p e s m args below meth c s₁, BodyLoose p l y (headSpec ws rm) cc maxL ret e s m args below meth c s₁ → c.maxLocals = maxL → Pc args s →
      W p l e (headSpec ws rm).room s m args below meth c s.heap [] 0 0 (MQ below Qc args s mc ms free) (entryFrame m args maxL)) : Met l y ws rm Pc Qc mc ms free := by
  refine MetFree.of_bodySF (code := cc) (maxLocals := maxL) (ret := ret) hy ?_ ?_
  · intro args s m h hn
    obtain ⟨meth, c, h1, h2, h3, h4, h5, h6, -, -⟩ := Cond.code_spec hn (atoms_spec (ws := ws) h _ (by rw [hw]; exact List.mem_cons_self))
    exact ⟨meth, c, h1, h2, h3, h4, h5, h6⟩
  · intro p e s m args below meth c s₁ B hml hP _
    have hh0 : s₁.heap = s.heap := by rw [B.state]; rfl
    obtain ⟨t, a1, o, b1, b2, b3⟩ := body p e s m args below meth c s₁ B hml hP s₁ hh0 (Stand.of_body B)
    exact ⟨t, o, a1, b1, b2, ⟨b3.1, b3.2⟩⟩
theorem met_of {l : Launch} {G : ac_G} {M : md_T} {cb sb : Nat} {av : List Value} {hp : ac_H} {Q : Option Value → ac_H → Prop} (hok : m_ok M) (hav : (l_en av).length ≤ m_L M) (hfit : r_fit M Q) (hR : RW G M cb sb 0 (l_ent av (m_L M)) [] hp Q) :
    Met l (m_y M) (m_ws M) (m_rm M cb sb) (c_Pc G av hp) (c_Qc G M Q) cb sb (g_A G) := by
  refine Met.ofWF (cc := m_b M) (maxL := m_L M) (ret := m_r M) hok.2.1 rfl ?_
  intro p e s m args below meth c s₁ B hml hv
  obtain ⟨rfl, hkx, hP, hsz⟩ := hv
  have hx := B.exec
  have hb := B.bytes
  have hr := B.returns
  have hts0 := atoms_spec (ws := m_ws M) B.pre
  have hown : s.vm.findClass (m_y M).cls = some m.cls := findClass_of_methodNamed B.named
  have hlocks := B.notSynchronized
  have hin : meth.name = (m_y M).name := (name_of_methodNamed B.named B.method).1
  have hts : ∀ w ∈ good_T, w.before (av.map (g_v G)).toArray s = true := fun w hw => hts0 w (List.mem_cons_of_mem _ hw)
  rw [lg_entry_eq]
  refine hR p l e (headSpec (m_ws M) (m_rm M cb sb)).room s m _ below meth c s.heap [] 0 0 _ _ ⟨hx, hb, hml, hown, hts, hkx, Nat.le_refl _, Nat.le_refl _, fun h => hin.trans h⟩ (lr_entry hav) hP va_S.rf (by show 0 + cb ≤ cb; omega) (by show 0 + sb ≤ sb; omega) (by rw [hsz]; omega) ?_
  intro r hp' H' locs' Ls' pc' hq hP' hS' hd hnr hz'
  have hf := hfit r hp' hq
  have e1 : 0 + cb = cb := Nat.zero_add _
  have e2 : 0 + sb = sb := Nat.zero_add _
  rw [e1, e2]
  rw [e1] at hz'
  refine W.szi hkx hP' hS' hz' (fun hsz' => ?_)
  have fin : ∀ t : State, t.heap = H' → s.WarmedH t.vm → ∀ r', r' = r_n (m_r M) r → c_Qc G M Q (av.map (g_v G)).toArray s (.returned r') t := fun t ht hW r' hr' => ⟨r, hp', by rw [hr'], hnr, hq, by rw [ht]; exact hP', hS'.F ht, by rw [ht]; exact hsz'⟩
  split at hf
  · rename_i h1
    exact W.vret hx hb (by rw [hr, h1]) (fun t ht hW => fin t ht hW _ (by rw [h1]; rfl)) hS'.2.2 hd
  · rename_i h1
    exact W.iret hx hb (by rw [hr, h1]) (fun t ht hW => fin t ht hW _ (by rw [h1]; rfl)) hS'.2.2 hd
  · rename_i h1
    exact W.bret hx hb (by rw [hr, h1]) hlocks (fun t ht hW => fin t ht hW _ (by rw [h1]; rfl)) hS'.2.2 hd
  · rename_i h1
    exact W.lret hx hb (by rw [hr, h1]) (fun t ht hW => fin t ht hW _ (by rw [h1]; rfl)) hS'.2.2 hd
  · exact hf.elim
/-! behind a call -/
theorem px_cont {G : ac_G} {M M' : md_T} {cb sb cb1 sb1 pc : Nat} {ls rest st0 : List Value} {hp : ac_H} {Q Q' : Option Value → ac_H → Prop} {a : Array Value}
    {p : Program} {l : Launch} {e : Env} {R : Room} {s : State} {m : MethodId} {args : Array Value} {below : List Frame} {meth : Method} {c : Code} {H : Heap} {locs : List Loc} {cells slots : Nat} {QQ : State → Prop} {Ls : Array Slot}
    (hr : va_Run p l e R s m args below meth c H locs cells slots cb1 sb1 (F0 m pc Ls st0) (rest.map (g_v G)) (c_Qc G M' Q' a) (g_A G))
    (hc : cx G M p R s m args meth c) (hl : lr G ls Ls (m_L M)) (hS : va_S (g_A G) s.heap H locs) (h1 : cells + (cb1 + cb) ≤ R.cells) (h2 : slots + (sb1 + sb) ≤ R.slots) (hz : s.heap.size + cells = g_B G + hp.length) (hlen : ∀ r hp', Q' r hp' → hp'.length = hp.length + cb1)
    (K : ∀ (r : Option Value) (hp' : ac_H) (H' : Heap) (locs' : List Loc) (Ls' : Array Slot) (pc' : Nat), Q r hp' → pic G hp' H' → va_S (g_A G) s.heap H' locs' → decode (m_b M) pc' = .ok (r_in r, 1) → (∀ a, r ≠ some (.ref a)) → s.heap.size + (cells + (cb1 + cb)) = g_B G + hp'.length →
      W p l e R s m args below meth c H' locs' (cells + (cb1 + cb)) (slots + (sb1 + sb)) QQ (F0 m pc' Ls' r.toList))
    (k : ∀ r hp', Q' r hp' → RW G M cb sb (pc + 3) ls ((r_n (m_r M') r).toList ++ rest) hp' Q) : W p l e R s m args below meth c H locs cells slots QQ (F0 m pc Ls st0) := by
  intro T hT X
  obtain ⟨v, st₀, t, T', L, h0, X', hL, e1, e2, ⟨r, hp', hv, hnr, hq, hP', hF, hsz'⟩, st⟩ := hr T hT X
  cases hv
  obtain ⟨hz1, hk⟩ := hF
  rw [h0] at hz1 hk
  have hS' : va_S (g_A G) s.heap T'.heap (locs ++ L) := ⟨by rw [e1]; exact Nat.le_trans hS.1 hz1, fun q g1 g2 => by rw [e1, hk q (Nat.lt_of_lt_of_le g1 hS.1) g2]; exact hS.2.1 q g1 g2, fun q hq => by
    rcases List.mem_append.mp hq with h | h
    · exact hS.2.2 q h
    · exact hL q h⟩
  have hl9 := hlen r hp' hq
  have e3 : ((r_n (m_r M') r).toList ++ rest).map (g_v G) = (r_n (m_r M') r).toList ++ rest.map (g_v G) := by
    rw [List.map_append]
    congr 1
    have : ∀ a, r_n (m_r M') r ≠ some (.ref a) := by
      intro a
      unfold r_n
      split
      · intro q; cases q
      · exact hnr a
    cases hh : r_n (m_r M') r with
    | none => rfl
    | some v => cases v <;> first | rfl | exact absurd hh (this _)
  have := k r hp' hq p l e R s m args below meth c T'.heap (locs ++ L) (cells + cb1) (slots + sb1) QQ Ls hc hl (by rw [e1]; exact hP') hS' (by omega) (by omega) (by omega) (fun r2 hp2 H2 locs2 Ls2 pc2 q1 q2 q3 q4 q5 q6 => by
    have K1 := K r2 hp2 H2 locs2 Ls2 pc2 q1 q2 q3 q4 q5 (by omega)
    rw [show cells + cb1 + cb = cells + (cb1 + cb) by omega, show slots + sb1 + sb = slots + (sb1 + sb) by omega]
    exact K1)
  rw [e3] at this
  obtain ⟨t2, a1, b1⟩ := this T' rfl X'
  exact ⟨t2, st t2 a1, b1⟩
theorem c_blind {G : ac_G} {av : List Value} {hp : ac_H} : FrameBlind (c_Pc G av hp) := fun a U g mk q => ⟨q.1, q.2.1.calling g mk a, q.2.2⟩
theorem c_pre {G : ac_G} {s : State} {H : Heap} {locs : List Loc} {av : List Value} {hp : ac_H} (hkx : kx G s) (hP : pic G hp H) (hS : va_S (g_A G) s.heap H locs) (hsz : H.size = g_B G + hp.length) : ∀ U : State, U.heap = H → s.WarmedH U.vm → c_Pc G av hp (av.map (g_v G)).toArray U :=
  fun U hU hW => ⟨rfl, hkx.next hS hU hW, by rw [hU]; exact hP, by rw [hU]; exact hsz⟩
def c_room (M M' : md_T) (n : Nat) : Bool := Nat.ble (m_f M' + 1) (m_f M) && Nat.ble (8 + (m_L M' + 11) + m_l M') (m_l M) && decide ((parseMethodDescriptor (m_y M').desc).map (fun d => d.parameters.length) = some n)
abbrev c_lk (M M' : md_T) (idx n : Nat) : Prop := Cond.methodLink (m_y M).cls idx (m_y M') ∈ lw_tbl ∧ c_room M M' n = true
abbrev c_lkN (M M' : md_T) (idx n : Nat) : Prop := Cond.methodLinkNest (m_y M).cls idx (m_y M') "ChestnutSticks" ∈ nest_W ∧ c_room M M' n = true
theorem callB' {M M' : md_T} {idx n cb sb : Nat} {R : Room} {s : State} {args : Array Value} (hok : m_ok M') (h : c_lk M M' idx n) (hts : ∀ w ∈ good_T, w.before args s = true) (hf : m_f M ≤ R.frames) (hlo : m_l M ≤ R.locals) :
    CallB R s args (m_y M).cls idx (m_y M') (m_b M') (m_L M') (m_r M') (m_ws M') (m_rm M' cb sb) cb sb n := by
  obtain ⟨h1, h⟩ := h
  simp only [c_room, Bool.and_eq_true, decide_eq_true_eq] at h
  obtain ⟨⟨h2, h3⟩, h4⟩ := h
  have h2 := Nat.le_of_ble_eq_true h2
  have h3 := Nat.le_of_ble_eq_true h3
  exact callB_of n hts (m_good hok) rfl rfl rfl (hts _ (gd hok.2.2.1 rfl)) (hts _ (gd h1 rfl)) ⟨hok.2.2.2.1, hok.2.2.2.2, h4⟩ ⟨Nat.le_trans h2 hf, Nat.le_trans h3 hlo⟩
theorem callN' {M M' : md_T} {idx n cb sb : Nat} {R : Room} {s : State} {args : Array Value} {G : ac_G} (hok : m_ok M') (h : c_lkN M M' idx n) (hts : ∀ w ∈ good_T, w.before args s = true) (hkx : kx G s) (hf : m_f M ≤ R.frames) (hlo : m_l M ≤ R.locals) :
    va_CN R s args (m_y M).cls idx (m_y M') "ChestnutSticks" (m_b M') (m_L M') (m_r M') (m_ws M') (m_rm M' cb sb) cb sb n := by
  obtain ⟨h1, h⟩ := h
  simp only [c_room, Bool.and_eq_true, decide_eq_true_eq] at h
  obtain ⟨⟨h2, h3⟩, h4⟩ := h
  have h2 := Nat.le_of_ble_eq_true h2
  have h3 := Nat.le_of_ble_eq_true h3
  exact va_cnB n hts (m_good hok) rfl rfl rfl (hkx.2.1 _ h1) (hts _ (gd hok.2.2.1 rfl)) ⟨hok.2.2.2.1, hok.2.2.2.2, h4⟩ ⟨Nat.le_trans h2 hf, Nat.le_trans h3 hlo⟩
theorem cat_sum (G : ac_G) (rest : List Value) : ((rest.map (g_v G)).map fun v => v.category).sum = (rest.map Value.category).sum := by
  rw [List.map_map]
  congr 1
  exact List.map_congr_left (fun v _ => g_v_cat G v)
theorem RW_callV {G : ac_G} {M M' : md_T} {cb sb cb1 sb1 pc idx a ci : Nat} {ls rest As fs : List Value} {hp : ac_H} {Q Q' : Option Value → ac_H → Prop} {q : vw_C} (hd : decode (m_b M) pc = .ok (.invokevirtual idx, 3)) (hok : m_ok M') (hV : Cond.instanceMethod (m_y M') ∈ lw_tbl ∧ Cond.selects (m_y M').cls (m_y M') (m_y M') ∈ lw_tbl) (hlk : c_lk M M' idx As.length)
    (ho : hp[a]? = some (.inr (ci, fs))) (hq : vwCl[ci]? = some q) (hqc : q.1 = (m_y M').cls) (hw : (rest.map Value.category).sum ≤ 8) (hav : (l_en (.ref a :: As)).length ≤ m_L M') (hfit : r_fit M' Q') (hlen : ∀ r hp', Q' r hp' → hp'.length = hp.length + cb1)
    (hR : RW G M' cb1 sb1 0 (l_ent (.ref a :: As) (m_L M')) [] hp Q') (k : ∀ r hp', Q' r hp' → RW G M cb sb (pc + 3) ls ((r_n (m_r M') r).toList ++ rest) hp' Q) : RW G M (cb1 + cb) (sb1 + sb) pc ls (As.reverse ++ .ref a :: rest) hp Q := by
  intro p l en R s m args below meth c H locs cells slots QQ Ls hc hl hP hS h1 h2 hz K
  obtain ⟨hx, hb, hml, hown, hts, hkx, hfr, hlo, hnm⟩ := id hc
  refine W.szi hkx hP hS hz (fun hsz => ?_)
  have hM := met_of (l := l) hok hav hfit hR
  have e1 : (As.reverse ++ .ref a :: rest).map (g_v G) = (As.map (g_v G)).reverse ++ .ref (g_ad G a) :: rest.map (g_v G) := by simp [List.map_reverse, g_v]
  rw [e1]
  have hrec := va_recv (q0 := a) hkx.1 hP.1 hq (g_w_get ho)
  rw [hqc] at hrec
  refine px_cont (va_runV (C := (m_y M').cls) (b := g_ad G a) (As := As.map (g_v G)) (rest := rest.map (g_v G)) (Ts := good_T) ⟨hx, hb, hml, hown, hts⟩ hM ⟨callB' hok hlk hts hfr hlo, hts _ (gd hV.1 rfl), hts _ (gd hV.2 rfl)⟩ ⟨c_blind, hrec, c_pre hkx hP hS hsz⟩ rfl (by rw [List.length_map]) hl.1 rfl ?_ hd ⟨by omega, by omega⟩) hc hl hS h1 h2 hz hlen K k
  rw [cat_sum]
  have : (F0 m pc Ls ((As.map (g_v G)).reverse ++ .ref (g_ad G a) :: rest.map (g_v G))).monitorRoom = 0 := rfl
  omega
theorem RW_callS {G : ac_G} {M M' : md_T} {cb sb cb1 sb1 pc idx : Nat} {ls rest As : List Value} {hp : ac_H} {Q Q' : Option Value → ac_H → Prop} (hd : decode (m_b M) pc = .ok (.invokestatic idx, 3)) (hok : m_ok M') (hV : Cond.static (m_y M') ∈ lw_tbl) (hlk : c_lk M M' idx As.length)
    (hw : (rest.map Value.category).sum ≤ 8) (hav : (l_en As).length ≤ m_L M') (hfit : r_fit M' Q') (hlen : ∀ r hp', Q' r hp' → hp'.length = hp.length + cb1)
    (hR : RW G M' cb1 sb1 0 (l_ent As (m_L M')) [] hp Q') (k : ∀ r hp', Q' r hp' → RW G M cb sb (pc + 3) ls ((r_n (m_r M') r).toList ++ rest) hp' Q) : RW G M (cb1 + cb) (sb1 + sb) pc ls (As.reverse ++ rest) hp Q := by
  intro p l en R s m args below meth c H locs cells slots QQ Ls hc hl hP hS h1 h2 hz K
  obtain ⟨hx, hb, hml, hown, hts, hkx, hfr, hlo, hnm⟩ := id hc
  refine W.szi hkx hP hS hz (fun hsz => ?_)
  have hM := met_of (l := l) hok hav hfit hR
  have e1 : (As.reverse ++ rest).map (g_v G) = (As.map (g_v G)).reverse ++ rest.map (g_v G) := by simp [List.map_reverse]
  rw [e1]
  refine px_cont (va_runS (As := As.map (g_v G)) (rest := rest.map (g_v G)) (Ts := good_T) ⟨hx, hb, hml, hown, hts⟩ hM ⟨callB' hok hlk hts hfr hlo, hts _ (gd hV rfl)⟩ ⟨c_blind, c_pre hkx hP hS hsz⟩ rfl (by rw [List.length_map]) hl.1 rfl ?_ hd ⟨by omega, by omega⟩) hc hl hS h1 h2 hz hlen K k
  rw [cat_sum]
  have : (F0 m pc Ls ((As.map (g_v G)).reverse ++ rest.map (g_v G))).monitorRoom = 0 := rfl
  omega
theorem RW_callSN {G : ac_G} {M M' : md_T} {cb sb cb1 sb1 pc idx : Nat} {ls rest As : List Value} {hp : ac_H} {Q Q' : Option Value → ac_H → Prop} (hd : decode (m_b M) pc = .ok (.invokestatic idx, 3)) (hok : m_ok M') (hV : Cond.static (m_y M') ∈ lw_tbl) (hlk : c_lkN M M' idx As.length)
    (hw : (rest.map Value.category).sum ≤ 8) (hav : (l_en As).length ≤ m_L M') (hfit : r_fit M' Q') (hlen : ∀ r hp', Q' r hp' → hp'.length = hp.length + cb1)
    (hR : RW G M' cb1 sb1 0 (l_ent As (m_L M')) [] hp Q') (k : ∀ r hp', Q' r hp' → RW G M cb sb (pc + 3) ls ((r_n (m_r M') r).toList ++ rest) hp' Q) : RW G M (cb1 + cb) (sb1 + sb) pc ls (As.reverse ++ rest) hp Q := by
  intro p l en R s m args below meth c H locs cells slots QQ Ls hc hl hP hS h1 h2 hz K
  obtain ⟨hx, hb, hml, hown, hts, hkx, hfr, hlo, hnm⟩ := id hc
  refine W.szi hkx hP hS hz (fun hsz => ?_)
  have hM := met_of (l := l) hok hav hfit hR
  have e1 : (As.reverse ++ rest).map (g_v G) = (As.map (g_v G)).reverse ++ rest.map (g_v G) := by simp [List.map_reverse]
  rw [e1]
  refine px_cont (va_runSN (As := As.map (g_v G)) (rest := rest.map (g_v G)) (Ts := good_T) ⟨hx, hb, hml, hown, hts⟩ hM ⟨callN' hok hlk hts hkx hfr hlo, hts _ (gd hV rfl), trivial⟩ ⟨c_blind, c_pre hkx hP hS hsz⟩ rfl (by rw [List.length_map]) hl.1 rfl ?_ hd ⟨by omega, by omega⟩) hc hl hS h1 h2 hz hlen K k
  rw [cat_sum]
  have : (F0 m pc Ls ((As.map (g_v G)).reverse ++ rest.map (g_v G))).monitorRoom = 0 := rfl
  omega
theorem RW_callI {G : ac_G} {M M' : md_T} {cb sb cb1 sb1 pc idx a : Nat} {ls rest As : List Value} {hp : ac_H} {Q Q' : Option Value → ac_H → Prop} (hd : decode (m_b M) pc = .ok (.invokespecial idx, 3)) (hok : m_ok M') (hrn : m_r M' = none) (hV : (m_y M').name = "<init>" ∧ Cond.instanceMethod (m_y M') ∈ lw_tbl) (hlk : c_lk M M' idx As.length)
    (hw : (rest.map Value.category).sum ≤ 8) (hav : (l_en (.ref a :: As)).length ≤ m_L M') (hfit : r_fit M' Q') (hlen : ∀ r hp', Q' r hp' → hp'.length = hp.length + cb1)
    (hR : RW G M' cb1 sb1 0 (l_ent (.ref a :: As) (m_L M')) [] hp Q') (k : ∀ r hp', Q' r hp' → RW G M cb sb (pc + 3) ls ((r_n (m_r M') r).toList ++ rest) hp' Q) : RW G M (cb1 + cb) (sb1 + sb) pc ls (As.reverse ++ .ref a :: rest) hp Q := by
  intro p l en R s m args below meth c H locs cells slots QQ Ls hc hl hP hS h1 h2 hz K
  obtain ⟨hx, hb, hml, hown, hts, hkx, hfr, hlo, hnm⟩ := id hc
  refine W.szi hkx hP hS hz (fun hsz => ?_)
  have hM := met_of (l := l) hok hav hfit hR
  have e1 : (As.reverse ++ .ref a :: rest).map (g_v G) = (As.map (g_v G)).reverse ++ .ref (g_ad G a) :: rest.map (g_v G) := by simp [List.map_reverse, g_v]
  rw [e1]
  have hcb := callB' (cb := cb1) (sb := sb1) hok hlk hts hfr hlo
  rw [hrn] at hcb
  refine px_cont (va_runI (b := g_ad G a) (As := As.map (g_v G)) (rest := rest.map (g_v G)) (Ts := good_T) ⟨hx, hb, hml, hown, hts⟩ hM ⟨hcb, hV.1, hts _ (gd hV.2 rfl)⟩ ⟨c_blind, c_pre hkx hP hS hsz⟩ rfl (by rw [List.length_map]) hl.1 rfl ?_ hd ⟨by omega, by omega⟩) hc hl hS h1 h2 hz hlen K k
  rw [cat_sum]
  have : (F0 m pc Ls ((As.map (g_v G)).reverse ++ .ref (g_ad G a) :: rest.map (g_v G))).monitorRoom = 0 := rfl
  omega
theorem RW_callIN {G : ac_G} {M M' : md_T} {cb sb cb1 sb1 pc idx a : Nat} {ls rest As : List Value} {hp : ac_H} {Q Q' : Option Value → ac_H → Prop} (hd : decode (m_b M) pc = .ok (.invokespecial idx, 3)) (hok : m_ok M') (hrn : m_r M' = none) (hV : (m_y M').name = "<init>" ∧ Cond.instanceMethod (m_y M') ∈ lw_tbl) (hlk : c_lkN M M' idx As.length)
    (hw : (rest.map Value.category).sum ≤ 8) (hav : (l_en (.ref a :: As)).length ≤ m_L M') (hfit : r_fit M' Q') (hlen : ∀ r hp', Q' r hp' → hp'.length = hp.length + cb1)
    (hR : RW G M' cb1 sb1 0 (l_ent (.ref a :: As) (m_L M')) [] hp Q') (k : ∀ r hp', Q' r hp' → RW G M cb sb (pc + 3) ls ((r_n (m_r M') r).toList ++ rest) hp' Q) : RW G M (cb1 + cb) (sb1 + sb) pc ls (As.reverse ++ .ref a :: rest) hp Q := by
  intro p l en R s m args below meth c H locs cells slots QQ Ls hc hl hP hS h1 h2 hz K
  obtain ⟨hx, hb, hml, hown, hts, hkx, hfr, hlo, hnm⟩ := id hc
  refine W.szi hkx hP hS hz (fun hsz => ?_)
  have hM := met_of (l := l) hok hav hfit hR
  have e1 : (As.reverse ++ .ref a :: rest).map (g_v G) = (As.map (g_v G)).reverse ++ .ref (g_ad G a) :: rest.map (g_v G) := by simp [List.map_reverse, g_v]
  rw [e1]
  have hcb := callN' (cb := cb1) (sb := sb1) hok hlk hts hkx hfr hlo
  rw [hrn] at hcb
  refine px_cont (va_runIN (b := g_ad G a) (As := As.map (g_v G)) (rest := rest.map (g_v G)) (Ts := good_T) ⟨hx, hb, hml, hown, hts⟩ hM ⟨hcb, hV.1, hts _ (gd hV.2 rfl)⟩ ⟨c_blind, c_pre hkx hP hS hsz⟩ rfl (by rw [List.length_map]) hl.1 rfl ?_ hd ⟨by omega, by omega⟩) hc hl hS h1 h2 hz hlen K k
  rw [cat_sum]
  have : (F0 m pc Ls ((As.map (g_v G)).reverse ++ .ref (g_ad G a) :: rest.map (g_v G))).monitorRoom = 0 := rfl
  omega
