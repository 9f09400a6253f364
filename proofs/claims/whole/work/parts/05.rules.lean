/-! segments of simple steps -/
def n_pc (e : in_T) (pc : Nat) : Nat := match e.1 with
  | .goto _ => e.2.2.1
  | _ => pc + e.2.1
def stpL (ro : ac_R) : List in_T → Nat → List Value → List Value → ac_H → Option st_T
  | [], pc, ls, st, hp => some (pc, ls, st, hp)
  | [e], pc, ls, st, hp => stp ro e pc ls st hp
  | e :: e2 :: r, pc, ls, st, hp => match stp ro e pc ls st hp with
    | some q => bif Nat.beq q.1 (n_pc e pc) then stpL ro (e2 :: r) (n_pc e pc) q.2.1 q.2.2.1 q.2.2.2 else none
    | none => none
def e_okL (M : md_T) : Nat → List in_T → Bool
  | _, [] => true
  | pc, e :: r => e_ok M pc e && e_okL M (n_pc e pc) r
theorem RW_seg {G : ac_G} {M : md_T} {cb sb : Nat} {Q : Option Value → ac_H → Prop} : ∀ (sg : List in_T) {pc pc' : Nat} {ls st ls' st' : List Value} {hp hp' : ac_H}, e_okL M pc sg = true → stpL (g_ro G) sg pc ls st hp = some (pc', ls', st', hp') → RW G M cb sb pc' ls' st' hp' Q → RW G M cb sb pc ls st hp Q
  | [], pc, pc', ls, st, ls', st', hp, hp', hk, h, k => by cases h; exact k
  | [e], pc, pc', ls, st, ls', st', hp, hp', hk, h, k => by
    simp only [e_okL, Bool.and_eq_true] at hk
    exact RW_step hk.1 h k
  | e :: e2 :: r, pc, pc', ls, st, ls', st', hp, hp', hk, h, k => by
    unfold e_okL at hk
    simp only [Bool.and_eq_true] at hk
    unfold stpL at h
    split at h
    · rename_i q hq
      cases hb : Nat.beq q.1 (n_pc e pc) with
      | false => rw [hb] at h; cases h
      | true =>
        rw [hb] at h
        have e1 : q.1 = n_pc e pc := Nat.eq_of_beq_eq_true hb
        obtain ⟨q1, q2, q3, q4⟩ := q
        have e1 : q1 = n_pc e pc := e1
        subst e1
        exact RW_step hk.1 hq (RW_seg (e2 :: r) hk.2 h k)
    · cases h
/-! the return -/
theorem RW_ret {G : ac_G} {M : md_T} {pc : Nat} {ls : List Value} {hp : ac_H} {Q : Option Value → ac_H → Prop} (r : Option Value) (hr : ∀ a, r ≠ some (.ref a)) (hd : decode (m_b M) pc = .ok (r_in r, 1)) (hq : Q r hp) : RW G M 0 0 pc ls r.toList hp Q := by
  intro p l en R s m args below meth c H locs cells slots QQ Ls hc hl hP hS h1 h2 hz K
  have e1 : r.toList.map (g_v G) = r.toList := by
    cases r with
    | none => rfl
    | some v => cases v <;> first | rfl | exact absurd rfl (hr _)
  rw [e1]
  exact K r hp H locs Ls pc hq hP hS hd hr hz
/-! switches -/
theorem RW_tabIn {G : ac_G} {M : md_T} {cb sb pc : Nat} {ls r : List Value} {hp : ac_H} {Q : Option Value → ac_H → Prop} {dflt lo hi off : Int} {offs : Array Int} {len tgt : Nat} {x : Int32} (hd : decode (m_b M) pc = .ok (.tableswitch dflt lo hi offs, len)) (h3 : ¬ x.toInt < lo) (h4 : ¬ hi < x.toInt) (ho : offs[(x.toInt - lo).toNat]? = some off) (ht : (pc : Int) + off = (tgt : Int)) (k : RW G M cb sb tgt ls r hp Q) : RW G M cb sb pc ls (.int x :: r) hp Q := by
  intro p l en R s m args below meth c H locs cells slots QQ Ls hc hl hP hS h1 h2 hz K
  exact lv_tableIn hc.1 hc.2.1 hd h3 h4 ho ht (k p l en R s m args below meth c H locs cells slots QQ Ls hc hl hP hS h1 h2 hz K)
theorem RW_tabOut {G : ac_G} {M : md_T} {cb sb pc : Nat} {ls r : List Value} {hp : ac_H} {Q : Option Value → ac_H → Prop} {dflt lo hi : Int} {offs : Array Int} {len tgt : Nat} {x : Int32} (hd : decode (m_b M) pc = .ok (.tableswitch dflt lo hi offs, len)) (h3 : x.toInt < lo ∨ hi < x.toInt) (ht : (pc : Int) + dflt = (tgt : Int)) (k : RW G M cb sb tgt ls r hp Q) : RW G M cb sb pc ls (.int x :: r) hp Q := by
  intro p l en R s m args below meth c H locs cells slots QQ Ls hc hl hP hS h1 h2 hz K
  exact lv_tableOut hc.1 hc.2.1 hd h3 ht (k p l en R s m args below meth c H locs cells slots QQ Ls hc hl hP hS h1 h2 hz K)
theorem RW_look {G : ac_G} {M : md_T} {cb sb pc : Nat} {ls r : List Value} {hp : ac_H} {Q : Option Value → ac_H → Prop} {dflt off : Int} {ps : Array (Int × Int)} {len tgt : Nat} {x : Int32} (hd : decode (m_b M) pc = .ok (.lookupswitch dflt ps, len)) (hs : (ps.toList.zip (ps.toList.drop 1)).all (fun (a, next) => a.1 < next.1) = true) (ho : Op.lookupswitch.offset ps.toList dflt x.toInt = off) (ht : (pc : Int) + off = (tgt : Int)) (k : RW G M cb sb tgt ls r hp Q) : RW G M cb sb pc ls (.int x :: r) hp Q := by
  intro p l en R s m args below meth c H locs cells slots QQ Ls hc hl hP hS h1 h2 hz K
  exact lv_lookup hc.1 hc.2.1 hd hs ho ht (k p l en R s m args below meth c H locs cells slots QQ Ls hc hl hP hS h1 h2 hz K)
/-! the heap's size -/
theorem sz_of {G : ac_G} {p : Program} {l : Launch} {e : Env} {R : Room} {s : State} {m : MethodId} {args : Array Value} {below : List Frame} {meth : Method} {c : Code} {H : Heap} {locs : List Loc} {cells slots : Nat} {T : State} {hp : ac_H}
    (hT : T.heap = H) (X : Stand p l e R s m args below meth c T locs cells slots) (hkx : kx G s) (hP : pic G hp H) (hS : va_S (g_A G) s.heap H locs) (hz : s.heap.size + cells = g_B G + hp.length) : H.size = g_B G + hp.length := by
  have h1 : H.size ≤ s.heap.size + cells := by rw [← hT]; exact X.heapSize
  have h2 : g_B G + hp.length ≤ H.size := by
    by_cases h0 : hp.length = 0
    · have := hkx.2.2.2.2
      have := hS.1
      omega
    · have hk : hp.length - 1 < hp.length := by omega
      obtain ⟨c0, hc0⟩ : ∃ c0, hp[hp.length - 1]? = some c0 := ⟨hp[hp.length - 1], by simp [hk]⟩
      have h3 := (hP.1 _ _ (g_w_get hc0)).lt
      have h4 : hp.length - 1 < 1000 := by have := hP.2; omega
      simp only [g_ad, h4, if_true] at h3
      omega
  omega
/-! new cells -/
theorem W.szi {G : ac_G} {p : Program} {l : Launch} {e : Env} {R : Room} {s : State} {m : MethodId} {args : Array Value} {below : List Frame} {meth : Method} {c : Code} {H : Heap} {locs : List Loc} {cells slots : Nat} {QQ : State → Prop} {g : JFrame} {hp : ac_H}
    (hkx : kx G s) (hP : pic G hp H) (hS : va_S (g_A G) s.heap H locs) (hz : s.heap.size + cells = g_B G + hp.length) (k : H.size = g_B G + hp.length → W p l e R s m args below meth c H locs cells slots QQ g) : W p l e R s m args below meth c H locs cells slots QQ g :=
  fun T hT X => k (sz_of hT X hkx hP hS hz) T hT X
theorem RW_newa {G : ac_G} {M : md_T} {cb sb pc : Nat} {ls st : List Value} {hp : ac_H} {Q : Option Value → ac_H → Prop} {n : Int32} {N : Nat} (bo : Bool) (hd : decode (m_b M) pc = .ok (.newarray (if bo = true then .boolean else .int), 2)) (hn : ¬ n < 0) (hN : n.toNatClampNeg = N) (hN2 : N ≤ 100000) (hlen : hp.length < 1000) (hw : Cond.arrayClass .int ∈ lw_tbl ∧ Cond.arrayClass .boolean ∈ lw_tbl)
    (k : RW G M cb sb (pc + 2) ls (.ref hp.length :: st) (hp ++ [.inl (bo, N, fun _ => 0)]) Q) : RW G M (1 + cb) (N + sb) pc ls (.int n :: st) hp Q := by
  intro p l en R s m args below meth c H locs cells slots QQ Ls hc hl hP hS h1 h2 hz K
  obtain ⟨hx, hb, hml, hown, hts, hkx, hfr, hlo, hnm⟩ := id hc
  refine W.szi hkx hP hS hz (fun hsz => ?_)
  have key : ∀ (at1 : ArrayType) (cA : ClassId), decode (m_b M) pc = .ok (.newarray at1, 2) → (Cond.arrayClass (newarray.typeOf at1)).before args s = true → s.vm.findClass ("[" ++ (newarray.typeOf at1).toString) = some cA → componentBytes (newarray.typeOf at1) ≤ 4 → defaultValue (newarray.typeOf at1) = .int 0 → cA = (if bo = true then G.2.1.2 else G.2.1.1) →
      W p l en R s m args below meth c H locs cells slots QQ (F0 m pc Ls (.int n :: st.map (g_v G))) := by
    intro at1 cA hd hcl hcA hcb hdf hbo
    refine va_newaK hx hb hcl rfl hd rfl hn hN (Nat.le_trans (Nat.mul_le_mul_left _ hcb) (by omega)) (by omega) (by omega) hsz (fun H1 cA1 e1 z1 o1 hAr hNm => ?_)
    have hcc : cA1 = cA := Option.some.inj (hNm.symm.trans hcA)
    have hsz1 : s.heap.size ≤ g_B G + hp.length := by rw [← hsz]; exact hS.1
    have hP1 : pic G (hp ++ [.inl (bo, N, fun _ => 0)]) H1 := by
      refine ⟨?_, by simp; omega⟩
      rw [← g_w_push]
      refine va_P.app (fun j x hx => ?_) (fun j x hx => ?_)
      · refine (hP.1 j x hx).kept (o1 x.1 ?_)
        have := (hP.1 j x hx).lt
        omega
      · have hz1 : j < 1 := (List.getElem?_eq_some_iff.mp hx).1
        rw [show j = 0 by omega] at hx
        cases hx
        show H1[g_ad G hp.length]? = some (vp_cell _ _)
        simp only [g_ad, hlen, if_true]
        rw [e1, vp_cell_i, hdf, hcc, hbo]
    have hS1 : va_S (g_A G) s.heap H1 locs := ⟨by omega, fun q g1 g2 => (o1 q (by omega)).trans (hS.2.1 q g1 g2), hS.2.2⟩
    have e2 : (.ref (g_B G + hp.length) :: st.map (g_v G) : List Value) = (.ref hp.length :: st : List Value).map (g_v G) := by simp [g_v, g_ad, hlen]
    have := k p l en R s m args below meth c H1 locs (cells + 1) (slots + N) QQ Ls hc hl hP1 hS1 (by omega) (by omega) (by simp; omega) (fun r hp' H' locs' Ls' pc' q1 q2 q3 q4 q5 q6 => by
      have K1 := K r hp' H' locs' Ls' pc' q1 q2 q3 q4 q5 (by omega)
      rw [show cells + 1 + cb = cells + (1 + cb) by omega, show slots + N + sb = slots + (N + sb) by omega]
      exact K1)
    rw [← e2] at this
    exact this
  cases bo with
  | true => exact key .boolean G.2.1.2 hd (hts _ (gd hw.2 rfl)) (hkx.1.2 1 (G.2.1.2, .boolean) rfl).2 (by decide) rfl rfl
  | false => exact key .int G.2.1.1 hd (hts _ (gd hw.1 rfl)) (hkx.1.2 0 (G.2.1.1, .int) rfl).2 (by decide) rfl rfl
theorem RW_new {G : ac_G} {M : md_T} {cb sb pc idx ci : Nat} {ls st : List Value} {hp : ac_H} {Q : Option Value → ac_H → Prop} {C : String} {T : u_T} {N : Nat} (fs : List Value) (ty : Nat → FieldType) (hd : decode (m_b M) pc = .ok (.new idx, 3)) (hci : vwCl[ci]? = some (C, T, N)) (hty : ∀ k, k < N → parseFieldDescriptor (T k).2.2.1 = some (ty k)) (hfs : ∀ j, j < N → defaultValue (ty j) = vp_V fs j) (hfv : fs.map (g_v G) = fs) (hlen : hp.length < 1000)
    (hw : Cond.classLink (m_y M).cls idx C ∈ lw_tbl ∧ Cond.instantiable C N ∈ lw_tbl ∧ Cond.initialized C ∈ lw_tbl)
    (k : RW G M cb sb (pc + 3) ls (.ref hp.length :: st) (hp ++ [.inr (ci, fs)]) Q) : RW G M (1 + cb) (N + sb) pc ls st hp Q := by
  intro p l en R s m args below meth c H locs cells slots QQ Ls hc hl hP hS h1 h2 hz K
  obtain ⟨hx, hb, hml, hown, hts, hkx, hfr, hlo, hnm⟩ := id hc
  refine W.szi hkx hP hS hz (fun hsz => ?_)
  have hKn := hkx.1.1 ci _ hci
  refine W.newcK hx hb hown (hts _ (gd hw.1 rfl)) (hts _ (gd hw.2.1 rfl)) (hts _ (gd hw.2.2 rfl)) rfl hd (by omega) (by omega) hKn.2.1 hsz fun H1 kC hkC e1 z1 o1 => ?_
  have hP1 : pic G (hp ++ [.inr (ci, fs)]) H1 := by
    refine ⟨?_, by simp; omega⟩
    rw [← g_w_push]
    refine va_P.app (fun j x hx => ?_) (fun j x hx => ?_)
    · refine (hP.1 j x hx).kept (o1 x.1 ?_)
      have := (hP.1 j x hx).lt
      omega
    · have hz1 : j < 1 := (List.getElem?_eq_some_iff.mp hx).1
      rw [show j = 0 by omega] at hx
      cases hx
      refine ⟨_, hci, ?_⟩
      have e3 : g_ad G hp.length = g_B G + hp.length := by simp [g_ad, hlen]
      show t_OB (g_ad G hp.length) _ _ _ _ (vp_V (fs.map (g_v G)))
      rw [e3, hfv]
      exact (u_born ty hts (cl_facts _ _ hci).1 hKn hkC e1 hty).to hfs
  have hS1 : va_S (g_A G) s.heap H1 locs := ⟨by have := hS.1; omega, fun q g1 g2 => (o1 q (by have := hS.1; omega)).trans (hS.2.1 q g1 g2), hS.2.2⟩
  have e2 : (.ref (g_B G + hp.length) :: st.map (g_v G) : List Value) = (.ref hp.length :: st : List Value).map (g_v G) := by simp [g_v, g_ad, hlen]
  have := k p l en R s m args below meth c H1 locs (cells + 1) (slots + N) QQ Ls hc hl hP1 hS1 (by omega) (by omega) (by simp; omega) (fun r hp' H' locs' Ls' pc' q1 q2 q3 q4 q5 q6 => by
    have K1 := K r hp' H' locs' Ls' pc' q1 q2 q3 q4 q5 (by omega)
    rw [show cells + 1 + cb = cells + (1 + cb) by omega, show slots + N + sb = slots + (N + sb) by omega]
    exact K1)
  rw [← e2] at this
  exact this
theorem RW_obj {G : ac_G} {M : md_T} {cb sb pc idx a : Nat} {ls st : List Value} {hp : ac_H} {Q : Option Value → ac_H → Prop} (hd : decode (m_b M) pc = .ok (.invokespecial idx, 3)) (hw : Cond.methodLink (m_y M).cls idx Lib.objectInit ∈ lw_tbl ∧ Cond.instanceMethod Lib.objectInit ∈ lw_tbl ∧ Cond.code Lib.objectInit ⟨#[0xb1]⟩ 1 none ∈ lw_tbl) (hf : 1 ≤ m_f M) (hlo2 : (st.map Value.category).sum + 12 ≤ m_l M)
    (k : RW G M cb sb (pc + 3) ls st hp Q) : RW G M cb sb pc ls (.ref a :: st) hp Q := by
  intro p l en R s m args below meth c H locs cells slots QQ Ls hc hl hP hS h1 h2 hz K
  obtain ⟨hx, hb, hml, hown, hts, hkx, hfr, hlo, hnm⟩ := id hc
  have e1 : ((st.map (g_v G)).map fun v => v.category).sum = (st.map Value.category).sum := by
    rw [List.map_map]
    congr 1
    exact List.map_congr_left (fun v _ => g_v_cat G v)
  refine W.objInit hx hb hown (hts _ (gd hw.1 rfl)) (hts _ (gd hw.2.1 rfl)) (hts _ (gd hw.2.2 rfl)) rfl (by rw [hml]; exact hl.1) rfl hd (by omega) ?_ (k p l en R s m args below meth c H locs cells slots QQ Ls hc hl hP hS h1 h2 hz K)
  rw [e1]
  have : (F0 m pc Ls (Value.ref (g_ad G a) :: st.map (g_v G))).monitorRoom = 0 := rfl
  show 2 * (F0 m pc Ls (Value.ref (g_ad G a) :: st.map (g_v G))).monitorRoom + _ + 12 ≤ _
  omega
