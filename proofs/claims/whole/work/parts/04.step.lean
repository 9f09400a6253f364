set_option maxHeartbeats 4000000 in
set_option maxRecDepth 100000 in
/-- one simple step of the abstract machine is followed by the machine -/
theorem RW_step {G : ac_G} {M : md_T} {cb sb pc pc' : Nat} {ls st ls' st' : List Value} {hp hp' : ac_H} {Q : Option Value → ac_H → Prop} {e : in_T} (hk : e_ok M pc e = true) (h : stp (g_ro G) e pc ls st hp = some (pc', ls', st', hp')) (k : RW G M cb sb pc' ls' st' hp' Q) : RW G M cb sb pc ls st hp Q := by
  intro p l en R s m args below meth c H locs cells slots QQ Ls hc hl hP hS h1 h2 hz K
  obtain ⟨i, len, kk, vv⟩ := e
  obtain ⟨hx, hb, hml, hown, hts, hkx, hfr, hlo, hnm⟩ := id hc
  simp only [e_ok, Bool.and_eq_true, decide_eq_true_eq] at hk
  obtain ⟨⟨hd, hlen⟩, hxk⟩ := hk
  have nx := fun H locs Ls hl hP hS hz => k p l en R s m args below meth c H locs cells slots QQ Ls hc hl hP hS h1 h2 hz K
  have hD := g_D (G := G) hP.2
  have hA : ∀ q, s.heap.size ≤ q → g_A G q := fun q hq => Nat.le_trans hkx.2.2.2.2 hq
  cases i
  all_goals try (have h9 : (none : Option st_T) = some (pc', ls', st', hp') := h; cases h9; done)
  case iconst n =>
    simp only [i_len] at hlen
    subst hlen
    simp only [x_ok, Bool.and_eq_true, decide_eq_true_eq] at hxk
    unfold stp at h
    dsimp only at h
    subst hxk
    cases h
    exact lv_iconst hx hb hd rfl (nx _ _ _ hl hP hS hz)
  case bipush n =>
    simp only [i_len] at hlen
    subst hlen
    simp only [x_ok, Bool.and_eq_true, decide_eq_true_eq] at hxk
    unfold stp at h
    dsimp only at h
    subst hxk
    cases h
    exact lv_bipush hx hb hd rfl (nx _ _ _ hl hP hS hz)
  case sipush n =>
    simp only [i_len] at hlen
    subst hlen
    simp only [x_ok, Bool.and_eq_true, decide_eq_true_eq] at hxk
    unfold stp at h
    dsimp only at h
    subst hxk
    cases h
    exact lv_sipush hx hb hd rfl (nx _ _ _ hl hP hS hz)
  case lconst n =>
    simp only [i_len] at hlen
    subst hlen
    simp only [x_ok, Bool.and_eq_true, decide_eq_true_eq] at hxk
    unfold stp at h
    dsimp only at h
    subst hxk
    cases h
    exact lv_lconst hx hb hd rfl (nx _ _ _ hl hP hS hz)
  case ldc n =>
    simp only [i_len] at hlen
    subst hlen
    simp only [x_ok, Bool.and_eq_true, decide_eq_true_eq] at hxk
    unfold stp at h
    dsimp only at h
    split at hxk
    · cases h
      exact lv_ldc hx hb hown (hts _ (gd (ki_ok_of hxk) rfl)) hd (nx _ _ _ hl hP hS hz)
    · cases hxk
  case ldc2_w n =>
    simp only [i_len] at hlen
    subst hlen
    simp only [x_ok, Bool.and_eq_true, decide_eq_true_eq] at hxk
    unfold stp at h
    dsimp only at h
    split at hxk
    · cases h
      exact lv_ldc2 hx hb hown (hts _ (gd (kl_ok_of hxk) rfl)) hd (nx _ _ _ hl hP hS hz)
    · cases hxk
  case getstatic n =>
    simp only [i_len] at hlen
    subst hlen
    simp only [x_ok, Bool.and_eq_true, decide_eq_true_eq] at hxk
    unfold stp at h
    dsimp only at h
    unfold s_ok at hxk
    split at hxk
    · rename_i j
      simp only [Bool.and_eq_true, decide_eq_true_eq] at hxk
      obtain ⟨⟨q1, q2⟩, q3⟩ := hxk
      cases h
      have hlink := va_Nw.use (A := args) rfl (hkx.2.1 _ q3)
      have hZ := hkx.2.2.2.1 _ q2
      have e1 : g_v G (.ref j) = .ref (g_aS G (j - 1000)) := by simp [g_v, g_ad, Nat.not_lt.mpr q1]
      refine va_getsN hx hb hZ hS hown hlink (fun _ h9 => h9) hd ?_
      rw [← e1]
      exact nx _ _ _ hl hP hS hz
    · cases hxk
  case iload n =>
    simp only [i_len] at hlen
    subst hlen
    simp only [x_ok, Bool.and_eq_true, decide_eq_true_eq] at hxk
    unfold stp at h
    dsimp only at h
    subst hxk
    split at h
    · rename_i hv
      cases h
      exact lv_iload hx hb hd (hl.2.2 _ _ hv (fun z => by cases z)) (nx _ _ _ hl hP hS hz)
    · cases h
  case iload_n n =>
    simp only [i_len] at hlen
    subst hlen
    simp only [x_ok, Bool.and_eq_true, decide_eq_true_eq] at hxk
    unfold stp at h
    dsimp only at h
    split at h
    · rename_i hv
      cases h
      exact lv_iload_n hx hb hd hxk (hl.2.2 _ _ hv (fun z => by cases z)) (nx _ _ _ hl hP hS hz)
    · cases h
  case lload n =>
    simp only [i_len] at hlen
    subst hlen
    simp only [x_ok, Bool.and_eq_true, decide_eq_true_eq] at hxk
    unfold stp at h
    dsimp only at h
    subst hxk
    split at h
    · rename_i hv
      cases h
      exact lv_lload hx hb hd (hl.2.2 _ _ hv (fun z => by cases z)) (nx _ _ _ hl hP hS hz)
    · cases h
  case lload_n n =>
    simp only [i_len] at hlen
    subst hlen
    simp only [x_ok, Bool.and_eq_true, decide_eq_true_eq] at hxk
    unfold stp at h
    dsimp only at h
    split at h
    · rename_i hv
      cases h
      exact lv_lload_n hx hb hd hxk (hl.2.2 _ _ hv (fun z => by cases z)) (nx _ _ _ hl hP hS hz)
    · cases h
  case aload n =>
    simp only [i_len] at hlen
    subst hlen
    simp only [x_ok, Bool.and_eq_true, decide_eq_true_eq] at hxk
    unfold stp at h
    dsimp only at h
    subst hxk
    split at h
    · rename_i hv
      cases h
      exact lv_aload hx hb hd (hl.2.2 _ _ hv (fun z => by cases z)) (nx _ _ _ hl hP hS hz)
    · cases h
  case aload_n n =>
    simp only [i_len] at hlen
    subst hlen
    simp only [x_ok, Bool.and_eq_true, decide_eq_true_eq] at hxk
    unfold stp at h
    dsimp only at h
    split at h
    · rename_i hv
      cases h
      exact lv_aload_n hx hb hd hxk (hl.2.2 _ _ hv (fun z => by cases z)) (nx _ _ _ hl hP hS hz)
    · cases h
  case istore n =>
    simp only [i_len] at hlen
    subst hlen
    simp only [x_ok, Bool.and_eq_true, decide_eq_true_eq] at hxk
    unfold stp at h
    dsimp only at h
    obtain ⟨q1, q2⟩ := hxk
    subst q1
    split at h
    · cases h
      exact lv_istore hx hb hd hl.has q2 rfl (fun Ls2 hl2 => nx _ _ _ (lr.set1 rfl hl2) hP hS hz)
    · cases h
  case lstore n =>
    simp only [i_len] at hlen
    subst hlen
    simp only [x_ok, Bool.and_eq_true, decide_eq_true_eq] at hxk
    unfold stp at h
    dsimp only at h
    obtain ⟨q1, q2⟩ := hxk
    subst q1
    split at h
    · cases h
      exact lv_lstore hx hb hd hl.has q2 rfl (fun Ls2 hl2 => nx _ _ _ (lr.set2 rfl hl2) hP hS hz)
    · cases h
  case istore_n n =>
    simp only [i_len] at hlen
    subst hlen
    simp only [x_ok, Bool.and_eq_true, decide_eq_true_eq] at hxk
    unfold stp at h
    dsimp only at h
    obtain ⟨q1, q2⟩ := hxk
    split at h
    · cases h
      exact lv_istore_n hx hb hd q1 hl.has q2 rfl (fun Ls2 hl2 => nx _ _ _ (lr.set1 rfl hl2) hP hS hz)
    · cases h
  case lstore_n n =>
    simp only [i_len] at hlen
    subst hlen
    simp only [x_ok, Bool.and_eq_true, decide_eq_true_eq] at hxk
    unfold stp at h
    dsimp only at h
    obtain ⟨q1, q2⟩ := hxk
    split at h
    · cases h
      exact lv_lstore_n hx hb hd q1 hl.has q2 rfl (fun Ls2 hl2 => nx _ _ _ (lr.set2 rfl hl2) hP hS hz)
    · cases h
  case astore_n n =>
    simp only [i_len] at hlen
    subst hlen
    simp only [x_ok, Bool.and_eq_true, decide_eq_true_eq] at hxk
    unfold stp at h
    dsimp only at h
    obtain ⟨q1, q2⟩ := hxk
    split at h
    · cases h
      exact lv_astore_n hx hb hd q1 hl.has q2 rfl (fun Ls2 hl2 => nx _ _ _ (lr.set1 rfl hl2) hP hS hz)
    · cases h
  case iinc n z =>
    simp only [i_len] at hlen
    subst hlen
    simp only [x_ok, Bool.and_eq_true, decide_eq_true_eq] at hxk
    unfold stp at h
    dsimp only at h
    obtain ⟨⟨q1, q2⟩, q3⟩ := hxk
    subst q1
    subst q3
    split at h
    · rename_i x cc hv heq
      cases heq
      cases h
      obtain ⟨j, hj⟩ := List.getElem?_of_mem (l_al_mem (G := G) hv (fun z => by cases z))
      exact lv_iinc hx hb hd hl.has hj rfl q2 rfl (fun Ls2 hl2 => nx _ _ _ (lr.set1 rfl hl2) hP hS hz)
    · cases h
  case iadd =>
    simp only [i_len] at hlen
    subst hlen
    clear hxk
    unfold stp at h
    dsimp only at h
    split at h
    · cases h
      exact lv_iadd hx hb hd (nx _ _ _ hl hP hS hz)
    · cases h
  case isub =>
    simp only [i_len] at hlen
    subst hlen
    clear hxk
    unfold stp at h
    dsimp only at h
    split at h
    · cases h
      exact lv_isub hx hb hd (nx _ _ _ hl hP hS hz)
    · cases h
  case imul =>
    simp only [i_len] at hlen
    subst hlen
    clear hxk
    unfold stp at h
    dsimp only at h
    split at h
    · cases h
      exact lv_imul hx hb hd (nx _ _ _ hl hP hS hz)
    · cases h
  case iand =>
    simp only [i_len] at hlen
    subst hlen
    clear hxk
    unfold stp at h
    dsimp only at h
    split at h
    · cases h
      exact lv_iand hx hb hd (nx _ _ _ hl hP hS hz)
    · cases h
  case ior =>
    simp only [i_len] at hlen
    subst hlen
    clear hxk
    unfold stp at h
    dsimp only at h
    split at h
    · cases h
      exact lv_ior hx hb hd (nx _ _ _ hl hP hS hz)
    · cases h
  case ixor =>
    simp only [i_len] at hlen
    subst hlen
    clear hxk
    unfold stp at h
    dsimp only at h
    split at h
    · cases h
      exact lv_ixor hx hb hd (nx _ _ _ hl hP hS hz)
    · cases h
  case ladd =>
    simp only [i_len] at hlen
    subst hlen
    clear hxk
    unfold stp at h
    dsimp only at h
    split at h
    · cases h
      exact lv_ladd hx hb hd (nx _ _ _ hl hP hS hz)
    · cases h
  case lsub =>
    simp only [i_len] at hlen
    subst hlen
    clear hxk
    unfold stp at h
    dsimp only at h
    split at h
    · cases h
      exact lv_lsub hx hb hd (nx _ _ _ hl hP hS hz)
    · cases h
  case lmul =>
    simp only [i_len] at hlen
    subst hlen
    clear hxk
    unfold stp at h
    dsimp only at h
    split at h
    · cases h
      exact lv_lmul hx hb hd (nx _ _ _ hl hP hS hz)
    · cases h
  case ineg =>
    simp only [i_len] at hlen
    subst hlen
    clear hxk
    unfold stp at h
    dsimp only at h
    split at h
    · cases h
      exact lv_ineg hx hb hd (nx _ _ _ hl hP hS hz)
    · cases h
  case ishl =>
    simp only [i_len] at hlen
    subst hlen
    clear hxk
    unfold stp at h
    dsimp only at h
    split at h
    · cases h
      exact lv_ishl hx hb hd (nx _ _ _ hl hP hS hz)
    · cases h
  case iushr =>
    simp only [i_len] at hlen
    subst hlen
    clear hxk
    unfold stp at h
    dsimp only at h
    split at h
    · cases h
      exact lv_iushr hx hb hd rfl (nx _ _ _ hl hP hS hz)
    · cases h
  case idiv =>
    simp only [i_len] at hlen
    subst hlen
    clear hxk
    unfold stp at h
    dsimp only at h
    split at h
    · split at h
      · cases h
      · rename_i hne
        cases h
        exact lv_idiv hx hb hd hne (nx _ _ _ hl hP hS hz)
    · cases h
  case irem =>
    simp only [i_len] at hlen
    subst hlen
    clear hxk
    unfold stp at h
    dsimp only at h
    split at h
    · split at h
      · cases h
      · rename_i hne
        cases h
        exact lv_irem hx hb hd hne (nx _ _ _ hl hP hS hz)
    · cases h
  case ldiv =>
    simp only [i_len] at hlen
    subst hlen
    clear hxk
    unfold stp at h
    dsimp only at h
    split at h
    · split at h
      · cases h
      · rename_i hne
        cases h
        exact lv_ldiv hx hb hd hne (nx _ _ _ hl hP hS hz)
    · cases h
  case lrem =>
    simp only [i_len] at hlen
    subst hlen
    clear hxk
    unfold stp at h
    dsimp only at h
    split at h
    · split at h
      · cases h
      · rename_i hne
        cases h
        exact lv_lrem hx hb hd hne (nx _ _ _ hl hP hS hz)
    · cases h
  case lcmp =>
    simp only [i_len] at hlen
    subst hlen
    clear hxk
    unfold stp at h
    dsimp only at h
    split at h
    · cases h
      exact W.lcmp hx hb hd (nx _ _ _ hl hP hS hz)
    · cases h
  case i2l =>
    simp only [i_len] at hlen
    subst hlen
    clear hxk
    unfold stp at h
    dsimp only at h
    split at h
    · cases h
      exact lv_i2l hx hb hd rfl (nx _ _ _ hl hP hS hz)
    · cases h
  case i2b =>
    simp only [i_len] at hlen
    subst hlen
    clear hxk
    unfold stp at h
    dsimp only at h
    split at h
    · cases h
      exact lv_i2b hx hb hd rfl (nx _ _ _ hl hP hS hz)
    · cases h
  case i2s =>
    simp only [i_len] at hlen
    subst hlen
    clear hxk
    unfold stp at h
    dsimp only at h
    split at h
    · cases h
      exact lv_i2s hx hb hd rfl (nx _ _ _ hl hP hS hz)
    · cases h
  case dup =>
    simp only [i_len] at hlen
    subst hlen
    clear hxk
    unfold stp at h
    dsimp only at h
    split at h
    · cases h
      exact lv_dup hx hb hd rfl (nx _ _ _ hl hP hS hz)
    · cases h
      exact lv_dup hx hb hd rfl (nx _ _ _ hl hP hS hz)
    · cases h
  case dup2 =>
    simp only [i_len] at hlen
    subst hlen
    clear hxk
    unfold stp at h
    dsimp only at h
    split at h
    · cases h
      exact lv_dup2_11 hx hb hd rfl rfl (nx _ _ _ hl hP hS hz)
    · cases h
  case pop =>
    simp only [i_len] at hlen
    subst hlen
    clear hxk
    unfold stp at h
    dsimp only at h
    split at h
    · cases h
      exact lv_pop hx hb hd rfl (nx _ _ _ hl hP hS hz)
    · cases h
  case goto n =>
    simp only [i_len] at hlen
    subst hlen
    simp only [x_ok, Bool.and_eq_true, decide_eq_true_eq] at hxk
    unfold stp at h
    dsimp only at h
    cases h
    exact lv_goto hx hb hd hxk (nx _ _ _ hl hP hS hz)
  case ifCond cnd off =>
    simp only [i_len] at hlen
    subst hlen
    simp only [x_ok, decide_eq_true_eq] at hxk
    cases cnd
    case eq =>
      unfold stp at h
      dsimp only at h
      split at h
      · cases h
        refine lv_if_eq hx hb hd hxk (fun q => ?_) (fun q => ?_)
        · rw [if_pos q] at nx; exact nx _ _ _ hl hP hS hz
        · rw [if_neg q] at nx; exact nx _ _ _ hl hP hS hz
      · cases h
    case ne =>
      unfold stp at h
      dsimp only at h
      split at h
      · cases h
        refine lv_if_ne hx hb hd hxk (fun q => ?_) (fun q => ?_)
        · rw [if_neg q] at nx; exact nx _ _ _ hl hP hS hz
        · rw [if_pos q] at nx; exact nx _ _ _ hl hP hS hz
      · cases h
    case lt =>
      unfold stp at h
      dsimp only at h
      split at h
      · cases h
        refine lv_if_lt hx hb hd hxk (fun q => ?_) (fun q => ?_)
        · rw [if_pos q] at nx; exact nx _ _ _ hl hP hS hz
        · rw [if_neg q] at nx; exact nx _ _ _ hl hP hS hz
      · cases h
    case ge =>
      unfold stp at h
      dsimp only at h
      split at h
      · cases h
        refine lv_if_ge hx hb hd hxk (fun q => ?_) (fun q => ?_)
        · rw [if_pos q] at nx; exact nx _ _ _ hl hP hS hz
        · rw [if_neg q] at nx; exact nx _ _ _ hl hP hS hz
      · cases h
    case gt =>
      unfold stp at h
      dsimp only at h
      split at h
      · cases h
        refine lv_if_gt hx hb hd hxk (fun q => ?_) (fun q => ?_)
        · rw [if_pos q] at nx; exact nx _ _ _ hl hP hS hz
        · rw [if_neg q] at nx; exact nx _ _ _ hl hP hS hz
      · cases h
    case le =>
      unfold stp at h
      dsimp only at h
      split at h
      · cases h
        refine lv_if_le hx hb hd hxk (fun q => ?_) (fun q => ?_)
        · rw [if_pos q] at nx; exact nx _ _ _ hl hP hS hz
        · rw [if_neg q] at nx; exact nx _ _ _ hl hP hS hz
      · cases h
  case if_icmp cnd off =>
    simp only [i_len] at hlen
    subst hlen
    simp only [x_ok, decide_eq_true_eq] at hxk
    cases cnd
    case eq =>
      unfold stp at h
      dsimp only at h
      split at h
      · cases h
        refine lv_icmp_eq hx hb hd hxk (fun q => ?_) (fun q => ?_)
        · rw [if_pos q] at nx; exact nx _ _ _ hl hP hS hz
        · rw [if_neg q] at nx; exact nx _ _ _ hl hP hS hz
      · cases h
    case ne =>
      unfold stp at h
      dsimp only at h
      split at h
      · cases h
        refine lv_icmp_ne hx hb hd hxk (fun q => ?_) (fun q => ?_)
        · rw [if_neg q] at nx; exact nx _ _ _ hl hP hS hz
        · rw [if_pos q] at nx; exact nx _ _ _ hl hP hS hz
      · cases h
    case lt =>
      unfold stp at h
      dsimp only at h
      split at h
      · cases h
        refine lv_icmp_lt hx hb hd hxk (fun q => ?_) (fun q => ?_)
        · rw [if_pos q] at nx; exact nx _ _ _ hl hP hS hz
        · rw [if_neg q] at nx; exact nx _ _ _ hl hP hS hz
      · cases h
    case ge =>
      unfold stp at h
      dsimp only at h
      split at h
      · cases h
        refine lv_icmp_ge hx hb hd hxk (fun q => ?_) (fun q => ?_)
        · rw [if_pos q] at nx; exact nx _ _ _ hl hP hS hz
        · rw [if_neg q] at nx; exact nx _ _ _ hl hP hS hz
      · cases h
    case gt =>
      unfold stp at h
      dsimp only at h
      split at h
      · cases h
        refine lv_icmp_gt hx hb hd hxk (fun q => ?_) (fun q => ?_)
        · rw [if_pos q] at nx; exact nx _ _ _ hl hP hS hz
        · rw [if_neg q] at nx; exact nx _ _ _ hl hP hS hz
      · cases h
    case le =>
      unfold stp at h
      dsimp only at h
      split at h
      · cases h
        refine lv_icmp_le hx hb hd hxk (fun q => ?_) (fun q => ?_)
        · rw [if_pos q] at nx; exact nx _ _ _ hl hP hS hz
        · rw [if_neg q] at nx; exact nx _ _ _ hl hP hS hz
      · cases h
  case getfield n =>
    simp only [i_len] at hlen
    subst hlen
    simp only [x_ok] at hxk
    obtain ⟨q, hq, q1, q2, q3⟩ := f_ok_of hxk
    · skip
      unfold stp at h
      dsimp only at h
      split at h
      · rename_i a r
        split at h
        · rename_i ob ho
          cases hb2 : Nat.beq ob.1 (kk / 100) with
          | false => rw [hb2] at h; cases h
          | true =>
            rw [hb2] at h
            dsimp only [cond_true] at h
            split at h
            · rename_i v hv
              cases h
              obtain ⟨C, T, N⟩ := q
              have e1 : ob.1 = kk / 100 := Nat.eq_of_beq_eq_true hb2
              have hq' : vwCl[ob.1]? = some (C, T, N) := by rw [e1]; exact hq
              have hw : (g_w G hp)[a]? = some (g_ad G a, .inr (ob.1, ob.2.map (g_v G))) := g_w_get ho
              have q1 : C = (m_y M).cls := q1
              exact va_get (D := G.1) (ci := ob.1) (v := g_v G v) (C := C) (T := T) (N := N) hx hb hts (cl_facts _ _ hq).1 hown hkx.1 hP.1 a hw hq' (kk % 100) q2 (hts _ (gd q3 rfl)) (fun _ h9 => h9) (by rw [List.getElem?_map, hv]; rfl) hd (nx _ _ _ hl hP hS hz)
            · cases h
        · cases h
      · cases h
  case putfield n =>
    simp only [i_len] at hlen
    subst hlen
    simp only [x_ok, p_ok, Bool.and_eq_true] at hxk
    obtain ⟨hf, hp9⟩ := hxk
    obtain ⟨q, hq, q1, q2, q3⟩ := f_ok_of hf
    · skip
      unfold stp at h
      dsimp only at h
      split at h
      · rename_i v a r
        split at h
        · rename_i ob ho
          cases hb2 : Nat.beq ob.1 (kk / 100) with
          | false => rw [hb2] at h; cases h
          | true =>
            rw [hb2] at h
            dsimp only [cond_true] at h
            obtain ⟨C, T, N⟩ := q
            have e1 : ob.1 = kk / 100 := Nat.eq_of_beq_eq_true hb2
            have hq' : vwCl[ob.1]? = some (C, T, N) := by rw [e1]; exact hq
            have hw : (g_w G hp)[a]? = some (g_ad G a, .inr (ob.1, ob.2.map (g_v G))) := g_w_get ho
            have q1 : C = (m_y M).cls := q1
            obtain ⟨hin, hnm2, ty, hty⟩ := cl_facts _ _ hq
            split at h
            · rename_i v0 hv0
              have hlt : kk % 100 < (ob.2.map (g_v G)).length := by rw [List.length_map]; exact (List.getElem?_eq_some_iff.mp hv0).1
              split at h
              · rename_i z x
                cases h
                simp only [hq, Bool.and_eq_true, decide_eq_true_eq, beq_iff_eq] at hp9
                refine va_put (D := G.1) (ci := ob.1) (v := .int x) (ty := .int) (C := C) (T := T) (N := N) hx hb hts hin ty hty hnm2 hown hkx.1 hP.1 hD hS a hw hq' (kk % 100) q2 (hts _ (gd q3 rfl)) (fun _ h9 => h9) hp9.2 (by rw [hp9.1]; decide +kernel) rfl rfl hlt hd (fun H1 locs1 hP1 hD1 hS1 => ?_)
                refine nx _ _ _ hl (pic.put hP.2 ?_ hP1) hS1 (by rw [List.length_set]; exact hz)
                simp only [g_e, List.map_set, g_v]
              · rename_i x
                cases h
                simp only [hq, Bool.and_eq_true, decide_eq_true_eq, beq_iff_eq] at hp9
                obtain ⟨⟨⟨z1, z2⟩, z3⟩, z4⟩ := hp9
                obtain ⟨ty0, hd0, hn0, hf0⟩ : ∃ ty0, parseFieldDescriptor (T (kk % 100)).2.2.1 = some ty0 ∧ narrow ty0 (.ref (g_ad G x)) = .ref (g_ad G x) ∧ fits ty0 (.ref (g_ad G x)) = true := by
                  split at z4
                  · rename_i hh; exact ⟨_, hh, rfl, rfl⟩
                  · rename_i hh; exact ⟨_, hh, rfl, rfl⟩
                  · cases z4
                refine va_putF (D := G.1) (ci := ob.1) (v := .ref (g_ad G x)) (ty := ty0) (C := C) (T := T) (N := N) hx hb hts hin ty hty hnm2 hown hkx.1 hP.1 hD hS a hw hq' (kk % 100) q2 (hts _ (gd q3 rfl)) (fun _ h9 => h9) z1 (hnm z2) (z3.trans q1) hd0 hn0 hf0 hlt hd (fun H1 locs1 hP1 hD1 hS1 => ?_)
                refine nx _ _ _ hl (pic.put hP.2 ?_ hP1) hS1 (by rw [List.length_set]; exact hz)
                simp only [g_e, List.map_set, g_v]
              · cases h
            · cases h
        · cases h
      · cases h
  case iaload =>
    simp only [i_len] at hlen
    subst hlen
    unfold stp at h
    dsimp only at h
    split at h
    · rename_i i a r
      split at h
      · rename_i n f ha
        split at h
        · rename_i hi
          cases h
          unfold a_arr at ha
          cases hb2 : Nat.blt a 1000 with
          | true =>
            rw [hb2] at ha
            dsimp only [cond_true] at ha
            split at ha
            · rename_i x ho
              cases ha
              exact va_iald hx hb hkx.1 hP.1 a 0 (g_w_get ho) rfl (inb_vp hi) hd (nx _ _ _ hl hP hS hz)
            · cases ha
          | false =>
            rw [hb2] at ha
            dsimp only [cond_false] at ha
            split at ha
            · rename_i x ho
              cases ha
              have hX := hkx.2.2.1 _ _ ho
              have e1 : g_ad G a = g_aS G (a - 1000) := by
                have : ¬ a < 1000 := fun q => by rw [Nat.blt_eq.mpr q] at hb2; cases hb2
                simp [g_ad, this]
              show W p l en R s m args below meth c H locs cells slots QQ (F0 m pc Ls (.int i :: .ref (g_ad G a) :: r.map (g_v G)))
              rw [e1]
              exact va_ti hx hb hX hS (inb_vp hi) rfl hd (nx _ _ _ hl hP hS hz)
            · cases ha
        · cases h
      · cases h
    · cases h
  case arraylength =>
    simp only [i_len] at hlen
    subst hlen
    unfold stp at h
    dsimp only at h
    split at h
    · rename_i a r
      split at h
      · rename_i bo n f ha
        cases h
        unfold a_arr at ha
        cases hb2 : Nat.blt a 1000 with
        | true =>
          rw [hb2] at ha
          dsimp only [cond_true] at ha
          split at ha
          · rename_i x ho
            cases ha
            cases bo with
            | false => exact va_alen hx hb hkx.1 hP.1 a 0 (g_w_get ho) rfl rfl hd (nx _ _ _ hl hP hS hz)
            | true => exact va_alen hx hb hkx.1 hP.1 a 1 (g_w_get ho) rfl rfl hd (nx _ _ _ hl hP hS hz)
          · cases ha
        | false =>
          rw [hb2] at ha
          dsimp only [cond_false] at ha
          split at ha
          · rename_i x ho
            cases ha
            have hX := hkx.2.2.1 _ _ ho
            have e1 : g_ad G a = g_aS G (a - 1000) := by
              have : ¬ a < 1000 := fun q => by rw [Nat.blt_eq.mpr q] at hb2; cases hb2
              simp [g_ad, this]
            show W p l en R s m args below meth c H locs cells slots QQ (F0 m pc Ls (.ref (g_ad G a) :: r.map (g_v G)))
            rw [e1]
            exact va_tlen hx hb hX hS rfl hd (nx _ _ _ hl hP hS hz)
          · cases ha
      · cases h
    · cases h
  case baload =>
    simp only [i_len] at hlen
    subst hlen
    unfold stp at h
    dsimp only at h
    split at h
    · rename_i i a r
      split at h
      · rename_i n f ho
        split at h
        · rename_i hi
          cases h
          exact va_zald hx hb hkx.1 hP.1 a 1 (g_w_get ho) rfl (inb_vp hi) hd (nx _ _ _ hl hP hS hz)
        · cases h
      · cases h
    · cases h
  case iastore =>
    simp only [i_len] at hlen
    subst hlen
    unfold stp at h
    dsimp only at h
    split at h
    · rename_i x i a r
      split at h
      · rename_i n f ho
        split at h
        · rename_i hi
          cases h
          refine va_iast hx hb hkx.1 hP.1 hD hS a 0 (g_w_get ho) rfl (inb_vp hi) hd (fun H1 locs1 hP1 hD1 hS1 => ?_)
          exact nx _ _ _ hl (pic.put hP.2 rfl hP1) hS1 (by rw [List.length_set]; exact hz)
        · cases h
      · cases h
    · cases h
  case bastore =>
    simp only [i_len] at hlen
    subst hlen
    unfold stp at h
    dsimp only at h
    split at h
    · rename_i x i a r
      split at h
      · rename_i n f ho
        split at h
        · rename_i hi
          cases h
          refine va_zast hx hb hkx.1 hP.1 hD hS a 1 (g_w_get ho) rfl (inb_vp hi) hd (fun H1 locs1 hP1 hD1 hS1 => ?_)
          exact nx _ _ _ hl (pic.put hP.2 rfl hP1) hS1 (by rw [List.length_set]; exact hz)
        · cases h
      · cases h
    · cases h
