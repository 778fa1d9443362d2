/-! renaming on both sides -/
def dst (g : Nat → Int32) (n : Nat) : Prop := ∀ i j, i < n → j < n → g i = g j → i = j
theorem nmd_cn {g : Nat → Int32} {n k : Nat} {nm : Int32} (hn : n ≤ 10) (hk : k < n) (hd : dst g n) : nmd g n nm (nI k) = (match fnd g nm n with
    | some j => !decide (j = k)
    | none => false) := by
  cases hf : fnd g nm n with
  | some j =>
    obtain ⟨hj, he⟩ := fnd_some hf
    by_cases c : j = k
    · subst c
      simp only [decide_true, Bool.not_true]
      cases hc : nmd g n nm (nI j) with
      | false => rfl
      | true =>
        obtain ⟨i, hi, hp⟩ := anyN_iff.mp hc
        simp at hp
        have := hd i j hi hj (hp.2.trans he.symm)
        exact absurd (by rw [this]) hp.1
    · simp only [c, decide_false, Bool.not_false]
      have hne : ¬ nI j = nI k := by rw [o_eq (by omega) (by omega)]; exact c
      exact anyN_of hj (by simp [hne, he])
  | none =>
    have h1 := fnd_none hf
    cases hc : nmd g n nm (nI k) with
    | false => rfl
    | true =>
      obtain ⟨i, hi, hp⟩ := anyN_iff.mp hc
      simp at hp
      exact absurd hp.2 (h1 i hi)
def renD (s : sg_S) (k : Nat) (nm : Int32) : sg_S := ((s.1.1, upd s.1.2.1 k nm, s.1.2.2), s.2)
def renV (s : sg_S) (k : Nat) (nm : Int32) : sg_S := (s.1, s.2.1, s.2.2.1, (fun v => if v = k then (nm, (s.2.2.2.1 v).2) else s.2.2.2.1 v), s.2.2.2.2)
theorem renV_2 (s : sg_S) (k : Nat) (nm : Int32) (v : Nat) : ((renV s k nm).2.2.2.1 v).2 = (s.2.2.2.1 v).2 := by
  show (if v = k then (nm, (s.2.2.2.1 v).2) else s.2.2.2.1 v).2 = _
  split <;> rfl
theorem renV_l0 (s : sg_S) (k : Nat) (nm : Int32) (v : Nat) : sg_l0 (renV s k nm) v = sg_l0 s v := by
  unfold sg_l0
  rw [renV_2]
  rfl
theorem renV_l1 (s : sg_S) (k : Nat) (nm : Int32) (v : Nat) : sg_l1 (renV s k nm) v = sg_l1 s v := by
  unfold sg_l1
  rw [renV_2]
  rfl
theorem renV_v {s : sg_S} (h : STv s) (k : Nat) (nm : Int32) : STv (renV s k nm) := by
  refine ⟨h.1, h.2.1, h.2.2.1, fun v hv => ?_, h.2.2.2.2⟩
  rw [renV_2, renV_l1]
  exact h.2.2.2.1 v hv
theorem renV_raw (s : sg_S) (k : Nat) (nm : Int32) (v : Nat) : sg_raw (renV s k nm) v = sg_raw s v := by
  unfold sg_raw
  rw [renV_l0, renV_l1, renV_2]
theorem MS_renD {R : Nat → Nat → Int32} {h k : Nat} {s : sg_S} {nm : Int32} (hS : MS R h s) (hk : k < s.1.1) : MS (setR R 2 (upd (R 2) (4 * h + k) nm)) h (renD s k nm) := by
  obtain ⟨g1, g2, g3, g4, g5, g6⟩ := hS
  refine ⟨g1, g2, ?_, fun j hj => ?_, g5.same (fun i i1 i2 => setR_ne (by omega)), fun v hv => ?_⟩
  · rw [setR_ne (by decide), setR_ne (by decide), setR_ne (by decide)]
    exact g3
  · rw [setR_self, setR_ne (by decide)]
    have := g4 j hj
    by_cases c : j = k
    · subst c
      rw [pk_us]
      exact ⟨pk_us.symm, this.2⟩
    · rw [pk_un (by omega)]
      exact ⟨this.1.trans (pk_un c).symm, this.2⟩
  · obtain ⟨w1, w2, w3, w4, w5, w6⟩ := g6 v hv
    rw [setR_ne (by decide), setR_ne (by decide), setR_ne (by decide), setR_ne (by decide), setR_ne (by decide)]
    exact ⟨w1, w2, w3, w4, w5.same (fun i i1 i2 => setR_ne (by omega)), w6⟩
theorem MS_renV {R : Nat → Nat → Int32} {h k : Nat} {s : sg_S} {nm : Int32} (hS : MS R h s) (hk : k < s.2.2.1) : MS (setR R 5 (upd (R 5) (5 * h + k) nm)) h (renV s k nm) := by
  obtain ⟨g1, g2, g3, g4, g5, g6⟩ := hS
  refine ⟨renV_v g1 k nm, g2, ?_, fun j hj => ?_, g5.same (fun i i1 i2 => setR_ne (by omega)), fun v hv => ?_⟩
  · rw [setR_ne (by decide), setR_ne (by decide), setR_ne (by decide)]
    exact g3
  · rw [setR_ne (by decide), setR_ne (by decide)]
    exact g4 j hj
  · obtain ⟨w1, w2, w3, w4, w5, w6⟩ := g6 v hv
    rw [renV_2, setR_self, setR_ne (by decide), setR_ne (by decide), setR_ne (by decide), setR_ne (by decide)]
    refine ⟨?_, w2, w3, w4, w5.same (fun i i1 i2 => setR_ne (by omega)), w6⟩
    show _ = (if v = k then (nm, (s.2.2.2.1 v).2) else s.2.2.2.1 v).1
    by_cases c : v = k
    · subst c
      rw [pk_us, if_pos rfl]
    · rw [pk_un (by omega), if_neg c]
      exact w1
theorem k_renameDim {d b : Nat} {A : am_H} {s : sg_S} {ρ : Nat → sg_R} {k nm : Int32} (h : ST b A s ρ) : ∃ B, pev (d + 2) 38 [some (.ref b), some (.int k), some (.int nm)] [] A = some (some (.int (cn_c s.1.2.1 s.1.1 k nm)), B) ∧ ST b B (if cn_c s.1.2.1 s.1.1 k nm = 0 then renD s k.toNatClampNeg nm else s) ρ ∧ am_fr (at45 b) A B := by
  obtain ⟨hs, hb, ⟨g1, g2, g3, q, a0, a1, a2, a3, a4, a5, a6, a7⟩, hA, hV, hR⟩ := id h
  have h4 := hs.1
  have e1 := k_changeName (d := d) (k := k) (nm := nm) a1 (fun j hj => (a6 j hj).1) h4 (by decide) (by omega)
  by_cases c : cn_c s.1.2.1 s.1.1 k nm = 0
  · rw [if_pos c] at e1
    rw [if_pos c]
    have F : am_fr (fun q => q = b + 1) A (am_set A (b + 1) (.inl (0, 4, upd g1 k.toNatClampNeg nm))) := (am_fr.refl A).set rfl
    refine ⟨am_set A (b + 1) (.inl (0, 4, upd g1 k.toNatClampNeg nm)), ?_, ⟨hs, hb, ⟨upd g1 k.toNatClampNeg nm, g2, g3, q, (F.2.2 _ (by omega)).trans a0, x_set_self _ _ _, (F.2.2 _ (by omega)).trans a2, (F.2.2 _ (by omega)).trans a3, (F.2.2 _ (by omega)).trans a4, a5, fun j hj => ?_, a7⟩, hA.kept F (fun q q1 q2 q3 => by omega), fun v hv => (hV v hv).kept F (fun q q1 q2 q3 => by omega), hR⟩, (am_fr.refl A).set ⟨by omega, by omega⟩⟩
    · refine e_38 ?_; simp only [b_38, i_int, i_long, i_null, i_stat, i_iload, i_lload, i_aload, i_istore, i_astore, i_lstore, i_iinc, i_ii, i_idz, i_i, i_ll, i_lsh, i_i2l, i_l2i, i_lcmp, i_dup, i_pop, i_dup2, i_ifeq, i_ifne, i_iflt, i_ifge, i_ifgt, i_ifle, i_cmpeq, i_cmpne, i_cmplt, i_cmpge, i_cmpgt, i_cmple, i_ifnull, i_ifnonnull, i_getf, am_wr, i_putI, i_putZ, i_putR, i_iald, i_iast, i_aald, i_aast, i_alen, i_newi, i_newq, i_new, i_recv, i_iret, i_zret, i_lret, i_aret, i_vret, List.getElem?_cons_zero, List.getElem?_cons_succ, Option.bind_some, Option.toList_some, Option.toList_none, List.cons_append, List.nil_append, x_nI, am_put, List.length_cons, List.length_nil, List.set_cons_zero, List.set_cons_succ, Nat.reduceAdd, Nat.reduceLT, Nat.reduceLeDiff, Nat.reduceEqDiff, Nat.add_left_cancel_iff, Nat.add_eq_left, Nat.left_eq_add, Nat.succ_ne_self, Nat.reduceSub, reduceIte, ite_self, eq_self, or_true, true_or, or_false, false_or, or_self, i10, not_true_eq_false, not_false_eq_true, x_call1, x_call2, x_call3, x_call4, x_call5, x_call6, x_sl0, x_sli, x_slr, x_sln, x_sll, am_ent, List.map_nil, List.map_cons, List.sum_nil, List.sum_cons, Value.category, and_true, true_and, and_self, Nat.zero_le, List.replicate_succ, List.replicate_zero, List.reduceReplicate, x_obj_set, x_row_set, x_len_set, x_obx, x_rox, x_rv, x_obj a0, e1]
    · have := a6 j hj
      refine ⟨?_, this.2⟩
      show _ = upd s.1.2.1 k.toNatClampNeg nm j
      unfold upd
      split
      · rfl
      · exact this.1
  · rw [if_neg c] at e1
    rw [if_neg c]
    refine ⟨A, ?_, h, am_fr.refl A⟩
    refine e_38 ?_; simp only [b_38, i_int, i_long, i_null, i_stat, i_iload, i_lload, i_aload, i_istore, i_astore, i_lstore, i_iinc, i_ii, i_idz, i_i, i_ll, i_lsh, i_i2l, i_l2i, i_lcmp, i_dup, i_pop, i_dup2, i_ifeq, i_ifne, i_iflt, i_ifge, i_ifgt, i_ifle, i_cmpeq, i_cmpne, i_cmplt, i_cmpge, i_cmpgt, i_cmple, i_ifnull, i_ifnonnull, i_getf, am_wr, i_putI, i_putZ, i_putR, i_iald, i_iast, i_aald, i_aast, i_alen, i_newi, i_newq, i_new, i_recv, i_iret, i_zret, i_lret, i_aret, i_vret, List.getElem?_cons_zero, List.getElem?_cons_succ, Option.bind_some, Option.toList_some, Option.toList_none, List.cons_append, List.nil_append, x_nI, am_put, List.length_cons, List.length_nil, List.set_cons_zero, List.set_cons_succ, Nat.reduceAdd, Nat.reduceLT, Nat.reduceLeDiff, Nat.reduceEqDiff, Nat.add_left_cancel_iff, Nat.add_eq_left, Nat.left_eq_add, Nat.succ_ne_self, Nat.reduceSub, reduceIte, ite_self, eq_self, or_true, true_or, or_false, false_or, or_self, i10, not_true_eq_false, not_false_eq_true, x_call1, x_call2, x_call3, x_call4, x_call5, x_call6, x_sl0, x_sli, x_slr, x_sln, x_sll, am_ent, List.map_nil, List.map_cons, List.sum_nil, List.sum_cons, Value.category, and_true, true_and, and_self, Nat.zero_le, List.replicate_succ, List.replicate_zero, List.reduceReplicate, x_obj_set, x_row_set, x_len_set, x_obx, x_rox, x_rv, x_obj a0, e1]
theorem k_renameVar {d b : Nat} {A : am_H} {s : sg_S} {ρ : Nat → sg_R} {k nm : Int32} (h : ST b A s ρ) : ∃ B, pev (d + 2) 36 [some (.ref b), some (.int k), some (.int nm)] [] A = some (some (.int (cn_c (fun v => (s.2.2.2.1 v).1) s.2.2.1 k nm)), B) ∧ ST b B (if cn_c (fun v => (s.2.2.2.1 v).1) s.2.2.1 k nm = 0 then renV s k.toNatClampNeg nm else s) ρ ∧ am_fr (at45 b) A B := by
  obtain ⟨hs, hb, ⟨g1, g2, g3, q, a0, a1, a2, a3, a4, a5, a6, a7⟩, hA, hV, hR⟩ := id h
  have h5 := hs.2.2.1
  have e1 := k_changeName (d := d) (k := k) (nm := nm) a3 a7 h5 (by decide) (by omega)
  by_cases c : cn_c (fun v => (s.2.2.2.1 v).1) s.2.2.1 k nm = 0
  · rw [if_pos c] at e1
    rw [if_pos c]
    have F : am_fr (fun q => q = b + 3) A (am_set A (b + 3) (.inl (0, 5, upd g3 k.toNatClampNeg nm))) := (am_fr.refl A).set rfl
    refine ⟨am_set A (b + 3) (.inl (0, 5, upd g3 k.toNatClampNeg nm)), ?_, ⟨renV_v hs _ _, hb, ⟨g1, g2, upd g3 k.toNatClampNeg nm, q, (F.2.2 _ (by omega)).trans a0, (F.2.2 _ (by omega)).trans a1, (F.2.2 _ (by omega)).trans a2, x_set_self _ _ _, (F.2.2 _ (by omega)).trans a4, a5, a6, fun v hv => ?_⟩, hA.kept F (fun q q1 q2 q3 => by omega), fun v hv => (hV v hv).kept F (fun q q1 q2 q3 => by omega), fun v hv => by rw [renV_raw]; exact hR v hv⟩, (am_fr.refl A).set ⟨by omega, by omega⟩⟩
    · refine e_36 ?_; simp only [b_36, i_int, i_long, i_null, i_stat, i_iload, i_lload, i_aload, i_istore, i_astore, i_lstore, i_iinc, i_ii, i_idz, i_i, i_ll, i_lsh, i_i2l, i_l2i, i_lcmp, i_dup, i_pop, i_dup2, i_ifeq, i_ifne, i_iflt, i_ifge, i_ifgt, i_ifle, i_cmpeq, i_cmpne, i_cmplt, i_cmpge, i_cmpgt, i_cmple, i_ifnull, i_ifnonnull, i_getf, am_wr, i_putI, i_putZ, i_putR, i_iald, i_iast, i_aald, i_aast, i_alen, i_newi, i_newq, i_new, i_recv, i_iret, i_zret, i_lret, i_aret, i_vret, List.getElem?_cons_zero, List.getElem?_cons_succ, Option.bind_some, Option.toList_some, Option.toList_none, List.cons_append, List.nil_append, x_nI, am_put, List.length_cons, List.length_nil, List.set_cons_zero, List.set_cons_succ, Nat.reduceAdd, Nat.reduceLT, Nat.reduceLeDiff, Nat.reduceEqDiff, Nat.add_left_cancel_iff, Nat.add_eq_left, Nat.left_eq_add, Nat.succ_ne_self, Nat.reduceSub, reduceIte, ite_self, eq_self, or_true, true_or, or_false, false_or, or_self, i10, not_true_eq_false, not_false_eq_true, x_call1, x_call2, x_call3, x_call4, x_call5, x_call6, x_sl0, x_sli, x_slr, x_sln, x_sll, am_ent, List.map_nil, List.map_cons, List.sum_nil, List.sum_cons, Value.category, and_true, true_and, and_self, Nat.zero_le, List.replicate_succ, List.replicate_zero, List.reduceReplicate, x_obj_set, x_row_set, x_len_set, x_obx, x_rox, x_rv, x_obj a0, e1]
    · show upd g3 k.toNatClampNeg nm v = (if v = k.toNatClampNeg then (nm, (s.2.2.2.1 v).2) else s.2.2.2.1 v).1
      unfold upd
      split
      · rfl
      · exact a7 v hv
  · rw [if_neg c] at e1
    rw [if_neg c]
    refine ⟨A, ?_, h, am_fr.refl A⟩
    refine e_36 ?_; simp only [b_36, i_int, i_long, i_null, i_stat, i_iload, i_lload, i_aload, i_istore, i_astore, i_lstore, i_iinc, i_ii, i_idz, i_i, i_ll, i_lsh, i_i2l, i_l2i, i_lcmp, i_dup, i_pop, i_dup2, i_ifeq, i_ifne, i_iflt, i_ifge, i_ifgt, i_ifle, i_cmpeq, i_cmpne, i_cmplt, i_cmpge, i_cmpgt, i_cmple, i_ifnull, i_ifnonnull, i_getf, am_wr, i_putI, i_putZ, i_putR, i_iald, i_iast, i_aald, i_aast, i_alen, i_newi, i_newq, i_new, i_recv, i_iret, i_zret, i_lret, i_aret, i_vret, List.getElem?_cons_zero, List.getElem?_cons_succ, Option.bind_some, Option.toList_some, Option.toList_none, List.cons_append, List.nil_append, x_nI, am_put, List.length_cons, List.length_nil, List.set_cons_zero, List.set_cons_succ, Nat.reduceAdd, Nat.reduceLT, Nat.reduceLeDiff, Nat.reduceEqDiff, Nat.add_left_cancel_iff, Nat.add_eq_left, Nat.left_eq_add, Nat.succ_ne_self, Nat.reduceSub, reduceIte, ite_self, eq_self, or_true, true_or, or_false, false_or, or_self, i10, not_true_eq_false, not_false_eq_true, x_call1, x_call2, x_call3, x_call4, x_call5, x_call6, x_sl0, x_sli, x_slr, x_sln, x_sll, am_ent, List.map_nil, List.map_cons, List.sum_nil, List.sum_cons, Value.category, and_true, true_and, and_self, Nat.zero_le, List.replicate_succ, List.replicate_zero, List.reduceReplicate, x_obj_set, x_row_set, x_len_set, x_obx, x_rox, x_rv, x_obj a0, e1]
