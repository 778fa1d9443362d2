/-! sizes of the store -/
def pb (s : sg_S) (g : Bool) (n : Nat) : Nat := sg_sum (fun v => if decide (sg_l0 s v = 0) = g then sg_ps s v else 0) n
theorem pb_f (s : sg_S) (n : Nat) : pb s false n = sg_pf s n := by
  unfold pb sg_pf
  refine sg_sum_congr (fun v _ => ?_)
  by_cases h : sg_l0 s v = 0 <;> simp [h]
theorem pb_t (s : sg_S) (n : Nat) : pb s true n = sg_pg s n := by
  unfold pb sg_pg
  refine sg_sum_congr (fun v _ => ?_)
  by_cases h : sg_l0 s v = 0 <;> simp [h]
theorem bz_inj (a b : Bool) : (bz a = bz b) = (a = b) := by
  cases a <;> cases b <;> decide
theorem k_paddedBytes1 {d b n : Nat} {A : am_H} {s : sg_S} {ρ : Nat → sg_R} {g : Bool} (hst : am_St A) (h : ST b A s ρ) (hn : n ≤ s.2.2.1) : ∀ (m k : Nat), k + m = n → pev (d + 2) 49 [some (.ref b), some (.int (nI n)), some (.int (bz g)), some (.int (nI (pb s g k))), some (.int (nI k))] [] A = some (some (.int (nI (pb s g n))), A) := by
  obtain ⟨hs, -, ⟨g1, g2, g3, q, a0, a1, a2, a3, a4, a5, a6, a7⟩, -⟩ := id h
  have h5 := hs.2.2.1
  intro m
  induction m with
  | zero =>
    intro k hk
    have hka : k = n := by omega
    subst hka
    refine e_49 ?_; simp only [b_49, i_int, i_long, i_null, i_stat, i_iload, i_lload, i_aload, i_istore, i_astore, i_lstore, i_iinc, i_ii, i_idz, i_i, i_ll, i_lsh, i_i2l, i_l2i, i_lcmp, i_dup, i_pop, i_dup2, i_ifeq, i_ifne, i_iflt, i_ifge, i_ifgt, i_ifle, i_cmpeq, i_cmpne, i_cmplt, i_cmpge, i_cmpgt, i_cmple, i_ifnull, i_ifnonnull, i_getf, am_wr, i_putI, i_putZ, i_putR, i_iald, i_iast, i_aald, i_aast, i_alen, i_newi, i_newq, i_new, i_recv, i_iret, i_zret, i_lret, i_aret, i_vret, List.getElem?_cons_zero, List.getElem?_cons_succ, Option.bind_some, Option.toList_some, Option.toList_none, List.cons_append, List.nil_append, x_nI, am_put, List.length_cons, List.length_nil, List.set_cons_zero, List.set_cons_succ, Nat.reduceAdd, Nat.reduceLT, Nat.reduceLeDiff, Nat.reduceEqDiff, Nat.add_left_cancel_iff, Nat.add_eq_left, Nat.left_eq_add, Nat.succ_ne_self, Nat.reduceSub, reduceIte, ite_self, eq_self, or_true, true_or, or_false, false_or, or_self, i10, not_true_eq_false, not_false_eq_true, x_call1, x_call2, x_call3, x_call4, x_call5, x_call6, x_sl0, x_sli, x_slr, x_sln, x_sll, am_ent, List.map_nil, List.map_cons, List.sum_nil, List.sum_cons, Value.category, and_true, true_and, and_self, Nat.zero_le, List.replicate_succ, List.replicate_zero, List.reduceReplicate, x_obj_set, x_row_set, x_len_set, x_obx, x_rox, x_rv, show nI k ≤ nI k from nI_le (Nat.le_refl _) (by omega)]
  | succ m ih =>
    intro k hk
    have hkv : k < s.2.2.1 := by omega
    have e1 := ih (k + 1) (by omega)
    have e0 : pb s g (k + 1) = pb s g k + if decide (sg_l0 s k = 0) = g then sg_ps s k else 0 := rfl
    rw [e0] at e1
    obtain ⟨⟨t1, t4⟩, -⟩ := hs.2.2.2.1 k hkv
    have ev := k_paddedSize (d := d) hst (h.var hkv) t1 t4 (hs.l0 hkv) (hs.l1 hkv)
    rw [vps_raw] at ev
    obtain ⟨gg, q0, -⟩ := h.var hkv
    have hc : ¬ nI n ≤ nI k := nI_ge (by omega) (by omega)
    have hc2 : ¬ nI s.2.2.1 ≤ nI k := nI_ge (by omega) (by omega)
    by_cases c : decide (sg_l0 s k = 0) = g
    · rw [if_pos c] at e1
      refine e_49 ?_; simp only [b_49, i_int, i_long, i_null, i_stat, i_iload, i_lload, i_aload, i_istore, i_astore, i_lstore, i_iinc, i_ii, i_idz, i_i, i_ll, i_lsh, i_i2l, i_l2i, i_lcmp, i_dup, i_pop, i_dup2, i_ifeq, i_ifne, i_iflt, i_ifge, i_ifgt, i_ifle, i_cmpeq, i_cmpne, i_cmplt, i_cmpge, i_cmpgt, i_cmple, i_ifnull, i_ifnonnull, i_getf, am_wr, i_putI, i_putZ, i_putR, i_iald, i_iast, i_aald, i_aast, i_alen, i_newi, i_newq, i_new, i_recv, i_iret, i_zret, i_lret, i_aret, i_vret, List.getElem?_cons_zero, List.getElem?_cons_succ, Option.bind_some, Option.toList_some, Option.toList_none, List.cons_append, List.nil_append, x_nI, am_put, List.length_cons, List.length_nil, List.set_cons_zero, List.set_cons_succ, Nat.reduceAdd, Nat.reduceLT, Nat.reduceLeDiff, Nat.reduceEqDiff, Nat.add_left_cancel_iff, Nat.add_eq_left, Nat.left_eq_add, Nat.succ_ne_self, Nat.reduceSub, reduceIte, ite_self, eq_self, or_true, true_or, or_false, false_or, or_self, i10, not_true_eq_false, not_false_eq_true, x_call1, x_call2, x_call3, x_call4, x_call5, x_call6, x_sl0, x_sli, x_slr, x_sln, x_sll, am_ent, List.map_nil, List.map_cons, List.sum_nil, List.sum_cons, Value.category, and_true, true_and, and_self, Nat.zero_le, List.replicate_succ, List.replicate_zero, List.reduceReplicate, x_obj_set, x_row_set, x_len_set, x_obx, x_rox, x_rv, x_obj a0, hc, hc2, x_refs a4, x_ix (show k < 5 by omega) (show k < 2147483648 by omega), a5 k (show k < 5 by omega), x_obj q0, sg_raw, ev, bz_inj, c, nI_add, nI_1]
      exact e1
    · rw [if_neg c, Nat.add_zero] at e1
      refine e_49 ?_; simp only [b_49, i_int, i_long, i_null, i_stat, i_iload, i_lload, i_aload, i_istore, i_astore, i_lstore, i_iinc, i_ii, i_idz, i_i, i_ll, i_lsh, i_i2l, i_l2i, i_lcmp, i_dup, i_pop, i_dup2, i_ifeq, i_ifne, i_iflt, i_ifge, i_ifgt, i_ifle, i_cmpeq, i_cmpne, i_cmplt, i_cmpge, i_cmpgt, i_cmple, i_ifnull, i_ifnonnull, i_getf, am_wr, i_putI, i_putZ, i_putR, i_iald, i_iast, i_aald, i_aast, i_alen, i_newi, i_newq, i_new, i_recv, i_iret, i_zret, i_lret, i_aret, i_vret, List.getElem?_cons_zero, List.getElem?_cons_succ, Option.bind_some, Option.toList_some, Option.toList_none, List.cons_append, List.nil_append, x_nI, am_put, List.length_cons, List.length_nil, List.set_cons_zero, List.set_cons_succ, Nat.reduceAdd, Nat.reduceLT, Nat.reduceLeDiff, Nat.reduceEqDiff, Nat.add_left_cancel_iff, Nat.add_eq_left, Nat.left_eq_add, Nat.succ_ne_self, Nat.reduceSub, reduceIte, ite_self, eq_self, or_true, true_or, or_false, false_or, or_self, i10, not_true_eq_false, not_false_eq_true, x_call1, x_call2, x_call3, x_call4, x_call5, x_call6, x_sl0, x_sli, x_slr, x_sln, x_sll, am_ent, List.map_nil, List.map_cons, List.sum_nil, List.sum_cons, Value.category, and_true, true_and, and_self, Nat.zero_le, List.replicate_succ, List.replicate_zero, List.reduceReplicate, x_obj_set, x_row_set, x_len_set, x_obx, x_rox, x_rv, x_obj a0, hc, hc2, x_refs a4, x_ix (show k < 5 by omega) (show k < 2147483648 by omega), a5 k (show k < 5 by omega), x_obj q0, sg_raw, bz_inj, c, nI_1]
      exact e1
theorem k_paddedBytes {d b n : Nat} {A : am_H} {s : sg_S} {ρ : Nat → sg_R} {g : Bool} (hst : am_St A) (h : ST b A s ρ) (hn : n ≤ s.2.2.1) : pev (d + 2) 48 [some (.ref b), some (.int (nI n)), some (.int (bz g)), none, none] [] A = some (some (.int (nI (pb s g n))), A) := by
  refine e_48 ?_; simp only [b_48, i_int, i_long, i_null, i_stat, i_iload, i_lload, i_aload, i_istore, i_astore, i_lstore, i_iinc, i_ii, i_idz, i_i, i_ll, i_lsh, i_i2l, i_l2i, i_lcmp, i_dup, i_pop, i_dup2, i_ifeq, i_ifne, i_iflt, i_ifge, i_ifgt, i_ifle, i_cmpeq, i_cmpne, i_cmplt, i_cmpge, i_cmpgt, i_cmple, i_ifnull, i_ifnonnull, i_getf, am_wr, i_putI, i_putZ, i_putR, i_iald, i_iast, i_aald, i_aast, i_alen, i_newi, i_newq, i_new, i_recv, i_iret, i_zret, i_lret, i_aret, i_vret, List.getElem?_cons_zero, List.getElem?_cons_succ, Option.bind_some, Option.toList_some, Option.toList_none, List.cons_append, List.nil_append, x_nI, am_put, List.length_cons, List.length_nil, List.set_cons_zero, List.set_cons_succ, Nat.reduceAdd, Nat.reduceLT, Nat.reduceLeDiff, Nat.reduceEqDiff, Nat.add_left_cancel_iff, Nat.add_eq_left, Nat.left_eq_add, Nat.succ_ne_self, Nat.reduceSub, reduceIte, ite_self, eq_self, or_true, true_or, or_false, false_or, or_self, i10, not_true_eq_false, not_false_eq_true, x_call1, x_call2, x_call3, x_call4, x_call5, x_call6, x_sl0, x_sli, x_slr, x_sln, x_sll, am_ent, List.map_nil, List.map_cons, List.sum_nil, List.sum_cons, Value.category, and_true, true_and, and_self, Nat.zero_le, List.replicate_succ, List.replicate_zero, List.reduceReplicate, x_obj_set, x_row_set, x_len_set, x_obx, x_rox, x_rv]
  exact k_paddedBytes1 hst h hn n 0 (by omega)
theorem sum_single {s : sg_S} {k : Nat} (h1 : sg_nr s = 1) (hk : k < s.2.2.1) (hg : sg_l0 s k = 0) (f : Nat → Nat) : sg_sum (fun v => if sg_l0 s v = 0 then f v else 0) k = 0 := by
  have h2 : sg_sum (fun v => if sg_l0 s v = 0 then 1 else 0) (k + 1) ≤ 1 := by
    have : sg_sum (fun v => if sg_l0 s v = 0 then 1 else 0) (k + 1) ≤ sg_nr s := sg_sum_mono (by omega)
    omega
  rw [sg_sum, if_pos hg] at h2
  have h3 := sg_sum_zero (show sg_sum (fun v => if sg_l0 s v = 0 then 1 else 0) k = 0 by omega)
  have h4 : sg_sum (fun v => if sg_l0 s v = 0 then f v else 0) k = sg_sum (fun _ => 0) k := sg_sum_congr (fun j hj => by
    have := h3 j hj
    split
    · rename_i h; rw [if_pos h] at this; omega
    · rfl)
  rw [h4, sg_sum_const, Nat.mul_zero]
theorem k_recordBytes1 {d b : Nat} {A : am_H} {s : sg_S} {ρ : Nat → sg_R} (hst : am_St A) (h : ST b A s ρ) (h1 : sg_nr s = 1) : ∀ (m k : Nat), k + m = s.2.2.1 → pev (d + 3) 53 [some (.ref b), some (.int (nI (sg_sum (fun v => if sg_l0 s v = 0 then sg_l1 s v * wd (s.2.2.2.1 v).2.1 else 0) k))), some (.int (nI k))] [] A = some (some (.int (nI (sg_sum (fun v => if sg_l0 s v = 0 then sg_l1 s v * wd (s.2.2.2.1 v).2.1 else 0) s.2.2.1))), A) := by
  obtain ⟨hs, -, ⟨g1, g2, g3, q, a0, a1, a2, a3, a4, a5, a6, a7⟩, -⟩ := id h
  have h5 := hs.2.2.1
  intro m
  induction m with
  | zero =>
    intro k hk
    have hka : k = s.2.2.1 := by omega
    subst hka
    refine e_53 ?_; simp only [b_53, i_int, i_long, i_null, i_stat, i_iload, i_lload, i_aload, i_istore, i_astore, i_lstore, i_iinc, i_ii, i_idz, i_i, i_ll, i_lsh, i_i2l, i_l2i, i_lcmp, i_dup, i_pop, i_dup2, i_ifeq, i_ifne, i_iflt, i_ifge, i_ifgt, i_ifle, i_cmpeq, i_cmpne, i_cmplt, i_cmpge, i_cmpgt, i_cmple, i_ifnull, i_ifnonnull, i_getf, am_wr, i_putI, i_putZ, i_putR, i_iald, i_iast, i_aald, i_aast, i_alen, i_newi, i_newq, i_new, i_recv, i_iret, i_zret, i_lret, i_aret, i_vret, List.getElem?_cons_zero, List.getElem?_cons_succ, Option.bind_some, Option.toList_some, Option.toList_none, List.cons_append, List.nil_append, x_nI, am_put, List.length_cons, List.length_nil, List.set_cons_zero, List.set_cons_succ, Nat.reduceAdd, Nat.reduceLT, Nat.reduceLeDiff, Nat.reduceEqDiff, Nat.add_left_cancel_iff, Nat.add_eq_left, Nat.left_eq_add, Nat.succ_ne_self, Nat.reduceSub, reduceIte, ite_self, eq_self, or_true, true_or, or_false, false_or, or_self, i10, not_true_eq_false, not_false_eq_true, x_call1, x_call2, x_call3, x_call4, x_call5, x_call6, x_sl0, x_sli, x_slr, x_sln, x_sll, am_ent, List.map_nil, List.map_cons, List.sum_nil, List.sum_cons, Value.category, and_true, true_and, and_self, Nat.zero_le, List.replicate_succ, List.replicate_zero, List.reduceReplicate, x_obj_set, x_row_set, x_len_set, x_obx, x_rox, x_rv, x_obj a0, show nI s.2.2.1 ≤ nI s.2.2.1 from nI_le (Nat.le_refl _) (by omega)]
  | succ m ih =>
    intro k hk
    have hkv : k < s.2.2.1 := by omega
    have e1 := ih (k + 1) (by omega)
    rw [sg_sum] at e1
    obtain ⟨⟨t1, t4⟩, -⟩ := hs.2.2.2.1 k hkv
    have ev := k_bytesOfRow (d := d + 2) hst (h.var hkv) t1 t4
    obtain ⟨gg, q0, -⟩ := h.var hkv
    have hc : ¬ nI s.2.2.1 ≤ nI k := nI_ge (by omega) (by omega)
    by_cases c : sg_l0 s k = 0
    · rw [if_pos c, sum_single h1 hkv c, Nat.zero_add] at e1
      simp only [sg_raw, c, decide_true] at q0 ev
      refine e_53 ?_; simp only [b_53, i_int, i_long, i_null, i_stat, i_iload, i_lload, i_aload, i_istore, i_astore, i_lstore, i_iinc, i_ii, i_idz, i_i, i_ll, i_lsh, i_i2l, i_l2i, i_lcmp, i_dup, i_pop, i_dup2, i_ifeq, i_ifne, i_iflt, i_ifge, i_ifgt, i_ifle, i_cmpeq, i_cmpne, i_cmplt, i_cmpge, i_cmpgt, i_cmple, i_ifnull, i_ifnonnull, i_getf, am_wr, i_putI, i_putZ, i_putR, i_iald, i_iast, i_aald, i_aast, i_alen, i_newi, i_newq, i_new, i_recv, i_iret, i_zret, i_lret, i_aret, i_vret, List.getElem?_cons_zero, List.getElem?_cons_succ, Option.bind_some, Option.toList_some, Option.toList_none, List.cons_append, List.nil_append, x_nI, am_put, List.length_cons, List.length_nil, List.set_cons_zero, List.set_cons_succ, Nat.reduceAdd, Nat.reduceLT, Nat.reduceLeDiff, Nat.reduceEqDiff, Nat.add_left_cancel_iff, Nat.add_eq_left, Nat.left_eq_add, Nat.succ_ne_self, Nat.reduceSub, reduceIte, ite_self, eq_self, or_true, true_or, or_false, false_or, or_self, i10, not_true_eq_false, not_false_eq_true, x_call1, x_call2, x_call3, x_call4, x_call5, x_call6, x_sl0, x_sli, x_slr, x_sln, x_sll, am_ent, List.map_nil, List.map_cons, List.sum_nil, List.sum_cons, Value.category, and_true, true_and, and_self, Nat.zero_le, List.replicate_succ, List.replicate_zero, List.reduceReplicate, x_obj_set, x_row_set, x_len_set, x_obx, x_rox, x_rv, x_obj a0, hc, x_refs a4, x_ix (show k < 5 by omega) (show k < 2147483648 by omega), a5 k (show k < 5 by omega), x_obj q0, bz_true, ev, nI_1]
      exact e1
    · rw [if_neg c, Nat.add_zero] at e1
      refine e_53 ?_; simp only [b_53, i_int, i_long, i_null, i_stat, i_iload, i_lload, i_aload, i_istore, i_astore, i_lstore, i_iinc, i_ii, i_idz, i_i, i_ll, i_lsh, i_i2l, i_l2i, i_lcmp, i_dup, i_pop, i_dup2, i_ifeq, i_ifne, i_iflt, i_ifge, i_ifgt, i_ifle, i_cmpeq, i_cmpne, i_cmplt, i_cmpge, i_cmpgt, i_cmple, i_ifnull, i_ifnonnull, i_getf, am_wr, i_putI, i_putZ, i_putR, i_iald, i_iast, i_aald, i_aast, i_alen, i_newi, i_newq, i_new, i_recv, i_iret, i_zret, i_lret, i_aret, i_vret, List.getElem?_cons_zero, List.getElem?_cons_succ, Option.bind_some, Option.toList_some, Option.toList_none, List.cons_append, List.nil_append, x_nI, am_put, List.length_cons, List.length_nil, List.set_cons_zero, List.set_cons_succ, Nat.reduceAdd, Nat.reduceLT, Nat.reduceLeDiff, Nat.reduceEqDiff, Nat.add_left_cancel_iff, Nat.add_eq_left, Nat.left_eq_add, Nat.succ_ne_self, Nat.reduceSub, reduceIte, ite_self, eq_self, or_true, true_or, or_false, false_or, or_self, i10, not_true_eq_false, not_false_eq_true, x_call1, x_call2, x_call3, x_call4, x_call5, x_call6, x_sl0, x_sli, x_slr, x_sln, x_sll, am_ent, List.map_nil, List.map_cons, List.sum_nil, List.sum_cons, Value.category, and_true, true_and, and_self, Nat.zero_le, List.replicate_succ, List.replicate_zero, List.reduceReplicate, x_obj_set, x_row_set, x_len_set, x_obx, x_rox, x_rv, x_obj a0, hc, x_refs a4, x_ix (show k < 5 by omega) (show k < 2147483648 by omega), a5 k (show k < 5 by omega), x_obj q0, sg_raw, c, decide_false, bz_false, nI_1]
      exact e1
theorem sg_nr_le (s : sg_S) : sg_nr s ≤ s.2.2.1 := by
  have : sg_nr s ≤ sg_sum (fun _ => 1) s.2.2.1 := sg_sum_le (fun k _ => by split <;> omega)
  rw [sg_sum_const, Nat.mul_one] at this
  exact this
theorem k_recordBytes {d b : Nat} {A : am_H} {s : sg_S} {ρ : Nat → sg_R} (hst : am_St A) (h : ST b A s ρ) : pev (d + 3) 52 [some (.ref b), none, none] [] A = some (some (.int (nI (sg_rs s))), A) := by
  have e1 := k_recordVariables (d := d + 2) h
  obtain ⟨hs, -, ⟨g1, g2, g3, q, a0, a1, a2, a3, a4, a5, a6, a7⟩, -⟩ := id h
  have h5 := hs.2.2.1
  have hnr := sg_nr_le s
  have ee : (nI (sg_nr s) = (1 : Int32)) = (sg_nr s = 1) := o_eq (b := 1) (by omega) (by decide)
  unfold sg_rs
  by_cases c : sg_nr s = 1
  · have e2 := k_recordBytes1 (d := d) hst h c s.2.2.1 0 (by omega)
    refine e_52 ?_; simp only [b_52, i_int, i_long, i_null, i_stat, i_iload, i_lload, i_aload, i_istore, i_astore, i_lstore, i_iinc, i_ii, i_idz, i_i, i_ll, i_lsh, i_i2l, i_l2i, i_lcmp, i_dup, i_pop, i_dup2, i_ifeq, i_ifne, i_iflt, i_ifge, i_ifgt, i_ifle, i_cmpeq, i_cmpne, i_cmplt, i_cmpge, i_cmpgt, i_cmple, i_ifnull, i_ifnonnull, i_getf, am_wr, i_putI, i_putZ, i_putR, i_iald, i_iast, i_aald, i_aast, i_alen, i_newi, i_newq, i_new, i_recv, i_iret, i_zret, i_lret, i_aret, i_vret, List.getElem?_cons_zero, List.getElem?_cons_succ, Option.bind_some, Option.toList_some, Option.toList_none, List.cons_append, List.nil_append, x_nI, am_put, List.length_cons, List.length_nil, List.set_cons_zero, List.set_cons_succ, Nat.reduceAdd, Nat.reduceLT, Nat.reduceLeDiff, Nat.reduceEqDiff, Nat.add_left_cancel_iff, Nat.add_eq_left, Nat.left_eq_add, Nat.succ_ne_self, Nat.reduceSub, reduceIte, ite_self, eq_self, or_true, true_or, or_false, false_or, or_self, i10, not_true_eq_false, not_false_eq_true, x_call1, x_call2, x_call3, x_call4, x_call5, x_call6, x_sl0, x_sli, x_slr, x_sln, x_sll, am_ent, List.map_nil, List.map_cons, List.sum_nil, List.sum_cons, Value.category, and_true, true_and, and_self, Nat.zero_le, List.replicate_succ, List.replicate_zero, List.reduceReplicate, x_obj_set, x_row_set, x_len_set, x_obx, x_rox, x_rv, x_obj a0, e1, ee, c]
    exact e2
  · have e2 := k_paddedBytes (d := d) (g := true) hst h (Nat.le_refl _)
    rw [pb_t, bz_true] at e2
    refine e_52 ?_; simp only [b_52, i_int, i_long, i_null, i_stat, i_iload, i_lload, i_aload, i_istore, i_astore, i_lstore, i_iinc, i_ii, i_idz, i_i, i_ll, i_lsh, i_i2l, i_l2i, i_lcmp, i_dup, i_pop, i_dup2, i_ifeq, i_ifne, i_iflt, i_ifge, i_ifgt, i_ifle, i_cmpeq, i_cmpne, i_cmplt, i_cmpge, i_cmpgt, i_cmple, i_ifnull, i_ifnonnull, i_getf, am_wr, i_putI, i_putZ, i_putR, i_iald, i_iast, i_aald, i_aast, i_alen, i_newi, i_newq, i_new, i_recv, i_iret, i_zret, i_lret, i_aret, i_vret, List.getElem?_cons_zero, List.getElem?_cons_succ, Option.bind_some, Option.toList_some, Option.toList_none, List.cons_append, List.nil_append, x_nI, am_put, List.length_cons, List.length_nil, List.set_cons_zero, List.set_cons_succ, Nat.reduceAdd, Nat.reduceLT, Nat.reduceLeDiff, Nat.reduceEqDiff, Nat.add_left_cancel_iff, Nat.add_eq_left, Nat.left_eq_add, Nat.succ_ne_self, Nat.reduceSub, reduceIte, ite_self, eq_self, or_true, true_or, or_false, false_or, or_self, i10, not_true_eq_false, not_false_eq_true, x_call1, x_call2, x_call3, x_call4, x_call5, x_call6, x_sl0, x_sli, x_slr, x_sln, x_sll, am_ent, List.map_nil, List.map_cons, List.sum_nil, List.sum_cons, Value.category, and_true, true_and, and_self, Nat.zero_le, List.replicate_succ, List.replicate_zero, List.reduceReplicate, x_obj_set, x_row_set, x_len_set, x_obx, x_rox, x_rv, x_obj a0, e1, ee, c, e2]
theorem ls_le {a : sg_A} (h : a.1 ≤ 3) : sg_ls a ≤ 80 := by
  have h1 : sg_sum (fun k => 16 + pad4 (2 * wd (a.2.2.1 k))) a.1 ≤ sg_sum (fun _ => 24) a.1 := sg_sum_le (fun k _ => by
    have := pad4_le8 (wd_le (a.2.2.1 k))
    omega)
  rw [sg_sum_const] at h1
  unfold sg_ls
  omega
theorem ps_le {s : sg_S} {v : Nat} (h : STv s) (hv : v < s.2.2.1) : sg_ps s v ≤ 256 := by
  have h0 := h.l0 hv
  have h1 := h.l1 hv
  have hw := wd_le (s.2.2.2.1 v).2.1
  unfold sg_ps sg_cn
  have a1 : (if sg_l0 s v = 0 then 1 else sg_l0 s v) * sg_l1 s v ≤ 8 * 8 := Nat.mul_le_mul (by split <;> omega) h1
  have a2 : (if sg_l0 s v = 0 then 1 else sg_l0 s v) * sg_l1 s v * wd (s.2.2.2.1 v).2.1 ≤ 8 * 8 * 4 := Nat.mul_le_mul a1 hw
  generalize (if sg_l0 s v = 0 then 1 else sg_l0 s v) * sg_l1 s v * wd (s.2.2.2.1 v).2.1 = z at a2
  unfold pad4
  omega
theorem pb_le {s : sg_S} (h : STv s) (g : Bool) {n : Nat} (hn : n ≤ s.2.2.1) : pb s g n ≤ 1280 := by
  have h1 : pb s g n ≤ sg_sum (fun _ => 256) n := sg_sum_le (fun k hk => by
    have := ps_le h (show k < s.2.2.1 by omega)
    split <;> omega)
  rw [sg_sum_const] at h1
  have := h.2.2.1
  omega
theorem rs_le {s : sg_S} (h : STv s) : sg_rs s ≤ 1280 := by
  unfold sg_rs
  split
  · have h1 : sg_sum (fun v => if sg_l0 s v = 0 then sg_l1 s v * wd (s.2.2.2.1 v).2.1 else 0) s.2.2.1 ≤ sg_sum (fun _ => 32) s.2.2.1 := sg_sum_le (fun k hk => by
      have := Nat.mul_le_mul (h.l1 hk) (wd_le (s.2.2.2.1 k).2.1)
      split <;> omega)
    rw [sg_sum_const] at h1
    have := h.2.2.1
    omega
  · rw [← pb_t]
    exact pb_le h true (Nat.le_refl _)
theorem ST.hs_le {b : Nat} {A : am_H} {s : sg_S} {ρ : Nat → sg_R} (h : ST b A s ρ) : sg_hs s ≤ 1000 := by
  have hs := h.1
  have a1 : sg_ls s.2.1 ≤ 80 := by
    obtain ⟨_, _, _, hA, -⟩ := h
    obtain ⟨_, _, _, _, _, _, _, _, _, q, _⟩ := hA
    exact ls_le q
  have a2 : sg_sum (fun v => 24 + 4 * (s.2.2.2.1 v).2.2.1 + sg_ls (s.2.2.2.1 v).2.2.2.2.1) s.2.2.1 ≤ sg_sum (fun _ => 112) s.2.2.1 := sg_sum_le (fun v hv => by
    have b1 := (hs.2.2.2.1 v hv).2.1
    obtain ⟨_, _, _, _, hA, _⟩ := h.var hv
    obtain ⟨_, _, _, _, _, _, _, _, _, q, _⟩ := hA
    have b2 := ls_le q
    simp only [sg_raw] at b2
    omega)
  rw [sg_sum_const] at a2
  have := hs.2.2.1
  have := hs.1
  unfold sg_hs
  omega
theorem k_imageBytes {d b r : Nat} {A : am_H} {s : sg_S} {ρ : Nat → sg_R} (hst : am_St A) (h : ST b A s ρ) : pev (d + 4) 40 [some (.ref b), some (.long (lN r)), none] [] A = some (some (.long (lN (sg_tot s r))), A) := by
  have e1 := k_sheader (d := d) hst h
  have e2 := k_paddedBytes (d := d + 1) (g := false) hst h (Nat.le_refl _)
  rw [pb_f, bz_false] at e2
  have e3 := k_recordBytes (d := d) hst h
  have b1 := h.hs_le
  have b2 := pb_le h.1 false (Nat.le_refl s.2.2.1)
  have b3 := rs_le h.1
  rw [pb_f] at b2
  obtain ⟨hs, -, ⟨g1, g2, g3, q, a0, a1, a2, a3, a4, a5, a6, a7⟩, -⟩ := id h
  refine e_40 ?_; simp only [b_40, i_int, i_long, i_null, i_stat, i_iload, i_lload, i_aload, i_istore, i_astore, i_lstore, i_iinc, i_ii, i_idz, i_i, i_ll, i_lsh, i_i2l, i_l2i, i_lcmp, i_dup, i_pop, i_dup2, i_ifeq, i_ifne, i_iflt, i_ifge, i_ifgt, i_ifle, i_cmpeq, i_cmpne, i_cmplt, i_cmpge, i_cmpgt, i_cmple, i_ifnull, i_ifnonnull, i_getf, am_wr, i_putI, i_putZ, i_putR, i_iald, i_iast, i_aald, i_aast, i_alen, i_newi, i_newq, i_new, i_recv, i_iret, i_zret, i_lret, i_aret, i_vret, List.getElem?_cons_zero, List.getElem?_cons_succ, Option.bind_some, Option.toList_some, Option.toList_none, List.cons_append, List.nil_append, x_nI, am_put, List.length_cons, List.length_nil, List.set_cons_zero, List.set_cons_succ, Nat.reduceAdd, Nat.reduceLT, Nat.reduceLeDiff, Nat.reduceEqDiff, Nat.add_left_cancel_iff, Nat.add_eq_left, Nat.left_eq_add, Nat.succ_ne_self, Nat.reduceSub, reduceIte, ite_self, eq_self, or_true, true_or, or_false, false_or, or_self, i10, not_true_eq_false, not_false_eq_true, x_call1, x_call2, x_call3, x_call4, x_call5, x_call6, x_sl0, x_sli, x_slr, x_sln, x_sll, am_ent, List.map_nil, List.map_cons, List.sum_nil, List.sum_cons, Value.category, and_true, true_and, and_self, Nat.zero_le, List.replicate_succ, List.replicate_zero, List.reduceReplicate, x_obj_set, x_row_set, x_len_set, x_obx, x_rox, x_rv, x_obj a0, e1, e2, e3, nI_add, nI_l (show sg_hs s + sg_pf s s.2.2.1 < 2 ^ 31 by omega), nI_l (show sg_rs s < 2 ^ 31 by omega), lN_mul, lN_add]
  rfl
theorem k_beginOf {d b v : Nat} {A : am_H} {s : sg_S} {ρ : Nat → sg_R} (hst : am_St A) (h : ST b A s ρ) (hv : v < s.2.2.1) : pev (d + 4) 82 [some (.ref b), some (.int (nI v))] [] A = some (some (.int (nI (sg_bg s v))), A) := by
  have e1 := k_sheader (d := d) hst h
  have e2 := k_paddedBytes (d := d + 1) (g := false) hst h (Nat.le_refl _)
  have e3 := k_paddedBytes (d := d + 1) (g := false) hst h (show v ≤ s.2.2.1 by omega)
  have e4 := k_paddedBytes (d := d + 1) (g := true) hst h (show v ≤ s.2.2.1 by omega)
  rw [pb_f, bz_false] at e2 e3
  rw [pb_t, bz_true] at e4
  obtain ⟨gg, q0, -⟩ := h.var hv
  obtain ⟨hs, -, ⟨g1, g2, g3, q, a0, a1, a2, a3, a4, a5, a6, a7⟩, -⟩ := id h
  have h5 := hs.2.2.1
  unfold sg_bg
  by_cases c : sg_l0 s v = 0
  · rw [if_pos c]
    refine e_82 ?_; simp only [b_82, i_int, i_long, i_null, i_stat, i_iload, i_lload, i_aload, i_istore, i_astore, i_lstore, i_iinc, i_ii, i_idz, i_i, i_ll, i_lsh, i_i2l, i_l2i, i_lcmp, i_dup, i_pop, i_dup2, i_ifeq, i_ifne, i_iflt, i_ifge, i_ifgt, i_ifle, i_cmpeq, i_cmpne, i_cmplt, i_cmpge, i_cmpgt, i_cmple, i_ifnull, i_ifnonnull, i_getf, am_wr, i_putI, i_putZ, i_putR, i_iald, i_iast, i_aald, i_aast, i_alen, i_newi, i_newq, i_new, i_recv, i_iret, i_zret, i_lret, i_aret, i_vret, List.getElem?_cons_zero, List.getElem?_cons_succ, Option.bind_some, Option.toList_some, Option.toList_none, List.cons_append, List.nil_append, x_nI, am_put, List.length_cons, List.length_nil, List.set_cons_zero, List.set_cons_succ, Nat.reduceAdd, Nat.reduceLT, Nat.reduceLeDiff, Nat.reduceEqDiff, Nat.add_left_cancel_iff, Nat.add_eq_left, Nat.left_eq_add, Nat.succ_ne_self, Nat.reduceSub, reduceIte, ite_self, eq_self, or_true, true_or, or_false, false_or, or_self, i10, not_true_eq_false, not_false_eq_true, x_call1, x_call2, x_call3, x_call4, x_call5, x_call6, x_sl0, x_sli, x_slr, x_sln, x_sll, am_ent, List.map_nil, List.map_cons, List.sum_nil, List.sum_cons, Value.category, and_true, true_and, and_self, Nat.zero_le, List.replicate_succ, List.replicate_zero, List.reduceReplicate, x_obj_set, x_row_set, x_len_set, x_obx, x_rox, x_rv, x_obj a0, x_refs a4, x_ix (show v < 5 by omega) (show v < 2147483648 by omega), a5 v (show v < 5 by omega), x_obj q0, sg_raw, c, decide_true, bz_true, e1, e2, e4, nI_add]
  · rw [if_neg c]
    refine e_82 ?_; simp only [b_82, i_int, i_long, i_null, i_stat, i_iload, i_lload, i_aload, i_istore, i_astore, i_lstore, i_iinc, i_ii, i_idz, i_i, i_ll, i_lsh, i_i2l, i_l2i, i_lcmp, i_dup, i_pop, i_dup2, i_ifeq, i_ifne, i_iflt, i_ifge, i_ifgt, i_ifle, i_cmpeq, i_cmpne, i_cmplt, i_cmpge, i_cmpgt, i_cmple, i_ifnull, i_ifnonnull, i_getf, am_wr, i_putI, i_putZ, i_putR, i_iald, i_iast, i_aald, i_aast, i_alen, i_newi, i_newq, i_new, i_recv, i_iret, i_zret, i_lret, i_aret, i_vret, List.getElem?_cons_zero, List.getElem?_cons_succ, Option.bind_some, Option.toList_some, Option.toList_none, List.cons_append, List.nil_append, x_nI, am_put, List.length_cons, List.length_nil, List.set_cons_zero, List.set_cons_succ, Nat.reduceAdd, Nat.reduceLT, Nat.reduceLeDiff, Nat.reduceEqDiff, Nat.add_left_cancel_iff, Nat.add_eq_left, Nat.left_eq_add, Nat.succ_ne_self, Nat.reduceSub, reduceIte, ite_self, eq_self, or_true, true_or, or_false, false_or, or_self, i10, not_true_eq_false, not_false_eq_true, x_call1, x_call2, x_call3, x_call4, x_call5, x_call6, x_sl0, x_sli, x_slr, x_sln, x_sll, am_ent, List.map_nil, List.map_cons, List.sum_nil, List.sum_cons, Value.category, and_true, true_and, and_self, Nat.zero_le, List.replicate_succ, List.replicate_zero, List.reduceReplicate, x_obj_set, x_row_set, x_len_set, x_obx, x_rox, x_rv, x_obj a0, x_refs a4, x_ix (show v < 5 by omega) (show v < 2147483648 by omega), a5 v (show v < 5 by omega), x_obj q0, sg_raw, c, decide_false, bz_false, e1, e3, nI_add]
