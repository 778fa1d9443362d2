/-! where a variable begins; the size of a record, of all -/
def bgF (s : sg_S) (L : Bool) (v k : Nat) : Nat := if sg_l0 s k = 0 then (if L = true ∧ v < s.2.2.1 ∧ k < v then sg_ps s k else 0) else (if L = true ∨ k < v then sg_ps s k else 0)
theorem n_beginOf1 {d b h v : Nat} {A : am_H} {R : Nat → Nat → Int32} {f : mo_F} {s : sg_S} {L : Bool} (hM : MM b A R f) (hS : MS R h s) (hv : v ≤ s.2.2.1) : ∀ (m k : Nat), k + m = s.2.2.1 → ∀ o : Option Value, pev (d + 3) 181 [some (.ref b), some (.int (nI h)), some (.int (nI v)), some (.int (bz L)), some (.int (nI (sg_hs s + sg_sum (bgF s L v) k))), some (.int (nI k)), o] [] A = some (some (.int (nI (sg_hs s + sg_sum (bgF s L v) s.2.2.1))), A) := by
  have h5 := hS.1.2.2.1
  have hh := hS.2.1
  have hn := hS.2.2.1.2.1
  have ixh := x_ix hh (show h < 2147483648 by omega)
  intro m
  induction m with
  | zero =>
    intro k hk o
    have hka : k = s.2.2.1 := by omega
    subst hka
    refine e_181 ?_; simp only [b_181, i_int, i_long, i_null, i_stat, i_iload, i_lload, i_aload, i_istore, i_astore, i_lstore, i_iinc, i_ii, i_idz, i_i, i_ll, i_lsh, i_i2l, i_l2i, i_lcmp, i_dup, i_pop, i_dup2, i_ifeq, i_ifne, i_iflt, i_ifge, i_ifgt, i_ifle, i_cmpeq, i_cmpne, i_cmplt, i_cmpge, i_cmpgt, i_cmple, i_ifnull, i_ifnonnull, i_getf, am_wr, i_putI, i_putZ, i_putR, i_iald, i_iast, i_aald, i_aast, i_alen, i_newi, i_newq, i_new, i_recv, i_iret, i_zret, i_lret, i_aret, i_vret, List.getElem?_cons_zero, List.getElem?_cons_succ, Option.bind_some, Option.toList_some, Option.toList_none, List.cons_append, List.nil_append, x_nI, am_put, List.length_cons, List.length_nil, List.set_cons_zero, List.set_cons_succ, Nat.reduceAdd, Nat.reduceLT, Nat.reduceLeDiff, Nat.reduceEqDiff, Nat.add_left_cancel_iff, Nat.add_eq_left, Nat.left_eq_add, Nat.succ_ne_self, Nat.reduceSub, reduceIte, ite_self, eq_self, or_true, true_or, or_false, false_or, or_self, i10, not_true_eq_false, not_false_eq_true, x_call1, x_call2, x_call3, x_call4, x_call5, x_call6, x_sl0, x_sli, x_slr, x_sln, x_sll, am_ent, List.map_nil, List.map_cons, List.sum_nil, List.sum_cons, Value.category, and_true, true_and, and_self, Nat.zero_le, List.replicate_succ, List.replicate_zero, List.reduceReplicate, x_obj_set, x_row_set, x_len_set, x_obx, x_rox, x_rv, x_obj hM.1, mo_obj, x_row (show A.2.2 (b + 4) = some (.inl (0, 2, R 4)) from hM.2.2 4 (by decide) (by decide)), ixh, hn, show nI s.2.2.1 ≤ nI s.2.2.1 from nI_le (Nat.le_refl _) (by omega)]
  | succ m ih =>
    intro k hk o
    have er := n_isRecord (d := d + 1) hM hS (show k < s.2.2.1 by omega)
    have ep := n_padded (d := d) hM hS (show k < s.2.2.1 by omega)
    have hc : ¬ nI s.2.2.1 ≤ nI k := nI_ge (by omega) (by omega)
    have ekv : (nI v ≤ nI k) = (v ≤ k) := o_le (by omega) (by omega)
    have enl : (nI s.2.2.1 ≤ nI v) = (s.2.2.1 ≤ v) := o_le (by omega) (by omega)
    have t1 : ∀ o : Option Value, bgF s L v k = sg_ps s k → pev (d + 3) 182 [some (.ref b), some (.int (nI h)), some (.int (nI v)), some (.int (bz L)), some (.int (nI (sg_hs s + sg_sum (bgF s L v) k))), some (.int (nI k)), o] [.int 1] A = some (some (.int (nI (sg_hs s + sg_sum (bgF s L v) s.2.2.1))), A) := by
      intro o hF
      have e1 := ih (k + 1) (by omega) (some (.int 1))
      rw [sg_sum, hF, ← Nat.add_assoc] at e1
      refine e_182 ?_; simp only [b_182, i_int, i_long, i_null, i_stat, i_iload, i_lload, i_aload, i_istore, i_astore, i_lstore, i_iinc, i_ii, i_idz, i_i, i_ll, i_lsh, i_i2l, i_l2i, i_lcmp, i_dup, i_pop, i_dup2, i_ifeq, i_ifne, i_iflt, i_ifge, i_ifgt, i_ifle, i_cmpeq, i_cmpne, i_cmplt, i_cmpge, i_cmpgt, i_cmple, i_ifnull, i_ifnonnull, i_getf, am_wr, i_putI, i_putZ, i_putR, i_iald, i_iast, i_aald, i_aast, i_alen, i_newi, i_newq, i_new, i_recv, i_iret, i_zret, i_lret, i_aret, i_vret, List.getElem?_cons_zero, List.getElem?_cons_succ, Option.bind_some, Option.toList_some, Option.toList_none, List.cons_append, List.nil_append, x_nI, am_put, List.length_cons, List.length_nil, List.set_cons_zero, List.set_cons_succ, Nat.reduceAdd, Nat.reduceLT, Nat.reduceLeDiff, Nat.reduceEqDiff, Nat.add_left_cancel_iff, Nat.add_eq_left, Nat.left_eq_add, Nat.succ_ne_self, Nat.reduceSub, reduceIte, ite_self, eq_self, or_true, true_or, or_false, false_or, or_self, i10, not_true_eq_false, not_false_eq_true, x_call1, x_call2, x_call3, x_call4, x_call5, x_call6, x_sl0, x_sli, x_slr, x_sln, x_sll, am_ent, List.map_nil, List.map_cons, List.sum_nil, List.sum_cons, Value.category, and_true, true_and, and_self, Nat.zero_le, List.replicate_succ, List.replicate_zero, List.reduceReplicate, x_obj_set, x_row_set, x_len_set, x_obx, x_rox, x_rv, x_obj hM.1, ep, nI_add, nI_1]
      exact e1
    have t0 : ∀ o : Option Value, bgF s L v k = 0 → pev (d + 3) 182 [some (.ref b), some (.int (nI h)), some (.int (nI v)), some (.int (bz L)), some (.int (nI (sg_hs s + sg_sum (bgF s L v) k))), some (.int (nI k)), o] [.int 0] A = some (some (.int (nI (sg_hs s + sg_sum (bgF s L v) s.2.2.1))), A) := by
      intro o hF
      have e1 := ih (k + 1) (by omega) (some (.int 0))
      rw [sg_sum, hF, Nat.add_zero] at e1
      refine e_182 ?_; simp only [b_182, i_int, i_long, i_null, i_stat, i_iload, i_lload, i_aload, i_istore, i_astore, i_lstore, i_iinc, i_ii, i_idz, i_i, i_ll, i_lsh, i_i2l, i_l2i, i_lcmp, i_dup, i_pop, i_dup2, i_ifeq, i_ifne, i_iflt, i_ifge, i_ifgt, i_ifle, i_cmpeq, i_cmpne, i_cmplt, i_cmpge, i_cmpgt, i_cmple, i_ifnull, i_ifnonnull, i_getf, am_wr, i_putI, i_putZ, i_putR, i_iald, i_iast, i_aald, i_aast, i_alen, i_newi, i_newq, i_new, i_recv, i_iret, i_zret, i_lret, i_aret, i_vret, List.getElem?_cons_zero, List.getElem?_cons_succ, Option.bind_some, Option.toList_some, Option.toList_none, List.cons_append, List.nil_append, x_nI, am_put, List.length_cons, List.length_nil, List.set_cons_zero, List.set_cons_succ, Nat.reduceAdd, Nat.reduceLT, Nat.reduceLeDiff, Nat.reduceEqDiff, Nat.add_left_cancel_iff, Nat.add_eq_left, Nat.left_eq_add, Nat.succ_ne_self, Nat.reduceSub, reduceIte, ite_self, eq_self, or_true, true_or, or_false, false_or, or_self, i10, not_true_eq_false, not_false_eq_true, x_call1, x_call2, x_call3, x_call4, x_call5, x_call6, x_sl0, x_sli, x_slr, x_sln, x_sll, am_ent, List.map_nil, List.map_cons, List.sum_nil, List.sum_cons, Value.category, and_true, true_and, and_self, Nat.zero_le, List.replicate_succ, List.replicate_zero, List.reduceReplicate, x_obj_set, x_row_set, x_len_set, x_obx, x_rox, x_rv, nI_1]
      exact e1
    by_cases c : sg_l0 s k = 0
    · cases L with
      | false =>
        have e1 := t0 o (by unfold bgF; rw [if_pos c, if_neg (fun e => by cases e.1)])
        rw [bz_false] at e1 ⊢
        refine e_181 ?_; simp only [b_181, i_int, i_long, i_null, i_stat, i_iload, i_lload, i_aload, i_istore, i_astore, i_lstore, i_iinc, i_ii, i_idz, i_i, i_ll, i_lsh, i_i2l, i_l2i, i_lcmp, i_dup, i_pop, i_dup2, i_ifeq, i_ifne, i_iflt, i_ifge, i_ifgt, i_ifle, i_cmpeq, i_cmpne, i_cmplt, i_cmpge, i_cmpgt, i_cmple, i_ifnull, i_ifnonnull, i_getf, am_wr, i_putI, i_putZ, i_putR, i_iald, i_iast, i_aald, i_aast, i_alen, i_newi, i_newq, i_new, i_recv, i_iret, i_zret, i_lret, i_aret, i_vret, List.getElem?_cons_zero, List.getElem?_cons_succ, Option.bind_some, Option.toList_some, Option.toList_none, List.cons_append, List.nil_append, x_nI, am_put, List.length_cons, List.length_nil, List.set_cons_zero, List.set_cons_succ, Nat.reduceAdd, Nat.reduceLT, Nat.reduceLeDiff, Nat.reduceEqDiff, Nat.add_left_cancel_iff, Nat.add_eq_left, Nat.left_eq_add, Nat.succ_ne_self, Nat.reduceSub, reduceIte, ite_self, eq_self, or_true, true_or, or_false, false_or, or_self, i10, not_true_eq_false, not_false_eq_true, x_call1, x_call2, x_call3, x_call4, x_call5, x_call6, x_sl0, x_sli, x_slr, x_sln, x_sll, am_ent, List.map_nil, List.map_cons, List.sum_nil, List.sum_cons, Value.category, and_true, true_and, and_self, Nat.zero_le, List.replicate_succ, List.replicate_zero, List.reduceReplicate, x_obj_set, x_row_set, x_len_set, x_obx, x_rox, x_rv, x_obj hM.1, mo_obj, x_row (show A.2.2 (b + 4) = some (.inl (0, 2, R 4)) from hM.2.2 4 (by decide) (by decide)), ixh, hn, hc, er, c, decide_true, bz_true]
        exact e1
      | true =>
        by_cases c2 : v < s.2.2.1
        · by_cases c3 : k < v
          · have e1 := t1 o (by unfold bgF; rw [if_pos c, if_pos ⟨rfl, c2, c3⟩])
            rw [bz_true] at e1 ⊢
            refine e_181 ?_; simp only [b_181, i_int, i_long, i_null, i_stat, i_iload, i_lload, i_aload, i_istore, i_astore, i_lstore, i_iinc, i_ii, i_idz, i_i, i_ll, i_lsh, i_i2l, i_l2i, i_lcmp, i_dup, i_pop, i_dup2, i_ifeq, i_ifne, i_iflt, i_ifge, i_ifgt, i_ifle, i_cmpeq, i_cmpne, i_cmplt, i_cmpge, i_cmpgt, i_cmple, i_ifnull, i_ifnonnull, i_getf, am_wr, i_putI, i_putZ, i_putR, i_iald, i_iast, i_aald, i_aast, i_alen, i_newi, i_newq, i_new, i_recv, i_iret, i_zret, i_lret, i_aret, i_vret, List.getElem?_cons_zero, List.getElem?_cons_succ, Option.bind_some, Option.toList_some, Option.toList_none, List.cons_append, List.nil_append, x_nI, am_put, List.length_cons, List.length_nil, List.set_cons_zero, List.set_cons_succ, Nat.reduceAdd, Nat.reduceLT, Nat.reduceLeDiff, Nat.reduceEqDiff, Nat.add_left_cancel_iff, Nat.add_eq_left, Nat.left_eq_add, Nat.succ_ne_self, Nat.reduceSub, reduceIte, ite_self, eq_self, or_true, true_or, or_false, false_or, or_self, i10, not_true_eq_false, not_false_eq_true, x_call1, x_call2, x_call3, x_call4, x_call5, x_call6, x_sl0, x_sli, x_slr, x_sln, x_sll, am_ent, List.map_nil, List.map_cons, List.sum_nil, List.sum_cons, Value.category, and_true, true_and, and_self, Nat.zero_le, List.replicate_succ, List.replicate_zero, List.reduceReplicate, x_obj_set, x_row_set, x_len_set, x_obx, x_rox, x_rv, x_obj hM.1, mo_obj, x_row (show A.2.2 (b + 4) = some (.inl (0, 2, R 4)) from hM.2.2 4 (by decide) (by decide)), ixh, hn, hc, er, c, decide_true, bz_true, enl, ekv, show ¬ s.2.2.1 ≤ v by omega, show ¬ v ≤ k by omega]
            exact e1
          · have e1 := t0 o (by unfold bgF; rw [if_pos c, if_neg (fun e => c3 e.2.2)])
            rw [bz_true] at e1 ⊢
            refine e_181 ?_; simp only [b_181, i_int, i_long, i_null, i_stat, i_iload, i_lload, i_aload, i_istore, i_astore, i_lstore, i_iinc, i_ii, i_idz, i_i, i_ll, i_lsh, i_i2l, i_l2i, i_lcmp, i_dup, i_pop, i_dup2, i_ifeq, i_ifne, i_iflt, i_ifge, i_ifgt, i_ifle, i_cmpeq, i_cmpne, i_cmplt, i_cmpge, i_cmpgt, i_cmple, i_ifnull, i_ifnonnull, i_getf, am_wr, i_putI, i_putZ, i_putR, i_iald, i_iast, i_aald, i_aast, i_alen, i_newi, i_newq, i_new, i_recv, i_iret, i_zret, i_lret, i_aret, i_vret, List.getElem?_cons_zero, List.getElem?_cons_succ, Option.bind_some, Option.toList_some, Option.toList_none, List.cons_append, List.nil_append, x_nI, am_put, List.length_cons, List.length_nil, List.set_cons_zero, List.set_cons_succ, Nat.reduceAdd, Nat.reduceLT, Nat.reduceLeDiff, Nat.reduceEqDiff, Nat.add_left_cancel_iff, Nat.add_eq_left, Nat.left_eq_add, Nat.succ_ne_self, Nat.reduceSub, reduceIte, ite_self, eq_self, or_true, true_or, or_false, false_or, or_self, i10, not_true_eq_false, not_false_eq_true, x_call1, x_call2, x_call3, x_call4, x_call5, x_call6, x_sl0, x_sli, x_slr, x_sln, x_sll, am_ent, List.map_nil, List.map_cons, List.sum_nil, List.sum_cons, Value.category, and_true, true_and, and_self, Nat.zero_le, List.replicate_succ, List.replicate_zero, List.reduceReplicate, x_obj_set, x_row_set, x_len_set, x_obx, x_rox, x_rv, x_obj hM.1, mo_obj, x_row (show A.2.2 (b + 4) = some (.inl (0, 2, R 4)) from hM.2.2 4 (by decide) (by decide)), ixh, hn, hc, er, c, decide_true, bz_true, enl, ekv, show ¬ s.2.2.1 ≤ v by omega, show v ≤ k by omega]
            exact e1
        · have e1 := t0 o (by unfold bgF; rw [if_pos c, if_neg (fun e => c2 e.2.1)])
          rw [bz_true] at e1 ⊢
          refine e_181 ?_; simp only [b_181, i_int, i_long, i_null, i_stat, i_iload, i_lload, i_aload, i_istore, i_astore, i_lstore, i_iinc, i_ii, i_idz, i_i, i_ll, i_lsh, i_i2l, i_l2i, i_lcmp, i_dup, i_pop, i_dup2, i_ifeq, i_ifne, i_iflt, i_ifge, i_ifgt, i_ifle, i_cmpeq, i_cmpne, i_cmplt, i_cmpge, i_cmpgt, i_cmple, i_ifnull, i_ifnonnull, i_getf, am_wr, i_putI, i_putZ, i_putR, i_iald, i_iast, i_aald, i_aast, i_alen, i_newi, i_newq, i_new, i_recv, i_iret, i_zret, i_lret, i_aret, i_vret, List.getElem?_cons_zero, List.getElem?_cons_succ, Option.bind_some, Option.toList_some, Option.toList_none, List.cons_append, List.nil_append, x_nI, am_put, List.length_cons, List.length_nil, List.set_cons_zero, List.set_cons_succ, Nat.reduceAdd, Nat.reduceLT, Nat.reduceLeDiff, Nat.reduceEqDiff, Nat.add_left_cancel_iff, Nat.add_eq_left, Nat.left_eq_add, Nat.succ_ne_self, Nat.reduceSub, reduceIte, ite_self, eq_self, or_true, true_or, or_false, false_or, or_self, i10, not_true_eq_false, not_false_eq_true, x_call1, x_call2, x_call3, x_call4, x_call5, x_call6, x_sl0, x_sli, x_slr, x_sln, x_sll, am_ent, List.map_nil, List.map_cons, List.sum_nil, List.sum_cons, Value.category, and_true, true_and, and_self, Nat.zero_le, List.replicate_succ, List.replicate_zero, List.reduceReplicate, x_obj_set, x_row_set, x_len_set, x_obx, x_rox, x_rv, x_obj hM.1, mo_obj, x_row (show A.2.2 (b + 4) = some (.inl (0, 2, R 4)) from hM.2.2 4 (by decide) (by decide)), ixh, hn, hc, er, c, decide_true, bz_true, enl, show s.2.2.1 ≤ v by omega]
          exact e1
    · cases L with
      | true =>
        have e1 := t1 o (by unfold bgF; rw [if_neg c, if_pos (Or.inl rfl)])
        rw [bz_true] at e1 ⊢
        refine e_181 ?_; simp only [b_181, i_int, i_long, i_null, i_stat, i_iload, i_lload, i_aload, i_istore, i_astore, i_lstore, i_iinc, i_ii, i_idz, i_i, i_ll, i_lsh, i_i2l, i_l2i, i_lcmp, i_dup, i_pop, i_dup2, i_ifeq, i_ifne, i_iflt, i_ifge, i_ifgt, i_ifle, i_cmpeq, i_cmpne, i_cmplt, i_cmpge, i_cmpgt, i_cmple, i_ifnull, i_ifnonnull, i_getf, am_wr, i_putI, i_putZ, i_putR, i_iald, i_iast, i_aald, i_aast, i_alen, i_newi, i_newq, i_new, i_recv, i_iret, i_zret, i_lret, i_aret, i_vret, List.getElem?_cons_zero, List.getElem?_cons_succ, Option.bind_some, Option.toList_some, Option.toList_none, List.cons_append, List.nil_append, x_nI, am_put, List.length_cons, List.length_nil, List.set_cons_zero, List.set_cons_succ, Nat.reduceAdd, Nat.reduceLT, Nat.reduceLeDiff, Nat.reduceEqDiff, Nat.add_left_cancel_iff, Nat.add_eq_left, Nat.left_eq_add, Nat.succ_ne_self, Nat.reduceSub, reduceIte, ite_self, eq_self, or_true, true_or, or_false, false_or, or_self, i10, not_true_eq_false, not_false_eq_true, x_call1, x_call2, x_call3, x_call4, x_call5, x_call6, x_sl0, x_sli, x_slr, x_sln, x_sll, am_ent, List.map_nil, List.map_cons, List.sum_nil, List.sum_cons, Value.category, and_true, true_and, and_self, Nat.zero_le, List.replicate_succ, List.replicate_zero, List.reduceReplicate, x_obj_set, x_row_set, x_len_set, x_obx, x_rox, x_rv, x_obj hM.1, mo_obj, x_row (show A.2.2 (b + 4) = some (.inl (0, 2, R 4)) from hM.2.2 4 (by decide) (by decide)), ixh, hn, hc, er, c, decide_false, bz_false]
        exact e1
      | false =>
        by_cases c3 : k < v
        · have e1 := t1 o (by unfold bgF; rw [if_neg c, if_pos (Or.inr c3)])
          rw [bz_false] at e1 ⊢
          refine e_181 ?_; simp only [b_181, i_int, i_long, i_null, i_stat, i_iload, i_lload, i_aload, i_istore, i_astore, i_lstore, i_iinc, i_ii, i_idz, i_i, i_ll, i_lsh, i_i2l, i_l2i, i_lcmp, i_dup, i_pop, i_dup2, i_ifeq, i_ifne, i_iflt, i_ifge, i_ifgt, i_ifle, i_cmpeq, i_cmpne, i_cmplt, i_cmpge, i_cmpgt, i_cmple, i_ifnull, i_ifnonnull, i_getf, am_wr, i_putI, i_putZ, i_putR, i_iald, i_iast, i_aald, i_aast, i_alen, i_newi, i_newq, i_new, i_recv, i_iret, i_zret, i_lret, i_aret, i_vret, List.getElem?_cons_zero, List.getElem?_cons_succ, Option.bind_some, Option.toList_some, Option.toList_none, List.cons_append, List.nil_append, x_nI, am_put, List.length_cons, List.length_nil, List.set_cons_zero, List.set_cons_succ, Nat.reduceAdd, Nat.reduceLT, Nat.reduceLeDiff, Nat.reduceEqDiff, Nat.add_left_cancel_iff, Nat.add_eq_left, Nat.left_eq_add, Nat.succ_ne_self, Nat.reduceSub, reduceIte, ite_self, eq_self, or_true, true_or, or_false, false_or, or_self, i10, not_true_eq_false, not_false_eq_true, x_call1, x_call2, x_call3, x_call4, x_call5, x_call6, x_sl0, x_sli, x_slr, x_sln, x_sll, am_ent, List.map_nil, List.map_cons, List.sum_nil, List.sum_cons, Value.category, and_true, true_and, and_self, Nat.zero_le, List.replicate_succ, List.replicate_zero, List.reduceReplicate, x_obj_set, x_row_set, x_len_set, x_obx, x_rox, x_rv, x_obj hM.1, mo_obj, x_row (show A.2.2 (b + 4) = some (.inl (0, 2, R 4)) from hM.2.2 4 (by decide) (by decide)), ixh, hn, hc, er, c, decide_false, bz_false, ekv, show ¬ v ≤ k by omega]
          exact e1
        · have e1 := t0 o (by unfold bgF; rw [if_neg c, if_neg (fun e => e.elim (fun q => by cases q) c3)])
          rw [bz_false] at e1 ⊢
          refine e_181 ?_; simp only [b_181, i_int, i_long, i_null, i_stat, i_iload, i_lload, i_aload, i_istore, i_astore, i_lstore, i_iinc, i_ii, i_idz, i_i, i_ll, i_lsh, i_i2l, i_l2i, i_lcmp, i_dup, i_pop, i_dup2, i_ifeq, i_ifne, i_iflt, i_ifge, i_ifgt, i_ifle, i_cmpeq, i_cmpne, i_cmplt, i_cmpge, i_cmpgt, i_cmple, i_ifnull, i_ifnonnull, i_getf, am_wr, i_putI, i_putZ, i_putR, i_iald, i_iast, i_aald, i_aast, i_alen, i_newi, i_newq, i_new, i_recv, i_iret, i_zret, i_lret, i_aret, i_vret, List.getElem?_cons_zero, List.getElem?_cons_succ, Option.bind_some, Option.toList_some, Option.toList_none, List.cons_append, List.nil_append, x_nI, am_put, List.length_cons, List.length_nil, List.set_cons_zero, List.set_cons_succ, Nat.reduceAdd, Nat.reduceLT, Nat.reduceLeDiff, Nat.reduceEqDiff, Nat.add_left_cancel_iff, Nat.add_eq_left, Nat.left_eq_add, Nat.succ_ne_self, Nat.reduceSub, reduceIte, ite_self, eq_self, or_true, true_or, or_false, false_or, or_self, i10, not_true_eq_false, not_false_eq_true, x_call1, x_call2, x_call3, x_call4, x_call5, x_call6, x_sl0, x_sli, x_slr, x_sln, x_sll, am_ent, List.map_nil, List.map_cons, List.sum_nil, List.sum_cons, Value.category, and_true, true_and, and_self, Nat.zero_le, List.replicate_succ, List.replicate_zero, List.reduceReplicate, x_obj_set, x_row_set, x_len_set, x_obx, x_rox, x_rv, x_obj hM.1, mo_obj, x_row (show A.2.2 (b + 4) = some (.inl (0, 2, R 4)) from hM.2.2 4 (by decide) (by decide)), ixh, hn, hc, er, c, decide_false, bz_false, ekv, show v ≤ k by omega]
          exact e1
theorem sum_cut {f : Nat → Nat} {v : Nat} : ∀ {n : Nat}, v ≤ n → sg_sum (fun k => if k < v then f k else 0) n = sg_sum f v := by
  intro n
  induction n with
  | zero => intro h; rw [Nat.le_zero.mp h]; rfl
  | succ n ih =>
    intro h
    rcases Nat.lt_or_ge n v with h1 | h1
    · have : v = n + 1 := by omega
      subst this
      exact sg_sum_congr (fun k hk => if_pos hk)
    · rw [sg_sum, ih h1, if_neg (by omega), Nat.add_zero]
theorem sum_two (f g : Nat → Nat) (n : Nat) : sg_sum (fun k => f k + g k) n = sg_sum f n + sg_sum g n := by
  induction n with
  | zero => rfl
  | succ n ih => rw [sg_sum, sg_sum, sg_sum, ih]; omega
theorem bgF_end (s : sg_S) : sg_sum (bgF s true s.2.2.1) s.2.2.1 = sg_pf s s.2.2.1 := by
  unfold sg_pf
  refine sg_sum_congr (fun k hk => ?_)
  unfold bgF
  by_cases c : sg_l0 s k = 0 <;> simp [c]
theorem bgF_bg {s : sg_S} {v : Nat} (hv : v < s.2.2.1) : sg_hs s + sg_sum (bgF s (decide (sg_l0 s v = 0)) v) s.2.2.1 = sg_bg s v := by
  unfold sg_bg
  by_cases c : sg_l0 s v = 0
  · rw [if_pos c]
    have e1 : sg_sum (bgF s (decide (sg_l0 s v = 0)) v) s.2.2.1 = sg_sum (fun k => (if sg_l0 s k = 0 then 0 else sg_ps s k) + (if k < v then (if sg_l0 s k = 0 then sg_ps s k else 0) else 0)) s.2.2.1 := sg_sum_congr (fun k hk => by
      unfold bgF
      by_cases c1 : sg_l0 s k = 0 <;> by_cases c2 : k < v <;> simp [c, c1, c2, hv])
    rw [e1, sum_two, sum_cut (by omega)]
    unfold sg_pf sg_pg
    omega
  · rw [if_neg c]
    have e1 : sg_sum (bgF s (decide (sg_l0 s v = 0)) v) s.2.2.1 = sg_sum (fun k => if k < v then (if sg_l0 s k = 0 then 0 else sg_ps s k) else 0) s.2.2.1 := sg_sum_congr (fun k hk => by
      unfold bgF
      by_cases c1 : sg_l0 s k = 0 <;> by_cases c2 : k < v <;> simp [c, c1, c2])
    rw [e1, sum_cut (by omega)]
    rfl
theorem n_beginOf {d b h v : Nat} {A : am_H} {R : Nat → Nat → Int32} {f : mo_F} {s : sg_S} (hM : MM b A R f) (hS : MS R h s) (hv : v < s.2.2.1) : pev (d + 3) 180 [some (.ref b), some (.int (nI h)), some (.int (nI v)), none, none, none, none] [] A = some (some (.int (nI (sg_bg s v))), A) := by
  have h5 := hS.1.2.2.1
  have hh := hS.2.1
  have hn := hS.2.2.1.2.1
  have e1 := n_beginOf1 (d := d) (L := decide (sg_l0 s v = 0)) hM hS (show v ≤ s.2.2.1 by omega) s.2.2.1 0 (by omega) none
  rw [bgF_bg hv] at e1
  have er := n_isRecord (d := d + 1) hM hS hv
  have eh := n_headerSize (d := d + 1) hM hS
  have ee : (nI v = nI s.2.2.1) = (v = s.2.2.1) := o_eq (by omega) (by omega)
  by_cases c : sg_l0 s v = 0
  · simp only [c, decide_true] at e1 er
    refine e_180 ?_; simp only [b_180, i_int, i_long, i_null, i_stat, i_iload, i_lload, i_aload, i_istore, i_astore, i_lstore, i_iinc, i_ii, i_idz, i_i, i_ll, i_lsh, i_i2l, i_l2i, i_lcmp, i_dup, i_pop, i_dup2, i_ifeq, i_ifne, i_iflt, i_ifge, i_ifgt, i_ifle, i_cmpeq, i_cmpne, i_cmplt, i_cmpge, i_cmpgt, i_cmple, i_ifnull, i_ifnonnull, i_getf, am_wr, i_putI, i_putZ, i_putR, i_iald, i_iast, i_aald, i_aast, i_alen, i_newi, i_newq, i_new, i_recv, i_iret, i_zret, i_lret, i_aret, i_vret, List.getElem?_cons_zero, List.getElem?_cons_succ, Option.bind_some, Option.toList_some, Option.toList_none, List.cons_append, List.nil_append, x_nI, am_put, List.length_cons, List.length_nil, List.set_cons_zero, List.set_cons_succ, Nat.reduceAdd, Nat.reduceLT, Nat.reduceLeDiff, Nat.reduceEqDiff, Nat.add_left_cancel_iff, Nat.add_eq_left, Nat.left_eq_add, Nat.succ_ne_self, Nat.reduceSub, reduceIte, ite_self, eq_self, or_true, true_or, or_false, false_or, or_self, i10, not_true_eq_false, not_false_eq_true, x_call1, x_call2, x_call3, x_call4, x_call5, x_call6, x_sl0, x_sli, x_slr, x_sln, x_sll, am_ent, List.map_nil, List.map_cons, List.sum_nil, List.sum_cons, Value.category, and_true, true_and, and_self, Nat.zero_le, List.replicate_succ, List.replicate_zero, List.reduceReplicate, x_obj_set, x_row_set, x_len_set, x_obx, x_rox, x_rv, x_obj hM.1, mo_obj, x_row (show A.2.2 (b + 4) = some (.inl (0, 2, R 4)) from hM.2.2 4 (by decide) (by decide)), x_ix hh (show h < 2147483648 by omega), hn, ee, show ¬ v = s.2.2.1 by omega, er, bz_true, eh]
    exact e1
  · simp only [c, decide_false] at e1 er
    refine e_180 ?_; simp only [b_180, i_int, i_long, i_null, i_stat, i_iload, i_lload, i_aload, i_istore, i_astore, i_lstore, i_iinc, i_ii, i_idz, i_i, i_ll, i_lsh, i_i2l, i_l2i, i_lcmp, i_dup, i_pop, i_dup2, i_ifeq, i_ifne, i_iflt, i_ifge, i_ifgt, i_ifle, i_cmpeq, i_cmpne, i_cmplt, i_cmpge, i_cmpgt, i_cmple, i_ifnull, i_ifnonnull, i_getf, am_wr, i_putI, i_putZ, i_putR, i_iald, i_iast, i_aald, i_aast, i_alen, i_newi, i_newq, i_new, i_recv, i_iret, i_zret, i_lret, i_aret, i_vret, List.getElem?_cons_zero, List.getElem?_cons_succ, Option.bind_some, Option.toList_some, Option.toList_none, List.cons_append, List.nil_append, x_nI, am_put, List.length_cons, List.length_nil, List.set_cons_zero, List.set_cons_succ, Nat.reduceAdd, Nat.reduceLT, Nat.reduceLeDiff, Nat.reduceEqDiff, Nat.add_left_cancel_iff, Nat.add_eq_left, Nat.left_eq_add, Nat.succ_ne_self, Nat.reduceSub, reduceIte, ite_self, eq_self, or_true, true_or, or_false, false_or, or_self, i10, not_true_eq_false, not_false_eq_true, x_call1, x_call2, x_call3, x_call4, x_call5, x_call6, x_sl0, x_sli, x_slr, x_sln, x_sll, am_ent, List.map_nil, List.map_cons, List.sum_nil, List.sum_cons, Value.category, and_true, true_and, and_self, Nat.zero_le, List.replicate_succ, List.replicate_zero, List.reduceReplicate, x_obj_set, x_row_set, x_len_set, x_obx, x_rox, x_rv, x_obj hM.1, mo_obj, x_row (show A.2.2 (b + 4) = some (.inl (0, 2, R 4)) from hM.2.2 4 (by decide) (by decide)), x_ix hh (show h < 2147483648 by omega), hn, ee, show ¬ v = s.2.2.1 by omega, er, bz_false, eh]
    exact e1
theorem n_beginEnd {d b h : Nat} {A : am_H} {R : Nat → Nat → Int32} {f : mo_F} {s : sg_S} (hM : MM b A R f) (hS : MS R h s) : pev (d + 3) 180 [some (.ref b), some (.int (nI h)), some (.int (nI s.2.2.1)), none, none, none, none] [] A = some (some (.int (nI (sg_hs s + sg_pf s s.2.2.1))), A) := by
  have h5 := hS.1.2.2.1
  have hh := hS.2.1
  have hn := hS.2.2.1.2.1
  have e1 := n_beginOf1 (d := d) (L := true) hM hS (Nat.le_refl s.2.2.1) s.2.2.1 0 (by omega) none
  rw [bgF_end] at e1
  have eh := n_headerSize (d := d + 1) hM hS
  refine e_180 ?_; simp only [b_180, i_int, i_long, i_null, i_stat, i_iload, i_lload, i_aload, i_istore, i_astore, i_lstore, i_iinc, i_ii, i_idz, i_i, i_ll, i_lsh, i_i2l, i_l2i, i_lcmp, i_dup, i_pop, i_dup2, i_ifeq, i_ifne, i_iflt, i_ifge, i_ifgt, i_ifle, i_cmpeq, i_cmpne, i_cmplt, i_cmpge, i_cmpgt, i_cmple, i_ifnull, i_ifnonnull, i_getf, am_wr, i_putI, i_putZ, i_putR, i_iald, i_iast, i_aald, i_aast, i_alen, i_newi, i_newq, i_new, i_recv, i_iret, i_zret, i_lret, i_aret, i_vret, List.getElem?_cons_zero, List.getElem?_cons_succ, Option.bind_some, Option.toList_some, Option.toList_none, List.cons_append, List.nil_append, x_nI, am_put, List.length_cons, List.length_nil, List.set_cons_zero, List.set_cons_succ, Nat.reduceAdd, Nat.reduceLT, Nat.reduceLeDiff, Nat.reduceEqDiff, Nat.add_left_cancel_iff, Nat.add_eq_left, Nat.left_eq_add, Nat.succ_ne_self, Nat.reduceSub, reduceIte, ite_self, eq_self, or_true, true_or, or_false, false_or, or_self, i10, not_true_eq_false, not_false_eq_true, x_call1, x_call2, x_call3, x_call4, x_call5, x_call6, x_sl0, x_sli, x_slr, x_sln, x_sll, am_ent, List.map_nil, List.map_cons, List.sum_nil, List.sum_cons, Value.category, and_true, true_and, and_self, Nat.zero_le, List.replicate_succ, List.replicate_zero, List.reduceReplicate, x_obj_set, x_row_set, x_len_set, x_obx, x_rox, x_rv, x_obj hM.1, mo_obj, x_row (show A.2.2 (b + 4) = some (.inl (0, 2, R 4)) from hM.2.2 4 (by decide) (by decide)), x_ix hh (show h < 2147483648 by omega), hn, eh]
  exact e1
theorem n_recordSize1 {d b h : Nat} {A : am_H} {R : Nat → Nat → Int32} {f : mo_F} {s : sg_S} (hM : MM b A R f) (hS : MS R h s) {F : Nat → Nat} {one : Bool} (hF : ∀ k, k < s.2.2.1 → F k = if sg_l0 s k = 0 then (if one then sg_cn s k * wd (s.2.2.2.1 k).2.1 else sg_ps s k) else 0) : ∀ (m k : Nat), k + m = s.2.2.1 → ∀ o : Option Value, pev (d + 3) 193 [some (.ref b), some (.int (nI h)), some (.int (nI (sg_sum F k))), some (.int (bz one)), some (.int (nI k)), o] [] A = some (some (.int (nI (sg_sum F s.2.2.1))), A) := by
  have h5 := hS.1.2.2.1
  have hh := hS.2.1
  have hn := hS.2.2.1.2.1
  have ixh := x_ix hh (show h < 2147483648 by omega)
  intro m
  induction m with
  | zero =>
    intro k hk o
    have hka : k = s.2.2.1 := by omega
    subst hka
    refine e_193 ?_; simp only [b_193, i_int, i_long, i_null, i_stat, i_iload, i_lload, i_aload, i_istore, i_astore, i_lstore, i_iinc, i_ii, i_idz, i_i, i_ll, i_lsh, i_i2l, i_l2i, i_lcmp, i_dup, i_pop, i_dup2, i_ifeq, i_ifne, i_iflt, i_ifge, i_ifgt, i_ifle, i_cmpeq, i_cmpne, i_cmplt, i_cmpge, i_cmpgt, i_cmple, i_ifnull, i_ifnonnull, i_getf, am_wr, i_putI, i_putZ, i_putR, i_iald, i_iast, i_aald, i_aast, i_alen, i_newi, i_newq, i_new, i_recv, i_iret, i_zret, i_lret, i_aret, i_vret, List.getElem?_cons_zero, List.getElem?_cons_succ, Option.bind_some, Option.toList_some, Option.toList_none, List.cons_append, List.nil_append, x_nI, am_put, List.length_cons, List.length_nil, List.set_cons_zero, List.set_cons_succ, Nat.reduceAdd, Nat.reduceLT, Nat.reduceLeDiff, Nat.reduceEqDiff, Nat.add_left_cancel_iff, Nat.add_eq_left, Nat.left_eq_add, Nat.succ_ne_self, Nat.reduceSub, reduceIte, ite_self, eq_self, or_true, true_or, or_false, false_or, or_self, i10, not_true_eq_false, not_false_eq_true, x_call1, x_call2, x_call3, x_call4, x_call5, x_call6, x_sl0, x_sli, x_slr, x_sln, x_sll, am_ent, List.map_nil, List.map_cons, List.sum_nil, List.sum_cons, Value.category, and_true, true_and, and_self, Nat.zero_le, List.replicate_succ, List.replicate_zero, List.reduceReplicate, x_obj_set, x_row_set, x_len_set, x_obx, x_rox, x_rv, x_obj hM.1, mo_obj, x_row (show A.2.2 (b + 4) = some (.inl (0, 2, R 4)) from hM.2.2 4 (by decide) (by decide)), ixh, hn, show nI s.2.2.1 ≤ nI s.2.2.1 from nI_le (Nat.le_refl _) (by omega)]
  | succ m ih =>
    intro k hk o
    have hkv : k < s.2.2.1 := by omega
    have er := n_isRecord (d := d + 1) hM hS hkv
    have ep := n_padded (d := d) hM hS hkv
    have ec := n_cells (d := d + 1) hM hS hkv
    obtain ⟨-, w2, -⟩ := hS.2.2.2.2.2 k hkv
    obtain ⟨⟨t1, t4⟩, -⟩ := hS.1.2.2.2.1 k hkv
    have hc : ¬ nI s.2.2.1 ≤ nI k := nI_ge (by omega) (by omega)
    have tt : ∀ (o : Option Value) (z : Nat), (sg_l0 s k = 0 → F k = z) → pev (d + 3) 194 [some (.ref b), some (.int (nI h)), some (.int (nI (sg_sum F k))), some (.int (bz one)), some (.int (nI k)), o] [.int (nI z)] A = some (some (.int (nI (sg_sum F s.2.2.1))), A) := by
      intro o z hz
      have e1 := ih (k + 1) (by omega) (some (.int (nI z)))
      by_cases c : sg_l0 s k = 0
      · rw [sg_sum, hz c] at e1
        refine e_194 ?_; simp only [b_194, i_int, i_long, i_null, i_stat, i_iload, i_lload, i_aload, i_istore, i_astore, i_lstore, i_iinc, i_ii, i_idz, i_i, i_ll, i_lsh, i_i2l, i_l2i, i_lcmp, i_dup, i_pop, i_dup2, i_ifeq, i_ifne, i_iflt, i_ifge, i_ifgt, i_ifle, i_cmpeq, i_cmpne, i_cmplt, i_cmpge, i_cmpgt, i_cmple, i_ifnull, i_ifnonnull, i_getf, am_wr, i_putI, i_putZ, i_putR, i_iald, i_iast, i_aald, i_aast, i_alen, i_newi, i_newq, i_new, i_recv, i_iret, i_zret, i_lret, i_aret, i_vret, List.getElem?_cons_zero, List.getElem?_cons_succ, Option.bind_some, Option.toList_some, Option.toList_none, List.cons_append, List.nil_append, x_nI, am_put, List.length_cons, List.length_nil, List.set_cons_zero, List.set_cons_succ, Nat.reduceAdd, Nat.reduceLT, Nat.reduceLeDiff, Nat.reduceEqDiff, Nat.add_left_cancel_iff, Nat.add_eq_left, Nat.left_eq_add, Nat.succ_ne_self, Nat.reduceSub, reduceIte, ite_self, eq_self, or_true, true_or, or_false, false_or, or_self, i10, not_true_eq_false, not_false_eq_true, x_call1, x_call2, x_call3, x_call4, x_call5, x_call6, x_sl0, x_sli, x_slr, x_sln, x_sll, am_ent, List.map_nil, List.map_cons, List.sum_nil, List.sum_cons, Value.category, and_true, true_and, and_self, Nat.zero_le, List.replicate_succ, List.replicate_zero, List.reduceReplicate, x_obj_set, x_row_set, x_len_set, x_obx, x_rox, x_rv, x_obj hM.1, er, c, decide_true, bz_true, nI_add, nI_1]
        exact e1
      · have h0 : F k = 0 := by rw [hF k hkv, if_neg c]
        rw [sg_sum, h0, Nat.add_zero] at e1
        refine e_194 ?_; simp only [b_194, i_int, i_long, i_null, i_stat, i_iload, i_lload, i_aload, i_istore, i_astore, i_lstore, i_iinc, i_ii, i_idz, i_i, i_ll, i_lsh, i_i2l, i_l2i, i_lcmp, i_dup, i_pop, i_dup2, i_ifeq, i_ifne, i_iflt, i_ifge, i_ifgt, i_ifle, i_cmpeq, i_cmpne, i_cmplt, i_cmpge, i_cmpgt, i_cmple, i_ifnull, i_ifnonnull, i_getf, am_wr, i_putI, i_putZ, i_putR, i_iald, i_iast, i_aald, i_aast, i_alen, i_newi, i_newq, i_new, i_recv, i_iret, i_zret, i_lret, i_aret, i_vret, List.getElem?_cons_zero, List.getElem?_cons_succ, Option.bind_some, Option.toList_some, Option.toList_none, List.cons_append, List.nil_append, x_nI, am_put, List.length_cons, List.length_nil, List.set_cons_zero, List.set_cons_succ, Nat.reduceAdd, Nat.reduceLT, Nat.reduceLeDiff, Nat.reduceEqDiff, Nat.add_left_cancel_iff, Nat.add_eq_left, Nat.left_eq_add, Nat.succ_ne_self, Nat.reduceSub, reduceIte, ite_self, eq_self, or_true, true_or, or_false, false_or, or_self, i10, not_true_eq_false, not_false_eq_true, x_call1, x_call2, x_call3, x_call4, x_call5, x_call6, x_sl0, x_sli, x_slr, x_sln, x_sll, am_ent, List.map_nil, List.map_cons, List.sum_nil, List.sum_cons, Value.category, and_true, true_and, and_self, Nat.zero_le, List.replicate_succ, List.replicate_zero, List.reduceReplicate, x_obj_set, x_row_set, x_len_set, x_obx, x_rox, x_rv, x_obj hM.1, er, c, decide_false, bz_false, nI_1]
        exact e1
    cases one with
    | true =>
      have e1 := tt o (sg_cn s k * wd (s.2.2.2.1 k).2.1) (fun c => by rw [hF k hkv, if_pos c]; rfl)
      rw [bz_true] at e1 ⊢
      refine e_193 ?_; simp only [b_193, i_int, i_long, i_null, i_stat, i_iload, i_lload, i_aload, i_istore, i_astore, i_lstore, i_iinc, i_ii, i_idz, i_i, i_ll, i_lsh, i_i2l, i_l2i, i_lcmp, i_dup, i_pop, i_dup2, i_ifeq, i_ifne, i_iflt, i_ifge, i_ifgt, i_ifle, i_cmpeq, i_cmpne, i_cmplt, i_cmpge, i_cmpgt, i_cmple, i_ifnull, i_ifnonnull, i_getf, am_wr, i_putI, i_putZ, i_putR, i_iald, i_iast, i_aald, i_aast, i_alen, i_newi, i_newq, i_new, i_recv, i_iret, i_zret, i_lret, i_aret, i_vret, List.getElem?_cons_zero, List.getElem?_cons_succ, Option.bind_some, Option.toList_some, Option.toList_none, List.cons_append, List.nil_append, x_nI, am_put, List.length_cons, List.length_nil, List.set_cons_zero, List.set_cons_succ, Nat.reduceAdd, Nat.reduceLT, Nat.reduceLeDiff, Nat.reduceEqDiff, Nat.add_left_cancel_iff, Nat.add_eq_left, Nat.left_eq_add, Nat.succ_ne_self, Nat.reduceSub, reduceIte, ite_self, eq_self, or_true, true_or, or_false, false_or, or_self, i10, not_true_eq_false, not_false_eq_true, x_call1, x_call2, x_call3, x_call4, x_call5, x_call6, x_sl0, x_sli, x_slr, x_sln, x_sll, am_ent, List.map_nil, List.map_cons, List.sum_nil, List.sum_cons, Value.category, and_true, true_and, and_self, Nat.zero_le, List.replicate_succ, List.replicate_zero, List.reduceReplicate, x_obj_set, x_row_set, x_len_set, x_obx, x_rox, x_rv, x_obj hM.1, mo_obj, x_row (show A.2.2 (b + 4) = some (.inl (0, 2, R 4)) from hM.2.2 4 (by decide) (by decide)), x_row (show A.2.2 (b + 6) = some (.inl (0, 10, R 6)) from hM.2.2 6 (by decide) (by decide)), ixh, hn, hc, ec, show (5 : Int32) = nI 5 from rfl, pk_mul, nI_add, x_ix (show 5 * h + k < 10 by omega) (show 5 * h + k < 2147483648 by omega), w2, n_bytes (show (s.2.2.2.1 k).2.1 < 1000 by omega)]
      exact e1
    | false =>
      have e1 := tt o (sg_ps s k) (fun c => by rw [hF k hkv, if_pos c]; rfl)
      rw [bz_false] at e1 ⊢
      refine e_193 ?_; simp only [b_193, i_int, i_long, i_null, i_stat, i_iload, i_lload, i_aload, i_istore, i_astore, i_lstore, i_iinc, i_ii, i_idz, i_i, i_ll, i_lsh, i_i2l, i_l2i, i_lcmp, i_dup, i_pop, i_dup2, i_ifeq, i_ifne, i_iflt, i_ifge, i_ifgt, i_ifle, i_cmpeq, i_cmpne, i_cmplt, i_cmpge, i_cmpgt, i_cmple, i_ifnull, i_ifnonnull, i_getf, am_wr, i_putI, i_putZ, i_putR, i_iald, i_iast, i_aald, i_aast, i_alen, i_newi, i_newq, i_new, i_recv, i_iret, i_zret, i_lret, i_aret, i_vret, List.getElem?_cons_zero, List.getElem?_cons_succ, Option.bind_some, Option.toList_some, Option.toList_none, List.cons_append, List.nil_append, x_nI, am_put, List.length_cons, List.length_nil, List.set_cons_zero, List.set_cons_succ, Nat.reduceAdd, Nat.reduceLT, Nat.reduceLeDiff, Nat.reduceEqDiff, Nat.add_left_cancel_iff, Nat.add_eq_left, Nat.left_eq_add, Nat.succ_ne_self, Nat.reduceSub, reduceIte, ite_self, eq_self, or_true, true_or, or_false, false_or, or_self, i10, not_true_eq_false, not_false_eq_true, x_call1, x_call2, x_call3, x_call4, x_call5, x_call6, x_sl0, x_sli, x_slr, x_sln, x_sll, am_ent, List.map_nil, List.map_cons, List.sum_nil, List.sum_cons, Value.category, and_true, true_and, and_self, Nat.zero_le, List.replicate_succ, List.replicate_zero, List.reduceReplicate, x_obj_set, x_row_set, x_len_set, x_obx, x_rox, x_rv, x_obj hM.1, mo_obj, x_row (show A.2.2 (b + 4) = some (.inl (0, 2, R 4)) from hM.2.2 4 (by decide) (by decide)), ixh, hn, hc, ep]
      exact e1
theorem n_recordSize {d b h : Nat} {A : am_H} {R : Nat → Nat → Int32} {f : mo_F} {s : sg_S} (hM : MM b A R f) (hS : MS R h s) : pev (d + 3) 192 [some (.ref b), some (.int (nI h)), none, none, none, none] [] A = some (some (.int (nI (sg_rs s))), A) := by
  have h5 := hS.1.2.2.1
  have hnr := sg_nr_le s
  have er := n_recordVariables (d := d) hM hS
  have ee : (nI (sg_nr s) = (1 : Int32)) = (sg_nr s = 1) := o_eq (b := 1) (by omega) (by decide)
  unfold sg_rs
  by_cases c : sg_nr s = 1
  · rw [if_pos c]
    have e1 := n_recordSize1 (d := d) (one := true) (F := fun v => if sg_l0 s v = 0 then sg_l1 s v * wd (s.2.2.2.1 v).2.1 else 0) hM hS (fun k hk => by
      by_cases c1 : sg_l0 s k = 0
      · simp only [c1, if_true]
        rw [sg_cn_rec c1]
      · simp only [c1, if_false]) s.2.2.1 0 (by omega) none
    refine e_192 ?_; simp only [b_192, i_int, i_long, i_null, i_stat, i_iload, i_lload, i_aload, i_istore, i_astore, i_lstore, i_iinc, i_ii, i_idz, i_i, i_ll, i_lsh, i_i2l, i_l2i, i_lcmp, i_dup, i_pop, i_dup2, i_ifeq, i_ifne, i_iflt, i_ifge, i_ifgt, i_ifle, i_cmpeq, i_cmpne, i_cmplt, i_cmpge, i_cmpgt, i_cmple, i_ifnull, i_ifnonnull, i_getf, am_wr, i_putI, i_putZ, i_putR, i_iald, i_iast, i_aald, i_aast, i_alen, i_newi, i_newq, i_new, i_recv, i_iret, i_zret, i_lret, i_aret, i_vret, List.getElem?_cons_zero, List.getElem?_cons_succ, Option.bind_some, Option.toList_some, Option.toList_none, List.cons_append, List.nil_append, x_nI, am_put, List.length_cons, List.length_nil, List.set_cons_zero, List.set_cons_succ, Nat.reduceAdd, Nat.reduceLT, Nat.reduceLeDiff, Nat.reduceEqDiff, Nat.add_left_cancel_iff, Nat.add_eq_left, Nat.left_eq_add, Nat.succ_ne_self, Nat.reduceSub, reduceIte, ite_self, eq_self, or_true, true_or, or_false, false_or, or_self, i10, not_true_eq_false, not_false_eq_true, x_call1, x_call2, x_call3, x_call4, x_call5, x_call6, x_sl0, x_sli, x_slr, x_sln, x_sll, am_ent, List.map_nil, List.map_cons, List.sum_nil, List.sum_cons, Value.category, and_true, true_and, and_self, Nat.zero_le, List.replicate_succ, List.replicate_zero, List.reduceReplicate, x_obj_set, x_row_set, x_len_set, x_obx, x_rox, x_rv, x_obj hM.1, er, ee, c]
    exact e1
  · rw [if_neg c]
    have e1 := n_recordSize1 (d := d) (one := false) (F := fun v => if sg_l0 s v = 0 then sg_ps s v else 0) hM hS (fun k hk => by
      by_cases c1 : sg_l0 s k = 0
      · simp only [c1, if_true]
        rfl
      · simp only [c1, if_false]) s.2.2.1 0 (by omega) none
    refine e_192 ?_; simp only [b_192, i_int, i_long, i_null, i_stat, i_iload, i_lload, i_aload, i_istore, i_astore, i_lstore, i_iinc, i_ii, i_idz, i_i, i_ll, i_lsh, i_i2l, i_l2i, i_lcmp, i_dup, i_pop, i_dup2, i_ifeq, i_ifne, i_iflt, i_ifge, i_ifgt, i_ifle, i_cmpeq, i_cmpne, i_cmplt, i_cmpge, i_cmpgt, i_cmple, i_ifnull, i_ifnonnull, i_getf, am_wr, i_putI, i_putZ, i_putR, i_iald, i_iast, i_aald, i_aast, i_alen, i_newi, i_newq, i_new, i_recv, i_iret, i_zret, i_lret, i_aret, i_vret, List.getElem?_cons_zero, List.getElem?_cons_succ, Option.bind_some, Option.toList_some, Option.toList_none, List.cons_append, List.nil_append, x_nI, am_put, List.length_cons, List.length_nil, List.set_cons_zero, List.set_cons_succ, Nat.reduceAdd, Nat.reduceLT, Nat.reduceLeDiff, Nat.reduceEqDiff, Nat.add_left_cancel_iff, Nat.add_eq_left, Nat.left_eq_add, Nat.succ_ne_self, Nat.reduceSub, reduceIte, ite_self, eq_self, or_true, true_or, or_false, false_or, or_self, i10, not_true_eq_false, not_false_eq_true, x_call1, x_call2, x_call3, x_call4, x_call5, x_call6, x_sl0, x_sli, x_slr, x_sln, x_sll, am_ent, List.map_nil, List.map_cons, List.sum_nil, List.sum_cons, Value.category, and_true, true_and, and_self, Nat.zero_le, List.replicate_succ, List.replicate_zero, List.reduceReplicate, x_obj_set, x_row_set, x_len_set, x_obx, x_rox, x_rv, x_obj hM.1, er, ee, c]
    exact e1
theorem MS.hs_le {R : Nat → Nat → Int32} {h : Nat} {s : sg_S} (hS : MS R h s) : sg_hs s ≤ 1000 := by
  have hs := hS.1
  have a1 : sg_ls s.2.1 ≤ 80 := ls_le hS.2.2.2.2.1.1
  have a2 : sg_sum (fun v => 24 + 4 * (s.2.2.2.1 v).2.2.1 + sg_ls (s.2.2.2.1 v).2.2.2.2.1) s.2.2.1 ≤ sg_sum (fun _ => 112) s.2.2.1 := sg_sum_le (fun v hv => by
    have b1 := (hs.2.2.2.1 v hv).2.1
    have b2 := ls_le (hS.2.2.2.2.2 v hv).2.2.2.2.1.1
    omega)
  rw [sg_sum_const] at a2
  have := hs.2.2.1
  have := hs.1
  unfold sg_hs
  omega
theorem n_total {d b h r : Nat} {A : am_H} {R : Nat → Nat → Int32} {f : mo_F} {s : sg_S} (hM : MM b A R f) (hS : MS R h s) : pev (d + 4) 179 [some (.ref b), some (.int (nI h)), some (.long (lN r)), none] [] A = some (some (.long (lN (sg_tot s r))), A) := by
  have h5 := hS.1.2.2.1
  have hh := hS.2.1
  have hn := hS.2.2.1.2.1
  have e1 := n_beginEnd (d := d) hM hS
  have e2 := n_recordSize (d := d) hM hS
  have b1 := hS.hs_le
  have b2 := pb_le hS.1 false (Nat.le_refl s.2.2.1)
  have b3 := rs_le hS.1
  rw [pb_f] at b2
  refine e_179 ?_; simp only [b_179, i_int, i_long, i_null, i_stat, i_iload, i_lload, i_aload, i_istore, i_astore, i_lstore, i_iinc, i_ii, i_idz, i_i, i_ll, i_lsh, i_i2l, i_l2i, i_lcmp, i_dup, i_pop, i_dup2, i_ifeq, i_ifne, i_iflt, i_ifge, i_ifgt, i_ifle, i_cmpeq, i_cmpne, i_cmplt, i_cmpge, i_cmpgt, i_cmple, i_ifnull, i_ifnonnull, i_getf, am_wr, i_putI, i_putZ, i_putR, i_iald, i_iast, i_aald, i_aast, i_alen, i_newi, i_newq, i_new, i_recv, i_iret, i_zret, i_lret, i_aret, i_vret, List.getElem?_cons_zero, List.getElem?_cons_succ, Option.bind_some, Option.toList_some, Option.toList_none, List.cons_append, List.nil_append, x_nI, am_put, List.length_cons, List.length_nil, List.set_cons_zero, List.set_cons_succ, Nat.reduceAdd, Nat.reduceLT, Nat.reduceLeDiff, Nat.reduceEqDiff, Nat.add_left_cancel_iff, Nat.add_eq_left, Nat.left_eq_add, Nat.succ_ne_self, Nat.reduceSub, reduceIte, ite_self, eq_self, or_true, true_or, or_false, false_or, or_self, i10, not_true_eq_false, not_false_eq_true, x_call1, x_call2, x_call3, x_call4, x_call5, x_call6, x_sl0, x_sli, x_slr, x_sln, x_sll, am_ent, List.map_nil, List.map_cons, List.sum_nil, List.sum_cons, Value.category, and_true, true_and, and_self, Nat.zero_le, List.replicate_succ, List.replicate_zero, List.reduceReplicate, x_obj_set, x_row_set, x_len_set, x_obx, x_rox, x_rv, x_obj hM.1, mo_obj, x_row (show A.2.2 (b + 4) = some (.inl (0, 2, R 4)) from hM.2.2 4 (by decide) (by decide)), x_ix hh (show h < 2147483648 by omega), hn, e1, e2, nI_l (show sg_hs s + sg_pf s s.2.2.1 < 2 ^ 31 by omega), nI_l (show sg_rs s < 2 ^ 31 by omega), lN_mul, lN_add]
  rfl
