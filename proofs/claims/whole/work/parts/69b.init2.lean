/-! the constructors: stores, selections, rows of bytes, the two objects -/
def hST (A : am_H) (p : Nat) : am_H := am_set (am_new (am_set (am_new (am_set (am_set (am_new (am_set (am_new (am_set (am_set A p (.inr (.inr (3, [.int 0, .int 0, .null, .null, .int 0, .null, .null, .null])))) p (.inr (.inr (3, [.int 0, .int 0, .null, .null, .int 0, .null, .null, .null])))) 4 (.inl (0, 4, fun _ => 0))) p (.inr (.inr (3, [.int 0, .int 0, .ref (p + 1), .null, .int 0, .null, .null, .null])))) 4 (.inl (0, 4, fun _ => 0))) p (.inr (.inr (3, [.int 0, .int 0, .ref (p + 1), .ref (p + 2), .int 0, .null, .null, .null])))) p (.inr (.inr (3, [.int 0, .int 0, .ref (p + 1), .ref (p + 2), .int 0, .null, .null, .null])))) 5 (.inl (0, 5, fun _ => 0))) p (.inr (.inr (3, [.int 0, .int 0, .ref (p + 1), .ref (p + 2), .int 0, .ref (p + 3), .null, .null])))) 5 (.inr (.inl (5, fun _ => none)))) p (.inr (.inr (3, [.int 0, .int 0, .ref (p + 1), .ref (p + 2), .int 0, .ref (p + 3), .ref (p + 4), .null])))
/-- a store of which k variables are made -/
def SL (p k : Nat) (A : am_H) : Prop := A.1 = p + 5 + 7 * k ∧ A.2.2 p = some (.inr (.inr (3, [.int 0, .int 0, .ref (p + 1), .ref (p + 2), .int 0, .ref (p + 3), .ref (p + 4), .null]))) ∧ A.2.2 (p + 1) = some (.inl (0, 4, fun _ => 0)) ∧ A.2.2 (p + 2) = some (.inl (0, 4, fun _ => 0)) ∧ A.2.2 (p + 3) = some (.inl (0, 5, fun _ => 0)) ∧ ∃ qf : Nat → Option Nat, A.2.2 (p + 4) = some (.inr (.inl (5, qf))) ∧ (∀ j, j < k → qf j = some (p + 5 + 7 * j)) ∧ ∀ j, j < k → VA (p + 5 + 7 * j) A v00
theorem i_ST50 {d p : Nat} (hp : 5 ≤ p) : ∀ (m k : Nat), k + m = 5 → ∀ {A : am_H}, SL p k A → ∃ B, pev (d + 3) 2 [some (.ref p), some (.int (nI k))] [] A = some (none, B) ∧ ST p B s00 (fun _ => v00) ∧ B.1 = p + 45 ∧ B.2.1 = A.2.1 + m * 825 + 17 ∧ ∀ q, q < p → B.2.2 q = A.2.2 q := by
  intro m
  induction m with
  | zero =>
    intro k hk A hS
    have e : k = 5 := by omega
    subst e
    obtain ⟨h1, h2, h3, h4, h5, qf, h6, h7, h8⟩ := hS
    have h1' : A.1 = p + 40 := by omega
    have a1 : (am_new A 5 (.inr (.inr (0, dvX0)))).1 = p + 40 + 1 := by rw [x_new1, h1']
    have a2 : (am_new A 5 (.inr (.inr (0, dvX0)))).2.2 (p + 40) = some (.inr (.inr (0, dvX0))) := by rw [x_new, h1', if_pos rfl]
    obtain ⟨e1, l1, l2, l3, l4⟩ := i_AL (d := d + 1) a2 (by omega) a1
    have low : ∀ q, q < p + 40 → (hAL (am_new A 5 (.inr (.inr (0, dvX0)))) (p + 40)).2.2 q = A.2.2 q := fun q hq => by
      rw [l4 q hq, x_new, h1', if_neg (by omega)]
    have o1 : (hAL (am_new A 5 (.inr (.inr (0, dvX0)))) (p + 40)).2.2 p = some (.inr (.inr (3, [.int 0, .int 0, .ref (p + 1), .ref (p + 2), .int 0, .ref (p + 3), .ref (p + 4), .null]))) := (low p (by omega)).trans h2
    have lowS : ∀ q, q < p + 40 → q ≠ p → (am_set (hAL (am_new A 5 (.inr (.inr (0, dvX0)))) (p + 40)) p (.inr (.inr (3, [.int 0, .int 0, .ref (p + 1), .ref (p + 2), .int 0, .ref (p + 3), .ref (p + 4), .ref (p + 40)])))).2.2 q = A.2.2 q := fun q hq hq2 => (x_set_ne hq2).trans (low q hq)
    refine ⟨am_set (hAL (am_new A 5 (.inr (.inr (0, dvX0)))) (p + 40)) p (.inr (.inr (3, [.int 0, .int 0, .ref (p + 1), .ref (p + 2), .int 0, .ref (p + 3), .ref (p + 4), .ref (p + 40)]))), ?_, ?_, ?_, ?_, ?_⟩
    · refine e_2 ?_; simp only [b_2, i_int, i_long, i_null, i_stat, i_iload, i_lload, i_aload, i_istore, i_astore, i_lstore, i_iinc, i_ii, i_idz, i_i, i_ll, i_lsh, i_i2l, i_l2i, i_lcmp, i_dup, i_pop, i_dup2, i_ifeq, i_ifne, i_iflt, i_ifge, i_ifgt, i_ifle, i_cmpeq, i_cmpne, i_cmplt, i_cmpge, i_cmpgt, i_cmple, i_ifnull, i_ifnonnull, i_getf, am_wr, i_putI, i_putZ, i_putR, i_iald, i_iast, i_aald, i_aast, i_alen, i_newi, i_newq, i_new, i_recv, i_iret, i_zret, i_lret, i_aret, i_vret, List.getElem?_cons_zero, List.getElem?_cons_succ, Option.bind_some, Option.toList_some, Option.toList_none, List.cons_append, List.nil_append, x_nI, am_put, am_put2, List.length_cons, List.length_nil, List.set_cons_zero, List.set_cons_succ, Nat.reduceAdd, Nat.reduceLT, Nat.reduceLeDiff, Nat.reduceEqDiff, Nat.add_left_cancel_iff, Nat.add_eq_left, Nat.left_eq_add, Nat.succ_ne_self, Nat.reduceSub, reduceIte, ite_self, eq_self, or_true, true_or, or_false, false_or, or_self, i10, not_true_eq_false, not_false_eq_true, x_call1, x_call2, x_call3, x_call4, x_call5, x_call6, x_sl0, x_sli, x_slr, x_sln, x_sll, am_ent, List.map_nil, List.map_cons, List.sum_nil, List.sum_cons, Value.category, and_true, true_and, and_self, Nat.zero_le, List.replicate_succ, List.replicate_zero, List.reduceReplicate, x_obj_set, x_row_set, x_len_set, x_obx, x_rox, x_rv, show (5 : Int32) ≤ nI 5 by decide, x_obj_new, h1', x_obj o1, x_own hp, e1]
    · refine ⟨⟨by decide, fun k hk => absurd hk (Nat.not_lt_zero k), by decide, fun v hv => absurd hv (Nat.not_lt_zero v), by decide⟩, hp, ⟨fun _ => 0, fun _ => 0, fun _ => 0, qf, x_set_self _ _ _, (lowS _ (by omega) (by omega)).trans h3, (lowS _ (by omega) (by omega)).trans h4, (lowS _ (by omega) (by omega)).trans h5, (lowS _ (by omega) (by omega)).trans h6, h7, fun k hk => absurd hk (Nat.not_lt_zero k), fun v hv => absurd hv (Nat.not_lt_zero v)⟩, g_al l1 (fun q q1 q2 => x_set_ne (by omega)), fun v hv => g_va (h8 v hv) (fun q q1 q2 => lowS q (by omega) (by omega)), fun v hv => absurd hv (Nat.not_lt_zero v)⟩
    · rw [x_set1, l2]
    · rw [x_set2, l3, x_new2]
    · intro q hq
      exact lowS q (by omega) (by omega)
  | succ m ih =>
    intro k hk A hS
    obtain ⟨h1, h2, h3, h4, h5, qf, h6, h7, h8⟩ := hS
    have a1 : (am_new A 8 (.inr (.inr (4, dvX4)))).1 = p + 5 + 7 * k + 1 := by rw [x_new1, h1]
    have a2 : (am_new A 8 (.inr (.inr (4, dvX4)))).2.2 (p + 5 + 7 * k) = some (.inr (.inr (4, dvX4))) := by rw [x_new, h1, if_pos rfl]
    obtain ⟨e1, l1, l2, l3, l4⟩ := i_VA (d := d) a2 (by omega) a1
    have low : ∀ q, q < p + 5 + 7 * k → (hVA (am_new A 8 (.inr (.inr (4, dvX4)))) (p + 5 + 7 * k)).2.2 q = A.2.2 q := fun q hq => by
      rw [l4 q hq, x_new, h1, if_neg (by omega)]
    have lowS : ∀ q, q < p + 5 + 7 * k → q ≠ p + 4 → (am_set (hVA (am_new A 8 (.inr (.inr (4, dvX4)))) (p + 5 + 7 * k)) (p + 4) (.inr (.inl (5, va_up qf k (some (p + 5 + 7 * k)))))).2.2 q = A.2.2 q := fun q hq hq2 => (x_set_ne hq2).trans (low q hq)
    have hS2 : SL p (k + 1) (am_set (hVA (am_new A 8 (.inr (.inr (4, dvX4)))) (p + 5 + 7 * k)) (p + 4) (.inr (.inl (5, va_up qf k (some (p + 5 + 7 * k)))))) := by
      refine ⟨by rw [x_set1, l2]; omega, (lowS _ (by omega) (by omega)).trans h2, (lowS _ (by omega) (by omega)).trans h3, (lowS _ (by omega) (by omega)).trans h4, (lowS _ (by omega) (by omega)).trans h5, _, x_set_self _ _ _, fun j hj => ?_, fun j hj => ?_⟩
      · by_cases cj : j = k
        · subst cj
          simp [va_up]
        · simp only [va_up, cj, if_false]
          exact h7 j (by omega)
      · by_cases cj : j = k
        · subst cj
          exact g_va l1 (fun q q1 q2 => x_set_ne (by omega))
        · exact g_va (h8 j (by omega)) (fun q q1 q2 => lowS q (by omega) (by omega))
    obtain ⟨B, e2, b1, b2, b3, b4⟩ := ih (k + 1) (by omega) hS2
    refine ⟨B, ?_, b1, b2, ?_, fun q hq => (b4 q hq).trans (lowS q (by omega) (by omega))⟩
    · have hcn : ¬ (5 : Int32) ≤ nI k := nI_ge (b := 5) (by omega) (by decide)
      have h6' : (hVA (am_new A 8 (.inr (.inr (4, dvX4)))) (p + 5 + 7 * k)).2.2 (p + 4) = some (.inr (.inl (5, qf))) := (low _ (by omega)).trans h6
      refine e_2 ?_; simp only [b_2, i_int, i_long, i_null, i_stat, i_iload, i_lload, i_aload, i_istore, i_astore, i_lstore, i_iinc, i_ii, i_idz, i_i, i_ll, i_lsh, i_i2l, i_l2i, i_lcmp, i_dup, i_pop, i_dup2, i_ifeq, i_ifne, i_iflt, i_ifge, i_ifgt, i_ifle, i_cmpeq, i_cmpne, i_cmplt, i_cmpge, i_cmpgt, i_cmple, i_ifnull, i_ifnonnull, i_getf, am_wr, i_putI, i_putZ, i_putR, i_iald, i_iast, i_aald, i_aast, i_alen, i_newi, i_newq, i_new, i_recv, i_iret, i_zret, i_lret, i_aret, i_vret, List.getElem?_cons_zero, List.getElem?_cons_succ, Option.bind_some, Option.toList_some, Option.toList_none, List.cons_append, List.nil_append, x_nI, am_put, am_put2, List.length_cons, List.length_nil, List.set_cons_zero, List.set_cons_succ, Nat.reduceAdd, Nat.reduceLT, Nat.reduceLeDiff, Nat.reduceEqDiff, Nat.add_left_cancel_iff, Nat.add_eq_left, Nat.left_eq_add, Nat.succ_ne_self, Nat.reduceSub, reduceIte, ite_self, eq_self, or_true, true_or, or_false, false_or, or_self, i10, not_true_eq_false, not_false_eq_true, x_call1, x_call2, x_call3, x_call4, x_call5, x_call6, x_sl0, x_sli, x_slr, x_sln, x_sll, am_ent, List.map_nil, List.map_cons, List.sum_nil, List.sum_cons, Value.category, and_true, true_and, and_self, Nat.zero_le, List.replicate_succ, List.replicate_zero, List.reduceReplicate, x_obj_set, x_row_set, x_len_set, x_obx, x_rox, x_rv, hcn, x_obj h2, x_obj_new, h1, e1]
      simp only [i_int, i_long, i_null, i_stat, i_iload, i_lload, i_aload, i_istore, i_astore, i_lstore, i_iinc, i_ii, i_idz, i_i, i_ll, i_lsh, i_i2l, i_l2i, i_lcmp, i_dup, i_pop, i_dup2, i_ifeq, i_ifne, i_iflt, i_ifge, i_ifgt, i_ifle, i_cmpeq, i_cmpne, i_cmplt, i_cmpge, i_cmpgt, i_cmple, i_ifnull, i_ifnonnull, i_getf, am_wr, i_putI, i_putZ, i_putR, i_iald, i_iast, i_aald, i_aast, i_alen, i_newi, i_newq, i_new, i_recv, i_iret, i_zret, i_lret, i_aret, i_vret, List.getElem?_cons_zero, List.getElem?_cons_succ, Option.bind_some, Option.toList_some, Option.toList_none, List.cons_append, List.nil_append, x_nI, am_put, am_put2, List.length_cons, List.length_nil, List.set_cons_zero, List.set_cons_succ, Nat.reduceAdd, Nat.reduceLT, Nat.reduceLeDiff, Nat.reduceEqDiff, Nat.add_left_cancel_iff, Nat.add_eq_left, Nat.left_eq_add, Nat.succ_ne_self, Nat.reduceSub, reduceIte, ite_self, eq_self, or_true, true_or, or_false, false_or, or_self, i10, not_true_eq_false, not_false_eq_true, x_call1, x_call2, x_call3, x_call4, x_call5, x_call6, x_sl0, x_sli, x_slr, x_sln, x_sll, am_ent, List.map_nil, List.map_cons, List.sum_nil, List.sum_cons, Value.category, and_true, true_and, and_self, Nat.zero_le, List.replicate_succ, List.replicate_zero, List.reduceReplicate, x_obj_set, x_row_set, x_len_set, x_obx, x_rox, x_rv, x_refs h6', x_obj l1.obj, x_ix (show k < 5 by omega) (show k < 2147483648 by omega), x_own (show 5 ≤ p + 4 by omega), nI_1]
      exact e2
    · rw [b3, x_set2, l3, x_new2]
      omega
theorem i_ST {d p : Nat} {A : am_H} (h : A.2.2 p = some (.inr (.inr (3, dvX3)))) (hp : 5 ≤ p) (h1 : A.1 = p + 1) : ∃ B, pev (d + 3) 1 [some (.ref p), none] [] A = some (none, B) ∧ ST p B s00 (fun _ => v00) ∧ B.1 = p + 45 ∧ B.2.1 = A.2.1 + 4160 ∧ ∀ q, q < p → B.2.2 q = A.2.2 q := by
  have hS : SL p 0 (hST A p) := by
    refine ⟨?_, ?_, ?_, ?_, ?_, fun _ => none, ?_, fun j hj => absurd hj (Nat.not_lt_zero j), fun j hj => absurd hj (Nat.not_lt_zero j)⟩ <;> simp [hST, x_set, x_new, x_set1, x_new1, h1, Nat.add_assoc]
  obtain ⟨B, e1, b1, b2, b3, b4⟩ := i_ST50 (d := d) hp 5 0 (by omega) hS
  refine ⟨B, ?_, b1, b2, ?_, fun q hq => (b4 q hq).trans ?_⟩
  · unfold hST at e1
    refine e_1 ?_; simp only [b_1, i_int, i_long, i_null, i_stat, i_iload, i_lload, i_aload, i_istore, i_astore, i_lstore, i_iinc, i_ii, i_idz, i_i, i_ll, i_lsh, i_i2l, i_l2i, i_lcmp, i_dup, i_pop, i_dup2, i_ifeq, i_ifne, i_iflt, i_ifge, i_ifgt, i_ifle, i_cmpeq, i_cmpne, i_cmplt, i_cmpge, i_cmpgt, i_cmple, i_ifnull, i_ifnonnull, i_getf, am_wr, i_putI, i_putZ, i_putR, i_iald, i_iast, i_aald, i_aast, i_alen, i_newi, i_newq, i_new, i_recv, i_iret, i_zret, i_lret, i_aret, i_vret, List.getElem?_cons_zero, List.getElem?_cons_succ, Option.bind_some, Option.toList_some, Option.toList_none, List.cons_append, List.nil_append, x_nI, am_put, am_put2, List.length_cons, List.length_nil, List.set_cons_zero, List.set_cons_succ, Nat.reduceAdd, Nat.reduceLT, Nat.reduceLeDiff, Nat.reduceEqDiff, Nat.add_left_cancel_iff, Nat.add_eq_left, Nat.left_eq_add, Nat.succ_ne_self, Nat.reduceSub, reduceIte, ite_self, eq_self, or_true, true_or, or_false, false_or, or_self, i10, not_true_eq_false, not_false_eq_true, x_call1, x_call2, x_call3, x_call4, x_call5, x_call6, x_sl0, x_sli, x_slr, x_sln, x_sll, am_ent, List.map_nil, List.map_cons, List.sum_nil, List.sum_cons, Value.category, and_true, true_and, and_self, Nat.zero_le, List.replicate_succ, List.replicate_zero, List.reduceReplicate, x_obj_set, x_row_set, x_len_set, x_obx, x_rox, x_rv, x_iobj, x_obj h, x_own hp, ni_4, ni_5, x_obj_new, x_new1, x_set1, h1, Nat.add_assoc]
    exact e1
  · rw [b3]
    simp [hST, x_set2, x_new2, Nat.add_assoc]
  · have n0 : q ≠ p := by omega
    have n1 : q ≠ p + 1 := by omega
    have n2 : q ≠ p + 2 := by omega
    have n3 : q ≠ p + 3 := by omega
    have n4 : q ≠ p + 4 := by omega
    simp [hST, x_set, x_new, x_set1, x_new1, h1, Nat.add_assoc, n0, n1, n2, n3, n4]
theorem i_SE {d p : Nat} {A : am_H} (h : A.2.2 p = some (.inr (.inr (2, dvX2)))) (hp : 5 ≤ p) : ∃ B, pev (d + 1) 5 [some (.ref p)] [] A = some (none, B) ∧ SE p B 0 1 1 ∧ B.1 = A.1 ∧ B.2.1 = A.2.1 ∧ ∀ q, q ≠ p → B.2.2 q = A.2.2 q := by
  refine ⟨am_set (am_set (am_set A p (.inr (.inr (2, [.int 0, .int 0, .int 0])))) p (.inr (.inr (2, [.int 0, .int 1, .int 0])))) p (.inr (.inr (2, [.int 0, .int 1, .int 1]))), ?_, ⟨x_set_self _ _ _, hp⟩, rfl, rfl, fun q hq => (x_set_ne hq).trans ((x_set_ne hq).trans (x_set_ne hq))⟩
  refine e_5 ?_; simp only [b_5, i_int, i_long, i_null, i_stat, i_iload, i_lload, i_aload, i_istore, i_astore, i_lstore, i_iinc, i_ii, i_idz, i_i, i_ll, i_lsh, i_i2l, i_l2i, i_lcmp, i_dup, i_pop, i_dup2, i_ifeq, i_ifne, i_iflt, i_ifge, i_ifgt, i_ifle, i_cmpeq, i_cmpne, i_cmplt, i_cmpge, i_cmpgt, i_cmple, i_ifnull, i_ifnonnull, i_getf, am_wr, i_putI, i_putZ, i_putR, i_iald, i_iast, i_aald, i_aast, i_alen, i_newi, i_newq, i_new, i_recv, i_iret, i_zret, i_lret, i_aret, i_vret, List.getElem?_cons_zero, List.getElem?_cons_succ, Option.bind_some, Option.toList_some, Option.toList_none, List.cons_append, List.nil_append, x_nI, am_put, am_put2, List.length_cons, List.length_nil, List.set_cons_zero, List.set_cons_succ, Nat.reduceAdd, Nat.reduceLT, Nat.reduceLeDiff, Nat.reduceEqDiff, Nat.add_left_cancel_iff, Nat.add_eq_left, Nat.left_eq_add, Nat.succ_ne_self, Nat.reduceSub, reduceIte, ite_self, eq_self, or_true, true_or, or_false, false_or, or_self, i10, not_true_eq_false, not_false_eq_true, x_call1, x_call2, x_call3, x_call4, x_call5, x_call6, x_sl0, x_sli, x_slr, x_sln, x_sll, am_ent, List.map_nil, List.map_cons, List.sum_nil, List.sum_cons, Value.category, and_true, true_and, and_self, Nat.zero_le, List.replicate_succ, List.replicate_zero, List.reduceReplicate, x_obj_set, x_row_set, x_len_set, x_obx, x_rox, x_rv, x_iobj, x_obj h, x_own hp]
theorem i_BR {d p : Nat} {A : am_H} (h : A.2.2 p = some (.inr (.inr (1, dvX1)))) (hp : 5 ≤ p) (h1 : A.1 = p + 1) : ∃ B, pev (d + 1) 6 [some (.ref p)] [] A = some (none, B) ∧ BR p B [] 0 ∧ B.1 = p + 2 ∧ B.2.1 = A.2.1 + 800 ∧ ∀ q, q < p → B.2.2 q = A.2.2 q := by
  refine ⟨am_set (am_set (am_set (am_new A 800 (.inl (1, 800, fun _ => 0))) p (.inr (.inr (1, [.ref (p + 1), .int 0, .int 0])))) p (.inr (.inr (1, [.ref (p + 1), .int 0, .int 0])))) p (.inr (.inr (1, [.ref (p + 1), .int 0, .int 0]))), ?_, ⟨fun _ => 0, x_set_self _ _ _, ?_, by decide, hp, fun i hi => absurd hi (Nat.not_lt_zero i)⟩, ?_, ?_, fun q hq => ?_⟩
  · refine e_6 ?_; simp only [b_6, i_int, i_long, i_null, i_stat, i_iload, i_lload, i_aload, i_istore, i_astore, i_lstore, i_iinc, i_ii, i_idz, i_i, i_ll, i_lsh, i_i2l, i_l2i, i_lcmp, i_dup, i_pop, i_dup2, i_ifeq, i_ifne, i_iflt, i_ifge, i_ifgt, i_ifle, i_cmpeq, i_cmpne, i_cmplt, i_cmpge, i_cmpgt, i_cmple, i_ifnull, i_ifnonnull, i_getf, am_wr, i_putI, i_putZ, i_putR, i_iald, i_iast, i_aald, i_aast, i_alen, i_newi, i_newq, i_new, i_recv, i_iret, i_zret, i_lret, i_aret, i_vret, List.getElem?_cons_zero, List.getElem?_cons_succ, Option.bind_some, Option.toList_some, Option.toList_none, List.cons_append, List.nil_append, x_nI, am_put, am_put2, List.length_cons, List.length_nil, List.set_cons_zero, List.set_cons_succ, Nat.reduceAdd, Nat.reduceLT, Nat.reduceLeDiff, Nat.reduceEqDiff, Nat.add_left_cancel_iff, Nat.add_eq_left, Nat.left_eq_add, Nat.succ_ne_self, Nat.reduceSub, reduceIte, ite_self, eq_self, or_true, true_or, or_false, false_or, or_self, i10, not_true_eq_false, not_false_eq_true, x_call1, x_call2, x_call3, x_call4, x_call5, x_call6, x_sl0, x_sli, x_slr, x_sln, x_sll, am_ent, List.map_nil, List.map_cons, List.sum_nil, List.sum_cons, Value.category, and_true, true_and, and_self, Nat.zero_le, List.replicate_succ, List.replicate_zero, List.reduceReplicate, x_obj_set, x_row_set, x_len_set, x_obx, x_rox, x_rv, x_iobj, x_obj h, x_own hp, ni_800, x_obj_new, x_new1, x_set1, h1]
  · simp [x_set, x_new, h1]
  · simp [x_set1, x_new1, h1]
  · simp [x_set2, x_new2]
  · have n0 : q ≠ p := by omega
    have n1 : q ≠ p + 1 := by omega
    simp [x_set, x_new, h1, n0, n1]
theorem i_SI {d : Nat} {A : am_H} (h : A.2.2 5 = some (.inr (.inr (5, dvX5)))) (h1 : A.1 = 6) (hst : am_St A) : ∃ B, pev (d + 4) 0 [some (.ref 5)] [] A = some (none, B) ∧ CX B 6 51 true s00 (fun _ => v00) s00 (fun _ => v00) (fun _ => (0, 1, 1)) [] 0 [] 0 ∧ B.1 = 103 ∧ B.2.1 = A.2.1 + 9951 ∧ ∀ q, q < 5 → B.2.2 q = A.2.2 q := by
  have k0 : A.2.1 = A.2.1 := rfl
  have p1 : (am_new A 8 (.inr (.inr (3, dvX3)))).2.2 6 = some (.inr (.inr (3, dvX3))) := by rw [x_new, h1, if_pos rfl]
  have r1 : (am_new A 8 (.inr (.inr (3, dvX3)))).1 = 6 + 1 := by rw [x_new1, h1]
  obtain ⟨B1, e1, a1, b1, c1, w1⟩ := i_ST (d := d) p1 (by decide) r1
  have y1 : ∀ q, q < 6 → B1.2.2 q = A.2.2 q := fun q hq => by rw [w1 q hq, x_new, h1, if_neg (by omega)]
  rw [x_new2] at c1
  have z1 : B1.2.2 5 = some (.inr (.inr (5, [.null, .null, .int 0, .null, .null, .null, .null, .null]))) := (y1 5 (by decide)).trans h
  obtain ⟨C1, hC1⟩ : ∃ C, C = am_set B1 5 (.inr (.inr (5, [.ref 6, .null, .int 0, .null, .null, .null, .null, .null]))) := ⟨_, rfl⟩
  have o1 : C1.2.2 5 = some (.inr (.inr (5, [.ref 6, .null, .int 0, .null, .null, .null, .null, .null]))) := by rw [hC1]; exact x_set_self _ _ _
  have t1 : C1.1 = 51 := by rw [hC1, x_set1]; exact b1
  have u1 : C1.2.1 = B1.2.1 := by rw [hC1, x_set2]
  have v1 : ∀ q, q ≠ 5 → C1.2.2 q = B1.2.2 q := fun q hq => by rw [hC1]; exact x_set_ne hq
  have s1 := g_st a1 (B := C1) (fun q q1 q2 => v1 q (by omega))
  have p2 : (am_new C1 8 (.inr (.inr (3, dvX3)))).2.2 51 = some (.inr (.inr (3, dvX3))) := by rw [x_new, t1, if_pos rfl]
  have r2 : (am_new C1 8 (.inr (.inr (3, dvX3)))).1 = 51 + 1 := by rw [x_new1, t1]
  obtain ⟨B2, e2, a2, b2, c2, w2⟩ := i_ST (d := d) p2 (by decide) r2
  have y2 : ∀ q, q < 51 → B2.2.2 q = C1.2.2 q := fun q hq => by rw [w2 q hq, x_new, t1, if_neg (by omega)]
  rw [x_new2] at c2
  have z2 : B2.2.2 5 = some (.inr (.inr (5, [.ref 6, .null, .int 0, .null, .null, .null, .null, .null]))) := (y2 5 (by decide)).trans o1
  obtain ⟨C2, hC2⟩ : ∃ C, C = am_set B2 5 (.inr (.inr (5, [.ref 6, .ref 51, .int 0, .null, .null, .null, .null, .null]))) := ⟨_, rfl⟩
  have o2 : C2.2.2 5 = some (.inr (.inr (5, [.ref 6, .ref 51, .int 0, .null, .null, .null, .null, .null]))) := by rw [hC2]; exact x_set_self _ _ _
  have t2 : C2.1 = 96 := by rw [hC2, x_set1]; exact b2
  have u2 : C2.2.1 = B2.2.1 := by rw [hC2, x_set2]
  have v2 : ∀ q, q ≠ 5 → C2.2.2 q = B2.2.2 q := fun q hq => by rw [hC2]; exact x_set_ne hq
  have s1z := g_st s1 (B := C2) (fun q q1 q2 => (v2 q (by omega)).trans (y2 q (by omega)))
  have s2 := g_st a2 (B := C2) (fun q q1 q2 => v2 q (by omega))
  obtain ⟨C3, hC3⟩ : ∃ C, C = am_set C2 5 (.inr (.inr (5, [.ref 6, .ref 51, .int 1, .null, .null, .null, .null, .null]))) := ⟨_, rfl⟩
  have o3 : C3.2.2 5 = some (.inr (.inr (5, [.ref 6, .ref 51, .int 1, .null, .null, .null, .null, .null]))) := by rw [hC3]; exact x_set_self _ _ _
  have t3 : C3.1 = 96 := by rw [hC3, x_set1]; exact t2
  have u3 : C3.2.1 = C2.2.1 := by rw [hC3, x_set2]
  have v3 : ∀ q, q ≠ 5 → C3.2.2 q = C2.2.2 q := fun q hq => by rw [hC3]; exact x_set_ne hq
  have s1zz := g_st s1z (B := C3) (fun q q1 q2 => v3 q (by omega))
  have s2z := g_st s2 (B := C3) (fun q q1 q2 => v3 q (by omega))
  have p4 : (am_new C3 3 (.inr (.inr (2, dvX2)))).2.2 96 = some (.inr (.inr (2, dvX2))) := by rw [x_new, t3, if_pos rfl]
  have r4 : (am_new C3 3 (.inr (.inr (2, dvX2)))).1 = 96 + 1 := by rw [x_new1, t3]
  obtain ⟨B4, e4, a4, b4, c4, w4⟩ := i_SE (d := d + 2) p4 (by decide)
  have y4 : ∀ q, q < 96 → B4.2.2 q = C3.2.2 q := fun q hq => by rw [w4 q (by omega), x_new, t3, if_neg (by omega)]
  rw [r4] at b4
  rw [x_new2] at c4
  have z4 : B4.2.2 5 = some (.inr (.inr (5, [.ref 6, .ref 51, .int 1, .null, .null, .null, .null, .null]))) := (y4 5 (by decide)).trans o3
  obtain ⟨C4, hC4⟩ : ∃ C, C = am_set B4 5 (.inr (.inr (5, [.ref 6, .ref 51, .int 1, .ref 96, .null, .null, .null, .null]))) := ⟨_, rfl⟩
  have o4 : C4.2.2 5 = some (.inr (.inr (5, [.ref 6, .ref 51, .int 1, .ref 96, .null, .null, .null, .null]))) := by rw [hC4]; exact x_set_self _ _ _
  have t4 : C4.1 = 97 := by rw [hC4, x_set1]; exact b4
  have u4 : C4.2.1 = B4.2.1 := by rw [hC4, x_set2]
  have v4 : ∀ q, q ≠ 5 → C4.2.2 q = B4.2.2 q := fun q hq => by rw [hC4]; exact x_set_ne hq
  have s1zzz := g_st s1zz (B := C4) (fun q q1 q2 => (v4 q (by omega)).trans (y4 q (by omega)))
  have s2zz := g_st s2z (B := C4) (fun q q1 q2 => (v4 q (by omega)).trans (y4 q (by omega)))
  have s4 := g_se a4 (B := C4) (v4 _ (by decide))
  have p5 : (am_new C4 3 (.inr (.inr (2, dvX2)))).2.2 97 = some (.inr (.inr (2, dvX2))) := by rw [x_new, t4, if_pos rfl]
  have r5 : (am_new C4 3 (.inr (.inr (2, dvX2)))).1 = 97 + 1 := by rw [x_new1, t4]
  obtain ⟨B5, e5, a5, b5, c5, w5⟩ := i_SE (d := d + 2) p5 (by decide)
  have y5 : ∀ q, q < 97 → B5.2.2 q = C4.2.2 q := fun q hq => by rw [w5 q (by omega), x_new, t4, if_neg (by omega)]
  rw [r5] at b5
  rw [x_new2] at c5
  have z5 : B5.2.2 5 = some (.inr (.inr (5, [.ref 6, .ref 51, .int 1, .ref 96, .null, .null, .null, .null]))) := (y5 5 (by decide)).trans o4
  obtain ⟨C5, hC5⟩ : ∃ C, C = am_set B5 5 (.inr (.inr (5, [.ref 6, .ref 51, .int 1, .ref 96, .ref 97, .null, .null, .null]))) := ⟨_, rfl⟩
  have o5 : C5.2.2 5 = some (.inr (.inr (5, [.ref 6, .ref 51, .int 1, .ref 96, .ref 97, .null, .null, .null]))) := by rw [hC5]; exact x_set_self _ _ _
  have t5 : C5.1 = 98 := by rw [hC5, x_set1]; exact b5
  have u5 : C5.2.1 = B5.2.1 := by rw [hC5, x_set2]
  have v5 : ∀ q, q ≠ 5 → C5.2.2 q = B5.2.2 q := fun q hq => by rw [hC5]; exact x_set_ne hq
  have s1zzzz := g_st s1zzz (B := C5) (fun q q1 q2 => (v5 q (by omega)).trans (y5 q (by omega)))
  have s2zzz := g_st s2zz (B := C5) (fun q q1 q2 => (v5 q (by omega)).trans (y5 q (by omega)))
  have s4z := g_se s4 (B := C5) ((v5 _ (by decide)).trans (y5 _ (by decide)))
  have s5 := g_se a5 (B := C5) (v5 _ (by decide))
  have p6 : (am_new C5 3 (.inr (.inr (2, dvX2)))).2.2 98 = some (.inr (.inr (2, dvX2))) := by rw [x_new, t5, if_pos rfl]
  have r6 : (am_new C5 3 (.inr (.inr (2, dvX2)))).1 = 98 + 1 := by rw [x_new1, t5]
  obtain ⟨B6, e6, a6, b6, c6, w6⟩ := i_SE (d := d + 2) p6 (by decide)
  have y6 : ∀ q, q < 98 → B6.2.2 q = C5.2.2 q := fun q hq => by rw [w6 q (by omega), x_new, t5, if_neg (by omega)]
  rw [r6] at b6
  rw [x_new2] at c6
  have z6 : B6.2.2 5 = some (.inr (.inr (5, [.ref 6, .ref 51, .int 1, .ref 96, .ref 97, .null, .null, .null]))) := (y6 5 (by decide)).trans o5
  obtain ⟨C6, hC6⟩ : ∃ C, C = am_set B6 5 (.inr (.inr (5, [.ref 6, .ref 51, .int 1, .ref 96, .ref 97, .ref 98, .null, .null]))) := ⟨_, rfl⟩
  have o6 : C6.2.2 5 = some (.inr (.inr (5, [.ref 6, .ref 51, .int 1, .ref 96, .ref 97, .ref 98, .null, .null]))) := by rw [hC6]; exact x_set_self _ _ _
  have t6 : C6.1 = 99 := by rw [hC6, x_set1]; exact b6
  have u6 : C6.2.1 = B6.2.1 := by rw [hC6, x_set2]
  have v6 : ∀ q, q ≠ 5 → C6.2.2 q = B6.2.2 q := fun q hq => by rw [hC6]; exact x_set_ne hq
  have s1zzzzz := g_st s1zzzz (B := C6) (fun q q1 q2 => (v6 q (by omega)).trans (y6 q (by omega)))
  have s2zzzz := g_st s2zzz (B := C6) (fun q q1 q2 => (v6 q (by omega)).trans (y6 q (by omega)))
  have s4zz := g_se s4z (B := C6) ((v6 _ (by decide)).trans (y6 _ (by decide)))
  have s5z := g_se s5 (B := C6) ((v6 _ (by decide)).trans (y6 _ (by decide)))
  have s6 := g_se a6 (B := C6) (v6 _ (by decide))
  have p7 : (am_new C6 3 (.inr (.inr (1, dvX1)))).2.2 99 = some (.inr (.inr (1, dvX1))) := by rw [x_new, t6, if_pos rfl]
  have r7 : (am_new C6 3 (.inr (.inr (1, dvX1)))).1 = 99 + 1 := by rw [x_new1, t6]
  obtain ⟨B7, e7, a7, b7, c7, w7⟩ := i_BR (d := d + 2) p7 (by decide) r7
  have y7 : ∀ q, q < 99 → B7.2.2 q = C6.2.2 q := fun q hq => by rw [w7 q hq, x_new, t6, if_neg (by omega)]
  rw [x_new2] at c7
  have z7 : B7.2.2 5 = some (.inr (.inr (5, [.ref 6, .ref 51, .int 1, .ref 96, .ref 97, .ref 98, .null, .null]))) := (y7 5 (by decide)).trans o6
  obtain ⟨C7, hC7⟩ : ∃ C, C = am_set B7 5 (.inr (.inr (5, [.ref 6, .ref 51, .int 1, .ref 96, .ref 97, .ref 98, .ref 99, .null]))) := ⟨_, rfl⟩
  have o7 : C7.2.2 5 = some (.inr (.inr (5, [.ref 6, .ref 51, .int 1, .ref 96, .ref 97, .ref 98, .ref 99, .null]))) := by rw [hC7]; exact x_set_self _ _ _
  have t7 : C7.1 = 101 := by rw [hC7, x_set1]; exact b7
  have u7 : C7.2.1 = B7.2.1 := by rw [hC7, x_set2]
  have v7 : ∀ q, q ≠ 5 → C7.2.2 q = B7.2.2 q := fun q hq => by rw [hC7]; exact x_set_ne hq
  have s1zzzzzz := g_st s1zzzzz (B := C7) (fun q q1 q2 => (v7 q (by omega)).trans (y7 q (by omega)))
  have s2zzzzz := g_st s2zzzz (B := C7) (fun q q1 q2 => (v7 q (by omega)).trans (y7 q (by omega)))
  have s4zzz := g_se s4zz (B := C7) ((v7 _ (by decide)).trans (y7 _ (by decide)))
  have s5zz := g_se s5z (B := C7) ((v7 _ (by decide)).trans (y7 _ (by decide)))
  have s6z := g_se s6 (B := C7) ((v7 _ (by decide)).trans (y7 _ (by decide)))
  have s7 := g_br a7 (B := C7) (fun q q1 q2 => v7 q (by omega))
  have p8 : (am_new C7 3 (.inr (.inr (1, dvX1)))).2.2 101 = some (.inr (.inr (1, dvX1))) := by rw [x_new, t7, if_pos rfl]
  have r8 : (am_new C7 3 (.inr (.inr (1, dvX1)))).1 = 101 + 1 := by rw [x_new1, t7]
  obtain ⟨B8, e8, a8, b8, c8, w8⟩ := i_BR (d := d + 2) p8 (by decide) r8
  have y8 : ∀ q, q < 101 → B8.2.2 q = C7.2.2 q := fun q hq => by rw [w8 q hq, x_new, t7, if_neg (by omega)]
  rw [x_new2] at c8
  have z8 : B8.2.2 5 = some (.inr (.inr (5, [.ref 6, .ref 51, .int 1, .ref 96, .ref 97, .ref 98, .ref 99, .null]))) := (y8 5 (by decide)).trans o7
  obtain ⟨C8, hC8⟩ : ∃ C, C = am_set B8 5 (.inr (.inr (5, [.ref 6, .ref 51, .int 1, .ref 96, .ref 97, .ref 98, .ref 99, .ref 101]))) := ⟨_, rfl⟩
  have o8 : C8.2.2 5 = some (.inr (.inr (5, [.ref 6, .ref 51, .int 1, .ref 96, .ref 97, .ref 98, .ref 99, .ref 101]))) := by rw [hC8]; exact x_set_self _ _ _
  have t8 : C8.1 = 103 := by rw [hC8, x_set1]; exact b8
  have u8 : C8.2.1 = B8.2.1 := by rw [hC8, x_set2]
  have v8 : ∀ q, q ≠ 5 → C8.2.2 q = B8.2.2 q := fun q hq => by rw [hC8]; exact x_set_ne hq
  have s1zzzzzzz := g_st s1zzzzzz (B := C8) (fun q q1 q2 => (v8 q (by omega)).trans (y8 q (by omega)))
  have s2zzzzzz := g_st s2zzzzz (B := C8) (fun q q1 q2 => (v8 q (by omega)).trans (y8 q (by omega)))
  have s4zzzz := g_se s4zzz (B := C8) ((v8 _ (by decide)).trans (y8 _ (by decide)))
  have s5zzz := g_se s5zz (B := C8) ((v8 _ (by decide)).trans (y8 _ (by decide)))
  have s6zz := g_se s6z (B := C8) ((v8 _ (by decide)).trans (y8 _ (by decide)))
  have s7z := g_br s7 (B := C8) (fun q q1 q2 => (v8 q (by omega)).trans (y8 q (by omega)))
  have s8 := g_br a8 (B := C8) (fun q q1 q2 => v8 q (by omega))
  have low : ∀ q, q < 5 → C8.2.2 q = A.2.2 q := fun q hq => by
    rw [v8 q (by omega), y8 q (by omega), v7 q (by omega), y7 q (by omega), v6 q (by omega), y6 q (by omega), v5 q (by omega), y5 q (by omega), v4 q (by omega), y4 q (by omega), v3 q (by omega), v2 q (by omega), y2 q (by omega), v1 q (by omega), y1 q (by omega)]
  refine ⟨C8, ?_, ⟨⟨(low 0 (by decide)).trans hst.1, (low 1 (by decide)).trans hst.2.1, (low 2 (by decide)).trans hst.2.2.1, (low 3 (by decide)).trans hst.2.2.2⟩, o8, Or.inl ⟨rfl, rfl⟩, s1zzzzzzz, s2zzzzzz, ⟨s4zzzz, s5zzz, s6zz⟩, s7z, s8, fun v _ _ => rfl⟩, t8, by omega, low⟩
  refine e_0 ?_; simp only [b_0, i_int, i_long, i_null, i_stat, i_iload, i_lload, i_aload, i_istore, i_astore, i_lstore, i_iinc, i_ii, i_idz, i_i, i_ll, i_lsh, i_i2l, i_l2i, i_lcmp, i_dup, i_pop, i_dup2, i_ifeq, i_ifne, i_iflt, i_ifge, i_ifgt, i_ifle, i_cmpeq, i_cmpne, i_cmplt, i_cmpge, i_cmpgt, i_cmple, i_ifnull, i_ifnonnull, i_getf, am_wr, i_putI, i_putZ, i_putR, i_iald, i_iast, i_aald, i_aast, i_alen, i_newi, i_newq, i_new, i_recv, i_iret, i_zret, i_lret, i_aret, i_vret, List.getElem?_cons_zero, List.getElem?_cons_succ, Option.bind_some, Option.toList_some, Option.toList_none, List.cons_append, List.nil_append, x_nI, am_put, am_put2, List.length_cons, List.length_nil, List.set_cons_zero, List.set_cons_succ, Nat.reduceAdd, Nat.reduceLT, Nat.reduceLeDiff, Nat.reduceEqDiff, Nat.add_left_cancel_iff, Nat.add_eq_left, Nat.left_eq_add, Nat.succ_ne_self, Nat.reduceSub, reduceIte, ite_self, eq_self, or_true, true_or, or_false, false_or, or_self, i10, not_true_eq_false, not_false_eq_true, x_call1, x_call2, x_call3, x_call4, x_call5, x_call6, x_sl0, x_sli, x_slr, x_sln, x_sll, am_ent, List.map_nil, List.map_cons, List.sum_nil, List.sum_cons, Value.category, and_true, true_and, and_self, Nat.zero_le, List.replicate_succ, List.replicate_zero, List.reduceReplicate, x_obj_set, x_row_set, x_len_set, x_obx, x_rox, x_rv, x_iobj, x_obj h, x_own (show 5 ≤ 5 by decide), x_obj_new, h1, e1, x_obj z1, ← hC1, t1, x_obj o1, e2, x_obj z2, ← hC2, t2, x_obj o2, ← hC3, t3, x_obj o3, e4, x_obj z4, ← hC4, t4, x_obj o4, e5, x_obj z5, ← hC5, t5, x_obj o5, e6, x_obj z6, ← hC6, t6, x_obj o6, e7, x_obj z7, ← hC7, t7, x_obj o7, e8, x_obj z8, ← hC8, t8, x_obj o8]
def hMO (A : am_H) : am_H := am_set (am_new (am_set (am_new (am_set (am_set (am_set (am_new (am_set (am_set (am_set (am_new (am_set (am_new (am_set (am_new (am_set (am_new (am_set (am_new (am_set (am_new (am_set (am_new (am_set (am_new (am_set (am_new (am_set (am_new (am_set (am_new (am_set (am_new (am_set (am_new (am_set (am_new (am_set (am_new (am_set (am_new (am_set (am_new A 2 (.inl (0, 2, fun _ => 0))) 103 (.inr (.inr (6, [.int 0, .int 0, .ref 104, .null, .null, .null, .null, .null, .null, .null, .null, .null, .null, .null, .null, .null, .null, .null, .null, .null, .null, .int 0, .null, .int 0, .int 0, .int 0])))) 8 (.inl (0, 8, fun _ => 0))) 103 (.inr (.inr (6, [.int 0, .int 0, .ref 104, .ref 105, .null, .null, .null, .null, .null, .null, .null, .null, .null, .null, .null, .null, .null, .null, .null, .null, .null, .int 0, .null, .int 0, .int 0, .int 0])))) 8 (.inl (0, 8, fun _ => 0))) 103 (.inr (.inr (6, [.int 0, .int 0, .ref 104, .ref 105, .ref 106, .null, .null, .null, .null, .null, .null, .null, .null, .null, .null, .null, .null, .null, .null, .null, .null, .int 0, .null, .int 0, .int 0, .int 0])))) 2 (.inl (0, 2, fun _ => 0))) 103 (.inr (.inr (6, [.int 0, .int 0, .ref 104, .ref 105, .ref 106, .ref 107, .null, .null, .null, .null, .null, .null, .null, .null, .null, .null, .null, .null, .null, .null, .null, .int 0, .null, .int 0, .int 0, .int 0])))) 10 (.inl (0, 10, fun _ => 0))) 103 (.inr (.inr (6, [.int 0, .int 0, .ref 104, .ref 105, .ref 106, .ref 107, .ref 108, .null, .null, .null, .null, .null, .null, .null, .null, .null, .null, .null, .null, .null, .null, .int 0, .null, .int 0, .int 0, .int 0])))) 10 (.inl (0, 10, fun _ => 0))) 103 (.inr (.inr (6, [.int 0, .int 0, .ref 104, .ref 105, .ref 106, .ref 107, .ref 108, .ref 109, .null, .null, .null, .null, .null, .null, .null, .null, .null, .null, .null, .null, .null, .int 0, .null, .int 0, .int 0, .int 0])))) 10 (.inl (0, 10, fun _ => 0))) 103 (.inr (.inr (6, [.int 0, .int 0, .ref 104, .ref 105, .ref 106, .ref 107, .ref 108, .ref 109, .ref 110, .null, .null, .null, .null, .null, .null, .null, .null, .null, .null, .null, .null, .int 0, .null, .int 0, .int 0, .int 0])))) 20 (.inl (0, 20, fun _ => 0))) 103 (.inr (.inr (6, [.int 0, .int 0, .ref 104, .ref 105, .ref 106, .ref 107, .ref 108, .ref 109, .ref 110, .ref 111, .null, .null, .null, .null, .null, .null, .null, .null, .null, .null, .null, .int 0, .null, .int 0, .int 0, .int 0])))) 12 (.inl (0, 12, fun _ => 0))) 103 (.inr (.inr (6, [.int 0, .int 0, .ref 104, .ref 105, .ref 106, .ref 107, .ref 108, .ref 109, .ref 110, .ref 111, .ref 112, .null, .null, .null, .null, .null, .null, .null, .null, .null, .null, .int 0, .null, .int 0, .int 0, .int 0])))) 36 (.inl (0, 36, fun _ => 0))) 103 (.inr (.inr (6, [.int 0, .int 0, .ref 104, .ref 105, .ref 106, .ref 107, .ref 108, .ref 109, .ref 110, .ref 111, .ref 112, .ref 113, .null, .null, .null, .null, .null, .null, .null, .null, .null, .int 0, .null, .int 0, .int 0, .int 0])))) 36 (.inl (0, 36, fun _ => 0))) 103 (.inr (.inr (6, [.int 0, .int 0, .ref 104, .ref 105, .ref 106, .ref 107, .ref 108, .ref 109, .ref 110, .ref 111, .ref 112, .ref 113, .ref 114, .null, .null, .null, .null, .null, .null, .null, .null, .int 0, .null, .int 0, .int 0, .int 0])))) 36 (.inl (0, 36, fun _ => 0))) 103 (.inr (.inr (6, [.int 0, .int 0, .ref 104, .ref 105, .ref 106, .ref 107, .ref 108, .ref 109, .ref 110, .ref 111, .ref 112, .ref 113, .ref 114, .ref 115, .null, .null, .null, .null, .null, .null, .null, .int 0, .null, .int 0, .int 0, .int 0])))) 36 (.inl (0, 36, fun _ => 0))) 103 (.inr (.inr (6, [.int 0, .int 0, .ref 104, .ref 105, .ref 106, .ref 107, .ref 108, .ref 109, .ref 110, .ref 111, .ref 112, .ref 113, .ref 114, .ref 115, .ref 116, .null, .null, .null, .null, .null, .null, .int 0, .null, .int 0, .int 0, .int 0])))) 2 (.inl (0, 2, fun _ => 0))) 103 (.inr (.inr (6, [.int 0, .int 0, .ref 104, .ref 105, .ref 106, .ref 107, .ref 108, .ref 109, .ref 110, .ref 111, .ref 112, .ref 113, .ref 114, .ref 115, .ref 116, .ref 117, .null, .null, .null, .null, .null, .int 0, .null, .int 0, .int 0, .int 0])))) 8000 (.inl (0, 8000, fun _ => 0))) 103 (.inr (.inr (6, [.int 0, .int 0, .ref 104, .ref 105, .ref 106, .ref 107, .ref 108, .ref 109, .ref 110, .ref 111, .ref 112, .ref 113, .ref 114, .ref 115, .ref 116, .ref 117, .ref 118, .null, .null, .null, .null, .int 0, .null, .int 0, .int 0, .int 0])))) 2 (.inl (0, 2, fun _ => 0))) 103 (.inr (.inr (6, [.int 0, .int 0, .ref 104, .ref 105, .ref 106, .ref 107, .ref 108, .ref 109, .ref 110, .ref 111, .ref 112, .ref 113, .ref 114, .ref 115, .ref 116, .ref 117, .ref 118, .ref 119, .null, .null, .null, .int 0, .null, .int 0, .int 0, .int 0])))) 2 (.inl (0, 2, fun _ => 0))) 120 (.inl (0, 2, upd (fun _ => 0) 0 1))) 120 (.inl (0, 2, upd (upd (fun _ => 0) 0 1) 1 1))) 103 (.inr (.inr (6, [.int 0, .int 0, .ref 104, .ref 105, .ref 106, .ref 107, .ref 108, .ref 109, .ref 110, .ref 111, .ref 112, .ref 113, .ref 114, .ref 115, .ref 116, .ref 117, .ref 118, .ref 119, .ref 120, .null, .null, .int 0, .null, .int 0, .int 0, .int 0])))) 2 (.inl (0, 2, fun _ => 0))) 121 (.inl (0, 2, upd (fun _ => 0) 0 1))) 121 (.inl (0, 2, upd (upd (fun _ => 0) 0 1) 1 1))) 103 (.inr (.inr (6, [.int 0, .int 0, .ref 104, .ref 105, .ref 106, .ref 107, .ref 108, .ref 109, .ref 110, .ref 111, .ref 112, .ref 113, .ref 114, .ref 115, .ref 116, .ref 117, .ref 118, .ref 119, .ref 120, .ref 121, .null, .int 0, .null, .int 0, .int 0, .int 0])))) 800 (.inl (0, 800, fun _ => 0))) 103 (.inr (.inr (6, [.int 0, .int 0, .ref 104, .ref 105, .ref 106, .ref 107, .ref 108, .ref 109, .ref 110, .ref 111, .ref 112, .ref 113, .ref 114, .ref 115, .ref 116, .ref 117, .ref 118, .ref 119, .ref 120, .ref 121, .ref 122, .int 0, .null, .int 0, .int 0, .int 0])))) 800 (.inl (0, 800, fun _ => 0))) 103 (.inr (.inr (6, [.int 0, .int 0, .ref 104, .ref 105, .ref 106, .ref 107, .ref 108, .ref 109, .ref 110, .ref 111, .ref 112, .ref 113, .ref 114, .ref 115, .ref 116, .ref 117, .ref 118, .ref 119, .ref 120, .ref 121, .ref 122, .int 0, .ref 123, .int 0, .int 0, .int 0])))
def rMO : Nat → Nat → Int32 := fun i => if i = 17 ∨ i = 18 then upd (upd (fun _ => 0) 0 1) 1 1 else fun _ => 0
set_option maxRecDepth 100000 in
theorem i_MO {d : Nat} {A : am_H} (h : A.2.2 103 = some (.inr (.inr (6, dvX6)))) (h1 : A.1 = 104) : pev (d + 1) 145 [some (.ref 103)] [] A = some (none, hMO A) ∧ MM 103 (hMO A) rMO (0, false, 0, 0, 0, false) ∧ (hMO A).1 = 124 ∧ (hMO A).2.1 = A.2.1 + 9834 ∧ ∀ q, q < 103 → (hMO A).2.2 q = A.2.2 q := by
  refine ⟨?_, ⟨?_, by decide, ?_⟩, ?_, ?_, ?_⟩
  · refine e_145 ?_; simp only [b_145, i_int, i_long, i_null, i_stat, i_iload, i_lload, i_aload, i_istore, i_astore, i_lstore, i_iinc, i_ii, i_idz, i_i, i_ll, i_lsh, i_i2l, i_l2i, i_lcmp, i_dup, i_pop, i_dup2, i_ifeq, i_ifne, i_iflt, i_ifge, i_ifgt, i_ifle, i_cmpeq, i_cmpne, i_cmplt, i_cmpge, i_cmpgt, i_cmple, i_ifnull, i_ifnonnull, i_getf, am_wr, i_putI, i_putZ, i_putR, i_iald, i_iast, i_aald, i_aast, i_alen, i_newi, i_newq, i_new, i_recv, i_iret, i_zret, i_lret, i_aret, i_vret, List.getElem?_cons_zero, List.getElem?_cons_succ, Option.bind_some, Option.toList_some, Option.toList_none, List.cons_append, List.nil_append, x_nI, am_put, am_put2, List.length_cons, List.length_nil, List.set_cons_zero, List.set_cons_succ, Nat.reduceAdd, Nat.reduceLT, Nat.reduceLeDiff, Nat.reduceEqDiff, Nat.add_left_cancel_iff, Nat.add_eq_left, Nat.left_eq_add, Nat.succ_ne_self, Nat.reduceSub, reduceIte, ite_self, eq_self, or_true, true_or, or_false, false_or, or_self, i10, not_true_eq_false, not_false_eq_true, x_call1, x_call2, x_call3, x_call4, x_call5, x_call6, x_sl0, x_sli, x_slr, x_sln, x_sll, am_ent, List.map_nil, List.map_cons, List.sum_nil, List.sum_cons, Value.category, and_true, true_and, and_self, Nat.zero_le, List.replicate_succ, List.replicate_zero, List.reduceReplicate, x_obj_set, x_row_set, x_len_set, x_obx, x_rox, x_rv, x_iobj, x_obj h, x_own (show 5 ≤ 103 by decide), x_own (show 5 ≤ 120 by decide), x_own (show 5 ≤ 121 by decide), ni_2, ni_8, ni_10, ni_12, ni_20, ni_36, ni_800, ni_8000, show am_ix 0 2 = some 0 by decide, show am_ix 1 2 = some 1 by decide, x_obj_new, x_row_new, x_new1, x_set1, h1]
    all_goals rfl
  · simp [hMO, x_set]
    rfl
  · intro i i1 i2
    rcases (show i = 1 ∨ i = 2 ∨ i = 3 ∨ i = 4 ∨ i = 5 ∨ i = 6 ∨ i = 7 ∨ i = 8 ∨ i = 9 ∨ i = 10 ∨ i = 11 ∨ i = 12 ∨ i = 13 ∨ i = 14 ∨ i = 15 ∨ i = 16 ∨ i = 17 ∨ i = 18 ∨ i = 19 ∨ i = 20 by omega) with rfl | rfl | rfl | rfl | rfl | rfl | rfl | rfl | rfl | rfl | rfl | rfl | rfl | rfl | rfl | rfl | rfl | rfl | rfl | rfl <;> simp [hMO, x_set, x_new, x_set1, x_new1, h1, msz, rMO]
  · simp [hMO, x_set1, x_new1, h1]
  · simp [hMO, x_set2, x_new2]
  · intro q hq
    have n103 : q ≠ 103 := by omega
    have n104 : q ≠ 104 := by omega
    have n105 : q ≠ 105 := by omega
    have n106 : q ≠ 106 := by omega
    have n107 : q ≠ 107 := by omega
    have n108 : q ≠ 108 := by omega
    have n109 : q ≠ 109 := by omega
    have n110 : q ≠ 110 := by omega
    have n111 : q ≠ 111 := by omega
    have n112 : q ≠ 112 := by omega
    have n113 : q ≠ 113 := by omega
    have n114 : q ≠ 114 := by omega
    have n115 : q ≠ 115 := by omega
    have n116 : q ≠ 116 := by omega
    have n117 : q ≠ 117 := by omega
    have n118 : q ≠ 118 := by omega
    have n119 : q ≠ 119 := by omega
    have n120 : q ≠ 120 := by omega
    have n121 : q ≠ 121 := by omega
    have n122 : q ≠ 122 := by omega
    have n123 : q ≠ 123 := by omega
    simp [hMO, x_set, x_new, x_set1, x_new1, h1, n103, n104, n105, n106, n107, n108, n109, n110, n111, n112, n113, n114, n115, n116, n117, n118, n119, n120, n121, n122, n123]
