/-! selections -/
def SE (p : Nat) (A : am_H) (s c t : Nat) : Prop := A.2.2 p = some (.inr (.inr (2, [.int (nI s), .int (nI c), .int (nI t)]))) ∧ 5 ≤ p
theorem k_become {d p : Nat} {A : am_H} {s c t : Nat} (h : SE p A s c t) (s2 c2 t2 : Nat) : ∃ B, pev d 67 [some (.ref p), some (.int (nI s2)), some (.int (nI c2)), some (.int (nI t2))] [] A = some (none, B) ∧ SE p B s2 c2 t2 ∧ am_fr (fun q => q = p) A B := by
  refine ⟨am_set (am_set (am_set A p (.inr (.inr (2, [.int (nI s2), .int (nI c), .int (nI t)])))) p (.inr (.inr (2, [.int (nI s2), .int (nI c2), .int (nI t)])))) p (.inr (.inr (2, [.int (nI s2), .int (nI c2), .int (nI t2)]))), ?_, ⟨x_set_self _ _ _, h.2⟩, (((am_fr.refl (P := fun q => q = p) A).set rfl).set rfl).set rfl⟩
  refine e_67 ?_; simp only [b_67, i_int, i_long, i_null, i_stat, i_iload, i_lload, i_aload, i_istore, i_astore, i_lstore, i_iinc, i_ii, i_idz, i_i, i_ll, i_lsh, i_i2l, i_l2i, i_lcmp, i_dup, i_pop, i_dup2, i_ifeq, i_ifne, i_iflt, i_ifge, i_ifgt, i_ifle, i_cmpeq, i_cmpne, i_cmplt, i_cmpge, i_cmpgt, i_cmple, i_ifnull, i_ifnonnull, i_getf, am_wr, i_putI, i_putZ, i_putR, i_iald, i_iast, i_aald, i_aast, i_alen, i_newi, i_newq, i_new, i_recv, i_iret, i_zret, i_lret, i_aret, i_vret, List.getElem?_cons_zero, List.getElem?_cons_succ, Option.bind_some, Option.toList_some, Option.toList_none, List.cons_append, List.nil_append, x_nI, am_put, List.length_cons, List.length_nil, List.set_cons_zero, List.set_cons_succ, Nat.reduceAdd, Nat.reduceLT, Nat.reduceLeDiff, Nat.reduceEqDiff, Nat.add_left_cancel_iff, Nat.add_eq_left, Nat.left_eq_add, Nat.succ_ne_self, Nat.reduceSub, reduceIte, ite_self, not_true_eq_false, not_false_eq_true, x_call1, x_call2, x_call3, x_call4, x_call5, x_call6, x_sl0, x_sli, x_slr, x_sln, x_sll, am_ent, List.map_nil, List.map_cons, List.sum_nil, List.sum_cons, Value.category, and_true, true_and, and_self, Nat.zero_le, List.replicate_succ, List.replicate_zero, List.reduceReplicate, x_obj_set, x_row_set, x_len_set, x_obx, x_rox, x_obj h.1, x_own h.2]
theorem k_last {d p : Nat} {A : am_H} {s c t : Nat} (h : SE p A s c t) (hs : s < 2147483648) (hc : c < 1000) (h1 : 1 ≤ c) (ht : t < 1000) : pev d 71 [some (.ref p)] [] A = some (some (.long (lN (s + (c - 1) * t))), A) := by
  refine e_71 ?_; simp only [b_71, i_int, i_long, i_null, i_stat, i_iload, i_lload, i_aload, i_istore, i_astore, i_lstore, i_iinc, i_ii, i_idz, i_i, i_ll, i_lsh, i_i2l, i_l2i, i_lcmp, i_dup, i_pop, i_dup2, i_ifeq, i_ifne, i_iflt, i_ifge, i_ifgt, i_ifle, i_cmpeq, i_cmpne, i_cmplt, i_cmpge, i_cmpgt, i_cmple, i_ifnull, i_ifnonnull, i_getf, am_wr, i_putI, i_putZ, i_putR, i_iald, i_iast, i_aald, i_aast, i_alen, i_newi, i_newq, i_new, i_recv, i_iret, i_zret, i_lret, i_aret, i_vret, List.getElem?_cons_zero, List.getElem?_cons_succ, Option.bind_some, Option.toList_some, Option.toList_none, List.cons_append, List.nil_append, x_nI, am_put, List.length_cons, List.length_nil, List.set_cons_zero, List.set_cons_succ, Nat.reduceAdd, Nat.reduceLT, Nat.reduceLeDiff, Nat.reduceEqDiff, Nat.add_left_cancel_iff, Nat.add_eq_left, Nat.left_eq_add, Nat.succ_ne_self, Nat.reduceSub, reduceIte, ite_self, not_true_eq_false, not_false_eq_true, x_call1, x_call2, x_call3, x_call4, x_call5, x_call6, x_sl0, x_sli, x_slr, x_sln, x_sll, am_ent, List.map_nil, List.map_cons, List.sum_nil, List.sum_cons, Value.category, and_true, true_and, and_self, Nat.zero_le, List.replicate_succ, List.replicate_zero, List.reduceReplicate, x_obj_set, x_row_set, x_len_set, x_obx, x_rox, x_obj h.1, nI_l (show s < 2 ^ 31 by omega), nI_l (show c < 2 ^ 31 by omega), nI_l (show t < 2 ^ 31 by omega), show (1 : Int64) = lN 1 from rfl, lN_sub h1, lN_mul, lN_add]
theorem k_sat {d p : Nat} {A : am_H} {s c t n : Nat} (h : SE p A s c t) : pev d 77 [some (.ref p), some (.int (nI n))] [] A = some (some (.int (nI (s + n * t))), A) := by
  refine e_77 ?_; simp only [b_77, i_int, i_long, i_null, i_stat, i_iload, i_lload, i_aload, i_istore, i_astore, i_lstore, i_iinc, i_ii, i_idz, i_i, i_ll, i_lsh, i_i2l, i_l2i, i_lcmp, i_dup, i_pop, i_dup2, i_ifeq, i_ifne, i_iflt, i_ifge, i_ifgt, i_ifle, i_cmpeq, i_cmpne, i_cmplt, i_cmpge, i_cmpgt, i_cmple, i_ifnull, i_ifnonnull, i_getf, am_wr, i_putI, i_putZ, i_putR, i_iald, i_iast, i_aald, i_aast, i_alen, i_newi, i_newq, i_new, i_recv, i_iret, i_zret, i_lret, i_aret, i_vret, List.getElem?_cons_zero, List.getElem?_cons_succ, Option.bind_some, Option.toList_some, Option.toList_none, List.cons_append, List.nil_append, x_nI, am_put, List.length_cons, List.length_nil, List.set_cons_zero, List.set_cons_succ, Nat.reduceAdd, Nat.reduceLT, Nat.reduceLeDiff, Nat.reduceEqDiff, Nat.add_left_cancel_iff, Nat.add_eq_left, Nat.left_eq_add, Nat.succ_ne_self, Nat.reduceSub, reduceIte, ite_self, not_true_eq_false, not_false_eq_true, x_call1, x_call2, x_call3, x_call4, x_call5, x_call6, x_sl0, x_sli, x_slr, x_sln, x_sll, am_ent, List.map_nil, List.map_cons, List.sum_nil, List.sum_cons, Value.category, and_true, true_and, and_self, Nat.zero_le, List.replicate_succ, List.replicate_zero, List.reduceReplicate, x_obj_set, x_row_set, x_len_set, x_obx, x_rox, x_obj h.1, pk_mul, nI_add]
/-! looking for a name -/
def fndF (g : Nat → Int32) (x : Int32) : Nat → Nat → Option Nat
  | _, 0 => none
  | k, m + 1 => if g k = x then some k else fndF g x (k + 1) m
def fnd (g : Nat → Int32) (x : Int32) (n : Nat) : Option Nat := fndF g x 0 n
def pI (o : Option Nat) : Int32 := match o with
  | some k => nI k
  | none => -1
theorem fndF_some {g : Nat → Int32} {x : Int32} : ∀ {m k j : Nat}, fndF g x k m = some j → k ≤ j ∧ j < k + m ∧ g j = x := by
  intro m
  induction m with
  | zero => intro k j h; cases h
  | succ m ih =>
    intro k j h
    rw [fndF] at h
    split at h
    · rename_i he
      cases h
      exact ⟨Nat.le_refl _, by omega, he⟩
    · obtain ⟨h1, h2, h3⟩ := ih h
      exact ⟨by omega, by omega, h3⟩
theorem fndF_none {g : Nat → Int32} {x : Int32} : ∀ {m k : Nat}, fndF g x k m = none → ∀ j, k ≤ j → j < k + m → g j ≠ x := by
  intro m
  induction m with
  | zero => intro k _ j h1 h2; omega
  | succ m ih =>
    intro k h j h1 h2
    rw [fndF] at h
    split at h
    · cases h
    · rename_i he
      rcases Nat.lt_or_ge k j with h3 | h3
      · exact ih h j (by omega) (by omega)
      · rw [show j = k by omega]; exact he
theorem fndF_congr {g f : Nat → Int32} {x : Int32} : ∀ {m k : Nat}, (∀ j, k ≤ j → j < k + m → g j = f j) → fndF g x k m = fndF f x k m := by
  intro m
  induction m with
  | zero => intro k _; rfl
  | succ m ih =>
    intro k h
    rw [fndF, fndF, h k (Nat.le_refl _) (by omega), ih (fun j h1 h2 => h j (by omega) (by omega))]
theorem fnd_some {g : Nat → Int32} {x : Int32} {n j : Nat} (h : fnd g x n = some j) : j < n ∧ g j = x := by
  obtain ⟨-, h2, h3⟩ := fndF_some h
  exact ⟨by omega, h3⟩
theorem fnd_none {g : Nat → Int32} {x : Int32} {n : Nat} (h : fnd g x n = none) : ∀ j, j < n → g j ≠ x := fun j hj => fndF_none h j (Nat.zero_le _) (by omega)
theorem fnd_congr {g f : Nat → Int32} {x : Int32} {n : Nat} (h : ∀ j, j < n → g j = f j) : fnd g x n = fnd f x n := fndF_congr (fun j _ h2 => h j (by omega))
theorem k_placeOf1 {d q N n : Nat} {A : am_H} {g : Nat → Int32} {x : Int32} (h : A.2.2 q = some (.inl (0, N, g))) (hn : n ≤ N) (hN : N < 10000) : ∀ (m k : Nat), k + m = n → pev d 12 [some (.int x), some (.ref q), some (.int (nI n)), some (.int (nI k))] [] A = some (some (.int (pI (fndF g x k m))), A) := by
  intro m
  induction m with
  | zero =>
    intro k hk
    refine e_12 ?_; simp only [b_12, i_int, i_long, i_null, i_stat, i_iload, i_lload, i_aload, i_istore, i_astore, i_lstore, i_iinc, i_ii, i_idz, i_i, i_ll, i_lsh, i_i2l, i_l2i, i_lcmp, i_dup, i_pop, i_dup2, i_ifeq, i_ifne, i_iflt, i_ifge, i_ifgt, i_ifle, i_cmpeq, i_cmpne, i_cmplt, i_cmpge, i_cmpgt, i_cmple, i_ifnull, i_ifnonnull, i_getf, am_wr, i_putI, i_putZ, i_putR, i_iald, i_iast, i_aald, i_aast, i_alen, i_newi, i_newq, i_new, i_recv, i_iret, i_zret, i_lret, i_aret, i_vret, List.getElem?_cons_zero, List.getElem?_cons_succ, Option.bind_some, Option.toList_some, Option.toList_none, List.cons_append, List.nil_append, x_nI, am_put, List.length_cons, List.length_nil, List.set_cons_zero, List.set_cons_succ, Nat.reduceAdd, Nat.reduceLT, Nat.reduceLeDiff, Nat.reduceEqDiff, Nat.add_left_cancel_iff, Nat.add_eq_left, Nat.left_eq_add, Nat.succ_ne_self, Nat.reduceSub, reduceIte, ite_self, not_true_eq_false, not_false_eq_true, x_call1, x_call2, x_call3, x_call4, x_call5, x_call6, x_sl0, x_sli, x_slr, x_sln, x_sll, am_ent, List.map_nil, List.map_cons, List.sum_nil, List.sum_cons, Value.category, and_true, true_and, and_self, Nat.zero_le, List.replicate_succ, List.replicate_zero, List.reduceReplicate, x_obj_set, x_row_set, x_len_set, x_obx, x_rox, show nI n ≤ nI k from nI_le (by omega) (by omega)]
    rfl
  | succ m ih =>
    intro k hk
    have e1 := ih (k + 1) (by omega)
    have hc : ¬ nI n ≤ nI k := nI_ge (by omega) (by omega)
    have hc2 : ¬ nI N ≤ nI k := nI_ge (by omega) (by omega)
    rw [fndF]
    by_cases he : g k = x
    · refine e_12 ?_; simp only [b_12, i_int, i_long, i_null, i_stat, i_iload, i_lload, i_aload, i_istore, i_astore, i_lstore, i_iinc, i_ii, i_idz, i_i, i_ll, i_lsh, i_i2l, i_l2i, i_lcmp, i_dup, i_pop, i_dup2, i_ifeq, i_ifne, i_iflt, i_ifge, i_ifgt, i_ifle, i_cmpeq, i_cmpne, i_cmplt, i_cmpge, i_cmpgt, i_cmple, i_ifnull, i_ifnonnull, i_getf, am_wr, i_putI, i_putZ, i_putR, i_iald, i_iast, i_aald, i_aast, i_alen, i_newi, i_newq, i_new, i_recv, i_iret, i_zret, i_lret, i_aret, i_vret, List.getElem?_cons_zero, List.getElem?_cons_succ, Option.bind_some, Option.toList_some, Option.toList_none, List.cons_append, List.nil_append, x_nI, am_put, List.length_cons, List.length_nil, List.set_cons_zero, List.set_cons_succ, Nat.reduceAdd, Nat.reduceLT, Nat.reduceLeDiff, Nat.reduceEqDiff, Nat.add_left_cancel_iff, Nat.add_eq_left, Nat.left_eq_add, Nat.succ_ne_self, Nat.reduceSub, reduceIte, ite_self, not_true_eq_false, not_false_eq_true, x_call1, x_call2, x_call3, x_call4, x_call5, x_call6, x_sl0, x_sli, x_slr, x_sln, x_sll, am_ent, List.map_nil, List.map_cons, List.sum_nil, List.sum_cons, Value.category, and_true, true_and, and_self, Nat.zero_le, List.replicate_succ, List.replicate_zero, List.reduceReplicate, x_obj_set, x_row_set, x_len_set, x_obx, x_rox, hc, hc2, x_len h, x_row h, x_ix (show k < N by omega) (show k < 2147483648 by omega), he]
      rfl
    · refine e_12 ?_; simp only [b_12, i_int, i_long, i_null, i_stat, i_iload, i_lload, i_aload, i_istore, i_astore, i_lstore, i_iinc, i_ii, i_idz, i_i, i_ll, i_lsh, i_i2l, i_l2i, i_lcmp, i_dup, i_pop, i_dup2, i_ifeq, i_ifne, i_iflt, i_ifge, i_ifgt, i_ifle, i_cmpeq, i_cmpne, i_cmplt, i_cmpge, i_cmpgt, i_cmple, i_ifnull, i_ifnonnull, i_getf, am_wr, i_putI, i_putZ, i_putR, i_iald, i_iast, i_aald, i_aast, i_alen, i_newi, i_newq, i_new, i_recv, i_iret, i_zret, i_lret, i_aret, i_vret, List.getElem?_cons_zero, List.getElem?_cons_succ, Option.bind_some, Option.toList_some, Option.toList_none, List.cons_append, List.nil_append, x_nI, am_put, List.length_cons, List.length_nil, List.set_cons_zero, List.set_cons_succ, Nat.reduceAdd, Nat.reduceLT, Nat.reduceLeDiff, Nat.reduceEqDiff, Nat.add_left_cancel_iff, Nat.add_eq_left, Nat.left_eq_add, Nat.succ_ne_self, Nat.reduceSub, reduceIte, ite_self, not_true_eq_false, not_false_eq_true, x_call1, x_call2, x_call3, x_call4, x_call5, x_call6, x_sl0, x_sli, x_slr, x_sln, x_sll, am_ent, List.map_nil, List.map_cons, List.sum_nil, List.sum_cons, Value.category, and_true, true_and, and_self, Nat.zero_le, List.replicate_succ, List.replicate_zero, List.reduceReplicate, x_obj_set, x_row_set, x_len_set, x_obx, x_rox, hc, hc2, x_len h, x_row h, x_ix (show k < N by omega) (show k < 2147483648 by omega), he, nI_1]
      exact e1
theorem k_placeOf {d q N n : Nat} {A : am_H} {g : Nat → Int32} {x : Int32} (h : A.2.2 q = some (.inl (0, N, g))) (hn : n ≤ N) (hN : N < 10000) : pev d 11 [some (.int x), some (.ref q), some (.int (nI n)), none] [] A = some (some (.int (pI (fnd g x n))), A) := by
  refine e_11 ?_; simp only [b_11, i_int, i_long, i_null, i_stat, i_iload, i_lload, i_aload, i_istore, i_astore, i_lstore, i_iinc, i_ii, i_idz, i_i, i_ll, i_lsh, i_i2l, i_l2i, i_lcmp, i_dup, i_pop, i_dup2, i_ifeq, i_ifne, i_iflt, i_ifge, i_ifgt, i_ifle, i_cmpeq, i_cmpne, i_cmplt, i_cmpge, i_cmpgt, i_cmple, i_ifnull, i_ifnonnull, i_getf, am_wr, i_putI, i_putZ, i_putR, i_iald, i_iast, i_aald, i_aast, i_alen, i_newi, i_newq, i_new, i_recv, i_iret, i_zret, i_lret, i_aret, i_vret, List.getElem?_cons_zero, List.getElem?_cons_succ, Option.bind_some, Option.toList_some, Option.toList_none, List.cons_append, List.nil_append, x_nI, am_put, List.length_cons, List.length_nil, List.set_cons_zero, List.set_cons_succ, Nat.reduceAdd, Nat.reduceLT, Nat.reduceLeDiff, Nat.reduceEqDiff, Nat.add_left_cancel_iff, Nat.add_eq_left, Nat.left_eq_add, Nat.succ_ne_self, Nat.reduceSub, reduceIte, ite_self, not_true_eq_false, not_false_eq_true, x_call1, x_call2, x_call3, x_call4, x_call5, x_call6, x_sl0, x_sli, x_slr, x_sln, x_sll, am_ent, List.map_nil, List.map_cons, List.sum_nil, List.sum_cons, Value.category, and_true, true_and, and_self, Nat.zero_le, List.replicate_succ, List.replicate_zero, List.reduceReplicate, x_obj_set, x_row_set, x_len_set, x_obx, x_rox]
  exact k_placeOf1 h hn hN n 0 (by omega)
