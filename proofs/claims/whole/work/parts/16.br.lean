/-! rows of bytes -/
def by8 (n : Nat) : Int32 := (nI n).toInt8.toInt32
def BR (r : Nat) (A : am_H) (bs : List Nat) (cur : Nat) : Prop := ∃ g : Nat → Int32, A.2.2 r = some (.inr (.inr (1, [.ref (r + 1), .int (nI bs.length), .int (nI cur)]))) ∧ A.2.2 (r + 1) = some (.inl (1, 800, g)) ∧ bs.length ≤ 800 ∧ 5 ≤ r ∧ ∀ i, i < bs.length → g i = by8 (bs.getD i 0) ∧ bs.getD i 0 < 256
def at2 (r : Nat) : Nat → Prop := fun q => q = r ∨ q = r + 1
theorem BR.kept {r : Nat} {A B : am_H} {bs : List Nat} {cur : Nat} {P : Nat → Prop} (h : BR r A bs cur) (hf : am_fr P A B) (h1 : ¬ P r) (h2 : ¬ P (r + 1)) : BR r B bs cur := by
  obtain ⟨g, a1, a2, a3⟩ := h
  exact ⟨g, (hf.2.2 _ h1).trans a1, (hf.2.2 _ h2).trans a2, a3⟩
theorem k_append {d r : Nat} {A : am_H} {bs : List Nat} {cur n : Nat} {x : Int32} (h : BR r A bs cur) (hl : bs.length < 800) (hn : n < 256) (hx : x.toInt8.toInt32 = by8 n) : ∃ B, pev d 92 [some (.ref r), some (.int x)] [] A = some (none, B) ∧ BR r B (bs ++ [n]) cur ∧ am_fr (at2 r) A B := by
  obtain ⟨g, h1, h2, h3, h5, h4⟩ := h
  have hx2 : x.toInt8.toInt32.toInt8.toInt32 = by8 n := by rw [← hx]; simp
  have hc : ¬ (nI 800 ≤ nI bs.length) := by
    rw [o_le (by decide) (by omega)]
    omega
  refine ⟨am_set (am_set A (r + 1) (.inl (1, 800, upd g bs.length (by8 n)))) r (.inr (.inr (1, [.ref (r + 1), .int (nI bs.length + 1), .int (nI cur)]))), ?_, ?_, ?_⟩
  · refine e_92 ?_; simp only [b_92, i_int, i_long, i_null, i_stat, i_iload, i_lload, i_aload, i_istore, i_astore, i_lstore, i_iinc, i_ii, i_idz, i_i, i_ll, i_lsh, i_i2l, i_l2i, i_lcmp, i_dup, i_pop, i_dup2, i_ifeq, i_ifne, i_iflt, i_ifge, i_ifgt, i_ifle, i_cmpeq, i_cmpne, i_cmplt, i_cmpge, i_cmpgt, i_cmple, i_ifnull, i_ifnonnull, i_getf, am_wr, i_putI, i_putZ, i_putR, i_iald, i_iast, i_aald, i_aast, i_alen, i_newi, i_newq, i_new, i_recv, i_iret, i_zret, i_lret, i_aret, i_vret, List.getElem?_cons_zero, List.getElem?_cons_succ, Option.bind_some, Option.toList_some, Option.toList_none, List.cons_append, List.nil_append, x_nI, am_put, List.length_cons, List.length_nil, List.set_cons_zero, List.set_cons_succ, Nat.reduceAdd, Nat.reduceLT, Nat.reduceLeDiff, Nat.reduceEqDiff, Nat.reduceSub, reduceIte, ite_self, not_true_eq_false, not_false_eq_true, x_call1, x_call2, x_call3, x_call4, x_call5, x_call6, x_sl0, x_sli, x_slr, x_sln, x_sll, am_ent, List.map_nil, List.map_cons, List.sum_nil, List.sum_cons, Value.category, and_true, true_and, and_self, Nat.zero_le, List.replicate_succ, List.replicate_zero, List.reduceReplicate, x_obj_set, x_row_set, x_len_set, x_obx, x_rox, x_obj h1, x_row h2, x_len h2, hc, x_ix (show bs.length < 800 from hl) (by omega), x_own h5, x_own (show 5 ≤ r + 1 by omega), hx2]
    simp [x_obj_set, x_obj h1, x_own h5, List.set]
  · refine ⟨upd g bs.length (by8 n), ?_, ?_, ?_, h5, ?_⟩
    · rw [x_set_self, List.length_append]
      simp [nI_1]
    · rw [x_set_ne (by omega), x_set_self]
    · rw [List.length_append]
      simp
      omega
    · intro i hi
      rw [List.length_append] at hi
      simp at hi
      by_cases he : i = bs.length
      · subst he
        simp [upd, hn]
      · have hlt : i < bs.length := by omega
        have e1 : (bs ++ [n]).getD i 0 = bs.getD i 0 := by simp [List.getElem?_append_left hlt]
        rw [e1, pk_un he]
        exact h4 i hlt
  · exact ((am_fr.refl A).set (Or.inr rfl)).set (Or.inl rfl)
theorem and255_8 (y : Int32) : (y &&& 255).toInt8 = y.toInt8 := by
  apply Int8.toBitVec_inj.mp
  rw [Int32.toBitVec_toInt8, Int32.toBitVec_toInt8, Int32.toBitVec_and]
  apply BitVec.eq_of_getLsbD_eq
  intro i hi
  have hm : ∀ i < 8, (255 : Int32).toBitVec.getLsbD i = true := by decide
  rw [BitVec.getLsbD_signExtend, BitVec.getLsbD_signExtend, BitVec.getLsbD_and, hm i hi, if_pos (show i < 32 by omega), if_pos (show i < 32 by omega), Bool.and_true]
theorem by8_of (y : Int32) : y.toInt8.toInt32 = by8 ((y &&& 255).toNatClampNeg) := by
  obtain ⟨j, hj, e⟩ := pk_andE y (m := 255) 8 (by decide)
  rw [e, nI_clamp (by omega)]
  unfold by8
  rw [← e, and255_8]
theorem byt_lt (x : Int32) (k : Nat) : byt x k < 256 := by
  obtain ⟨j, hj, e⟩ := pk_andE (shr8 x k) (m := 255) 8 (by decide)
  unfold byt
  rw [e, nI_clamp (by omega)]
  exact hj
theorem k_appendNumber1 {d r : Nat} {cur : Nat} {x W : Int32} : ∀ (w : Nat), w ≤ 4 → ∀ {A : am_H} {bs : List Nat}, BR r A bs cur → bs.length + w ≤ 800 → ∃ B, pev (d + 1) 91 [some (.ref r), some (.int x), some (.int W), some (.int (nI w - 1))] [] A = some (none, B) ∧ BR r B (bs ++ num x w) cur ∧ am_fr (at2 r) A B := by
  intro w
  induction w with
  | zero =>
    intro _ A bs h _
    refine ⟨A, ?_, by rw [num, List.append_nil]; exact h, am_fr.refl A⟩
    refine e_91 ?_; simp only [b_91, i_int, i_long, i_null, i_stat, i_iload, i_lload, i_aload, i_istore, i_astore, i_lstore, i_iinc, i_ii, i_idz, i_i, i_ll, i_lsh, i_i2l, i_l2i, i_lcmp, i_dup, i_pop, i_dup2, i_ifeq, i_ifne, i_iflt, i_ifge, i_ifgt, i_ifle, i_cmpeq, i_cmpne, i_cmplt, i_cmpge, i_cmpgt, i_cmple, i_ifnull, i_ifnonnull, i_getf, am_wr, i_putI, i_putZ, i_putR, i_iald, i_iast, i_aald, i_aast, i_alen, i_newi, i_newq, i_new, i_recv, i_iret, i_zret, i_lret, i_aret, i_vret, List.getElem?_cons_zero, List.getElem?_cons_succ, Option.bind_some, Option.toList_some, Option.toList_none, List.cons_append, List.nil_append, x_nI, am_put, List.length_cons, List.length_nil, List.set_cons_zero, List.set_cons_succ, Nat.reduceAdd, Nat.reduceLT, Nat.reduceLeDiff, Nat.reduceEqDiff, Nat.reduceSub, reduceIte, ite_self, not_true_eq_false, not_false_eq_true, x_call1, x_call2, x_call3, x_call4, x_call5, x_call6, x_sl0, x_sli, x_slr, x_sln, x_sll, am_ent, List.map_nil, List.map_cons, List.sum_nil, List.sum_cons, Value.category, and_true, true_and, and_self, Nat.zero_le, List.replicate_succ, List.replicate_zero, List.reduceReplicate, x_obj_set, x_row_set, x_len_set, x_obx, x_rox, show nI 0 - 1 < 0 by decide]
  | succ w ih =>
    intro hw A bs h hl
    obtain ⟨B, e1, h1, f1⟩ := k_append (d := d) (x := shr8 x w) (n := byt x w) h (by omega) (byt_lt x w) (by8_of _)
    obtain ⟨C, e2, h2, f2⟩ := ih (by omega) h1 (by rw [List.length_append]; simp; omega)
    refine ⟨C, ?_, ?_, f1.trans f2⟩
    · have hn : ¬ (nI w < 0) := nI_pos (by omega)
      obtain ⟨g, q1, -⟩ := id h
      unfold shr8 at e1
      refine e_91 ?_; simp only [b_91, i_int, i_long, i_null, i_stat, i_iload, i_lload, i_aload, i_istore, i_astore, i_lstore, i_iinc, i_ii, i_idz, i_i, i_ll, i_lsh, i_i2l, i_l2i, i_lcmp, i_dup, i_pop, i_dup2, i_ifeq, i_ifne, i_iflt, i_ifge, i_ifgt, i_ifle, i_cmpeq, i_cmpne, i_cmplt, i_cmpge, i_cmpgt, i_cmple, i_ifnull, i_ifnonnull, i_getf, am_wr, i_putI, i_putZ, i_putR, i_iald, i_iast, i_aald, i_aast, i_alen, i_newi, i_newq, i_new, i_recv, i_iret, i_zret, i_lret, i_aret, i_vret, List.getElem?_cons_zero, List.getElem?_cons_succ, Option.bind_some, Option.toList_some, Option.toList_none, List.cons_append, List.nil_append, x_nI, am_put, List.length_cons, List.length_nil, List.set_cons_zero, List.set_cons_succ, Nat.reduceAdd, Nat.reduceLT, Nat.reduceLeDiff, Nat.reduceEqDiff, Nat.reduceSub, reduceIte, ite_self, not_true_eq_false, not_false_eq_true, x_call1, x_call2, x_call3, x_call4, x_call5, x_call6, x_sl0, x_sli, x_slr, x_sln, x_sll, am_ent, List.map_nil, List.map_cons, List.sum_nil, List.sum_cons, Value.category, and_true, true_and, and_self, Nat.zero_le, List.replicate_succ, List.replicate_zero, List.reduceReplicate, x_obj_set, x_row_set, x_len_set, x_obx, x_rox, hn, nI_pred, x_obj q1, e1]
      rw [show nI w + -1 = nI w - 1 by rw [Int32.sub_eq_add_neg]]
      exact e2
    · rw [num]
      rw [List.append_assoc] at h2
      exact h2
theorem k_appendNumber {d r : Nat} {cur : Nat} {x : Int32} {w : Nat} (hw : w ≤ 4) {A : am_H} {bs : List Nat} (h : BR r A bs cur) (hl : bs.length + w ≤ 800) : ∃ B, pev (d + 1) 90 [some (.ref r), some (.int x), some (.int (nI w)), none] [] A = some (none, B) ∧ BR r B (bs ++ num x w) cur ∧ am_fr (at2 r) A B := by
  obtain ⟨B, e1, h1, f1⟩ := k_appendNumber1 (d := d) (x := x) (W := nI w) w hw h hl
  refine ⟨B, ?_, h1, f1⟩
  refine e_90 ?_; simp only [b_90, i_int, i_long, i_null, i_stat, i_iload, i_lload, i_aload, i_istore, i_astore, i_lstore, i_iinc, i_ii, i_idz, i_i, i_ll, i_lsh, i_i2l, i_l2i, i_lcmp, i_dup, i_pop, i_dup2, i_ifeq, i_ifne, i_iflt, i_ifge, i_ifgt, i_ifle, i_cmpeq, i_cmpne, i_cmplt, i_cmpge, i_cmpgt, i_cmple, i_ifnull, i_ifnonnull, i_getf, am_wr, i_putI, i_putZ, i_putR, i_iald, i_iast, i_aald, i_aast, i_alen, i_newi, i_newq, i_new, i_recv, i_iret, i_zret, i_lret, i_aret, i_vret, List.getElem?_cons_zero, List.getElem?_cons_succ, Option.bind_some, Option.toList_some, Option.toList_none, List.cons_append, List.nil_append, x_nI, am_put, List.length_cons, List.length_nil, List.set_cons_zero, List.set_cons_succ, Nat.reduceAdd, Nat.reduceLT, Nat.reduceLeDiff, Nat.reduceEqDiff, Nat.reduceSub, reduceIte, ite_self, not_true_eq_false, not_false_eq_true, x_call1, x_call2, x_call3, x_call4, x_call5, x_call6, x_sl0, x_sli, x_slr, x_sln, x_sll, am_ent, List.map_nil, List.map_cons, List.sum_nil, List.sum_cons, Value.category, and_true, true_and, and_self, Nat.zero_le, List.replicate_succ, List.replicate_zero, List.reduceReplicate, x_obj_set, x_row_set, x_len_set, x_obx, x_rox, e1]
theorem k_appendWord {d r : Nat} {cur : Nat} {x : Int32} {A : am_H} {bs : List Nat} (h : BR r A bs cur) (hl : bs.length + 4 ≤ 800) : ∃ B, pev (d + 2) 89 [some (.ref r), some (.int x)] [] A = some (none, B) ∧ BR r B (bs ++ num x 4) cur ∧ am_fr (at2 r) A B := by
  obtain ⟨B, e1, h1, f1⟩ := k_appendNumber (d := d) (x := x) (w := 4) (by decide) h hl
  refine ⟨B, ?_, h1, f1⟩
  obtain ⟨g, q1, -⟩ := id h
  refine e_89 ?_; simp only [b_89, i_int, i_long, i_null, i_stat, i_iload, i_lload, i_aload, i_istore, i_astore, i_lstore, i_iinc, i_ii, i_idz, i_i, i_ll, i_lsh, i_i2l, i_l2i, i_lcmp, i_dup, i_pop, i_dup2, i_ifeq, i_ifne, i_iflt, i_ifge, i_ifgt, i_ifle, i_cmpeq, i_cmpne, i_cmplt, i_cmpge, i_cmpgt, i_cmple, i_ifnull, i_ifnonnull, i_getf, am_wr, i_putI, i_putZ, i_putR, i_iald, i_iast, i_aald, i_aast, i_alen, i_newi, i_newq, i_new, i_recv, i_iret, i_zret, i_lret, i_aret, i_vret, List.getElem?_cons_zero, List.getElem?_cons_succ, Option.bind_some, Option.toList_some, Option.toList_none, List.cons_append, List.nil_append, x_nI, am_put, List.length_cons, List.length_nil, List.set_cons_zero, List.set_cons_succ, Nat.reduceAdd, Nat.reduceLT, Nat.reduceLeDiff, Nat.reduceEqDiff, Nat.reduceSub, reduceIte, ite_self, not_true_eq_false, not_false_eq_true, x_call1, x_call2, x_call3, x_call4, x_call5, x_call6, x_sl0, x_sli, x_slr, x_sln, x_sll, am_ent, List.map_nil, List.map_cons, List.sum_nil, List.sum_cons, Value.category, and_true, true_and, and_self, Nat.zero_le, List.replicate_succ, List.replicate_zero, List.reduceReplicate, x_obj_set, x_row_set, x_len_set, x_obx, x_rox, x_obj q1, show (4 : Int32) = nI 4 from rfl, e1]
theorem k_appendName {d r : Nat} {cur : Nat} {x : Int32} {A : am_H} {bs : List Nat} (h : BR r A bs cur) (hl : bs.length + 8 ≤ 800) : ∃ B, pev (d + 2) 94 [some (.ref r), some (.int x)] [] A = some (none, B) ∧ BR r B (bs ++ nam x) cur ∧ am_fr (at2 r) A B := by
  obtain ⟨B, e1, h1, f1⟩ := k_appendNumber (d := d) (x := 1) (w := 4) (by decide) h (by omega)
  obtain ⟨C, e2, h2, f2⟩ := k_appendNumber (d := d) (x := x <<< ((24 : Int32) &&& 31)) (w := 4) (by decide) h1 (by rw [List.length_append, num_len]; omega)
  refine ⟨C, ?_, by rw [nam, ← List.append_assoc]; exact h2, f1.trans f2⟩
  obtain ⟨g, q1, -⟩ := id h
  obtain ⟨g2, q2, -⟩ := id h1
  refine e_94 ?_; simp only [b_94, i_int, i_long, i_null, i_stat, i_iload, i_lload, i_aload, i_istore, i_astore, i_lstore, i_iinc, i_ii, i_idz, i_i, i_ll, i_lsh, i_i2l, i_l2i, i_lcmp, i_dup, i_pop, i_dup2, i_ifeq, i_ifne, i_iflt, i_ifge, i_ifgt, i_ifle, i_cmpeq, i_cmpne, i_cmplt, i_cmpge, i_cmpgt, i_cmple, i_ifnull, i_ifnonnull, i_getf, am_wr, i_putI, i_putZ, i_putR, i_iald, i_iast, i_aald, i_aast, i_alen, i_newi, i_newq, i_new, i_recv, i_iret, i_zret, i_lret, i_aret, i_vret, List.getElem?_cons_zero, List.getElem?_cons_succ, Option.bind_some, Option.toList_some, Option.toList_none, List.cons_append, List.nil_append, x_nI, am_put, List.length_cons, List.length_nil, List.set_cons_zero, List.set_cons_succ, Nat.reduceAdd, Nat.reduceLT, Nat.reduceLeDiff, Nat.reduceEqDiff, Nat.reduceSub, reduceIte, ite_self, not_true_eq_false, not_false_eq_true, x_call1, x_call2, x_call3, x_call4, x_call5, x_call6, x_sl0, x_sli, x_slr, x_sln, x_sll, am_ent, List.map_nil, List.map_cons, List.sum_nil, List.sum_cons, Value.category, and_true, true_and, and_self, Nat.zero_le, List.replicate_succ, List.replicate_zero, List.reduceReplicate, x_obj_set, x_row_set, x_len_set, x_obx, x_rox, x_obj q1, x_obj q2, show (4 : Int32) = nI 4 from rfl, e1, e2]
theorem k_appendListHead {d r : Nat} {cur : Nat} {k n : Nat} (hn : n < 1000) {A : am_H} {bs : List Nat} (h : BR r A bs cur) (hl : bs.length + 8 ≤ 800) : ∃ B, pev (d + 2) 93 [some (.ref r), some (.int (nI k)), some (.int (nI n))] [] A = some (none, B) ∧ BR r B (bs ++ hea k n) cur ∧ am_fr (at2 r) A B := by
  obtain ⟨B, e1, h1, f1⟩ := k_appendNumber (d := d) (x := nI (if n = 0 then 0 else k)) (w := 4) (by decide) h (by omega)
  obtain ⟨C, e2, h2, f2⟩ := k_appendNumber (d := d) (x := nI n) (w := 4) (by decide) h1 (by rw [List.length_append, num_len]; omega)
  refine ⟨C, ?_, by rw [hea, ← List.append_assoc]; exact h2, f1.trans f2⟩
  obtain ⟨g, q1, -⟩ := id h
  obtain ⟨g2, q2, -⟩ := id h1
  by_cases h0 : n = 0
  · subst h0
    rw [if_pos rfl] at e1
    have hz : ¬ ¬ nI 0 = 0 := by decide
    refine e_93 ?_; simp only [b_93, i_int, i_long, i_null, i_stat, i_iload, i_lload, i_aload, i_istore, i_astore, i_lstore, i_iinc, i_ii, i_idz, i_i, i_ll, i_lsh, i_i2l, i_l2i, i_lcmp, i_dup, i_pop, i_dup2, i_ifeq, i_ifne, i_iflt, i_ifge, i_ifgt, i_ifle, i_cmpeq, i_cmpne, i_cmplt, i_cmpge, i_cmpgt, i_cmple, i_ifnull, i_ifnonnull, i_getf, am_wr, i_putI, i_putZ, i_putR, i_iald, i_iast, i_aald, i_aast, i_alen, i_newi, i_newq, i_new, i_recv, i_iret, i_zret, i_lret, i_aret, i_vret, List.getElem?_cons_zero, List.getElem?_cons_succ, Option.bind_some, Option.toList_some, Option.toList_none, List.cons_append, List.nil_append, x_nI, am_put, List.length_cons, List.length_nil, List.set_cons_zero, List.set_cons_succ, Nat.reduceAdd, Nat.reduceLT, Nat.reduceLeDiff, Nat.reduceEqDiff, Nat.reduceSub, reduceIte, ite_self, not_true_eq_false, not_false_eq_true, x_call1, x_call2, x_call3, x_call4, x_call5, x_call6, x_sl0, x_sli, x_slr, x_sln, x_sll, am_ent, List.map_nil, List.map_cons, List.sum_nil, List.sum_cons, Value.category, and_true, true_and, and_self, Nat.zero_le, List.replicate_succ, List.replicate_zero, List.reduceReplicate, x_obj_set, x_row_set, x_len_set, x_obx, x_rox, hz, x_obj q1, x_obj q2, show (0 : Int32) = nI 0 from rfl, show (4 : Int32) = nI 4 from rfl, e1, e2]
  · rw [if_neg h0] at e1
    have hz : ¬ nI n = 0 := nI_ne0 (by omega) (by omega)
    refine e_93 ?_; simp only [b_93, i_int, i_long, i_null, i_stat, i_iload, i_lload, i_aload, i_istore, i_astore, i_lstore, i_iinc, i_ii, i_idz, i_i, i_ll, i_lsh, i_i2l, i_l2i, i_lcmp, i_dup, i_pop, i_dup2, i_ifeq, i_ifne, i_iflt, i_ifge, i_ifgt, i_ifle, i_cmpeq, i_cmpne, i_cmplt, i_cmpge, i_cmpgt, i_cmple, i_ifnull, i_ifnonnull, i_getf, am_wr, i_putI, i_putZ, i_putR, i_iald, i_iast, i_aald, i_aast, i_alen, i_newi, i_newq, i_new, i_recv, i_iret, i_zret, i_lret, i_aret, i_vret, List.getElem?_cons_zero, List.getElem?_cons_succ, Option.bind_some, Option.toList_some, Option.toList_none, List.cons_append, List.nil_append, x_nI, am_put, List.length_cons, List.length_nil, List.set_cons_zero, List.set_cons_succ, Nat.reduceAdd, Nat.reduceLT, Nat.reduceLeDiff, Nat.reduceEqDiff, Nat.reduceSub, reduceIte, ite_self, not_true_eq_false, not_false_eq_true, x_call1, x_call2, x_call3, x_call4, x_call5, x_call6, x_sl0, x_sli, x_slr, x_sln, x_sll, am_ent, List.map_nil, List.map_cons, List.sum_nil, List.sum_cons, Value.category, and_true, true_and, and_self, Nat.zero_le, List.replicate_succ, List.replicate_zero, List.reduceReplicate, x_obj_set, x_row_set, x_len_set, x_obx, x_rox, hz, not_false_eq_true, x_obj q1, x_obj q2, show (4 : Int32) = nI 4 from rfl, e1, e2]
theorem pad4_800 {n : Nat} (h : n ≤ 800) : pad4 n ≤ 800 := by
  unfold pad4
  omega
theorem k_appendPadding1 {d r : Nat} {cur m : Nat} (hm : m < 1000) : ∀ (w k : Nat), k + w = m → ∀ {A : am_H} {bs : List Nat}, BR r A bs cur → bs.length + w ≤ 800 → ∃ B, pev (d + 1) 98 [some (.ref r), some (.int (nI m)), some (.int (nI k))] [] A = some (none, B) ∧ BR r B (bs ++ List.replicate w 0) cur ∧ am_fr (at2 r) A B := by
  intro w
  induction w with
  | zero =>
    intro k hk A bs h _
    have hc : nI m ≤ nI k := nI_le (by omega) (by omega)
    refine ⟨A, ?_, by simpa using h, am_fr.refl A⟩
    refine e_98 ?_; simp only [b_98, i_int, i_long, i_null, i_stat, i_iload, i_lload, i_aload, i_istore, i_astore, i_lstore, i_iinc, i_ii, i_idz, i_i, i_ll, i_lsh, i_i2l, i_l2i, i_lcmp, i_dup, i_pop, i_dup2, i_ifeq, i_ifne, i_iflt, i_ifge, i_ifgt, i_ifle, i_cmpeq, i_cmpne, i_cmplt, i_cmpge, i_cmpgt, i_cmple, i_ifnull, i_ifnonnull, i_getf, am_wr, i_putI, i_putZ, i_putR, i_iald, i_iast, i_aald, i_aast, i_alen, i_newi, i_newq, i_new, i_recv, i_iret, i_zret, i_lret, i_aret, i_vret, List.getElem?_cons_zero, List.getElem?_cons_succ, Option.bind_some, Option.toList_some, Option.toList_none, List.cons_append, List.nil_append, x_nI, am_put, List.length_cons, List.length_nil, List.set_cons_zero, List.set_cons_succ, Nat.reduceAdd, Nat.reduceLT, Nat.reduceLeDiff, Nat.reduceEqDiff, Nat.reduceSub, reduceIte, ite_self, not_true_eq_false, not_false_eq_true, x_call1, x_call2, x_call3, x_call4, x_call5, x_call6, x_sl0, x_sli, x_slr, x_sln, x_sll, am_ent, List.map_nil, List.map_cons, List.sum_nil, List.sum_cons, Value.category, and_true, true_and, and_self, Nat.zero_le, List.replicate_succ, List.replicate_zero, List.reduceReplicate, x_obj_set, x_row_set, x_len_set, x_obx, x_rox, hc]
  | succ w ih =>
    intro k hk A bs h hl
    obtain ⟨B, e1, h1, f1⟩ := k_append (d := d) (x := 0) (n := 0) h (by omega) (by decide) (by decide)
    obtain ⟨C, e2, h2, f2⟩ := ih (k + 1) (by omega) h1 (by rw [List.length_append]; simp; omega)
    have hc : ¬ nI m ≤ nI k := nI_ge (by omega) (by omega)
    obtain ⟨g, q1, -⟩ := id h
    refine ⟨C, ?_, by rw [List.append_assoc] at h2; exact h2, f1.trans f2⟩
    refine e_98 ?_; simp only [b_98, i_int, i_long, i_null, i_stat, i_iload, i_lload, i_aload, i_istore, i_astore, i_lstore, i_iinc, i_ii, i_idz, i_i, i_ll, i_lsh, i_i2l, i_l2i, i_lcmp, i_dup, i_pop, i_dup2, i_ifeq, i_ifne, i_iflt, i_ifge, i_ifgt, i_ifle, i_cmpeq, i_cmpne, i_cmplt, i_cmpge, i_cmpgt, i_cmple, i_ifnull, i_ifnonnull, i_getf, am_wr, i_putI, i_putZ, i_putR, i_iald, i_iast, i_aald, i_aast, i_alen, i_newi, i_newq, i_new, i_recv, i_iret, i_zret, i_lret, i_aret, i_vret, List.getElem?_cons_zero, List.getElem?_cons_succ, Option.bind_some, Option.toList_some, Option.toList_none, List.cons_append, List.nil_append, x_nI, am_put, List.length_cons, List.length_nil, List.set_cons_zero, List.set_cons_succ, Nat.reduceAdd, Nat.reduceLT, Nat.reduceLeDiff, Nat.reduceEqDiff, Nat.reduceSub, reduceIte, ite_self, not_true_eq_false, not_false_eq_true, x_call1, x_call2, x_call3, x_call4, x_call5, x_call6, x_sl0, x_sli, x_slr, x_sln, x_sll, am_ent, List.map_nil, List.map_cons, List.sum_nil, List.sum_cons, Value.category, and_true, true_and, and_self, Nat.zero_le, List.replicate_succ, List.replicate_zero, List.reduceReplicate, x_obj_set, x_row_set, x_len_set, x_obx, x_rox, hc, x_obj q1, e1, nI_1, e2]
theorem k_appendPadding {d r : Nat} {cur : Nat} {A : am_H} {bs : List Nat} (h : BR r A bs cur) : ∃ B, pev (d + 1) 97 [some (.ref r), none, none] [] A = some (none, B) ∧ BR r B (bs ++ padl bs.length) cur ∧ am_fr (at2 r) A B := by
  obtain ⟨g, q1, q2, q3, -⟩ := id h
  have hp := pad4_800 q3
  have hg := pad4_ge bs.length
  obtain ⟨B, e1, h1, f1⟩ := k_appendPadding1 (d := d) (m := pad4 bs.length - bs.length) (by omega) (pad4 bs.length - bs.length) 0 (by omega) h (by omega)
  refine ⟨B, ?_, h1, f1⟩
  refine e_97 ?_; simp only [b_97, i_int, i_long, i_null, i_stat, i_iload, i_lload, i_aload, i_istore, i_astore, i_lstore, i_iinc, i_ii, i_idz, i_i, i_ll, i_lsh, i_i2l, i_l2i, i_lcmp, i_dup, i_pop, i_dup2, i_ifeq, i_ifne, i_iflt, i_ifge, i_ifgt, i_ifle, i_cmpeq, i_cmpne, i_cmplt, i_cmpge, i_cmpgt, i_cmple, i_ifnull, i_ifnonnull, i_getf, am_wr, i_putI, i_putZ, i_putR, i_iald, i_iast, i_aald, i_aast, i_alen, i_newi, i_newq, i_new, i_recv, i_iret, i_zret, i_lret, i_aret, i_vret, List.getElem?_cons_zero, List.getElem?_cons_succ, Option.bind_some, Option.toList_some, Option.toList_none, List.cons_append, List.nil_append, x_nI, am_put, List.length_cons, List.length_nil, List.set_cons_zero, List.set_cons_succ, Nat.reduceAdd, Nat.reduceLT, Nat.reduceLeDiff, Nat.reduceEqDiff, Nat.reduceSub, reduceIte, ite_self, not_true_eq_false, not_false_eq_true, x_call1, x_call2, x_call3, x_call4, x_call5, x_call6, x_sl0, x_sli, x_slr, x_sln, x_sll, am_ent, List.map_nil, List.map_cons, List.sum_nil, List.sum_cons, Value.category, and_true, true_and, and_self, Nat.zero_le, List.replicate_succ, List.replicate_zero, List.reduceReplicate, x_obj_set, x_row_set, x_len_set, x_obx, x_rox, x_obj q1, k_padded bs.length (show bs.length < 100000 by omega), pk_sub hg, show (0 : Int32) = nI 0 from rfl, e1]
theorem k_rclear {d r : Nat} {cur : Nat} {A : am_H} {bs : List Nat} (h : BR r A bs cur) : ∃ B, pev d 88 [some (.ref r)] [] A = some (none, B) ∧ BR r B [] 0 ∧ am_fr (at2 r) A B := by
  obtain ⟨g, q1, q2, q3, q5, -⟩ := h
  refine ⟨am_set (am_set A r (.inr (.inr (1, [.ref (r + 1), .int 0, .int (nI cur)])))) r (.inr (.inr (1, [.ref (r + 1), .int 0, .int 0]))), ?_, ?_, ?_⟩
  · refine e_88 ?_; simp only [b_88, i_int, i_long, i_null, i_stat, i_iload, i_lload, i_aload, i_istore, i_astore, i_lstore, i_iinc, i_ii, i_idz, i_i, i_ll, i_lsh, i_i2l, i_l2i, i_lcmp, i_dup, i_pop, i_dup2, i_ifeq, i_ifne, i_iflt, i_ifge, i_ifgt, i_ifle, i_cmpeq, i_cmpne, i_cmplt, i_cmpge, i_cmpgt, i_cmple, i_ifnull, i_ifnonnull, i_getf, am_wr, i_putI, i_putZ, i_putR, i_iald, i_iast, i_aald, i_aast, i_alen, i_newi, i_newq, i_new, i_recv, i_iret, i_zret, i_lret, i_aret, i_vret, List.getElem?_cons_zero, List.getElem?_cons_succ, Option.bind_some, Option.toList_some, Option.toList_none, List.cons_append, List.nil_append, x_nI, am_put, List.length_cons, List.length_nil, List.set_cons_zero, List.set_cons_succ, Nat.reduceAdd, Nat.reduceLT, Nat.reduceLeDiff, Nat.reduceEqDiff, Nat.reduceSub, reduceIte, ite_self, not_true_eq_false, not_false_eq_true, x_call1, x_call2, x_call3, x_call4, x_call5, x_call6, x_sl0, x_sli, x_slr, x_sln, x_sll, am_ent, List.map_nil, List.map_cons, List.sum_nil, List.sum_cons, Value.category, and_true, true_and, and_self, Nat.zero_le, List.replicate_succ, List.replicate_zero, List.reduceReplicate, x_obj_set, x_row_set, x_len_set, x_obx, x_rox, x_obj q1, x_own q5]
  · refine ⟨g, by rw [x_set_self]; rfl, by rw [x_set_ne (by omega), x_set_ne (by omega)]; exact q2, by simp, q5, fun i hi => by simp at hi⟩
  · exact ((am_fr.refl A).set (Or.inl rfl)).set (Or.inl rfl)
theorem k_rewind {d r : Nat} {cur : Nat} {A : am_H} {bs : List Nat} (h : BR r A bs cur) : ∃ B, pev d 119 [some (.ref r)] [] A = some (none, B) ∧ BR r B bs 0 ∧ am_fr (at2 r) A B := by
  obtain ⟨g, q1, q2, q3, q5, q4⟩ := h
  refine ⟨am_set A r (.inr (.inr (1, [.ref (r + 1), .int (nI bs.length), .int 0]))), ?_, ?_, ?_⟩
  · refine e_119 ?_; simp only [b_119, i_int, i_long, i_null, i_stat, i_iload, i_lload, i_aload, i_istore, i_astore, i_lstore, i_iinc, i_ii, i_idz, i_i, i_ll, i_lsh, i_i2l, i_l2i, i_lcmp, i_dup, i_pop, i_dup2, i_ifeq, i_ifne, i_iflt, i_ifge, i_ifgt, i_ifle, i_cmpeq, i_cmpne, i_cmplt, i_cmpge, i_cmpgt, i_cmple, i_ifnull, i_ifnonnull, i_getf, am_wr, i_putI, i_putZ, i_putR, i_iald, i_iast, i_aald, i_aast, i_alen, i_newi, i_newq, i_new, i_recv, i_iret, i_zret, i_lret, i_aret, i_vret, List.getElem?_cons_zero, List.getElem?_cons_succ, Option.bind_some, Option.toList_some, Option.toList_none, List.cons_append, List.nil_append, x_nI, am_put, List.length_cons, List.length_nil, List.set_cons_zero, List.set_cons_succ, Nat.reduceAdd, Nat.reduceLT, Nat.reduceLeDiff, Nat.reduceEqDiff, Nat.reduceSub, reduceIte, ite_self, not_true_eq_false, not_false_eq_true, x_call1, x_call2, x_call3, x_call4, x_call5, x_call6, x_sl0, x_sli, x_slr, x_sln, x_sll, am_ent, List.map_nil, List.map_cons, List.sum_nil, List.sum_cons, Value.category, and_true, true_and, and_self, Nat.zero_le, List.replicate_succ, List.replicate_zero, List.reduceReplicate, x_obj_set, x_row_set, x_len_set, x_obx, x_rox, x_obj q1, x_own q5]
  · exact ⟨g, by rw [x_set_self]; rfl, by rw [x_set_ne (by omega)]; exact q2, q3, q5, q4⟩
  · exact (am_fr.refl A).set (Or.inl rfl)
theorem k_rat {d r : Nat} {cur i : Nat} {A : am_H} {bs : List Nat} (h : BR r A bs cur) (hi : i < 2147483648) : pev d 109 [some (.ref r), some (.int (nI i))] [] A = some (some (.int (nI (bs.getD i 0))), A) := by
  obtain ⟨g, q1, q2, q3, q5, q4⟩ := h
  have h0 : ¬ nI i < 0 := nI_pos hi
  by_cases hl : i < bs.length
  · have hc : ¬ nI bs.length ≤ nI i := nI_ge hl (by omega)
    refine e_109 ?_; simp only [b_109, i_int, i_long, i_null, i_stat, i_iload, i_lload, i_aload, i_istore, i_astore, i_lstore, i_iinc, i_ii, i_idz, i_i, i_ll, i_lsh, i_i2l, i_l2i, i_lcmp, i_dup, i_pop, i_dup2, i_ifeq, i_ifne, i_iflt, i_ifge, i_ifgt, i_ifle, i_cmpeq, i_cmpne, i_cmplt, i_cmpge, i_cmpgt, i_cmple, i_ifnull, i_ifnonnull, i_getf, am_wr, i_putI, i_putZ, i_putR, i_iald, i_iast, i_aald, i_aast, i_alen, i_newi, i_newq, i_new, i_recv, i_iret, i_zret, i_lret, i_aret, i_vret, List.getElem?_cons_zero, List.getElem?_cons_succ, Option.bind_some, Option.toList_some, Option.toList_none, List.cons_append, List.nil_append, x_nI, am_put, List.length_cons, List.length_nil, List.set_cons_zero, List.set_cons_succ, Nat.reduceAdd, Nat.reduceLT, Nat.reduceLeDiff, Nat.reduceEqDiff, Nat.reduceSub, reduceIte, ite_self, not_true_eq_false, not_false_eq_true, x_call1, x_call2, x_call3, x_call4, x_call5, x_call6, x_sl0, x_sli, x_slr, x_sln, x_sll, am_ent, List.map_nil, List.map_cons, List.sum_nil, List.sum_cons, Value.category, and_true, true_and, and_self, Nat.zero_le, List.replicate_succ, List.replicate_zero, List.reduceReplicate, x_obj_set, x_row_set, x_len_set, x_obx, x_rox, h0, x_obj q1, hc, x_row q2, x_ix (show i < 800 by omega) (show i < 2147483648 by omega), (q4 i hl).1, by8, sc_k8 _ (q4 i hl).2]
  · have hc : nI bs.length ≤ nI i := nI_le (by omega) (by omega)
    have e1 : bs.getD i 0 = 0 := by simp [List.getElem?_eq_none (Nat.not_lt.mp hl)]
    refine e_109 ?_; simp only [b_109, i_int, i_long, i_null, i_stat, i_iload, i_lload, i_aload, i_istore, i_astore, i_lstore, i_iinc, i_ii, i_idz, i_i, i_ll, i_lsh, i_i2l, i_l2i, i_lcmp, i_dup, i_pop, i_dup2, i_ifeq, i_ifne, i_iflt, i_ifge, i_ifgt, i_ifle, i_cmpeq, i_cmpne, i_cmplt, i_cmpge, i_cmpgt, i_cmple, i_ifnull, i_ifnonnull, i_getf, am_wr, i_putI, i_putZ, i_putR, i_iald, i_iast, i_aald, i_aast, i_alen, i_newi, i_newq, i_new, i_recv, i_iret, i_zret, i_lret, i_aret, i_vret, List.getElem?_cons_zero, List.getElem?_cons_succ, Option.bind_some, Option.toList_some, Option.toList_none, List.cons_append, List.nil_append, x_nI, am_put, List.length_cons, List.length_nil, List.set_cons_zero, List.set_cons_succ, Nat.reduceAdd, Nat.reduceLT, Nat.reduceLeDiff, Nat.reduceEqDiff, Nat.reduceSub, reduceIte, ite_self, not_true_eq_false, not_false_eq_true, x_call1, x_call2, x_call3, x_call4, x_call5, x_call6, x_sl0, x_sli, x_slr, x_sln, x_sll, am_ent, List.map_nil, List.map_cons, List.sum_nil, List.sum_cons, Value.category, and_true, true_and, and_self, Nat.zero_le, List.replicate_succ, List.replicate_zero, List.reduceReplicate, x_obj_set, x_row_set, x_len_set, x_obx, x_rox, h0, x_obj q1, hc, e1, show (0 : Int32) = nI 0 from rfl]
/-! taking numbers: rd bs c w is the number of the w bytes at place c (beyond the end bytes 0) -/
def rd (bs : List Nat) (c : Nat) : Nat → Int32
  | 0 => 0
  | w + 1 => rd bs c w <<< ((8 : Int32) &&& 31) ||| nI (bs.getD (c + w) 0)
theorem k_takeNumber1 {d r : Nat} {bs : List Nat} {c w : Nat} (hw : w ≤ 4) (hc : c < 1000000) : ∀ (m k : Nat), k + m = w → ∀ {A : am_H}, BR r A bs (c + k) → ∃ B, pev d 122 [some (.ref r), some (.int (nI w)), some (.int (rd bs c k)), some (.int (nI k))] [] A = some (some (.int (rd bs c w)), B) ∧ BR r B bs (c + w) ∧ am_fr (at2 r) A B := by
  intro m
  induction m with
  | zero =>
    intro k hk A h
    have hkw : k = w := by omega
    subst hkw
    refine ⟨A, ?_, h, am_fr.refl A⟩
    refine e_122 ?_; simp only [b_122, i_int, i_long, i_null, i_stat, i_iload, i_lload, i_aload, i_istore, i_astore, i_lstore, i_iinc, i_ii, i_idz, i_i, i_ll, i_lsh, i_i2l, i_l2i, i_lcmp, i_dup, i_pop, i_dup2, i_ifeq, i_ifne, i_iflt, i_ifge, i_ifgt, i_ifle, i_cmpeq, i_cmpne, i_cmplt, i_cmpge, i_cmpgt, i_cmple, i_ifnull, i_ifnonnull, i_getf, am_wr, i_putI, i_putZ, i_putR, i_iald, i_iast, i_aald, i_aast, i_alen, i_newi, i_newq, i_new, i_recv, i_iret, i_zret, i_lret, i_aret, i_vret, List.getElem?_cons_zero, List.getElem?_cons_succ, Option.bind_some, Option.toList_some, Option.toList_none, List.cons_append, List.nil_append, x_nI, am_put, List.length_cons, List.length_nil, List.set_cons_zero, List.set_cons_succ, Nat.reduceAdd, Nat.reduceLT, Nat.reduceLeDiff, Nat.reduceEqDiff, Nat.reduceSub, reduceIte, ite_self, not_true_eq_false, not_false_eq_true, x_call1, x_call2, x_call3, x_call4, x_call5, x_call6, x_sl0, x_sli, x_slr, x_sln, x_sll, am_ent, List.map_nil, List.map_cons, List.sum_nil, List.sum_cons, Value.category, and_true, true_and, and_self, Nat.zero_le, List.replicate_succ, List.replicate_zero, List.reduceReplicate, x_obj_set, x_row_set, x_len_set, x_obx, x_rox, show nI k ≤ nI k from nI_le (Nat.le_refl _) (by omega)]
  | succ m ih =>
    intro k hk A h
    obtain ⟨g, q1, q2, q3, q5, q4⟩ := id h
    have hn : ¬ nI w ≤ nI k := nI_ge (by omega) (by omega)
    have hB : BR r (am_set A r (.inr (.inr (1, [.ref (r + 1), .int (nI bs.length), .int (nI (c + (k + 1)))])))) bs (c + (k + 1)) := ⟨g, by rw [x_set_self], by rw [x_set_ne (by omega)]; exact q2, q3, q5, q4⟩
    obtain ⟨B, e1, h1, f1⟩ := ih (k + 1) (by omega) hB
    refine ⟨B, ?_, h1, ((am_fr.refl A).set (Or.inl rfl)).trans f1⟩
    rw [rd] at e1
    have e3 : nI (c + k) + 1 = nI (c + (k + 1)) := nI_1 (c + k)
    by_cases hl : c + k < bs.length
    · have hc : ¬ nI bs.length ≤ nI (c + k) := nI_ge hl (by omega)
      refine e_122 ?_; simp only [b_122, i_int, i_long, i_null, i_stat, i_iload, i_lload, i_aload, i_istore, i_astore, i_lstore, i_iinc, i_ii, i_idz, i_i, i_ll, i_lsh, i_i2l, i_l2i, i_lcmp, i_dup, i_pop, i_dup2, i_ifeq, i_ifne, i_iflt, i_ifge, i_ifgt, i_ifle, i_cmpeq, i_cmpne, i_cmplt, i_cmpge, i_cmpgt, i_cmple, i_ifnull, i_ifnonnull, i_getf, am_wr, i_putI, i_putZ, i_putR, i_iald, i_iast, i_aald, i_aast, i_alen, i_newi, i_newq, i_new, i_recv, i_iret, i_zret, i_lret, i_aret, i_vret, List.getElem?_cons_zero, List.getElem?_cons_succ, Option.bind_some, Option.toList_some, Option.toList_none, List.cons_append, List.nil_append, x_nI, am_put, List.length_cons, List.length_nil, List.set_cons_zero, List.set_cons_succ, Nat.reduceAdd, Nat.reduceLT, Nat.reduceLeDiff, Nat.reduceEqDiff, Nat.reduceSub, reduceIte, ite_self, not_true_eq_false, not_false_eq_true, x_call1, x_call2, x_call3, x_call4, x_call5, x_call6, x_sl0, x_sli, x_slr, x_sln, x_sll, am_ent, List.map_nil, List.map_cons, List.sum_nil, List.sum_cons, Value.category, and_true, true_and, and_self, Nat.zero_le, List.replicate_succ, List.replicate_zero, List.reduceReplicate, x_obj_set, x_row_set, x_len_set, x_obx, x_rox, hn, x_obj q1, hc, x_row q2, x_ix (show c + k < 800 by omega) (show c + k < 2147483648 by omega), (q4 _ hl).1, by8, sc_k8 _ (q4 _ hl).2, x_own q5, e3, nI_1]
      exact e1
    · have hc : nI bs.length ≤ nI (c + k) := nI_le (by omega) (by omega)
      have e2 : bs.getD (c + k) 0 = 0 := by simp [List.getElem?_eq_none (Nat.not_lt.mp hl)]
      rw [e2] at e1
      refine e_122 ?_; simp only [b_122, i_int, i_long, i_null, i_stat, i_iload, i_lload, i_aload, i_istore, i_astore, i_lstore, i_iinc, i_ii, i_idz, i_i, i_ll, i_lsh, i_i2l, i_l2i, i_lcmp, i_dup, i_pop, i_dup2, i_ifeq, i_ifne, i_iflt, i_ifge, i_ifgt, i_ifle, i_cmpeq, i_cmpne, i_cmplt, i_cmpge, i_cmpgt, i_cmple, i_ifnull, i_ifnonnull, i_getf, am_wr, i_putI, i_putZ, i_putR, i_iald, i_iast, i_aald, i_aast, i_alen, i_newi, i_newq, i_new, i_recv, i_iret, i_zret, i_lret, i_aret, i_vret, List.getElem?_cons_zero, List.getElem?_cons_succ, Option.bind_some, Option.toList_some, Option.toList_none, List.cons_append, List.nil_append, x_nI, am_put, List.length_cons, List.length_nil, List.set_cons_zero, List.set_cons_succ, Nat.reduceAdd, Nat.reduceLT, Nat.reduceLeDiff, Nat.reduceEqDiff, Nat.reduceSub, reduceIte, ite_self, not_true_eq_false, not_false_eq_true, x_call1, x_call2, x_call3, x_call4, x_call5, x_call6, x_sl0, x_sli, x_slr, x_sln, x_sll, am_ent, List.map_nil, List.map_cons, List.sum_nil, List.sum_cons, Value.category, and_true, true_and, and_self, Nat.zero_le, List.replicate_succ, List.replicate_zero, List.reduceReplicate, x_obj_set, x_row_set, x_len_set, x_obx, x_rox, hn, x_obj q1, hc, x_own q5, e3, nI_1]
      exact e1
theorem k_takeNumber {d r : Nat} {bs : List Nat} {c w : Nat} (hw : w ≤ 4) (hc : c < 1000000) {A : am_H} (h : BR r A bs c) : ∃ B, pev d 121 [some (.ref r), some (.int (nI w)), none, none] [] A = some (some (.int (rd bs c w)), B) ∧ BR r B bs (c + w) ∧ am_fr (at2 r) A B := by
  obtain ⟨B, e1, h1, f1⟩ := k_takeNumber1 (d := d) hw hc w 0 (by omega) h
  refine ⟨B, ?_, h1, f1⟩
  refine e_121 ?_; simp only [b_121, i_int, i_long, i_null, i_stat, i_iload, i_lload, i_aload, i_istore, i_astore, i_lstore, i_iinc, i_ii, i_idz, i_i, i_ll, i_lsh, i_i2l, i_l2i, i_lcmp, i_dup, i_pop, i_dup2, i_ifeq, i_ifne, i_iflt, i_ifge, i_ifgt, i_ifle, i_cmpeq, i_cmpne, i_cmplt, i_cmpge, i_cmpgt, i_cmple, i_ifnull, i_ifnonnull, i_getf, am_wr, i_putI, i_putZ, i_putR, i_iald, i_iast, i_aald, i_aast, i_alen, i_newi, i_newq, i_new, i_recv, i_iret, i_zret, i_lret, i_aret, i_vret, List.getElem?_cons_zero, List.getElem?_cons_succ, Option.bind_some, Option.toList_some, Option.toList_none, List.cons_append, List.nil_append, x_nI, am_put, List.length_cons, List.length_nil, List.set_cons_zero, List.set_cons_succ, Nat.reduceAdd, Nat.reduceLT, Nat.reduceLeDiff, Nat.reduceEqDiff, Nat.reduceSub, reduceIte, ite_self, not_true_eq_false, not_false_eq_true, x_call1, x_call2, x_call3, x_call4, x_call5, x_call6, x_sl0, x_sli, x_slr, x_sln, x_sll, am_ent, List.map_nil, List.map_cons, List.sum_nil, List.sum_cons, Value.category, and_true, true_and, and_self, Nat.zero_le, List.replicate_succ, List.replicate_zero, List.reduceReplicate, x_obj_set, x_row_set, x_len_set, x_obx, x_rox]
  exact e1
theorem k_takeWord {d r : Nat} {bs : List Nat} {c : Nat} (hc : c < 1000000) {A : am_H} (h : BR r A bs c) : ∃ B, pev (d + 1) 120 [some (.ref r)] [] A = some (some (.int (rd bs c 4)), B) ∧ BR r B bs (c + 4) ∧ am_fr (at2 r) A B := by
  obtain ⟨B, e1, h1, f1⟩ := k_takeNumber (d := d) (w := 4) (by decide) hc h
  obtain ⟨g, q1, -⟩ := id h
  refine ⟨B, ?_, h1, f1⟩
  refine e_120 ?_; simp only [b_120, i_int, i_long, i_null, i_stat, i_iload, i_lload, i_aload, i_istore, i_astore, i_lstore, i_iinc, i_ii, i_idz, i_i, i_ll, i_lsh, i_i2l, i_l2i, i_lcmp, i_dup, i_pop, i_dup2, i_ifeq, i_ifne, i_iflt, i_ifge, i_ifgt, i_ifle, i_cmpeq, i_cmpne, i_cmplt, i_cmpge, i_cmpgt, i_cmple, i_ifnull, i_ifnonnull, i_getf, am_wr, i_putI, i_putZ, i_putR, i_iald, i_iast, i_aald, i_aast, i_alen, i_newi, i_newq, i_new, i_recv, i_iret, i_zret, i_lret, i_aret, i_vret, List.getElem?_cons_zero, List.getElem?_cons_succ, Option.bind_some, Option.toList_some, Option.toList_none, List.cons_append, List.nil_append, x_nI, am_put, List.length_cons, List.length_nil, List.set_cons_zero, List.set_cons_succ, Nat.reduceAdd, Nat.reduceLT, Nat.reduceLeDiff, Nat.reduceEqDiff, Nat.reduceSub, reduceIte, ite_self, not_true_eq_false, not_false_eq_true, x_call1, x_call2, x_call3, x_call4, x_call5, x_call6, x_sl0, x_sli, x_slr, x_sln, x_sll, am_ent, List.map_nil, List.map_cons, List.sum_nil, List.sum_cons, Value.category, and_true, true_and, and_self, Nat.zero_le, List.replicate_succ, List.replicate_zero, List.reduceReplicate, x_obj_set, x_row_set, x_len_set, x_obx, x_rox, x_obj q1, show (4 : Int32) = nI 4 from rfl, e1]
theorem k_takeCount {d r : Nat} {bs : List Nat} {c : Nat} (hc : c < 900000) {A : am_H} (h : BR r A bs c) : ∃ B, pev (d + 1) 125 [some (.ref r)] [] A = some (some (.int (rd bs (c + 4) 4)), B) ∧ BR r B bs (c + 8) ∧ am_fr (at2 r) A B := by
  obtain ⟨B, e1, h1, f1⟩ := k_takeNumber (d := d) (w := 4) (by decide) (by omega) h
  obtain ⟨C, e2, h2, f2⟩ := k_takeNumber (d := d) (w := 4) (by decide) (by omega) h1
  obtain ⟨g, q1, -⟩ := id h
  obtain ⟨g2, q2, -⟩ := id h1
  refine ⟨C, ?_, h2, f1.trans f2⟩
  refine e_125 ?_; simp only [b_125, i_int, i_long, i_null, i_stat, i_iload, i_lload, i_aload, i_istore, i_astore, i_lstore, i_iinc, i_ii, i_idz, i_i, i_ll, i_lsh, i_i2l, i_l2i, i_lcmp, i_dup, i_pop, i_dup2, i_ifeq, i_ifne, i_iflt, i_ifge, i_ifgt, i_ifle, i_cmpeq, i_cmpne, i_cmplt, i_cmpge, i_cmpgt, i_cmple, i_ifnull, i_ifnonnull, i_getf, am_wr, i_putI, i_putZ, i_putR, i_iald, i_iast, i_aald, i_aast, i_alen, i_newi, i_newq, i_new, i_recv, i_iret, i_zret, i_lret, i_aret, i_vret, List.getElem?_cons_zero, List.getElem?_cons_succ, Option.bind_some, Option.toList_some, Option.toList_none, List.cons_append, List.nil_append, x_nI, am_put, List.length_cons, List.length_nil, List.set_cons_zero, List.set_cons_succ, Nat.reduceAdd, Nat.reduceLT, Nat.reduceLeDiff, Nat.reduceEqDiff, Nat.reduceSub, reduceIte, ite_self, not_true_eq_false, not_false_eq_true, x_call1, x_call2, x_call3, x_call4, x_call5, x_call6, x_sl0, x_sli, x_slr, x_sln, x_sll, am_ent, List.map_nil, List.map_cons, List.sum_nil, List.sum_cons, Value.category, and_true, true_and, and_self, Nat.zero_le, List.replicate_succ, List.replicate_zero, List.reduceReplicate, x_obj_set, x_row_set, x_len_set, x_obx, x_rox, x_obj q1, x_obj q2, show (4 : Int32) = nI 4 from rfl, e1, e2]
def nmr (x : Int32) : Int32 := (x.toUInt32 >>> ((24 : Int32).toUInt32 &&& Int32.toUInt32 31)).toInt32
theorem k_takeName {d r : Nat} {bs : List Nat} {c : Nat} (hc : c < 900000) {A : am_H} (h : BR r A bs c) : ∃ B, pev (d + 1) 126 [some (.ref r)] [] A = some (some (.int (nmr (rd bs (c + 4) 4))), B) ∧ BR r B bs (c + 8) ∧ am_fr (at2 r) A B := by
  obtain ⟨B, e1, h1, f1⟩ := k_takeNumber (d := d) (w := 4) (by decide) (by omega) h
  obtain ⟨C, e2, h2, f2⟩ := k_takeNumber (d := d) (w := 4) (by decide) (by omega) h1
  obtain ⟨g, q1, -⟩ := id h
  obtain ⟨g2, q2, -⟩ := id h1
  refine ⟨C, ?_, h2, f1.trans f2⟩
  refine e_126 ?_; simp only [b_126, i_int, i_long, i_null, i_stat, i_iload, i_lload, i_aload, i_istore, i_astore, i_lstore, i_iinc, i_ii, i_idz, i_i, i_ll, i_lsh, i_i2l, i_l2i, i_lcmp, i_dup, i_pop, i_dup2, i_ifeq, i_ifne, i_iflt, i_ifge, i_ifgt, i_ifle, i_cmpeq, i_cmpne, i_cmplt, i_cmpge, i_cmpgt, i_cmple, i_ifnull, i_ifnonnull, i_getf, am_wr, i_putI, i_putZ, i_putR, i_iald, i_iast, i_aald, i_aast, i_alen, i_newi, i_newq, i_new, i_recv, i_iret, i_zret, i_lret, i_aret, i_vret, List.getElem?_cons_zero, List.getElem?_cons_succ, Option.bind_some, Option.toList_some, Option.toList_none, List.cons_append, List.nil_append, x_nI, am_put, List.length_cons, List.length_nil, List.set_cons_zero, List.set_cons_succ, Nat.reduceAdd, Nat.reduceLT, Nat.reduceLeDiff, Nat.reduceEqDiff, Nat.reduceSub, reduceIte, ite_self, not_true_eq_false, not_false_eq_true, x_call1, x_call2, x_call3, x_call4, x_call5, x_call6, x_sl0, x_sli, x_slr, x_sln, x_sll, am_ent, List.map_nil, List.map_cons, List.sum_nil, List.sum_cons, Value.category, and_true, true_and, and_self, Nat.zero_le, List.replicate_succ, List.replicate_zero, List.reduceReplicate, x_obj_set, x_row_set, x_len_set, x_obx, x_rox, x_obj q1, x_obj q2, show (4 : Int32) = nI 4 from rfl, e1, e2]
  rfl
theorem s0_wd {t : Nat} (h1 : 1 ≤ t) (h4 : t ≤ 4) : am_s0 t = nI (wd t) := by
  rcases (show t = 1 ∨ t = 2 ∨ t = 3 ∨ t = 4 by omega) with rfl | rfl | rfl | rfl <;> rfl
theorem wd_le (t : Nat) : wd t ≤ 4 := by
  unfold wd
  split
  · omega
  · split <;> omega
theorem wd_pos (t : Nat) : 1 ≤ wd t := by
  unfold wd
  split
  · omega
  · split <;> omega
def vof (t : Nat) (x : Int32) : Int32 := if t = 1 then x.toInt8.toInt32 else if t = 3 then x.toInt16.toInt32 else x
theorem k_takeValue {d r : Nat} {bs : List Nat} {c t : Nat} (hc : c < 900000) (h1 : 1 ≤ t) (h4 : t ≤ 4) {A : am_H} (hs : am_St A) (h : BR r A bs c) : ∃ B, pev (d + 1) 129 [some (.ref r), some (.int (nI t)), none] [] A = some (some (.int (vof t (rd bs c (wd t)))), B) ∧ BR r B bs (c + wd t) ∧ am_fr (at2 r) A B := by
  obtain ⟨B, e1, g1, f1⟩ := k_takeNumber (d := d) (w := wd t) (wd_le t) (by omega) h
  obtain ⟨g, q1, -⟩ := id h
  refine ⟨B, ?_, g1, f1⟩
  have e0 : (nI t = (1 : Int32)) = (t = 1) := o_eq (b := 1) (by omega) (by decide)
  have e3 : (nI t = (3 : Int32)) = (t = 3) := o_eq (b := 3) (by omega) (by decide)
  refine e_129 ?_; simp only [b_129, i_int, i_long, i_null, i_stat, i_iload, i_lload, i_aload, i_istore, i_astore, i_lstore, i_iinc, i_ii, i_idz, i_i, i_ll, i_lsh, i_i2l, i_l2i, i_lcmp, i_dup, i_pop, i_dup2, i_ifeq, i_ifne, i_iflt, i_ifge, i_ifgt, i_ifle, i_cmpeq, i_cmpne, i_cmplt, i_cmpge, i_cmpgt, i_cmple, i_ifnull, i_ifnonnull, i_getf, am_wr, i_putI, i_putZ, i_putR, i_iald, i_iast, i_aald, i_aast, i_alen, i_newi, i_newq, i_new, i_recv, i_iret, i_zret, i_lret, i_aret, i_vret, List.getElem?_cons_zero, List.getElem?_cons_succ, Option.bind_some, Option.toList_some, Option.toList_none, List.cons_append, List.nil_append, x_nI, am_put, List.length_cons, List.length_nil, List.set_cons_zero, List.set_cons_succ, Nat.reduceAdd, Nat.reduceLT, Nat.reduceLeDiff, Nat.reduceEqDiff, Nat.reduceSub, reduceIte, ite_self, not_true_eq_false, not_false_eq_true, x_call1, x_call2, x_call3, x_call4, x_call5, x_call6, x_sl0, x_sli, x_slr, x_sln, x_sll, am_ent, List.map_nil, List.map_cons, List.sum_nil, List.sum_cons, Value.category, and_true, true_and, and_self, Nat.zero_le, List.replicate_succ, List.replicate_zero, List.reduceReplicate, x_obj_set, x_row_set, x_len_set, x_obx, x_rox, x_row hs.1, x_ix (show t < 5 by omega) (show t < 2147483648 by omega), s0_wd h1 h4, x_obj q1, e1, e0, e3]
  unfold vof
  by_cases g1 : t = 1
  · simp [g1]
  · by_cases g3 : t = 3
    · simp [g3]
    · simp [g1, g3]
theorem k_takePadding {d r : Nat} {bs : List Nat} {c : Nat} (hc : c < 90000) {A : am_H} (h : BR r A bs c) : ∃ B, pev (d + 1) 130 [some (.ref r)] [] A = some (none, B) ∧ BR r B bs (pad4 c) ∧ am_fr (at2 r) A B := by
  obtain ⟨g, q1, q2, q3, q5, q4⟩ := id h
  refine ⟨am_set A r (.inr (.inr (1, [.ref (r + 1), .int (nI bs.length), .int (nI (pad4 c))]))), ?_, ⟨g, by rw [x_set_self], by rw [x_set_ne (by omega)]; exact q2, q3, q5, q4⟩, (am_fr.refl A).set (Or.inl rfl)⟩
  refine e_130 ?_; simp only [b_130, i_int, i_long, i_null, i_stat, i_iload, i_lload, i_aload, i_istore, i_astore, i_lstore, i_iinc, i_ii, i_idz, i_i, i_ll, i_lsh, i_i2l, i_l2i, i_lcmp, i_dup, i_pop, i_dup2, i_ifeq, i_ifne, i_iflt, i_ifge, i_ifgt, i_ifle, i_cmpeq, i_cmpne, i_cmplt, i_cmpge, i_cmpgt, i_cmple, i_ifnull, i_ifnonnull, i_getf, am_wr, i_putI, i_putZ, i_putR, i_iald, i_iast, i_aald, i_aast, i_alen, i_newi, i_newq, i_new, i_recv, i_iret, i_zret, i_lret, i_aret, i_vret, List.getElem?_cons_zero, List.getElem?_cons_succ, Option.bind_some, Option.toList_some, Option.toList_none, List.cons_append, List.nil_append, x_nI, am_put, List.length_cons, List.length_nil, List.set_cons_zero, List.set_cons_succ, Nat.reduceAdd, Nat.reduceLT, Nat.reduceLeDiff, Nat.reduceEqDiff, Nat.reduceSub, reduceIte, ite_self, not_true_eq_false, not_false_eq_true, x_call1, x_call2, x_call3, x_call4, x_call5, x_call6, x_sl0, x_sli, x_slr, x_sln, x_sll, am_ent, List.map_nil, List.map_cons, List.sum_nil, List.sum_cons, Value.category, and_true, true_and, and_self, Nat.zero_le, List.replicate_succ, List.replicate_zero, List.reduceReplicate, x_obj_set, x_row_set, x_len_set, x_obx, x_rox, x_obj q1, k_padded c (show c < 100000 by omega), x_own q5]
theorem by8_inj {a b : Nat} (ha : a < 256) (hb : b < 256) (h : by8 a = by8 b) : a = b := by
  have e1 := sc_k8 a ha
  have e2 := sc_k8 b hb
  unfold by8 at h
  rw [h, e2] at e1
  exact ((nI_eq (by omega) (by omega)).mp e1).symm
theorem k_matches1 {d r q : Nat} {A : am_H} {bs cs : List Nat} {c1 c2 : Nat} (h : BR r A bs c1) (h2 : BR q A cs c2) (hl : bs.length = cs.length) : ∀ (m k : Nat), k + m = bs.length → (∀ i, i < k → bs.getD i 0 = cs.getD i 0) → pev d 144 [some (.ref r), some (.ref q), some (.int (nI k))] [] A = some (some (.int (bz (decide (bs = cs)))), A) := by
  obtain ⟨g, q1, q2, q3, q5, q4⟩ := id h
  obtain ⟨g', p1, p2, p3, p5, p4⟩ := id h2
  intro m
  induction m with
  | zero =>
    intro k hk hp
    have he : bs = cs := by
      refine List.ext_getElem hl (fun i h1 h2 => ?_)
      have := hp i (by omega)
      simpa [List.getD, h1, h2] using this
    refine e_144 ?_; simp only [b_144, i_int, i_long, i_null, i_stat, i_iload, i_lload, i_aload, i_istore, i_astore, i_lstore, i_iinc, i_ii, i_idz, i_i, i_ll, i_lsh, i_i2l, i_l2i, i_lcmp, i_dup, i_pop, i_dup2, i_ifeq, i_ifne, i_iflt, i_ifge, i_ifgt, i_ifle, i_cmpeq, i_cmpne, i_cmplt, i_cmpge, i_cmpgt, i_cmple, i_ifnull, i_ifnonnull, i_getf, am_wr, i_putI, i_putZ, i_putR, i_iald, i_iast, i_aald, i_aast, i_alen, i_newi, i_newq, i_new, i_recv, i_iret, i_zret, i_lret, i_aret, i_vret, List.getElem?_cons_zero, List.getElem?_cons_succ, Option.bind_some, Option.toList_some, Option.toList_none, List.cons_append, List.nil_append, x_nI, am_put, List.length_cons, List.length_nil, List.set_cons_zero, List.set_cons_succ, Nat.reduceAdd, Nat.reduceLT, Nat.reduceLeDiff, Nat.reduceEqDiff, Nat.reduceSub, reduceIte, ite_self, not_true_eq_false, not_false_eq_true, x_call1, x_call2, x_call3, x_call4, x_call5, x_call6, x_sl0, x_sli, x_slr, x_sln, x_sll, am_ent, List.map_nil, List.map_cons, List.sum_nil, List.sum_cons, Value.category, and_true, true_and, and_self, Nat.zero_le, List.replicate_succ, List.replicate_zero, List.reduceReplicate, x_obj_set, x_row_set, x_len_set, x_obx, x_rox, x_obj q1, show nI bs.length ≤ nI k from nI_le (by omega) (by omega)]
    simp [he, bz]
  | succ m ih =>
    intro k hk hp
    have hn : ¬ nI bs.length ≤ nI k := nI_ge (by omega) (by omega)
    have hi := x_ix (show k < 800 by omega) (show k < 2147483648 by omega)
    have a1 := q4 k (by omega)
    have a2 := p4 k (by omega)
    by_cases he : bs.getD k 0 = cs.getD k 0
    · have e1 := ih (k + 1) (by omega) (fun i hi => by
        rcases Nat.lt_or_ge i k with h | h
        · exact hp i h
        · rw [show i = k by omega]; exact he)
      refine e_144 ?_; simp only [b_144, i_int, i_long, i_null, i_stat, i_iload, i_lload, i_aload, i_istore, i_astore, i_lstore, i_iinc, i_ii, i_idz, i_i, i_ll, i_lsh, i_i2l, i_l2i, i_lcmp, i_dup, i_pop, i_dup2, i_ifeq, i_ifne, i_iflt, i_ifge, i_ifgt, i_ifle, i_cmpeq, i_cmpne, i_cmplt, i_cmpge, i_cmpgt, i_cmple, i_ifnull, i_ifnonnull, i_getf, am_wr, i_putI, i_putZ, i_putR, i_iald, i_iast, i_aald, i_aast, i_alen, i_newi, i_newq, i_new, i_recv, i_iret, i_zret, i_lret, i_aret, i_vret, List.getElem?_cons_zero, List.getElem?_cons_succ, Option.bind_some, Option.toList_some, Option.toList_none, List.cons_append, List.nil_append, x_nI, am_put, List.length_cons, List.length_nil, List.set_cons_zero, List.set_cons_succ, Nat.reduceAdd, Nat.reduceLT, Nat.reduceLeDiff, Nat.reduceEqDiff, Nat.reduceSub, reduceIte, ite_self, not_true_eq_false, not_false_eq_true, x_call1, x_call2, x_call3, x_call4, x_call5, x_call6, x_sl0, x_sli, x_slr, x_sln, x_sll, am_ent, List.map_nil, List.map_cons, List.sum_nil, List.sum_cons, Value.category, and_true, true_and, and_self, Nat.zero_le, List.replicate_succ, List.replicate_zero, List.reduceReplicate, x_obj_set, x_row_set, x_len_set, x_obx, x_rox, x_obj q1, x_obj p1, hn, x_row q2, x_row p2, hi, a1.1, a2.1, he, nI_1]
      exact e1
    · have hne : ¬ by8 (bs.getD k 0) = by8 (cs.getD k 0) := fun e => he (by8_inj a1.2 a2.2 e)
      have hb : ¬ bs = cs := fun e => he (by rw [e])
      refine e_144 ?_; simp only [b_144, i_int, i_long, i_null, i_stat, i_iload, i_lload, i_aload, i_istore, i_astore, i_lstore, i_iinc, i_ii, i_idz, i_i, i_ll, i_lsh, i_i2l, i_l2i, i_lcmp, i_dup, i_pop, i_dup2, i_ifeq, i_ifne, i_iflt, i_ifge, i_ifgt, i_ifle, i_cmpeq, i_cmpne, i_cmplt, i_cmpge, i_cmpgt, i_cmple, i_ifnull, i_ifnonnull, i_getf, am_wr, i_putI, i_putZ, i_putR, i_iald, i_iast, i_aald, i_aast, i_alen, i_newi, i_newq, i_new, i_recv, i_iret, i_zret, i_lret, i_aret, i_vret, List.getElem?_cons_zero, List.getElem?_cons_succ, Option.bind_some, Option.toList_some, Option.toList_none, List.cons_append, List.nil_append, x_nI, am_put, List.length_cons, List.length_nil, List.set_cons_zero, List.set_cons_succ, Nat.reduceAdd, Nat.reduceLT, Nat.reduceLeDiff, Nat.reduceEqDiff, Nat.reduceSub, reduceIte, ite_self, not_true_eq_false, not_false_eq_true, x_call1, x_call2, x_call3, x_call4, x_call5, x_call6, x_sl0, x_sli, x_slr, x_sln, x_sll, am_ent, List.map_nil, List.map_cons, List.sum_nil, List.sum_cons, Value.category, and_true, true_and, and_self, Nat.zero_le, List.replicate_succ, List.replicate_zero, List.reduceReplicate, x_obj_set, x_row_set, x_len_set, x_obx, x_rox, x_obj q1, x_obj p1, hn, x_row q2, x_row p2, hi, a1.1, a2.1, hne]
      simp [hb, bz]
theorem k_matches {d r q : Nat} {A : am_H} {bs cs : List Nat} {c1 c2 : Nat} (h : BR r A bs c1) (h2 : BR q A cs c2) : pev d 143 [some (.ref r), some (.ref q), none] [] A = some (some (.int (bz (decide (bs = cs)))), A) := by
  obtain ⟨g, q1, q2, q3, q5, q4⟩ := id h
  obtain ⟨g', p1, p2, p3, p5, p4⟩ := id h2
  have e0 : (nI bs.length = nI cs.length) = (bs.length = cs.length) := o_eq (by omega) (by omega)
  by_cases hl : bs.length = cs.length
  · have e1 := k_matches1 (d := d) h h2 hl bs.length 0 (by omega) (fun i hi => by omega)
    refine e_143 ?_; simp only [b_143, i_int, i_long, i_null, i_stat, i_iload, i_lload, i_aload, i_istore, i_astore, i_lstore, i_iinc, i_ii, i_idz, i_i, i_ll, i_lsh, i_i2l, i_l2i, i_lcmp, i_dup, i_pop, i_dup2, i_ifeq, i_ifne, i_iflt, i_ifge, i_ifgt, i_ifle, i_cmpeq, i_cmpne, i_cmplt, i_cmpge, i_cmpgt, i_cmple, i_ifnull, i_ifnonnull, i_getf, am_wr, i_putI, i_putZ, i_putR, i_iald, i_iast, i_aald, i_aast, i_alen, i_newi, i_newq, i_new, i_recv, i_iret, i_zret, i_lret, i_aret, i_vret, List.getElem?_cons_zero, List.getElem?_cons_succ, Option.bind_some, Option.toList_some, Option.toList_none, List.cons_append, List.nil_append, x_nI, am_put, List.length_cons, List.length_nil, List.set_cons_zero, List.set_cons_succ, Nat.reduceAdd, Nat.reduceLT, Nat.reduceLeDiff, Nat.reduceEqDiff, Nat.reduceSub, reduceIte, ite_self, not_true_eq_false, not_false_eq_true, x_call1, x_call2, x_call3, x_call4, x_call5, x_call6, x_sl0, x_sli, x_slr, x_sln, x_sll, am_ent, List.map_nil, List.map_cons, List.sum_nil, List.sum_cons, Value.category, and_true, true_and, and_self, Nat.zero_le, List.replicate_succ, List.replicate_zero, List.reduceReplicate, x_obj_set, x_row_set, x_len_set, x_obx, x_rox, x_obj q1, x_obj p1, hl]
    exact e1
  · have hb : ¬ bs = cs := fun e => hl (by rw [e])
    refine e_143 ?_; simp only [b_143, i_int, i_long, i_null, i_stat, i_iload, i_lload, i_aload, i_istore, i_astore, i_lstore, i_iinc, i_ii, i_idz, i_i, i_ll, i_lsh, i_i2l, i_l2i, i_lcmp, i_dup, i_pop, i_dup2, i_ifeq, i_ifne, i_iflt, i_ifge, i_ifgt, i_ifle, i_cmpeq, i_cmpne, i_cmplt, i_cmpge, i_cmpgt, i_cmple, i_ifnull, i_ifnonnull, i_getf, am_wr, i_putI, i_putZ, i_putR, i_iald, i_iast, i_aald, i_aast, i_alen, i_newi, i_newq, i_new, i_recv, i_iret, i_zret, i_lret, i_aret, i_vret, List.getElem?_cons_zero, List.getElem?_cons_succ, Option.bind_some, Option.toList_some, Option.toList_none, List.cons_append, List.nil_append, x_nI, am_put, List.length_cons, List.length_nil, List.set_cons_zero, List.set_cons_succ, Nat.reduceAdd, Nat.reduceLT, Nat.reduceLeDiff, Nat.reduceEqDiff, Nat.reduceSub, reduceIte, ite_self, not_true_eq_false, not_false_eq_true, x_call1, x_call2, x_call3, x_call4, x_call5, x_call6, x_sl0, x_sli, x_slr, x_sln, x_sll, am_ent, List.map_nil, List.map_cons, List.sum_nil, List.sum_cons, Value.category, and_true, true_and, and_self, Nat.zero_le, List.replicate_succ, List.replicate_zero, List.reduceReplicate, x_obj_set, x_row_set, x_len_set, x_obx, x_rox, x_obj q1, x_obj p1, e0, hl]
    simp [hb, bz]
