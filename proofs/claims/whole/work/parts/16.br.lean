/-! rows of bytes -/
def by8 (n : Nat) : Int32 := (nI n).toInt8.toInt32
def BR (r : Nat) (A : am_H) (bs : List Nat) (cur : Nat) : Prop := ∃ g : Nat → Int32, A.2.2 r = some (.inr (.inr (1, [.ref (r + 1), .int (nI bs.length), .int (nI cur)]))) ∧ A.2.2 (r + 1) = some (.inl (1, 800, g)) ∧ bs.length ≤ 800 ∧ 5 ≤ r ∧ ∀ i, i < bs.length → g i = by8 (bs.getD i 0)
def at2 (r : Nat) : Nat → Prop := fun q => q = r ∨ q = r + 1
theorem BR.kept {r : Nat} {A B : am_H} {bs : List Nat} {cur : Nat} {P : Nat → Prop} (h : BR r A bs cur) (hf : am_fr P A B) (h1 : ¬ P r) (h2 : ¬ P (r + 1)) : BR r B bs cur := by
  obtain ⟨g, a1, a2, a3⟩ := h
  exact ⟨g, (hf.2.2 _ h1).trans a1, (hf.2.2 _ h2).trans a2, a3⟩
theorem k_append {d r : Nat} {A : am_H} {bs : List Nat} {cur n : Nat} {x : Int32} (h : BR r A bs cur) (hl : bs.length < 800) (hx : x.toInt8.toInt32 = by8 n) : ∃ B, pev d 92 [some (.ref r), some (.int x)] [] A = some (none, B) ∧ BR r B (bs ++ [n]) cur ∧ am_fr (at2 r) A B := by
  obtain ⟨g, h1, h2, h3, h5, h4⟩ := h
  have hx2 : x.toInt8.toInt32.toInt8.toInt32 = by8 n := by rw [← hx]; simp
  have hc : ¬ (nI 800 ≤ nI bs.length) := by
    rw [o_le (by decide) (by omega)]
    omega
  refine ⟨am_set (am_set A (r + 1) (.inl (1, 800, upd g bs.length (by8 n)))) r (.inr (.inr (1, [.ref (r + 1), .int (nI bs.length + 1), .int (nI cur)]))), ?_, ?_, ?_⟩
  · refine e_92 ?_
  simp only [b_92, i_int, i_long, i_null, i_stat, i_iload, i_lload, i_aload, i_istore, i_astore, i_lstore, i_iinc, i_ii, i_idz, i_i, i_ll, i_lsh, i_i2l, i_l2i, i_lcmp, i_dup, i_pop, i_dup2, i_ifeq, i_ifne, i_iflt, i_ifge, i_ifgt, i_ifle, i_cmpeq, i_cmpne, i_cmplt, i_cmpge, i_cmpgt, i_cmple, i_ifnull, i_ifnonnull, i_getf, am_wr, i_putI, i_putZ, i_putR, i_iald, i_iast, i_aald, i_aast, i_alen, i_newi, i_newq, i_new, i_recv, i_iret, i_zret, i_lret, i_aret, i_vret, List.getElem?_cons_zero, List.getElem?_cons_succ, Option.bind_some, Option.toList_some, Option.toList_none, List.cons_append, List.nil_append, x_nI, am_put, List.length_cons, List.length_nil, List.set_cons_zero, List.set_cons_succ, Nat.reduceAdd, Nat.reduceLT, Nat.reduceLeDiff, Nat.reduceEqDiff, Nat.reduceSub, reduceIte, x_call1, x_call2, x_call3, x_call4, x_call5, x_call6, x_sl0, x_sli, x_slr, x_sln, x_sll, am_ent, List.map_nil, List.map_cons, List.sum_nil, List.sum_cons, Value.category, and_true, true_and, and_self, Nat.zero_le, List.replicate_succ, List.replicate_zero, List.reduceReplicate, x_obj_set, x_row_set, x_len_set, x_obx, x_rox, x_obj h1, x_row h2, x_len h2, hc, x_ix (show bs.length < 800 from hl) (by omega), x_own h5, x_own (show 5 ≤ r + 1 by omega), hx2]
    simp [x_obj_set, x_obj h1, x_own h5, List.set]
  · refine ⟨upd g bs.length (by8 n), ?_, ?_, ?_, h5, ?_⟩
    · rw [x_set_self, List.length_append]
      simp [nI_1]
    · rw [x_set_ne (by omega), x_set_self]
    · rw [List.length_append]
      simp
      omega
    · intro i hi
      rw [List.length_append] at hi
      simp at hi
      by_cases he : i = bs.length
      · subst he
        simp [upd]
      · have hlt : i < bs.length := by omega
        simp [upd, he, List.getElem?_append_left hlt]
        rw [h4 i hlt]
        simp
  · exact ((am_fr.refl A).set (Or.inr rfl)).set (Or.inl rfl)
theorem and255_8 (y : Int32) : (y &&& 255).toInt8 = y.toInt8 := by
  apply Int8.toBitVec_inj.mp
  rw [Int32.toBitVec_toInt8, Int32.toBitVec_toInt8, Int32.toBitVec_and]
  apply BitVec.eq_of_getLsbD_eq
  intro i hi
  have hm : ∀ i < 8, (255 : Int32).toBitVec.getLsbD i = true := by decide
  rw [BitVec.getLsbD_signExtend, BitVec.getLsbD_signExtend, BitVec.getLsbD_and, hm i hi, if_pos (show i < 32 by omega), if_pos (show i < 32 by omega), Bool.and_true]
theorem by8_of (y : Int32) : y.toInt8.toInt32 = by8 ((y &&& 255).toNatClampNeg) := by
  obtain ⟨j, hj, e⟩ := pk_andE y (m := 255) 8 (by decide)
  rw [e, nI_clamp (by omega)]
  unfold by8
  rw [← e, and255_8]
theorem byt_lt (x : Int32) (k : Nat) : byt x k < 256 := by
  obtain ⟨j, hj, e⟩ := pk_andE (shr8 x k) (m := 255) 8 (by decide)
  unfold byt
  rw [e, nI_clamp (by omega)]
  exact hj
theorem k_appendNumber1 {d r : Nat} {cur : Nat} {x W : Int32} : ∀ (w : Nat), w ≤ 4 → ∀ {A : am_H} {bs : List Nat}, BR r A bs cur → bs.length + w ≤ 800 → ∃ B, pev (d + 1) 91 [some (.ref r), some (.int x), some (.int W), some (.int (nI w - 1))] [] A = some (none, B) ∧ BR r B (bs ++ num x w) cur ∧ am_fr (at2 r) A B := by
  intro w
  induction w with
  | zero =>
    intro _ A bs h _
    refine ⟨A, ?_, by rw [num, List.append_nil]; exact h, am_fr.refl A⟩
    refine e_91 ?_
  simp only [b_91, i_int, i_long, i_null, i_stat, i_iload, i_lload, i_aload, i_istore, i_astore, i_lstore, i_iinc, i_ii, i_idz, i_i, i_ll, i_lsh, i_i2l, i_l2i, i_lcmp, i_dup, i_pop, i_dup2, i_ifeq, i_ifne, i_iflt, i_ifge, i_ifgt, i_ifle, i_cmpeq, i_cmpne, i_cmplt, i_cmpge, i_cmpgt, i_cmple, i_ifnull, i_ifnonnull, i_getf, am_wr, i_putI, i_putZ, i_putR, i_iald, i_iast, i_aald, i_aast, i_alen, i_newi, i_newq, i_new, i_recv, i_iret, i_zret, i_lret, i_aret, i_vret, List.getElem?_cons_zero, List.getElem?_cons_succ, Option.bind_some, Option.toList_some, Option.toList_none, List.cons_append, List.nil_append, x_nI, am_put, List.length_cons, List.length_nil, List.set_cons_zero, List.set_cons_succ, Nat.reduceAdd, Nat.reduceLT, Nat.reduceLeDiff, Nat.reduceEqDiff, Nat.reduceSub, reduceIte, x_call1, x_call2, x_call3, x_call4, x_call5, x_call6, x_sl0, x_sli, x_slr, x_sln, x_sll, am_ent, List.map_nil, List.map_cons, List.sum_nil, List.sum_cons, Value.category, and_true, true_and, and_self, Nat.zero_le, List.replicate_succ, List.replicate_zero, List.reduceReplicate, x_obj_set, x_row_set, x_len_set, x_obx, x_rox, show nI 0 - 1 < 0 by decide]
  | succ w ih =>
    intro hw A bs h hl
    obtain ⟨B, e1, h1, f1⟩ := k_append (d := d) (x := shr8 x w) (n := byt x w) h (by omega) (by8_of _)
    obtain ⟨C, e2, h2, f2⟩ := ih (by omega) h1 (by rw [List.length_append]; simp; omega)
    refine ⟨C, ?_, ?_, f1.trans f2⟩
    · have hn : ¬ (nI (w + 1) - 1 < 0) := by rw [nI_pred]; exact nI_pos (by omega)
      obtain ⟨g, q1, -⟩ := id h
      unfold shr8 at e1
      refine e_91 ?_
  simp only [b_91, i_int, i_long, i_null, i_stat, i_iload, i_lload, i_aload, i_istore, i_astore, i_lstore, i_iinc, i_ii, i_idz, i_i, i_ll, i_lsh, i_i2l, i_l2i, i_lcmp, i_dup, i_pop, i_dup2, i_ifeq, i_ifne, i_iflt, i_ifge, i_ifgt, i_ifle, i_cmpeq, i_cmpne, i_cmplt, i_cmpge, i_cmpgt, i_cmple, i_ifnull, i_ifnonnull, i_getf, am_wr, i_putI, i_putZ, i_putR, i_iald, i_iast, i_aald, i_aast, i_alen, i_newi, i_newq, i_new, i_recv, i_iret, i_zret, i_lret, i_aret, i_vret, List.getElem?_cons_zero, List.getElem?_cons_succ, Option.bind_some, Option.toList_some, Option.toList_none, List.cons_append, List.nil_append, x_nI, am_put, List.length_cons, List.length_nil, List.set_cons_zero, List.set_cons_succ, Nat.reduceAdd, Nat.reduceLT, Nat.reduceLeDiff, Nat.reduceEqDiff, Nat.reduceSub, reduceIte, x_call1, x_call2, x_call3, x_call4, x_call5, x_call6, x_sl0, x_sli, x_slr, x_sln, x_sll, am_ent, List.map_nil, List.map_cons, List.sum_nil, List.sum_cons, Value.category, and_true, true_and, and_self, Nat.zero_le, List.replicate_succ, List.replicate_zero, List.reduceReplicate, x_obj_set, x_row_set, x_len_set, x_obx, x_rox, hn, nI_pred, x_obj q1, e1]
      rw [show nI w + -1 = nI w - 1 by rw [Int32.sub_eq_add_neg]]
      exact e2
    · rw [num]
      rw [List.append_assoc] at h2
      exact h2
theorem k_appendNumber {d r : Nat} {cur : Nat} {x : Int32} {w : Nat} (hw : w ≤ 4) {A : am_H} {bs : List Nat} (h : BR r A bs cur) (hl : bs.length + w ≤ 800) : ∃ B, pev (d + 1) 90 [some (.ref r), some (.int x), some (.int (nI w)), none] [] A = some (none, B) ∧ BR r B (bs ++ num x w) cur ∧ am_fr (at2 r) A B := by
  obtain ⟨B, e1, h1, f1⟩ := k_appendNumber1 (d := d) (x := x) (W := nI w) w hw h hl
  refine ⟨B, ?_, h1, f1⟩
  refine e_90 ?_
  simp only [b_90, i_int, i_long, i_null, i_stat, i_iload, i_lload, i_aload, i_istore, i_astore, i_lstore, i_iinc, i_ii, i_idz, i_i, i_ll, i_lsh, i_i2l, i_l2i, i_lcmp, i_dup, i_pop, i_dup2, i_ifeq, i_ifne, i_iflt, i_ifge, i_ifgt, i_ifle, i_cmpeq, i_cmpne, i_cmplt, i_cmpge, i_cmpgt, i_cmple, i_ifnull, i_ifnonnull, i_getf, am_wr, i_putI, i_putZ, i_putR, i_iald, i_iast, i_aald, i_aast, i_alen, i_newi, i_newq, i_new, i_recv, i_iret, i_zret, i_lret, i_aret, i_vret, List.getElem?_cons_zero, List.getElem?_cons_succ, Option.bind_some, Option.toList_some, Option.toList_none, List.cons_append, List.nil_append, x_nI, am_put, List.length_cons, List.length_nil, List.set_cons_zero, List.set_cons_succ, Nat.reduceAdd, Nat.reduceLT, Nat.reduceLeDiff, Nat.reduceEqDiff, Nat.reduceSub, reduceIte, x_call1, x_call2, x_call3, x_call4, x_call5, x_call6, x_sl0, x_sli, x_slr, x_sln, x_sll, am_ent, List.map_nil, List.map_cons, List.sum_nil, List.sum_cons, Value.category, and_true, true_and, and_self, Nat.zero_le, List.replicate_succ, List.replicate_zero, List.reduceReplicate, x_obj_set, x_row_set, x_len_set, x_obx, x_rox, e1]
theorem k_appendWord {d r : Nat} {cur : Nat} {x : Int32} {A : am_H} {bs : List Nat} (h : BR r A bs cur) (hl : bs.length + 4 ≤ 800) : ∃ B, pev (d + 2) 89 [some (.ref r), some (.int x)] [] A = some (none, B) ∧ BR r B (bs ++ num x 4) cur ∧ am_fr (at2 r) A B := by
  obtain ⟨B, e1, h1, f1⟩ := k_appendNumber (d := d) (x := x) (w := 4) (by decide) h hl
  refine ⟨B, ?_, h1, f1⟩
  obtain ⟨g, q1, -⟩ := id h
  refine e_89 ?_
  simp only [b_89, i_int, i_long, i_null, i_stat, i_iload, i_lload, i_aload, i_istore, i_astore, i_lstore, i_iinc, i_ii, i_idz, i_i, i_ll, i_lsh, i_i2l, i_l2i, i_lcmp, i_dup, i_pop, i_dup2, i_ifeq, i_ifne, i_iflt, i_ifge, i_ifgt, i_ifle, i_cmpeq, i_cmpne, i_cmplt, i_cmpge, i_cmpgt, i_cmple, i_ifnull, i_ifnonnull, i_getf, am_wr, i_putI, i_putZ, i_putR, i_iald, i_iast, i_aald, i_aast, i_alen, i_newi, i_newq, i_new, i_recv, i_iret, i_zret, i_lret, i_aret, i_vret, List.getElem?_cons_zero, List.getElem?_cons_succ, Option.bind_some, Option.toList_some, Option.toList_none, List.cons_append, List.nil_append, x_nI, am_put, List.length_cons, List.length_nil, List.set_cons_zero, List.set_cons_succ, Nat.reduceAdd, Nat.reduceLT, Nat.reduceLeDiff, Nat.reduceEqDiff, Nat.reduceSub, reduceIte, x_call1, x_call2, x_call3, x_call4, x_call5, x_call6, x_sl0, x_sli, x_slr, x_sln, x_sll, am_ent, List.map_nil, List.map_cons, List.sum_nil, List.sum_cons, Value.category, and_true, true_and, and_self, Nat.zero_le, List.replicate_succ, List.replicate_zero, List.reduceReplicate, x_obj_set, x_row_set, x_len_set, x_obx, x_rox, x_obj q1, show (4 : Int32) = nI 4 from rfl, e1]
