/-! rows of a variable: written, read; slabs -/
theorem VA.congr {p : Nat} {A : am_H} {v : sg_R} {ce : Nat → Int32} (h : VA p A v) (hc : ∀ k, k < 800 → v.2.2.2.2.2.2.2 k = ce k) : VA p A (v.1, v.2.1, v.2.2.1, v.2.2.2.1, v.2.2.2.2.1, v.2.2.2.2.2.1, v.2.2.2.2.2.2.1, ce) := by
  obtain ⟨g, h0, h1, h2, h3⟩ := h
  exact ⟨g, h0, h1, fun k hk => (h2 k hk).trans (hc k hk), h3⟩
def wrow (v : sg_R) (i : Nat) (j : Nat) : List Nat := num (v.2.2.2.2.2.2.2 (i * v.2.2.2.2.2.1 + j)) (wd v.1)
theorem wrow_len (v : sg_R) (i n : Nat) : (sg_cat (wrow v i) n).length = n * wd v.1 := by
  rw [sg_cat_len]
  have : (fun k => (wrow v i k).length) = fun _ => wd v.1 := funext (fun k => num_len _ _)
  rw [this, sg_sum_const]
theorem k_writeRow1 {d p r cur i : Nat} {v : sg_R} {bs : List Nat} (hdj : r + 1 < p ∨ p + 7 ≤ r) (h1 : 1 ≤ v.1) (h4 : v.1 ≤ 4) (hc : v.2.2.2.2.2.1 ≤ 8) (hi : i * v.2.2.2.2.2.1 + v.2.2.2.2.2.1 ≤ 800) (hl : bs.length + v.2.2.2.2.2.1 * wd v.1 ≤ 800) : ∀ (m j : Nat), j + m = v.2.2.2.2.2.1 → ∀ {A : am_H}, am_St A → VA p A v → BR r A (bs ++ sg_cat (wrow v i) j) cur → ∃ B, pev (d + 2) 106 [some (.ref p), some (.ref r), some (.int (nI i)), some (.int (nI j))] [] A = some (none, B) ∧ BR r B (bs ++ sg_cat (wrow v i) v.2.2.2.2.2.1) cur ∧ am_fr (at2 r) A B := by
  intro m
  induction m with
  | zero =>
    intro j hj A hs hA hB
    obtain ⟨g, h0, -⟩ := id hA
    have hja : j = v.2.2.2.2.2.1 := by omega
    subst hja
    refine ⟨A, ?_, hB, am_fr.refl A⟩
    refine e_106 ?_; simp only [b_106, i_int, i_long, i_null, i_stat, i_iload, i_lload, i_aload, i_istore, i_astore, i_lstore, i_iinc, i_ii, i_idz, i_i, i_ll, i_lsh, i_i2l, i_l2i, i_lcmp, i_dup, i_pop, i_dup2, i_ifeq, i_ifne, i_iflt, i_ifge, i_ifgt, i_ifle, i_cmpeq, i_cmpne, i_cmplt, i_cmpge, i_cmpgt, i_cmple, i_ifnull, i_ifnonnull, i_getf, am_wr, i_putI, i_putZ, i_putR, i_iald, i_iast, i_aald, i_aast, i_alen, i_newi, i_newq, i_new, i_recv, i_iret, i_zret, i_lret, i_aret, i_vret, List.getElem?_cons_zero, List.getElem?_cons_succ, Option.bind_some, Option.toList_some, Option.toList_none, List.cons_append, List.nil_append, x_nI, am_put, List.length_cons, List.length_nil, List.set_cons_zero, List.set_cons_succ, Nat.reduceAdd, Nat.reduceLT, Nat.reduceLeDiff, Nat.reduceEqDiff, Nat.add_left_cancel_iff, Nat.add_eq_left, Nat.left_eq_add, Nat.succ_ne_self, Nat.reduceSub, reduceIte, ite_self, eq_self, or_true, true_or, or_false, false_or, or_self, i10, not_true_eq_false, not_false_eq_true, x_call1, x_call2, x_call3, x_call4, x_call5, x_call6, x_sl0, x_sli, x_slr, x_sln, x_sll, am_ent, List.map_nil, List.map_cons, List.sum_nil, List.sum_cons, Value.category, and_true, true_and, and_self, Nat.zero_le, List.replicate_succ, List.replicate_zero, List.reduceReplicate, x_obj_set, x_row_set, x_len_set, x_obx, x_rox, x_obj h0, show nI v.2.2.2.2.2.1 ≤ nI v.2.2.2.2.2.1 from nI_le (Nat.le_refl _) (by omega)]
  | succ m ih =>
    intro j hj A hs hA hB
    obtain ⟨g, h0, -⟩ := id hA
    have hr : 5 ≤ r := by obtain ⟨_, _, _, _, q, _⟩ := hB; exact q
    have hlen : (bs ++ sg_cat (wrow v i) j).length + wd v.1 ≤ 800 := by
      rw [List.length_append, wrow_len]
      have : (j + 1) * wd v.1 ≤ v.2.2.2.2.2.1 * wd v.1 := Nat.mul_le_mul_right _ (by omega)
      rw [Nat.succ_mul] at this
      omega
    have ec := k_cell (d := d + 1) (i := i) (j := j) hA (by omega)
    obtain ⟨B, e1, b1, f1⟩ := k_appendNumber (d := d) (x := v.2.2.2.2.2.2.2 (i * v.2.2.2.2.2.1 + j)) (w := wd v.1) (wd_le _) hB hlen
    obtain ⟨C, e2, b2, f2⟩ := ih (j + 1) (by omega) (hs.two f1 hr) (hA.two f1 hdj) (by rw [sg_cat, ← List.append_assoc]; exact b1)
    refine ⟨C, ?_, b2, f1.trans f2⟩
    have hcc : ¬ nI v.2.2.2.2.2.1 ≤ nI j := nI_ge (by omega) (by omega)
    obtain ⟨_, q0, -⟩ := id hB
    refine e_106 ?_; simp only [b_106, i_int, i_long, i_null, i_stat, i_iload, i_lload, i_aload, i_istore, i_astore, i_lstore, i_iinc, i_ii, i_idz, i_i, i_ll, i_lsh, i_i2l, i_l2i, i_lcmp, i_dup, i_pop, i_dup2, i_ifeq, i_ifne, i_iflt, i_ifge, i_ifgt, i_ifle, i_cmpeq, i_cmpne, i_cmplt, i_cmpge, i_cmpgt, i_cmple, i_ifnull, i_ifnonnull, i_getf, am_wr, i_putI, i_putZ, i_putR, i_iald, i_iast, i_aald, i_aast, i_alen, i_newi, i_newq, i_new, i_recv, i_iret, i_zret, i_lret, i_aret, i_vret, List.getElem?_cons_zero, List.getElem?_cons_succ, Option.bind_some, Option.toList_some, Option.toList_none, List.cons_append, List.nil_append, x_nI, am_put, List.length_cons, List.length_nil, List.set_cons_zero, List.set_cons_succ, Nat.reduceAdd, Nat.reduceLT, Nat.reduceLeDiff, Nat.reduceEqDiff, Nat.add_left_cancel_iff, Nat.add_eq_left, Nat.left_eq_add, Nat.succ_ne_self, Nat.reduceSub, reduceIte, ite_self, eq_self, or_true, true_or, or_false, false_or, or_self, i10, not_true_eq_false, not_false_eq_true, x_call1, x_call2, x_call3, x_call4, x_call5, x_call6, x_sl0, x_sli, x_slr, x_sln, x_sll, am_ent, List.map_nil, List.map_cons, List.sum_nil, List.sum_cons, Value.category, and_true, true_and, and_self, Nat.zero_le, List.replicate_succ, List.replicate_zero, List.reduceReplicate, x_obj_set, x_row_set, x_len_set, x_obx, x_rox, x_obj h0, hcc, ec, x_row hs.1, x_ix (show v.1 < 5 by omega) (show v.1 < 2147483648 by omega), s0_wd h1 h4, x_obj q0, e1, nI_1]
    exact e2
theorem k_writeRow {d p r cur i : Nat} {v : sg_R} {bs : List Nat} {A : am_H} (hdj : r + 1 < p ∨ p + 7 ≤ r) (h1 : 1 ≤ v.1) (h4 : v.1 ≤ 4) (hc : v.2.2.2.2.2.1 ≤ 8) (hi : i * v.2.2.2.2.2.1 + v.2.2.2.2.2.1 ≤ 800) (hl : bs.length + v.2.2.2.2.2.1 * wd v.1 ≤ 800) (hs : am_St A) (hA : VA p A v) (hB : BR r A bs cur) : ∃ B, pev (d + 2) 105 [some (.ref p), some (.ref r), some (.int (nI i)), none] [] A = some (none, B) ∧ BR r B (bs ++ sg_cat (wrow v i) v.2.2.2.2.2.1) cur ∧ am_fr (at2 r) A B := by
  obtain ⟨B, e1, b1, f1⟩ := k_writeRow1 (d := d) hdj h1 h4 hc hi hl v.2.2.2.2.2.1 0 (by omega) hs hA (by simpa [sg_cat] using hB)
  refine ⟨B, ?_, b1, f1⟩
  refine e_105 ?_; simp only [b_105, i_int, i_long, i_null, i_stat, i_iload, i_lload, i_aload, i_istore, i_astore, i_lstore, i_iinc, i_ii, i_idz, i_i, i_ll, i_lsh, i_i2l, i_l2i, i_lcmp, i_dup, i_pop, i_dup2, i_ifeq, i_ifne, i_iflt, i_ifge, i_ifgt, i_ifle, i_cmpeq, i_cmpne, i_cmplt, i_cmpge, i_cmpgt, i_cmple, i_ifnull, i_ifnonnull, i_getf, am_wr, i_putI, i_putZ, i_putR, i_iald, i_iast, i_aald, i_aast, i_alen, i_newi, i_newq, i_new, i_recv, i_iret, i_zret, i_lret, i_aret, i_vret, List.getElem?_cons_zero, List.getElem?_cons_succ, Option.bind_some, Option.toList_some, Option.toList_none, List.cons_append, List.nil_append, x_nI, am_put, List.length_cons, List.length_nil, List.set_cons_zero, List.set_cons_succ, Nat.reduceAdd, Nat.reduceLT, Nat.reduceLeDiff, Nat.reduceEqDiff, Nat.add_left_cancel_iff, Nat.add_eq_left, Nat.left_eq_add, Nat.succ_ne_self, Nat.reduceSub, reduceIte, ite_self, eq_self, or_true, true_or, or_false, false_or, or_self, i10, not_true_eq_false, not_false_eq_true, x_call1, x_call2, x_call3, x_call4, x_call5, x_call6, x_sl0, x_sli, x_slr, x_sln, x_sll, am_ent, List.map_nil, List.map_cons, List.sum_nil, List.sum_cons, Value.category, and_true, true_and, and_self, Nat.zero_le, List.replicate_succ, List.replicate_zero, List.reduceReplicate, x_obj_set, x_row_set, x_len_set, x_obx, x_rox]
  exact e1
/-- cells after j values of row i have been read from place c on -/
def rdc (bs : List Nat) (c t i cl : Nat) (ce : Nat → Int32) (j : Nat) : Nat → Int32 := fun k => if i * cl ≤ k ∧ k < i * cl + j then vof t (rd bs (c + (k - i * cl) * wd t) (wd t)) else ce k
theorem rdc_step (bs : List Nat) (c t i cl : Nat) (ce : Nat → Int32) (j : Nat) : upd (rdc bs c t i cl ce j) (i * cl + j) (vof t (rd bs (c + j * wd t) (wd t))) = rdc bs c t i cl ce (j + 1) := by
  funext k
  unfold upd rdc
  by_cases h1 : k = i * cl + j
  · rw [if_pos h1, if_pos (by omega), h1, Nat.add_sub_cancel_left]
  · rw [if_neg h1]
    by_cases h2 : i * cl ≤ k ∧ k < i * cl + j
    · rw [if_pos h2, if_pos (by omega)]
    · rw [if_neg h2, if_neg (by omega)]
def setC (v : sg_R) (ce : Nat → Int32) : sg_R := (v.1, v.2.1, v.2.2.1, v.2.2.2.1, v.2.2.2.2.1, v.2.2.2.2.2.1, v.2.2.2.2.2.2.1, ce)
theorem k_readRow1 {d p r c i : Nat} {v : sg_R} {bs : List Nat} (hdj : r + 1 < p ∨ p + 7 ≤ r) (h1 : 1 ≤ v.1) (h4 : v.1 ≤ 4) (hcl : v.2.2.2.2.2.1 ≤ 8) (hi : i * v.2.2.2.2.2.1 + v.2.2.2.2.2.1 ≤ 800) (hc : c < 100000) : ∀ (m j : Nat), j + m = v.2.2.2.2.2.1 → ∀ {A : am_H}, am_St A → VA p A (setC v (rdc bs c v.1 i v.2.2.2.2.2.1 v.2.2.2.2.2.2.2 j)) → BR r A bs (c + j * wd v.1) → ∃ B, pev (d + 2) 140 [some (.ref p), some (.ref r), some (.int (nI i)), some (.int (nI j))] [] A = some (none, B) ∧ VA p B (setC v (rdc bs c v.1 i v.2.2.2.2.2.1 v.2.2.2.2.2.2.2 v.2.2.2.2.2.1)) ∧ BR r B bs (c + v.2.2.2.2.2.1 * wd v.1) ∧ am_fr (fun q => at7 p q ∨ at2 r q) A B := by
  intro m
  induction m with
  | zero =>
    intro j hj A hs hA hB
    obtain ⟨g, h0, -⟩ := id hA
    have hja : j = v.2.2.2.2.2.1 := by omega
    subst hja
    refine ⟨A, ?_, hA, hB, am_fr.refl A⟩
    refine e_140 ?_; simp only [b_140, i_int, i_long, i_null, i_stat, i_iload, i_lload, i_aload, i_istore, i_astore, i_lstore, i_iinc, i_ii, i_idz, i_i, i_ll, i_lsh, i_i2l, i_l2i, i_lcmp, i_dup, i_pop, i_dup2, i_ifeq, i_ifne, i_iflt, i_ifge, i_ifgt, i_ifle, i_cmpeq, i_cmpne, i_cmplt, i_cmpge, i_cmpgt, i_cmple, i_ifnull, i_ifnonnull, i_getf, am_wr, i_putI, i_putZ, i_putR, i_iald, i_iast, i_aald, i_aast, i_alen, i_newi, i_newq, i_new, i_recv, i_iret, i_zret, i_lret, i_aret, i_vret, List.getElem?_cons_zero, List.getElem?_cons_succ, Option.bind_some, Option.toList_some, Option.toList_none, List.cons_append, List.nil_append, x_nI, am_put, List.length_cons, List.length_nil, List.set_cons_zero, List.set_cons_succ, Nat.reduceAdd, Nat.reduceLT, Nat.reduceLeDiff, Nat.reduceEqDiff, Nat.add_left_cancel_iff, Nat.add_eq_left, Nat.left_eq_add, Nat.succ_ne_self, Nat.reduceSub, reduceIte, ite_self, eq_self, or_true, true_or, or_false, false_or, or_self, i10, not_true_eq_false, not_false_eq_true, x_call1, x_call2, x_call3, x_call4, x_call5, x_call6, x_sl0, x_sli, x_slr, x_sln, x_sll, am_ent, List.map_nil, List.map_cons, List.sum_nil, List.sum_cons, Value.category, and_true, true_and, and_self, Nat.zero_le, List.replicate_succ, List.replicate_zero, List.reduceReplicate, x_obj_set, x_row_set, x_len_set, x_obx, x_rox, x_obj h0, setC, show nI v.2.2.2.2.2.1 ≤ nI v.2.2.2.2.2.1 from nI_le (Nat.le_refl _) (by omega)]
  | succ m ih =>
    intro j hj A hs hA hB
    obtain ⟨g, h0, -⟩ := id hA
    have hr : 5 ≤ r := by obtain ⟨_, _, _, _, q, _⟩ := hB; exact q
    have hw : (j + 1) * wd v.1 ≤ 8 * 4 := Nat.mul_le_mul (by omega) (wd_le _)
    have hw2 : j * wd v.1 ≤ 8 * 4 := Nat.mul_le_mul (by omega) (wd_le _)
    obtain ⟨B, e1, b1, f1⟩ := k_takeValue (d := d) (t := v.1) (by omega) h1 h4 hs hB
    obtain ⟨C, e2, b2, f2⟩ := k_setCell (d := d + 1) (i := i) (j := j) (x := vof v.1 (rd bs (c + j * wd v.1) (wd v.1))) (hA.two f1 hdj) (show i * v.2.2.2.2.2.1 + j < 800 by omega)
    have b3 : VA p C (setC v (rdc bs c v.1 i v.2.2.2.2.2.1 v.2.2.2.2.2.2.2 (j + 1))) := by
      rw [← rdc_step]
      exact b2
    have b4 : BR r C bs (c + (j + 1) * wd v.1) := by
      rw [Nat.succ_mul, ← Nat.add_assoc]
      exact b1.kept f2 (fun e => by omega) (fun e => by omega)
    have F : am_fr (fun q => at7 p q ∨ at2 r q) A C := (f1.mono (fun q hq => Or.inr hq)).trans (f2.mono (fun q hq => Or.inl (by rw [hq]; exact ⟨by omega, by omega⟩)))
    have hp : 5 ≤ p := by obtain ⟨_, _, _, _, _, q⟩ := hA; exact q
    obtain ⟨D, e3, b5, b6, f3⟩ := ih (j + 1) (by omega) ((hs.two f1 hr).kept f2 (fun q q1 q2 => by omega)) b3 b4
    refine ⟨D, ?_, b5, b6, F.trans f3⟩
    have hcc : ¬ nI v.2.2.2.2.2.1 ≤ nI j := nI_ge (by omega) (by omega)
    obtain ⟨_, q0, -⟩ := id hB
    obtain ⟨_, z0, -⟩ := id (hA.two f1 hdj)
    refine e_140 ?_; simp only [b_140, i_int, i_long, i_null, i_stat, i_iload, i_lload, i_aload, i_istore, i_astore, i_lstore, i_iinc, i_ii, i_idz, i_i, i_ll, i_lsh, i_i2l, i_l2i, i_lcmp, i_dup, i_pop, i_dup2, i_ifeq, i_ifne, i_iflt, i_ifge, i_ifgt, i_ifle, i_cmpeq, i_cmpne, i_cmplt, i_cmpge, i_cmpgt, i_cmple, i_ifnull, i_ifnonnull, i_getf, am_wr, i_putI, i_putZ, i_putR, i_iald, i_iast, i_aald, i_aast, i_alen, i_newi, i_newq, i_new, i_recv, i_iret, i_zret, i_lret, i_aret, i_vret, List.getElem?_cons_zero, List.getElem?_cons_succ, Option.bind_some, Option.toList_some, Option.toList_none, List.cons_append, List.nil_append, x_nI, am_put, List.length_cons, List.length_nil, List.set_cons_zero, List.set_cons_succ, Nat.reduceAdd, Nat.reduceLT, Nat.reduceLeDiff, Nat.reduceEqDiff, Nat.add_left_cancel_iff, Nat.add_eq_left, Nat.left_eq_add, Nat.succ_ne_self, Nat.reduceSub, reduceIte, ite_self, eq_self, or_true, true_or, or_false, false_or, or_self, i10, not_true_eq_false, not_false_eq_true, x_call1, x_call2, x_call3, x_call4, x_call5, x_call6, x_sl0, x_sli, x_slr, x_sln, x_sll, am_ent, List.map_nil, List.map_cons, List.sum_nil, List.sum_cons, Value.category, and_true, true_and, and_self, Nat.zero_le, List.replicate_succ, List.replicate_zero, List.reduceReplicate, x_obj_set, x_row_set, x_len_set, x_obx, x_rox, x_obj h0, setC, hcc, x_obj q0, e1, x_obj z0, e2, nI_1]
    exact e3
theorem k_readRow {d p r c i : Nat} {v : sg_R} {bs : List Nat} {A : am_H} (hdj : r + 1 < p ∨ p + 7 ≤ r) (h1 : 1 ≤ v.1) (h4 : v.1 ≤ 4) (hcl : v.2.2.2.2.2.1 ≤ 8) (hi : i * v.2.2.2.2.2.1 + v.2.2.2.2.2.1 ≤ 800) (hc : c < 100000) (hs : am_St A) (hA : VA p A v) (hB : BR r A bs c) : ∃ B, pev (d + 2) 139 [some (.ref p), some (.ref r), some (.int (nI i)), none] [] A = some (none, B) ∧ VA p B (setC v (rdc bs c v.1 i v.2.2.2.2.2.1 v.2.2.2.2.2.2.2 v.2.2.2.2.2.1)) ∧ BR r B bs (c + v.2.2.2.2.2.1 * wd v.1) ∧ am_fr (fun q => at7 p q ∨ at2 r q) A B := by
  obtain ⟨B, e1, b⟩ := k_readRow1 (d := d) (bs := bs) hdj h1 h4 hcl hi hc v.2.2.2.2.2.1 0 (by omega) hs (hA.congr (fun k hk => by unfold rdc; rw [if_neg (by omega)])) (by simpa using hB)
  refine ⟨B, ?_, b⟩
  refine e_139 ?_; simp only [b_139, i_int, i_long, i_null, i_stat, i_iload, i_lload, i_aload, i_istore, i_astore, i_lstore, i_iinc, i_ii, i_idz, i_i, i_ll, i_lsh, i_i2l, i_l2i, i_lcmp, i_dup, i_pop, i_dup2, i_ifeq, i_ifne, i_iflt, i_ifge, i_ifgt, i_ifle, i_cmpeq, i_cmpne, i_cmplt, i_cmpge, i_cmpgt, i_cmple, i_ifnull, i_ifnonnull, i_getf, am_wr, i_putI, i_putZ, i_putR, i_iald, i_iast, i_aald, i_aast, i_alen, i_newi, i_newq, i_new, i_recv, i_iret, i_zret, i_lret, i_aret, i_vret, List.getElem?_cons_zero, List.getElem?_cons_succ, Option.bind_some, Option.toList_some, Option.toList_none, List.cons_append, List.nil_append, x_nI, am_put, List.length_cons, List.length_nil, List.set_cons_zero, List.set_cons_succ, Nat.reduceAdd, Nat.reduceLT, Nat.reduceLeDiff, Nat.reduceEqDiff, Nat.add_left_cancel_iff, Nat.add_eq_left, Nat.left_eq_add, Nat.succ_ne_self, Nat.reduceSub, reduceIte, ite_self, eq_self, or_true, true_or, or_false, false_or, or_self, i10, not_true_eq_false, not_false_eq_true, x_call1, x_call2, x_call3, x_call4, x_call5, x_call6, x_sl0, x_sli, x_slr, x_sln, x_sll, am_ent, List.map_nil, List.map_cons, List.sum_nil, List.sum_cons, Value.category, and_true, true_and, and_self, Nat.zero_le, List.replicate_succ, List.replicate_zero, List.reduceReplicate, x_obj_set, x_row_set, x_len_set, x_obx, x_rox]
  exact e1
/-- cells after n values of a slab have been put -/
def slb (ce : Nat → Int32) (s0 t0 s1 t1 c1 cl : Nat) (x st : Int32) : Nat → (Nat → Int32)
  | 0 => ce
  | n + 1 => upd (slb ce s0 t0 s1 t1 c1 cl x st n) ((s0 + n / c1 * t0) * cl + (s1 + n % c1 * t1)) (x + nI n * st)
theorem slv_step (x st : Int32) (n : Nat) : x + nI n * st + st = x + nI (n + 1) * st := by
  rw [nI_succ, Int32.add_mul, Int32.one_mul, Int32.add_assoc]
theorem k_setSlab2 {d p pr pc : Nat} {v : sg_R} {s0 c0 t0 s1 c1 t1 : Nat} {x st : Int32} (hp1 : pr ≠ p + 6) (hp2 : pc ≠ p + 6) (hc1' : c1 ≤ 8) (hc0 : c0 ≤ 8) {r : Nat} (hr : r < c0) (hpl : ∀ a b, a < c0 → b < c1 → (s0 + a * t0) * v.2.2.2.2.2.1 + (s1 + b * t1) < 800) : ∀ (m k : Nat), k + m = c1 → ∀ {A : am_H}, VA p A (setC v (slb v.2.2.2.2.2.2.2 s0 t0 s1 t1 c1 v.2.2.2.2.2.1 x st (r * c1 + k))) → SE pr A s0 c0 t0 → SE pc A s1 c1 t1 → ∃ B, VA p B (setC v (slb v.2.2.2.2.2.2.2 s0 t0 s1 t1 c1 v.2.2.2.2.2.1 x st ((r + 1) * c1))) ∧ am_fr (fun q => q = p + 6) A B ∧ ∀ Y, pev (d + 1) 75 [some (.ref p), some (.ref pr), some (.ref pc), some (.int x), some (.int st), some (.int (x + nI ((r + 1) * c1) * st)), some (.int (nI (r + 1))), some (.int (nI c1))] [] B = some (none, Y) → pev (d + 1) 76 [some (.ref p), some (.ref pr), some (.ref pc), some (.int x), some (.int st), some (.int (x + nI (r * c1 + k) * st)), some (.int (nI r)), some (.int (nI k))] [] A = some (none, Y) := by
  intro m
  induction m with
  | zero =>
    intro k hk A hA hR hC
    have hkc : k = c1 := by omega
    subst hkc
    have hrk : r * k + k = (r + 1) * k := (Nat.succ_mul r k).symm
    rw [hrk] at hA ⊢
    refine ⟨A, hA, am_fr.refl A, fun Y hY => ?_⟩
    refine e_76 ?_; simp only [b_76, i_int, i_long, i_null, i_stat, i_iload, i_lload, i_aload, i_istore, i_astore, i_lstore, i_iinc, i_ii, i_idz, i_i, i_ll, i_lsh, i_i2l, i_l2i, i_lcmp, i_dup, i_pop, i_dup2, i_ifeq, i_ifne, i_iflt, i_ifge, i_ifgt, i_ifle, i_cmpeq, i_cmpne, i_cmplt, i_cmpge, i_cmpgt, i_cmple, i_ifnull, i_ifnonnull, i_getf, am_wr, i_putI, i_putZ, i_putR, i_iald, i_iast, i_aald, i_aast, i_alen, i_newi, i_newq, i_new, i_recv, i_iret, i_zret, i_lret, i_aret, i_vret, List.getElem?_cons_zero, List.getElem?_cons_succ, Option.bind_some, Option.toList_some, Option.toList_none, List.cons_append, List.nil_append, x_nI, am_put, List.length_cons, List.length_nil, List.set_cons_zero, List.set_cons_succ, Nat.reduceAdd, Nat.reduceLT, Nat.reduceLeDiff, Nat.reduceEqDiff, Nat.add_left_cancel_iff, Nat.add_eq_left, Nat.left_eq_add, Nat.succ_ne_self, Nat.reduceSub, reduceIte, ite_self, eq_self, or_true, true_or, or_false, false_or, or_self, i10, not_true_eq_false, not_false_eq_true, x_call1, x_call2, x_call3, x_call4, x_call5, x_call6, x_sl0, x_sli, x_slr, x_sln, x_sll, am_ent, List.map_nil, List.map_cons, List.sum_nil, List.sum_cons, Value.category, and_true, true_and, and_self, Nat.zero_le, List.replicate_succ, List.replicate_zero, List.reduceReplicate, x_obj_set, x_row_set, x_len_set, x_obx, x_rox, x_obj hC.1, show nI k ≤ nI k from nI_le (Nat.le_refl _) (by omega), nI_1]
    exact hY
  | succ m ih =>
    intro k hk A hA hR hC
    have hdiv : (r * c1 + k) / c1 = r := by
      rw [Nat.mul_comm, Nat.mul_add_div (by omega), Nat.div_eq_of_lt (by omega), Nat.add_zero]
    have hmod : (r * c1 + k) % c1 = k := by
      rw [Nat.mul_comm, Nat.mul_add_mod, Nat.mod_eq_of_lt (by omega)]
    obtain ⟨B, e1, b1, f1⟩ := k_setCell (d := d) (i := s0 + r * t0) (j := s1 + k * t1) (x := x + nI (r * c1 + k) * st) hA (hpl r k hr (by omega))
    have b2 : VA p B (setC v (slb v.2.2.2.2.2.2.2 s0 t0 s1 t1 c1 v.2.2.2.2.2.1 x st (r * c1 + (k + 1)))) := by
      rw [← Nat.add_assoc, slb, hdiv, hmod]
      exact b1
    have hR2 : SE pr B s0 c0 t0 := ⟨(f1.2.2 _ hp1).trans hR.1, hR.2⟩
    have hC2 : SE pc B s1 c1 t1 := ⟨(f1.2.2 _ hp2).trans hC.1, hC.2⟩
    obtain ⟨C, c2, f2, g2⟩ := ih (k + 1) (by omega) b2 hR2 hC2
    refine ⟨C, c2, f1.trans f2, fun Y hY => ?_⟩
    have e3 := g2 Y hY
    rw [← Nat.add_assoc, ← slv_step] at e3
    have hcc : ¬ nI c1 ≤ nI k := nI_ge (by omega) (by omega)
    have er := k_sat (d := d) (n := r) hR
    have ec := k_sat (d := d) (n := k) hC
    obtain ⟨_, q0, -⟩ := id hA
    refine e_76 ?_; simp only [b_76, i_int, i_long, i_null, i_stat, i_iload, i_lload, i_aload, i_istore, i_astore, i_lstore, i_iinc, i_ii, i_idz, i_i, i_ll, i_lsh, i_i2l, i_l2i, i_lcmp, i_dup, i_pop, i_dup2, i_ifeq, i_ifne, i_iflt, i_ifge, i_ifgt, i_ifle, i_cmpeq, i_cmpne, i_cmplt, i_cmpge, i_cmpgt, i_cmple, i_ifnull, i_ifnonnull, i_getf, am_wr, i_putI, i_putZ, i_putR, i_iald, i_iast, i_aald, i_aast, i_alen, i_newi, i_newq, i_new, i_recv, i_iret, i_zret, i_lret, i_aret, i_vret, List.getElem?_cons_zero, List.getElem?_cons_succ, Option.bind_some, Option.toList_some, Option.toList_none, List.cons_append, List.nil_append, x_nI, am_put, List.length_cons, List.length_nil, List.set_cons_zero, List.set_cons_succ, Nat.reduceAdd, Nat.reduceLT, Nat.reduceLeDiff, Nat.reduceEqDiff, Nat.add_left_cancel_iff, Nat.add_eq_left, Nat.left_eq_add, Nat.succ_ne_self, Nat.reduceSub, reduceIte, ite_self, eq_self, or_true, true_or, or_false, false_or, or_self, i10, not_true_eq_false, not_false_eq_true, x_call1, x_call2, x_call3, x_call4, x_call5, x_call6, x_sl0, x_sli, x_slr, x_sln, x_sll, am_ent, List.map_nil, List.map_cons, List.sum_nil, List.sum_cons, Value.category, and_true, true_and, and_self, Nat.zero_le, List.replicate_succ, List.replicate_zero, List.reduceReplicate, x_obj_set, x_row_set, x_len_set, x_obx, x_rox, x_obj hC.1, x_obj hR.1, hcc, er, ec, x_obj q0, e1, nI_1]
    exact e3
theorem k_setSlab1 {d p pr pc : Nat} {v : sg_R} {s0 c0 t0 s1 c1 t1 : Nat} {x st : Int32} (hp1 : pr ≠ p + 6) (hp2 : pc ≠ p + 6) (hc1' : c1 ≤ 8) (hc0 : c0 ≤ 8) (hpl : ∀ a b, a < c0 → b < c1 → (s0 + a * t0) * v.2.2.2.2.2.1 + (s1 + b * t1) < 800) : ∀ (m r : Nat), r + m = c0 → ∀ {A : am_H} {o : Option Value}, VA p A (setC v (slb v.2.2.2.2.2.2.2 s0 t0 s1 t1 c1 v.2.2.2.2.2.1 x st (r * c1))) → SE pr A s0 c0 t0 → SE pc A s1 c1 t1 → ∃ B, pev (d + 1) 75 [some (.ref p), some (.ref pr), some (.ref pc), some (.int x), some (.int st), some (.int (x + nI (r * c1) * st)), some (.int (nI r)), o] [] A = some (none, B) ∧ VA p B (setC v (slb v.2.2.2.2.2.2.2 s0 t0 s1 t1 c1 v.2.2.2.2.2.1 x st (c0 * c1))) ∧ am_fr (fun q => q = p + 6) A B := by
  intro m
  induction m with
  | zero =>
    intro r hr A o hA hR hC
    have hrc : r = c0 := by omega
    subst hrc
    refine ⟨A, ?_, hA, am_fr.refl A⟩
    refine e_75 ?_; simp only [b_75, i_int, i_long, i_null, i_stat, i_iload, i_lload, i_aload, i_istore, i_astore, i_lstore, i_iinc, i_ii, i_idz, i_i, i_ll, i_lsh, i_i2l, i_l2i, i_lcmp, i_dup, i_pop, i_dup2, i_ifeq, i_ifne, i_iflt, i_ifge, i_ifgt, i_ifle, i_cmpeq, i_cmpne, i_cmplt, i_cmpge, i_cmpgt, i_cmple, i_ifnull, i_ifnonnull, i_getf, am_wr, i_putI, i_putZ, i_putR, i_iald, i_iast, i_aald, i_aast, i_alen, i_newi, i_newq, i_new, i_recv, i_iret, i_zret, i_lret, i_aret, i_vret, List.getElem?_cons_zero, List.getElem?_cons_succ, Option.bind_some, Option.toList_some, Option.toList_none, List.cons_append, List.nil_append, x_nI, am_put, List.length_cons, List.length_nil, List.set_cons_zero, List.set_cons_succ, Nat.reduceAdd, Nat.reduceLT, Nat.reduceLeDiff, Nat.reduceEqDiff, Nat.add_left_cancel_iff, Nat.add_eq_left, Nat.left_eq_add, Nat.succ_ne_self, Nat.reduceSub, reduceIte, ite_self, eq_self, or_true, true_or, or_false, false_or, or_self, i10, not_true_eq_false, not_false_eq_true, x_call1, x_call2, x_call3, x_call4, x_call5, x_call6, x_sl0, x_sli, x_slr, x_sln, x_sll, am_ent, List.map_nil, List.map_cons, List.sum_nil, List.sum_cons, Value.category, and_true, true_and, and_self, Nat.zero_le, List.replicate_succ, List.replicate_zero, List.reduceReplicate, x_obj_set, x_row_set, x_len_set, x_obx, x_rox, x_obj hR.1, show nI r ≤ nI r from nI_le (Nat.le_refl _) (by omega)]
  | succ m ih =>
    intro r hr A o hA hR hC
    obtain ⟨B, b1, f1, g1⟩ := k_setSlab2 (d := d) hp1 hp2 hc1' hc0 (show r < c0 by omega) hpl c1 0 (by omega) hA hR hC
    have hR2 : SE pr B s0 c0 t0 := ⟨(f1.2.2 _ hp1).trans hR.1, hR.2⟩
    have hC2 : SE pc B s1 c1 t1 := ⟨(f1.2.2 _ hp2).trans hC.1, hC.2⟩
    obtain ⟨C, e2, c2, f2⟩ := ih (r + 1) (by omega) (o := some (.int (nI c1))) b1 hR2 hC2
    refine ⟨C, ?_, c2, f1.trans f2⟩
    have e3 := g1 C e2
    have hcc : ¬ nI c0 ≤ nI r := nI_ge (by omega) (by omega)
    refine e_75 ?_; simp only [b_75, i_int, i_long, i_null, i_stat, i_iload, i_lload, i_aload, i_istore, i_astore, i_lstore, i_iinc, i_ii, i_idz, i_i, i_ll, i_lsh, i_i2l, i_l2i, i_lcmp, i_dup, i_pop, i_dup2, i_ifeq, i_ifne, i_iflt, i_ifge, i_ifgt, i_ifle, i_cmpeq, i_cmpne, i_cmplt, i_cmpge, i_cmpgt, i_cmple, i_ifnull, i_ifnonnull, i_getf, am_wr, i_putI, i_putZ, i_putR, i_iald, i_iast, i_aald, i_aast, i_alen, i_newi, i_newq, i_new, i_recv, i_iret, i_zret, i_lret, i_aret, i_vret, List.getElem?_cons_zero, List.getElem?_cons_succ, Option.bind_some, Option.toList_some, Option.toList_none, List.cons_append, List.nil_append, x_nI, am_put, List.length_cons, List.length_nil, List.set_cons_zero, List.set_cons_succ, Nat.reduceAdd, Nat.reduceLT, Nat.reduceLeDiff, Nat.reduceEqDiff, Nat.add_left_cancel_iff, Nat.add_eq_left, Nat.left_eq_add, Nat.succ_ne_self, Nat.reduceSub, reduceIte, ite_self, eq_self, or_true, true_or, or_false, false_or, or_self, i10, not_true_eq_false, not_false_eq_true, x_call1, x_call2, x_call3, x_call4, x_call5, x_call6, x_sl0, x_sli, x_slr, x_sln, x_sll, am_ent, List.map_nil, List.map_cons, List.sum_nil, List.sum_cons, Value.category, and_true, true_and, and_self, Nat.zero_le, List.replicate_succ, List.replicate_zero, List.reduceReplicate, x_obj_set, x_row_set, x_len_set, x_obx, x_rox, x_obj hR.1, hcc]
    exact e3
theorem k_setSlab {d p pr pc : Nat} {v : sg_R} {s0 c0 t0 s1 c1 t1 : Nat} {x st : Int32} {A : am_H} (hp1 : pr ≠ p + 6) (hp2 : pc ≠ p + 6) (hc1' : c1 ≤ 8) (hc0 : c0 ≤ 8) (hpl : ∀ a b, a < c0 → b < c1 → (s0 + a * t0) * v.2.2.2.2.2.1 + (s1 + b * t1) < 800) (hA : VA p A v) (hR : SE pr A s0 c0 t0) (hC : SE pc A s1 c1 t1) : ∃ B, pev (d + 1) 74 [some (.ref p), some (.ref pr), some (.ref pc), some (.int x), some (.int st), none, none, none] [] A = some (none, B) ∧ VA p B (setC v (slb v.2.2.2.2.2.2.2 s0 t0 s1 t1 c1 v.2.2.2.2.2.1 x st (c0 * c1))) ∧ am_fr (fun q => q = p + 6) A B := by
  obtain ⟨B, e1, b⟩ := k_setSlab1 (d := d) (x := x) (st := st) hp1 hp2 hc1' hc0 hpl c0 0 (by omega) (o := none) (A := A) (by rw [Nat.zero_mul]; exact hA) hR hC
  refine ⟨B, ?_, b⟩
  rw [Nat.zero_mul, nI_0, Int32.zero_mul, Int32.add_zero] at e1
  refine e_74 ?_; simp only [b_74, i_int, i_long, i_null, i_stat, i_iload, i_lload, i_aload, i_istore, i_astore, i_lstore, i_iinc, i_ii, i_idz, i_i, i_ll, i_lsh, i_i2l, i_l2i, i_lcmp, i_dup, i_pop, i_dup2, i_ifeq, i_ifne, i_iflt, i_ifge, i_ifgt, i_ifle, i_cmpeq, i_cmpne, i_cmplt, i_cmpge, i_cmpgt, i_cmple, i_ifnull, i_ifnonnull, i_getf, am_wr, i_putI, i_putZ, i_putR, i_iald, i_iast, i_aald, i_aast, i_alen, i_newi, i_newq, i_new, i_recv, i_iret, i_zret, i_lret, i_aret, i_vret, List.getElem?_cons_zero, List.getElem?_cons_succ, Option.bind_some, Option.toList_some, Option.toList_none, List.cons_append, List.nil_append, x_nI, am_put, List.length_cons, List.length_nil, List.set_cons_zero, List.set_cons_succ, Nat.reduceAdd, Nat.reduceLT, Nat.reduceLeDiff, Nat.reduceEqDiff, Nat.add_left_cancel_iff, Nat.add_eq_left, Nat.left_eq_add, Nat.succ_ne_self, Nat.reduceSub, reduceIte, ite_self, eq_self, or_true, true_or, or_false, false_or, or_self, i10, not_true_eq_false, not_false_eq_true, x_call1, x_call2, x_call3, x_call4, x_call5, x_call6, x_sl0, x_sli, x_slr, x_sln, x_sll, am_ent, List.map_nil, List.map_cons, List.sum_nil, List.sum_cons, Value.category, and_true, true_and, and_self, Nat.zero_le, List.replicate_succ, List.replicate_zero, List.reduceReplicate, x_obj_set, x_row_set, x_len_set, x_obx, x_rox]
  exact e1
