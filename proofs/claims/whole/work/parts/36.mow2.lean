/-! the reference writes lists of attributes -/
def Nok (a : sg_A) : Prop := ∀ k, k < a.1 → isNb (a.2.1 k) = true
theorem n_writeList1 {d b h l : Nat} {a : sg_A} {bs : List Nat} (hh : h < 2) (hl6 : l < 6) (hN : Nok a) (hm : bs.length % 4 = 0) (hl : bs.length + (sg_cat (ia1 a) a.1).length ≤ 800) : ∀ (m k : Nat), k + m = a.1 → ∀ {A : am_H} {R : Nat → Nat → Int32} {f : mo_F} {o : Option Value}, MA R h l a → MW b A R f (bs ++ sg_cat (ia1 a) k) → ∃ B S, pev (d + 3) 231 [some (.ref b), some (.int (nI h)), some (.int (nI l)), some (.int (nI (18 * h + 3 * l + k))), o] [] A = some (none, B) ∧ MW b B S (sl f (bs ++ sg_cat (ia1 a) a.1).length) (bs ++ sg_cat (ia1 a) a.1) ∧ mw_to b A R B S := by
  intro m
  induction m with
  | zero =>
    intro k hk A R f o hA hW
    obtain ⟨h3, hn, -⟩ := id hA
    have hM := hW.1
    have hka : k = a.1 := by omega
    subst hka
    refine ⟨A, R, ?_, by rw [sl_id hW.2.1]; exact hW, mw_to.refl⟩
    refine e_231 ?_; simp only [b_231, i_int, i_long, i_null, i_stat, i_iload, i_lload, i_aload, i_istore, i_astore, i_lstore, i_iinc, i_ii, i_idz, i_i, i_ll, i_lsh, i_i2l, i_l2i, i_lcmp, i_dup, i_pop, i_dup2, i_ifeq, i_ifne, i_iflt, i_ifge, i_ifgt, i_ifle, i_cmpeq, i_cmpne, i_cmplt, i_cmpge, i_cmpgt, i_cmple, i_ifnull, i_ifnonnull, i_getf, am_wr, i_putI, i_putZ, i_putR, i_iald, i_iast, i_aald, i_aast, i_alen, i_newi, i_newq, i_new, i_recv, i_iret, i_zret, i_lret, i_aret, i_vret, List.getElem?_cons_zero, List.getElem?_cons_succ, Option.bind_some, Option.toList_some, Option.toList_none, List.cons_append, List.nil_append, x_nI, am_put, List.length_cons, List.length_nil, List.set_cons_zero, List.set_cons_succ, Nat.reduceAdd, Nat.reduceLT, Nat.reduceLeDiff, Nat.reduceEqDiff, Nat.add_left_cancel_iff, Nat.add_eq_left, Nat.left_eq_add, Nat.succ_ne_self, Nat.reduceSub, reduceIte, ite_self, eq_self, or_true, true_or, or_false, false_or, or_self, i10, not_true_eq_false, not_false_eq_true, x_call1, x_call2, x_call3, x_call4, x_call5, x_call6, x_sl0, x_sli, x_slr, x_sln, x_sll, am_ent, List.map_nil, List.map_cons, List.sum_nil, List.sum_cons, Value.category, and_true, true_and, and_self, Nat.zero_le, List.replicate_succ, List.replicate_zero, List.reduceReplicate, x_obj_set, x_row_set, x_len_set, x_obx, x_rox, x_rv, x_obj hM.1, mo_obj, x_row (show A.2.2 (b + 9) = some (.inl (0, 12, R 9)) from hM.2.2 9 (by decide) (by decide)), show (18 : Int32) = nI 18 from rfl, show (3 : Int32) = nI 3 from rfl, show (6 : Int32) = nI 6 from rfl, pk_mul, nI_add, x_ix (show 6 * h + l < 12 by omega) (show 6 * h + l < 2147483648 by omega), hn, show nI (18 * h + 3 * l + a.1) ≤ nI (18 * h + 3 * l + a.1) from nI_le (Nat.le_refl _) (by omega)]
  | succ m ih =>
    intro k hk A R f o hA hW
    obtain ⟨h3, hn, hr⟩ := id hA
    have hM := hW.1
    obtain ⟨w1, w2, w3, w4, t1, t4⟩ := hr k (by omega)
    have hw := wd_le (a.2.2.1 k)
    have hlen : bs.length + ((sg_cat (ia1 a) k).length + (16 + pad4 (2 * wd (a.2.2.1 k)))) ≤ 800 := by
      have := cat_le (f := ia1 a) (m := k + 1) (n := a.1) (by omega)
      rw [sg_cat, List.length_append, ia1_len] at this
      omega
    have hpg := pad4_ge (2 * wd (a.2.2.1 k))
    have hPm := ia1_mod a k
    have hP : (bs ++ sg_cat (ia1 a) k).length = bs.length + (sg_cat (ia1 a) k).length := List.length_append
    obtain ⟨B1, S1, e1, b1, q1⟩ := n_writeName (d := d) (x := a.2.1 k) (hN k (by omega)) hW (by omega)
    obtain ⟨B2, S2, e2, b2, q2⟩ := n_writeValue (d := d + 1) (x := nI (a.2.2.1 k)) (w := 4) (by decide) b1 (by simp only [List.length_append, nam_len]; omega)
    obtain ⟨B3, S3, e3, b3, q3⟩ := n_writeValue (d := d + 1) (x := nI 2) (w := 4) (by decide) b2 (by simp only [List.length_append, nam_len, num_len]; omega)
    obtain ⟨B4, S4, e4, b4, q4⟩ := n_writeValue (d := d + 1) (x := a.2.2.2.1 k) (w := wd (a.2.2.1 k)) hw b3 (by simp only [List.length_append, nam_len, num_len]; omega)
    obtain ⟨B5, S5, e5, b5, q5⟩ := n_writeValue (d := d + 1) (x := a.2.2.2.2 k) (w := wd (a.2.2.1 k)) hw b4 (by simp only [List.length_append, nam_len, num_len]; omega)
    obtain ⟨B6, S6, e6, b6, q6⟩ := n_pad (d := d + 1) (p := (bs ++ sg_cat (ia1 a) k).length + 16) (by omega) (pad4 (2 * wd (a.2.2.1 k)) - 2 * wd (a.2.2.1 k)) (2 * wd (a.2.2.1 k)) rfl b5 (by simp only [List.length_append, nam_len, num_len]; omega) (by simp only [List.length_append, nam_len, num_len]; omega)
    have Q := q1.trans (q2.trans (q3.trans (q4.trans (q5.trans q6))))
    have hcat : bs ++ sg_cat (ia1 a) (k + 1) = bs ++ sg_cat (ia1 a) k ++ nam (a.2.1 k) ++ num (nI (a.2.2.1 k)) 4 ++ num (nI 2) 4 ++ num (a.2.2.2.1 k) (wd (a.2.2.1 k)) ++ num (a.2.2.2.2 k) (wd (a.2.2.1 k)) ++ padl (2 * wd (a.2.2.1 k)) := by
      simp only [sg_cat, ia1, wrd, List.append_assoc]
    have b6' : MW b B6 S6 (sl f (bs ++ sg_cat (ia1 a) (k + 1)).length) (bs ++ sg_cat (ia1 a) (k + 1)) := by
      have hlen6 := b6.2.1
      rw [hcat]
      simp only [sl_sl] at b6 ⊢
      have e : sl f (bs ++ sg_cat (ia1 a) k ++ nam (a.2.1 k) ++ num (nI (a.2.2.1 k)) 4 ++ num (nI 2) 4 ++ num (a.2.2.2.1 k) (wd (a.2.2.1 k)) ++ num (a.2.2.2.2 k) (wd (a.2.2.1 k)) ++ padl (2 * wd (a.2.2.1 k))).length = sl f ((bs ++ sg_cat (ia1 a) k ++ nam (a.2.1 k) ++ num (nI (a.2.2.1 k)) 4 ++ num (nI 2) 4 ++ num (a.2.2.2.1 k) (wd (a.2.2.1 k)) ++ num (a.2.2.2.2 k) (wd (a.2.2.1 k))).length + (pad4 (2 * wd (a.2.2.1 k)) - 2 * wd (a.2.2.1 k))) := by
        rw [List.length_append, padl_len]
      rw [e]
      exact b6
    obtain ⟨C, T, e7, c7, q7⟩ := ih (k + 1) (by omega) (o := some (.int (nI ((bs ++ sg_cat (ia1 a) k).length + 16)))) (hA.to Q) b6'
    refine ⟨C, T, ?_, by rw [sl_sl] at c7; exact c7, Q.trans q7⟩
    have hc : ¬ nI (18 * h + 3 * l + a.1) ≤ nI (18 * h + 3 * l + k) := nI_ge (by omega) (by omega)
    have ix := x_ix (show 18 * h + 3 * l + k < 36 by omega) (show 18 * h + 3 * l + k < 2147483648 by omega)
    have M1 := b1.1
    have M2 := b2.1
    have M3 := b3.1
    have M4 := b4.1
    have M5 := b5.1
    have r1 : B1.2.2 (b + 11) = some (.inl (0, 36, R 11)) := by rw [← q1.1 11 (by decide)]; exact M1.2.2 11 (by decide) (by decide)
    have Q3 := q1.trans (q2.trans q3)
    have Q4 := Q3.trans q4
    have r3 : B3.2.2 (b + 11) = some (.inl (0, 36, R 11)) := by rw [← Q3.1 11 (by decide)]; exact M3.2.2 11 (by decide) (by decide)
    have r3x : B3.2.2 (b + 12) = some (.inl (0, 36, R 12)) := by rw [← Q3.1 12 (by decide)]; exact M3.2.2 12 (by decide) (by decide)
    have r4 : B4.2.2 (b + 11) = some (.inl (0, 36, R 11)) := by rw [← Q4.1 11 (by decide)]; exact M4.2.2 11 (by decide) (by decide)
    have r4x : B4.2.2 (b + 13) = some (.inl (0, 36, R 13)) := by rw [← Q4.1 13 (by decide)]; exact M4.2.2 13 (by decide) (by decide)
    have hlen3 : (sl (sl (sl f ((bs ++ sg_cat (ia1 a) k).length + 8)) ((bs ++ sg_cat (ia1 a) k ++ nam (a.2.1 k)).length + 4)) ((bs ++ sg_cat (ia1 a) k ++ nam (a.2.1 k) ++ num (nI (a.2.2.1 k)) 4).length + 4)).2.2.1 = (bs ++ sg_cat (ia1 a) k).length + 16 := by
      simp only [sl, List.length_append, nam_len, num_len]
    refine e_231 ?_; simp only [b_231, i_int, i_long, i_null, i_stat, i_iload, i_lload, i_aload, i_istore, i_astore, i_lstore, i_iinc, i_ii, i_idz, i_i, i_ll, i_lsh, i_i2l, i_l2i, i_lcmp, i_dup, i_pop, i_dup2, i_ifeq, i_ifne, i_iflt, i_ifge, i_ifgt, i_ifle, i_cmpeq, i_cmpne, i_cmplt, i_cmpge, i_cmpgt, i_cmple, i_ifnull, i_ifnonnull, i_getf, am_wr, i_putI, i_putZ, i_putR, i_iald, i_iast, i_aald, i_aast, i_alen, i_newi, i_newq, i_new, i_recv, i_iret, i_zret, i_lret, i_aret, i_vret, List.getElem?_cons_zero, List.getElem?_cons_succ, Option.bind_some, Option.toList_some, Option.toList_none, List.cons_append, List.nil_append, x_nI, am_put, List.length_cons, List.length_nil, List.set_cons_zero, List.set_cons_succ, Nat.reduceAdd, Nat.reduceLT, Nat.reduceLeDiff, Nat.reduceEqDiff, Nat.add_left_cancel_iff, Nat.add_eq_left, Nat.left_eq_add, Nat.succ_ne_self, Nat.reduceSub, reduceIte, ite_self, eq_self, or_true, true_or, or_false, false_or, or_self, i10, not_true_eq_false, not_false_eq_true, x_call1, x_call2, x_call3, x_call4, x_call5, x_call6, x_sl0, x_sli, x_slr, x_sln, x_sll, am_ent, List.map_nil, List.map_cons, List.sum_nil, List.sum_cons, Value.category, and_true, true_and, and_self, Nat.zero_le, List.replicate_succ, List.replicate_zero, List.reduceReplicate, x_obj_set, x_row_set, x_len_set, x_obx, x_rox, x_rv, x_obj hM.1, mo_obj, x_row (show A.2.2 (b + 9) = some (.inl (0, 12, R 9)) from hM.2.2 9 (by decide) (by decide)), x_row (show A.2.2 (b + 10) = some (.inl (0, 36, R 10)) from hM.2.2 10 (by decide) (by decide)), show (18 : Int32) = nI 18 from rfl, show (3 : Int32) = nI 3 from rfl, show (6 : Int32) = nI 6 from rfl, pk_mul, nI_add, x_ix (show 6 * h + l < 12 by omega) (show 6 * h + l < 2147483648 by omega), hn, hc, ix, w1, e1, x_obj M1.1, x_row r1, w2, show (4 : Int32) = nI 4 from rfl, e2, x_obj M2.1, show (2 : Int32) = nI 2 from rfl, e3, x_obj M3.1, hlen3, x_row r3, x_row r3x, w3, n_bytes (show a.2.2.1 k < 1000 by omega), e4, x_obj M4.1, x_row r4, x_row r4x, w4, e5, x_obj M5.1, e6, nI_1]
    exact e7
theorem n_writeList {d b h l : Nat} {A : am_H} {R : Nat → Nat → Int32} {f : mo_F} {a : sg_A} {bs : List Nat} (hh : h < 2) (hl6 : l < 6) (hN : Nok a) (hm : bs.length % 4 = 0) (hl : bs.length + sg_ls a ≤ 800) (hA : MA R h l a) (hW : MW b A R f bs) : ∃ B S, pev (d + 3) 230 [some (.ref b), some (.int (nI h)), some (.int (nI l)), none, none] [] A = some (none, B) ∧ MW b B S (sl f (bs ++ im_a a).length) (bs ++ im_a a) ∧ mw_to b A R B S := by
  have hM := hW.1
  have hla := im_a_len a
  unfold im_a at hla
  rw [List.length_append, hea_len] at hla
  have h3 := hA.1
  obtain ⟨B1, S1, e1, b1, q1⟩ := n_writeCount (d := d) (k := 12) (n := a.1) (by omega) hW (by omega)
  obtain ⟨B2, S2, e2, b2, q2⟩ := n_writeList1 (d := d) (bs := bs ++ hea 12 a.1) hh hl6 hN (by rw [List.length_append, hea_len]; omega) (by rw [List.length_append, hea_len]; omega) a.1 0 (by omega) (o := none) (hA.to q1) (by rw [sg_cat, List.append_nil]; exact b1)
  refine ⟨B2, S2, ?_, by rw [im_a, ← List.append_assoc]; rw [sl_sl] at b2; exact b2, q1.trans q2⟩
  refine e_230 ?_; simp only [b_230, i_int, i_long, i_null, i_stat, i_iload, i_lload, i_aload, i_istore, i_astore, i_lstore, i_iinc, i_ii, i_idz, i_i, i_ll, i_lsh, i_i2l, i_l2i, i_lcmp, i_dup, i_pop, i_dup2, i_ifeq, i_ifne, i_iflt, i_ifge, i_ifgt, i_ifle, i_cmpeq, i_cmpne, i_cmplt, i_cmpge, i_cmpgt, i_cmple, i_ifnull, i_ifnonnull, i_getf, am_wr, i_putI, i_putZ, i_putR, i_iald, i_iast, i_aald, i_aast, i_alen, i_newi, i_newq, i_new, i_recv, i_iret, i_zret, i_lret, i_aret, i_vret, List.getElem?_cons_zero, List.getElem?_cons_succ, Option.bind_some, Option.toList_some, Option.toList_none, List.cons_append, List.nil_append, x_nI, am_put, List.length_cons, List.length_nil, List.set_cons_zero, List.set_cons_succ, Nat.reduceAdd, Nat.reduceLT, Nat.reduceLeDiff, Nat.reduceEqDiff, Nat.add_left_cancel_iff, Nat.add_eq_left, Nat.left_eq_add, Nat.succ_ne_self, Nat.reduceSub, reduceIte, ite_self, eq_self, or_true, true_or, or_false, false_or, or_self, i10, not_true_eq_false, not_false_eq_true, x_call1, x_call2, x_call3, x_call4, x_call5, x_call6, x_sl0, x_sli, x_slr, x_sln, x_sll, am_ent, List.map_nil, List.map_cons, List.sum_nil, List.sum_cons, Value.category, and_true, true_and, and_self, Nat.zero_le, List.replicate_succ, List.replicate_zero, List.reduceReplicate, x_obj_set, x_row_set, x_len_set, x_obx, x_rox, x_rv, x_obj hM.1, mo_obj, x_row (show A.2.2 (b + 9) = some (.inl (0, 12, R 9)) from hM.2.2 9 (by decide) (by decide)), show (12 : Int32) = nI 12 from rfl, show (18 : Int32) = nI 18 from rfl, show (3 : Int32) = nI 3 from rfl, show (6 : Int32) = nI 6 from rfl, pk_mul, nI_add, x_ix (show 6 * h + l < 12 by omega) (show 6 * h + l < 2147483648 by omega), hA.2.1, e1]
  exact e2
