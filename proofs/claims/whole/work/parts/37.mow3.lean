/-! the reference writes variables and cells -/
theorem n_wVar1 {d b h v : Nat} {s : sg_S} {bs : List Nat} (hv : v < s.2.2.1) (hl : bs.length + (s.2.2.2.1 v).2.2.1 * 4 ≤ 800) : ∀ (m k : Nat), k + m = (s.2.2.2.1 v).2.2.1 → ∀ {A : am_H} {R : Nat → Nat → Int32} {f : mo_F}, MS R h s → MW b A R f (bs ++ sg_cat (fun k => wrd ((s.2.2.2.1 v).2.2.2.1 k)) k) → ∃ B S, MW b B S (sl f (bs ++ sg_cat (fun k => wrd ((s.2.2.2.1 v).2.2.2.1 k)) (s.2.2.2.1 v).2.2.1).length) (bs ++ sg_cat (fun k => wrd ((s.2.2.2.1 v).2.2.2.1 k)) (s.2.2.2.1 v).2.2.1) ∧ mw_to b A R B S ∧ ∀ Y, pev (d + 4) 234 [some (.ref b), some (.int (nI h)), some (.int (nI v)), some (.int (nI (5 * h + v))), some (.int (nI (s.2.2.2.1 v).2.2.1)), none] [] B = some (none, Y) → pev (d + 4) 234 [some (.ref b), some (.int (nI h)), some (.int (nI v)), some (.int (nI (5 * h + v))), some (.int (nI k)), none] [] A = some (none, Y) := by
  intro m
  induction m with
  | zero =>
    intro k hk A R f hS hW
    have hkk : k = (s.2.2.2.1 v).2.2.1 := by omega
    subst hkk
    exact ⟨A, R, by rw [sl_id hW.2.1]; exact hW, mw_to.refl, fun Y hY => hY⟩
  | succ m ih =>
    intro k hk A R f hS hW
    have hM := hW.1
    have hh := hS.2.1
    have h5 := hS.1.2.2.1
    obtain ⟨-, -, w3, w4, -⟩ := hS.2.2.2.2.2 v hv
    obtain ⟨-, x2, x3, -⟩ := hS.1.2.2.2.1 v hv
    have hcl : (sg_cat (fun k => wrd ((s.2.2.2.1 v).2.2.2.1 k)) k).length = k * 4 := by
      rw [sg_cat_len, show (fun j => (wrd ((s.2.2.2.1 v).2.2.2.1 j)).length) = fun _ => 4 from funext (fun j => wrd_len _), sg_sum_const]
    obtain ⟨B1, S1, e1, b1, q1⟩ := n_writeValue (d := d + 2) (x := nI ((s.2.2.2.1 v).2.2.2.1 k)) (w := 4) (by decide) hW (by rw [List.length_append, hcl]; omega)
    have b1' : MW b B1 S1 (sl f (bs ++ sg_cat (fun k => wrd ((s.2.2.2.1 v).2.2.2.1 k)) (k + 1)).length) (bs ++ sg_cat (fun k => wrd ((s.2.2.2.1 v).2.2.2.1 k)) (k + 1)) := by
      rw [sg_cat, ← List.append_assoc, List.length_append, wrd_len]
      exact b1
    obtain ⟨C, T, c1, q2, G⟩ := ih (k + 1) (by omega) (hS.to q1) b1'
    refine ⟨C, T, by rw [sl_sl] at c1; exact c1, q1.trans q2, fun Y hY => ?_⟩
    have e2 := G Y hY
    have hc : ¬ nI (s.2.2.2.1 v).2.2.1 ≤ nI k := nI_ge (by omega) (by omega)
    have w4k := w4 k (by omega)
    rw [show 10 * h + 2 * v + k = 2 * (5 * h + v) + k by omega] at w4k
    refine e_234 ?_; simp only [b_234, i_int, i_long, i_null, i_stat, i_iload, i_lload, i_aload, i_istore, i_astore, i_lstore, i_iinc, i_ii, i_idz, i_i, i_ll, i_lsh, i_i2l, i_l2i, i_lcmp, i_dup, i_pop, i_dup2, i_ifeq, i_ifne, i_iflt, i_ifge, i_ifgt, i_ifle, i_cmpeq, i_cmpne, i_cmplt, i_cmpge, i_cmpgt, i_cmple, i_ifnull, i_ifnonnull, i_getf, am_wr, i_putI, i_putZ, i_putR, i_iald, i_iast, i_aald, i_aast, i_alen, i_newi, i_newq, i_new, i_recv, i_iret, i_zret, i_lret, i_aret, i_vret, List.getElem?_cons_zero, List.getElem?_cons_succ, Option.bind_some, Option.toList_some, Option.toList_none, List.cons_append, List.nil_append, x_nI, am_put, List.length_cons, List.length_nil, List.set_cons_zero, List.set_cons_succ, Nat.reduceAdd, Nat.reduceLT, Nat.reduceLeDiff, Nat.reduceEqDiff, Nat.add_left_cancel_iff, Nat.add_eq_left, Nat.left_eq_add, Nat.succ_ne_self, Nat.reduceSub, reduceIte, ite_self, eq_self, or_true, true_or, or_false, false_or, or_self, i10, not_true_eq_false, not_false_eq_true, x_call1, x_call2, x_call3, x_call4, x_call5, x_call6, x_sl0, x_sli, x_slr, x_sln, x_sll, am_ent, List.map_nil, List.map_cons, List.sum_nil, List.sum_cons, Value.category, and_true, true_and, and_self, Nat.zero_le, List.replicate_succ, List.replicate_zero, List.reduceReplicate, x_obj_set, x_row_set, x_len_set, x_obx, x_rox, x_rv, x_obj hM.1, mo_obj, x_row (show A.2.2 (b + 7) = some (.inl (0, 10, R 7)) from hM.2.2 7 (by decide) (by decide)), x_row (show A.2.2 (b + 8) = some (.inl (0, 20, R 8)) from hM.2.2 8 (by decide) (by decide)), x_ix (show 5 * h + v < 10 by omega) (show 5 * h + v < 2147483648 by omega), w3, hc, show (2 : Int32) = nI 2 from rfl, show (4 : Int32) = nI 4 from rfl, pk_mul, nI_add, x_ix (show 2 * (5 * h + v) + k < 20 by omega) (show 2 * (5 * h + v) + k < 2147483648 by omega), w4k, e1, nI_1]
    exact e2
theorem n_writeVariable {d b h v : Nat} {A : am_H} {R : Nat → Nat → Int32} {f : mo_F} {s : sg_S} {bs : List Nat} (hS : MS R h s) (hv : v < s.2.2.1) (hx : isNb (s.2.2.2.1 v).1 = true) (hN : Nok (s.2.2.2.1 v).2.2.2.2.1) (hW : MW b A R f bs) (hm : bs.length % 4 = 0) (hl : bs.length + (im_v s v).length ≤ 800) : ∃ B S, pev (d + 4) 233 [some (.ref b), some (.int (nI h)), some (.int (nI v)), none, none, none] [] A = some (none, B) ∧ MW b B S (sl f (bs ++ im_v s v).length) (bs ++ im_v s v) ∧ mw_to b A R B S := by
  rw [im_v_len] at hl
  have hM := hW.1
  have hh := hS.2.1
  have h5 := hS.1.2.2.1
  obtain ⟨w1, w2, w3, w4, w5, -⟩ := hS.2.2.2.2.2 v hv
  obtain ⟨⟨t1, t4⟩, x2, x3, -⟩ := hS.1.2.2.2.1 v hv
  have ix := x_ix (show 5 * h + v < 10 by omega) (show 5 * h + v < 2147483648 by omega)
  have hcl : (sg_cat (fun k => wrd ((s.2.2.2.1 v).2.2.2.1 k)) (s.2.2.2.1 v).2.2.1).length = (s.2.2.2.1 v).2.2.1 * 4 := by
    rw [sg_cat_len, show (fun j => (wrd ((s.2.2.2.1 v).2.2.2.1 j)).length) = fun _ => 4 from funext (fun j => wrd_len _), sg_sum_const]
  have hla := im_a_len (s.2.2.2.1 v).2.2.2.2.1
  have hlm := sg_ls_mod (s.2.2.2.1 v).2.2.2.2.1
  obtain ⟨B1, S1, e1, b1, q1⟩ := n_writeName (d := d + 1) (x := (s.2.2.2.1 v).1) hx hW (by omega)
  obtain ⟨B2, S2, e2, b2, q2⟩ := n_writeValue (d := d + 2) (x := nI (s.2.2.2.1 v).2.2.1) (w := 4) (by decide) b1 (by rw [List.length_append, nam_len]; omega)
  have Q2 := q1.trans q2
  obtain ⟨B3, S3, b3, q3, G3⟩ := n_wVar1 (d := d) (bs := bs ++ nam (s.2.2.2.1 v).1 ++ num (nI (s.2.2.2.1 v).2.2.1) 4) hv (by simp only [List.length_append, nam_len, num_len]; omega) (s.2.2.2.1 v).2.2.1 0 (by omega) (hS.to Q2) (by rw [sg_cat, List.append_nil]; exact b2)
  have Q3 := Q2.trans q3
  have hS3 := hS.to Q3
  obtain ⟨B4, S4, e4, b4, q4⟩ := n_writeList (d := d) hh (show v + 1 < 6 by omega) hN (by simp only [List.length_append, nam_len, num_len, hcl]; omega) (by simp only [List.length_append, nam_len, num_len, hcl]; omega) (hS3.2.2.2.2.2 v hv).2.2.2.2.1 b3
  have Q4 := Q3.trans q4
  obtain ⟨B5, S5, e5, b5, q5⟩ := n_writeValue (d := d + 2) (x := nI (s.2.2.2.1 v).2.1) (w := 4) (by decide) b4 (by simp only [List.length_append, nam_len, num_len, hcl]; omega)
  have Q5 := Q4.trans q5
  have e6 := n_padded (d := d + 1) b5.1 (hS.to Q5) hv
  have e7 := n_beginOf (d := d) b5.1 (hS.to Q5) hv
  obtain ⟨B8, S8, e8, b8, q8⟩ := n_writeValue (d := d + 2) (x := nI (sg_ps s v)) (w := 4) (by decide) b5 (by simp only [List.length_append, nam_len, num_len, hcl]; omega)
  obtain ⟨B9, S9, e9, b9, q9⟩ := n_writeValue (d := d + 2) (x := nI (sg_bg s v)) (w := 4) (by decide) b8 (by simp only [List.length_append, nam_len, num_len, hcl]; omega)
  refine ⟨B9, S9, ?_, ?_, Q5.trans (q8.trans q9)⟩
  · have e10 := G3 B9 (by
      have hM3 := b3.1
      have hM4 := b4.1
      have r3 : B3.2.2 (b + 7) = some (.inl (0, 10, R 7)) := by rw [← Q3.1 7 (by decide)]; exact hM3.2.2 7 (by decide) (by decide)
      have r4 : B4.2.2 (b + 6) = some (.inl (0, 10, R 6)) := by rw [← Q4.1 6 (by decide)]; exact hM4.2.2 6 (by decide) (by decide)
      refine e_234 ?_; simp only [b_234, i_int, i_long, i_null, i_stat, i_iload, i_lload, i_aload, i_istore, i_astore, i_lstore, i_iinc, i_ii, i_idz, i_i, i_ll, i_lsh, i_i2l, i_l2i, i_lcmp, i_dup, i_pop, i_dup2, i_ifeq, i_ifne, i_iflt, i_ifge, i_ifgt, i_ifle, i_cmpeq, i_cmpne, i_cmplt, i_cmpge, i_cmpgt, i_cmple, i_ifnull, i_ifnonnull, i_getf, am_wr, i_putI, i_putZ, i_putR, i_iald, i_iast, i_aald, i_aast, i_alen, i_newi, i_newq, i_new, i_recv, i_iret, i_zret, i_lret, i_aret, i_vret, List.getElem?_cons_zero, List.getElem?_cons_succ, Option.bind_some, Option.toList_some, Option.toList_none, List.cons_append, List.nil_append, x_nI, am_put, List.length_cons, List.length_nil, List.set_cons_zero, List.set_cons_succ, Nat.reduceAdd, Nat.reduceLT, Nat.reduceLeDiff, Nat.reduceEqDiff, Nat.add_left_cancel_iff, Nat.add_eq_left, Nat.left_eq_add, Nat.succ_ne_self, Nat.reduceSub, reduceIte, ite_self, eq_self, or_true, true_or, or_false, false_or, or_self, i10, not_true_eq_false, not_false_eq_true, x_call1, x_call2, x_call3, x_call4, x_call5, x_call6, x_sl0, x_sli, x_slr, x_sln, x_sll, am_ent, List.map_nil, List.map_cons, List.sum_nil, List.sum_cons, Value.category, and_true, true_and, and_self, Nat.zero_le, List.replicate_succ, List.replicate_zero, List.reduceReplicate, x_obj_set, x_row_set, x_len_set, x_obx, x_rox, x_rv, x_obj hM3.1, mo_obj, x_row r3, ix, w3, show nI (s.2.2.2.1 v).2.2.1 ≤ nI (s.2.2.2.1 v).2.2.1 from nI_le (Nat.le_refl _) (by omega), nI_1, e4, x_obj hM4.1, x_row r4, w2, show (4 : Int32) = nI 4 from rfl, e5, x_obj b5.1.1, e6, e7, e8, x_obj b8.1.1, e9])
    have r1 : B1.2.2 (b + 7) = some (.inl (0, 10, R 7)) := by rw [← q1.1 7 (by decide)]; exact b1.1.2.2 7 (by decide) (by decide)
    refine e_233 ?_; simp only [b_233, i_int, i_long, i_null, i_stat, i_iload, i_lload, i_aload, i_istore, i_astore, i_lstore, i_iinc, i_ii, i_idz, i_i, i_ll, i_lsh, i_i2l, i_l2i, i_lcmp, i_dup, i_pop, i_dup2, i_ifeq, i_ifne, i_iflt, i_ifge, i_ifgt, i_ifle, i_cmpeq, i_cmpne, i_cmplt, i_cmpge, i_cmpgt, i_cmple, i_ifnull, i_ifnonnull, i_getf, am_wr, i_putI, i_putZ, i_putR, i_iald, i_iast, i_aald, i_aast, i_alen, i_newi, i_newq, i_new, i_recv, i_iret, i_zret, i_lret, i_aret, i_vret, List.getElem?_cons_zero, List.getElem?_cons_succ, Option.bind_some, Option.toList_some, Option.toList_none, List.cons_append, List.nil_append, x_nI, am_put, List.length_cons, List.length_nil, List.set_cons_zero, List.set_cons_succ, Nat.reduceAdd, Nat.reduceLT, Nat.reduceLeDiff, Nat.reduceEqDiff, Nat.add_left_cancel_iff, Nat.add_eq_left, Nat.left_eq_add, Nat.succ_ne_self, Nat.reduceSub, reduceIte, ite_self, eq_self, or_true, true_or, or_false, false_or, or_self, i10, not_true_eq_false, not_false_eq_true, x_call1, x_call2, x_call3, x_call4, x_call5, x_call6, x_sl0, x_sli, x_slr, x_sln, x_sll, am_ent, List.map_nil, List.map_cons, List.sum_nil, List.sum_cons, Value.category, and_true, true_and, and_self, Nat.zero_le, List.replicate_succ, List.replicate_zero, List.reduceReplicate, x_obj_set, x_row_set, x_len_set, x_obx, x_rox, x_rv, show (5 : Int32) = nI 5 from rfl, pk_mul, nI_add, x_obj hM.1, mo_obj, x_row (show A.2.2 (b + 5) = some (.inl (0, 10, R 5)) from hM.2.2 5 (by decide) (by decide)), ix, w1, e1, x_obj b1.1.1, x_row r1, w3, show (4 : Int32) = nI 4 from rfl, e2]
    exact e10
  · have e : bs ++ im_v s v = bs ++ nam (s.2.2.2.1 v).1 ++ num (nI (s.2.2.2.1 v).2.2.1) 4 ++ sg_cat (fun k => wrd ((s.2.2.2.1 v).2.2.2.1 k)) (s.2.2.2.1 v).2.2.1 ++ im_a (s.2.2.2.1 v).2.2.2.2.1 ++ num (nI (s.2.2.2.1 v).2.1) 4 ++ num (nI (sg_ps s v)) 4 ++ num (nI (sg_bg s v)) 4 := by
      simp only [im_v, wrd, List.append_assoc]
    rw [e, List.length_append (bs := num (nI (sg_bg s v)) 4), num_len]
    simp only [sl_sl] at b9
    exact b9
theorem n_wCells1 {d b h v r : Nat} {s : sg_S} {bs : List Nat} {pd : Bool} {frm : Nat} (hv : v < s.2.2.1) (hr : r * sg_cn s v + sg_cn s v ≤ 800) (hl : bs.length + sg_cn s v * wd (s.2.2.2.1 v).2.1 ≤ 800) : ∀ (m k : Nat), k + m = sg_cn s v → ∀ {A : am_H} {R : Nat → Nat → Int32} {f : mo_F}, MS R h s → MW b A R f (bs ++ im_c s v (r * sg_cn s v) k) → ∃ B S, MW b B S (sl f (bs ++ im_c s v (r * sg_cn s v) (sg_cn s v)).length) (bs ++ im_c s v (r * sg_cn s v) (sg_cn s v)) ∧ mw_to b A R B S ∧ ∀ Y, pev (d + 2) 236 [some (.ref b), some (.int (nI h)), some (.int (nI v)), some (.int (nI r)), some (.int (bz pd)), some (.int (nI (5 * h + v))), some (.int (nI (sg_cn s v))), some (.int (nI frm)), some (.int (nI (sg_cn s v)))] [] B = some (none, Y) → pev (d + 2) 236 [some (.ref b), some (.int (nI h)), some (.int (nI v)), some (.int (nI r)), some (.int (bz pd)), some (.int (nI (5 * h + v))), some (.int (nI (sg_cn s v))), some (.int (nI frm)), some (.int (nI k))] [] A = some (none, Y) := by
  intro m
  induction m with
  | zero =>
    intro k hk A R f hS hW
    have hkk : k = sg_cn s v := by omega
    subst hkk
    exact ⟨A, R, by rw [sl_id hW.2.1]; exact hW, mw_to.refl, fun Y hY => hY⟩
  | succ m ih =>
    intro k hk A R f hS hW
    have hM := hW.1
    have hh := hS.2.1
    have h5 := hS.1.2.2.1
    obtain ⟨-, w2, -, -, -, w6⟩ := hS.2.2.2.2.2 v hv
    obtain ⟨⟨t1, t4⟩, -⟩ := hS.1.2.2.2.1 v hv
    have hw := wd_le (s.2.2.2.1 v).2.1
    have hmul : (k + 1) * wd (s.2.2.2.1 v).2.1 ≤ sg_cn s v * wd (s.2.2.2.1 v).2.1 := Nat.mul_le_mul_right _ (by omega)
    rw [Nat.succ_mul] at hmul
    obtain ⟨B1, S1, e1, b1, q1⟩ := n_writeValue (d := d) (x := (s.2.2.2.1 v).2.2.2.2.2 (r * sg_cn s v + k)) (w := wd (s.2.2.2.1 v).2.1) hw hW (by rw [List.length_append, im_c_len]; omega)
    have b1' : MW b B1 S1 (sl f (bs ++ im_c s v (r * sg_cn s v) (k + 1)).length) (bs ++ im_c s v (r * sg_cn s v) (k + 1)) := by
      have e : bs ++ im_c s v (r * sg_cn s v) (k + 1) = bs ++ im_c s v (r * sg_cn s v) k ++ num ((s.2.2.2.1 v).2.2.2.2.2 (r * sg_cn s v + k)) (wd (s.2.2.2.1 v).2.1) := by
        unfold im_c
        rw [sg_cat, List.append_assoc]
      rw [e, List.length_append (bs := num ((s.2.2.2.1 v).2.2.2.2.2 (r * sg_cn s v + k)) (wd (s.2.2.2.1 v).2.1)), num_len]
      exact b1
    obtain ⟨C, T, c1, q2, G⟩ := ih (k + 1) (by omega) (hS.to q1) b1'
    refine ⟨C, T, by rw [sl_sl] at c1; exact c1, q1.trans q2, fun Y hY => ?_⟩
    have e2 := G Y hY
    have hc : ¬ nI (sg_cn s v) ≤ nI k := nI_ge (by omega) (by omega)
    have w6k := w6 (r * sg_cn s v + k) (by omega)
    rw [← Nat.add_assoc] at w6k
    refine e_236 ?_; simp only [b_236, i_int, i_long, i_null, i_stat, i_iload, i_lload, i_aload, i_istore, i_astore, i_lstore, i_iinc, i_ii, i_idz, i_i, i_ll, i_lsh, i_i2l, i_l2i, i_lcmp, i_dup, i_pop, i_dup2, i_ifeq, i_ifne, i_iflt, i_ifge, i_ifgt, i_ifle, i_cmpeq, i_cmpne, i_cmplt, i_cmpge, i_cmpgt, i_cmple, i_ifnull, i_ifnonnull, i_getf, am_wr, i_putI, i_putZ, i_putR, i_iald, i_iast, i_aald, i_aast, i_alen, i_newi, i_newq, i_new, i_recv, i_iret, i_zret, i_lret, i_aret, i_vret, List.getElem?_cons_zero, List.getElem?_cons_succ, Option.bind_some, Option.toList_some, Option.toList_none, List.cons_append, List.nil_append, x_nI, am_put, List.length_cons, List.length_nil, List.set_cons_zero, List.set_cons_succ, Nat.reduceAdd, Nat.reduceLT, Nat.reduceLeDiff, Nat.reduceEqDiff, Nat.add_left_cancel_iff, Nat.add_eq_left, Nat.left_eq_add, Nat.succ_ne_self, Nat.reduceSub, reduceIte, ite_self, eq_self, or_true, true_or, or_false, false_or, or_self, i10, not_true_eq_false, not_false_eq_true, x_call1, x_call2, x_call3, x_call4, x_call5, x_call6, x_sl0, x_sli, x_slr, x_sln, x_sll, am_ent, List.map_nil, List.map_cons, List.sum_nil, List.sum_cons, Value.category, and_true, true_and, and_self, Nat.zero_le, List.replicate_succ, List.replicate_zero, List.reduceReplicate, x_obj_set, x_row_set, x_len_set, x_obx, x_rox, x_rv, hc, x_obj hM.1, mo_obj, x_row (show A.2.2 (b + 15) = some (.inl (0, 8000, R 15)) from hM.2.2 15 (by decide) (by decide)), x_row (show A.2.2 (b + 6) = some (.inl (0, 10, R 6)) from hM.2.2 6 (by decide) (by decide)), show (800 : Int32) = nI 800 from rfl, pk_mul, nI_add, x_ix (show 800 * (5 * h + v) + r * sg_cn s v + k < 8000 by omega) (show 800 * (5 * h + v) + r * sg_cn s v + k < 2147483648 by omega), w6k, x_ix (show 5 * h + v < 10 by omega) (show 5 * h + v < 2147483648 by omega), w2, n_bytes (show (s.2.2.2.1 v).2.1 < 1000 by omega), e1, nI_1]
    exact e2
theorem n_writeCells {d b h v r : Nat} {A : am_H} {R : Nat → Nat → Int32} {f : mo_F} {s : sg_S} {bs : List Nat} {pd : Bool} (hS : MS R h s) (hv : v < s.2.2.1) (hr : r * sg_cn s v + sg_cn s v ≤ 800) (hW : MW b A R f bs) (hl : bs.length + (sg_cn s v * wd (s.2.2.2.1 v).2.1 + if pd then pad4 (sg_cn s v * wd (s.2.2.2.1 v).2.1) - sg_cn s v * wd (s.2.2.2.1 v).2.1 else 0) ≤ 800) : ∃ B S, pev (d + 2) 235 [some (.ref b), some (.int (nI h)), some (.int (nI v)), some (.int (nI r)), some (.int (bz pd)), none, none, none, none] [] A = some (none, B) ∧ MW b B S (sl f (bs ++ (im_c s v (r * sg_cn s v) (sg_cn s v) ++ if pd then padl (sg_cn s v * wd (s.2.2.2.1 v).2.1) else [])).length) (bs ++ (im_c s v (r * sg_cn s v) (sg_cn s v) ++ if pd then padl (sg_cn s v * wd (s.2.2.2.1 v).2.1) else [])) ∧ mw_to b A R B S := by
  have hM := hW.1
  have hcn := n_cells (d := d) hM hS hv
  obtain ⟨B1, S1, b1, q1, G1⟩ := n_wCells1 (d := d) (bs := bs) (pd := pd) (frm := bs.length) hv hr (by omega) (sg_cn s v) 0 (by omega) hS (by simpa [im_c, sg_cat] using hW)
  have h8 := hW.2.2.1
  cases pd with
  | true =>
    simp only [if_true] at hl ⊢
    have hpg := pad4_ge (sg_cn s v * wd (s.2.2.2.1 v).2.1)
    obtain ⟨B2, S2, e2, b2, q2⟩ := n_pad (d := d) (p := bs.length) (by omega) (pad4 (sg_cn s v * wd (s.2.2.2.1 v).2.1) - sg_cn s v * wd (s.2.2.2.1 v).2.1) (sg_cn s v * wd (s.2.2.2.1 v).2.1) rfl b1 (by rw [List.length_append, im_c_len]) (by rw [List.length_append, im_c_len]; omega)
    refine ⟨B2, S2, ?_, ?_, q1.trans q2⟩
    · have e3 := G1 B2 (by
        refine e_236 ?_; simp only [b_236, i_int, i_long, i_null, i_stat, i_iload, i_lload, i_aload, i_istore, i_astore, i_lstore, i_iinc, i_ii, i_idz, i_i, i_ll, i_lsh, i_i2l, i_l2i, i_lcmp, i_dup, i_pop, i_dup2, i_ifeq, i_ifne, i_iflt, i_ifge, i_ifgt, i_ifle, i_cmpeq, i_cmpne, i_cmplt, i_cmpge, i_cmpgt, i_cmple, i_ifnull, i_ifnonnull, i_getf, am_wr, i_putI, i_putZ, i_putR, i_iald, i_iast, i_aald, i_aast, i_alen, i_newi, i_newq, i_new, i_recv, i_iret, i_zret, i_lret, i_aret, i_vret, List.getElem?_cons_zero, List.getElem?_cons_succ, Option.bind_some, Option.toList_some, Option.toList_none, List.cons_append, List.nil_append, x_nI, am_put, List.length_cons, List.length_nil, List.set_cons_zero, List.set_cons_succ, Nat.reduceAdd, Nat.reduceLT, Nat.reduceLeDiff, Nat.reduceEqDiff, Nat.add_left_cancel_iff, Nat.add_eq_left, Nat.left_eq_add, Nat.succ_ne_self, Nat.reduceSub, reduceIte, ite_self, eq_self, or_true, true_or, or_false, false_or, or_self, i10, not_true_eq_false, not_false_eq_true, x_call1, x_call2, x_call3, x_call4, x_call5, x_call6, x_sl0, x_sli, x_slr, x_sln, x_sll, am_ent, List.map_nil, List.map_cons, List.sum_nil, List.sum_cons, Value.category, and_true, true_and, and_self, Nat.zero_le, List.replicate_succ, List.replicate_zero, List.reduceReplicate, x_obj_set, x_row_set, x_len_set, x_obx, x_rox, x_rv, show nI (sg_cn s v) ≤ nI (sg_cn s v) from nI_le (Nat.le_refl _) (by omega), bz_true, x_obj b1.1.1, e2])
      refine e_235 ?_; simp only [b_235, i_int, i_long, i_null, i_stat, i_iload, i_lload, i_aload, i_istore, i_astore, i_lstore, i_iinc, i_ii, i_idz, i_i, i_ll, i_lsh, i_i2l, i_l2i, i_lcmp, i_dup, i_pop, i_dup2, i_ifeq, i_ifne, i_iflt, i_ifge, i_ifgt, i_ifle, i_cmpeq, i_cmpne, i_cmplt, i_cmpge, i_cmpgt, i_cmple, i_ifnull, i_ifnonnull, i_getf, am_wr, i_putI, i_putZ, i_putR, i_iald, i_iast, i_aald, i_aast, i_alen, i_newi, i_newq, i_new, i_recv, i_iret, i_zret, i_lret, i_aret, i_vret, List.getElem?_cons_zero, List.getElem?_cons_succ, Option.bind_some, Option.toList_some, Option.toList_none, List.cons_append, List.nil_append, x_nI, am_put, List.length_cons, List.length_nil, List.set_cons_zero, List.set_cons_succ, Nat.reduceAdd, Nat.reduceLT, Nat.reduceLeDiff, Nat.reduceEqDiff, Nat.add_left_cancel_iff, Nat.add_eq_left, Nat.left_eq_add, Nat.succ_ne_self, Nat.reduceSub, reduceIte, ite_self, eq_self, or_true, true_or, or_false, false_or, or_self, i10, not_true_eq_false, not_false_eq_true, x_call1, x_call2, x_call3, x_call4, x_call5, x_call6, x_sl0, x_sli, x_slr, x_sln, x_sll, am_ent, List.map_nil, List.map_cons, List.sum_nil, List.sum_cons, Value.category, and_true, true_and, and_self, Nat.zero_le, List.replicate_succ, List.replicate_zero, List.reduceReplicate, x_obj_set, x_row_set, x_len_set, x_obx, x_rox, x_rv, show (5 : Int32) = nI 5 from rfl, pk_mul, nI_add, x_obj hM.1, mo_obj, hcn, hW.2.1]
      exact e3
    · rw [sl_sl] at b2
      rw [← List.append_assoc, List.length_append (bs := padl (sg_cn s v * wd (s.2.2.2.1 v).2.1)), padl_len]
      exact b2
  | false =>
    simp only [Bool.false_eq_true, if_false, List.append_nil] at hl ⊢
    refine ⟨B1, S1, ?_, b1, q1⟩
    have e3 := G1 B1 (by
      refine e_236 ?_; simp only [b_236, i_int, i_long, i_null, i_stat, i_iload, i_lload, i_aload, i_istore, i_astore, i_lstore, i_iinc, i_ii, i_idz, i_i, i_ll, i_lsh, i_i2l, i_l2i, i_lcmp, i_dup, i_pop, i_dup2, i_ifeq, i_ifne, i_iflt, i_ifge, i_ifgt, i_ifle, i_cmpeq, i_cmpne, i_cmplt, i_cmpge, i_cmpgt, i_cmple, i_ifnull, i_ifnonnull, i_getf, am_wr, i_putI, i_putZ, i_putR, i_iald, i_iast, i_aald, i_aast, i_alen, i_newi, i_newq, i_new, i_recv, i_iret, i_zret, i_lret, i_aret, i_vret, List.getElem?_cons_zero, List.getElem?_cons_succ, Option.bind_some, Option.toList_some, Option.toList_none, List.cons_append, List.nil_append, x_nI, am_put, List.length_cons, List.length_nil, List.set_cons_zero, List.set_cons_succ, Nat.reduceAdd, Nat.reduceLT, Nat.reduceLeDiff, Nat.reduceEqDiff, Nat.add_left_cancel_iff, Nat.add_eq_left, Nat.left_eq_add, Nat.succ_ne_self, Nat.reduceSub, reduceIte, ite_self, eq_self, or_true, true_or, or_false, false_or, or_self, i10, not_true_eq_false, not_false_eq_true, x_call1, x_call2, x_call3, x_call4, x_call5, x_call6, x_sl0, x_sli, x_slr, x_sln, x_sll, am_ent, List.map_nil, List.map_cons, List.sum_nil, List.sum_cons, Value.category, and_true, true_and, and_self, Nat.zero_le, List.replicate_succ, List.replicate_zero, List.reduceReplicate, x_obj_set, x_row_set, x_len_set, x_obx, x_rox, x_rv, show nI (sg_cn s v) ≤ nI (sg_cn s v) from nI_le (Nat.le_refl _) (by omega), bz_false])
    refine e_235 ?_; simp only [b_235, i_int, i_long, i_null, i_stat, i_iload, i_lload, i_aload, i_istore, i_astore, i_lstore, i_iinc, i_ii, i_idz, i_i, i_ll, i_lsh, i_i2l, i_l2i, i_lcmp, i_dup, i_pop, i_dup2, i_ifeq, i_ifne, i_iflt, i_ifge, i_ifgt, i_ifle, i_cmpeq, i_cmpne, i_cmplt, i_cmpge, i_cmpgt, i_cmple, i_ifnull, i_ifnonnull, i_getf, am_wr, i_putI, i_putZ, i_putR, i_iald, i_iast, i_aald, i_aast, i_alen, i_newi, i_newq, i_new, i_recv, i_iret, i_zret, i_lret, i_aret, i_vret, List.getElem?_cons_zero, List.getElem?_cons_succ, Option.bind_some, Option.toList_some, Option.toList_none, List.cons_append, List.nil_append, x_nI, am_put, List.length_cons, List.length_nil, List.set_cons_zero, List.set_cons_succ, Nat.reduceAdd, Nat.reduceLT, Nat.reduceLeDiff, Nat.reduceEqDiff, Nat.add_left_cancel_iff, Nat.add_eq_left, Nat.left_eq_add, Nat.succ_ne_self, Nat.reduceSub, reduceIte, ite_self, eq_self, or_true, true_or, or_false, false_or, or_self, i10, not_true_eq_false, not_false_eq_true, x_call1, x_call2, x_call3, x_call4, x_call5, x_call6, x_sl0, x_sli, x_slr, x_sln, x_sll, am_ent, List.map_nil, List.map_cons, List.sum_nil, List.sum_cons, Value.category, and_true, true_and, and_self, Nat.zero_le, List.replicate_succ, List.replicate_zero, List.reduceReplicate, x_obj_set, x_row_set, x_len_set, x_obx, x_rox, x_rv, show (5 : Int32) = nI 5 from rfl, pk_mul, nI_add, x_obj hM.1, mo_obj, hcn, hW.2.1]
    exact e3
