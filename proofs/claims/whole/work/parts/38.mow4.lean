/-! the reference writes the image -/
def NokS (s : sg_S) : Prop := (∀ k, k < s.1.1 → isNb (s.1.2.1 k) = true) ∧ Nok s.2.1 ∧ ∀ v, v < s.2.2.1 → isNb (s.2.2.2.1 v).1 = true ∧ Nok (s.2.2.2.1 v).2.2.2.2.1
theorem n_wI1 {d b h : Nat} {s : sg_S} {bs : List Nat} (hN : NokS s) (hl : bs.length + (sg_cat (id1 s) s.1.1).length ≤ 800) : ∀ (m k : Nat), k + m = s.1.1 → ∀ {A : am_H} {R : Nat → Nat → Int32} {f : mo_F}, MS R h s → MW b A R f (bs ++ sg_cat (id1 s) k) → ∃ B S, MW b B S (sl f (bs ++ sg_cat (id1 s) s.1.1).length) (bs ++ sg_cat (id1 s) s.1.1) ∧ mw_to b A R B S ∧ ∀ Y, pev (d + 5) 220 [some (.ref b), some (.int (nI h)), some (.int (nI (4 * h + s.1.1))), none, none] [] B = some (none, Y) → pev (d + 5) 220 [some (.ref b), some (.int (nI h)), some (.int (nI (4 * h + k))), none, none] [] A = some (none, Y) := by
  intro m
  induction m with
  | zero =>
    intro k hk A R f hS hW
    have hkk : k = s.1.1 := by omega
    subst hkk
    exact ⟨A, R, by rw [sl_id hW.2.1]; exact hW, mw_to.refl, fun Y hY => hY⟩
  | succ m ih =>
    intro k hk A R f hS hW
    have hM := hW.1
    have hh := hS.2.1
    have h4 := hS.1.1
    obtain ⟨w1, w2⟩ := hS.2.2.2.1 k (by omega)
    have hlen : bs.length + ((sg_cat (id1 s) k).length + 12) ≤ 800 := by
      have := cat_le (f := id1 s) (m := k + 1) (n := s.1.1) (by omega)
      rw [sg_cat, List.length_append, id1_len] at this
      omega
    obtain ⟨B1, S1, e1, b1, q1⟩ := n_writeName (d := d + 2) (x := s.1.2.1 k) (hN.1 k (by omega)) hW (by rw [List.length_append]; omega)
    obtain ⟨B2, S2, e2, b2, q2⟩ := n_writeValue (d := d + 3) (x := nI (s.1.2.2 k)) (w := 4) (by decide) b1 (by simp only [List.length_append, nam_len]; omega)
    have Q := q1.trans q2
    have b2' : MW b B2 S2 (sl f (bs ++ sg_cat (id1 s) (k + 1)).length) (bs ++ sg_cat (id1 s) (k + 1)) := by
      have e : bs ++ sg_cat (id1 s) (k + 1) = bs ++ sg_cat (id1 s) k ++ nam (s.1.2.1 k) ++ num (nI (s.1.2.2 k)) 4 := by
        rw [sg_cat, id1, wrd]
        simp only [List.append_assoc]
      rw [e, List.length_append (bs := num (nI (s.1.2.2 k)) 4), num_len]
      rw [sl_sl] at b2
      exact b2
    obtain ⟨C, T, c1, q3, G⟩ := ih (k + 1) (by omega) (hS.to Q) b2'
    refine ⟨C, T, by rw [sl_sl] at c1; exact c1, Q.trans q3, fun Y hY => ?_⟩
    have e3 := G Y hY
    have hc : ¬ nI (4 * h + s.1.1) ≤ nI (4 * h + k) := nI_ge (by omega) (by omega)
    have r1 : B1.2.2 (b + 3) = some (.inl (0, 8, R 3)) := by rw [← q1.1 3 (by decide)]; exact b1.1.2.2 3 (by decide) (by decide)
    have ix := x_ix (show 4 * h + k < 8 by omega) (show 4 * h + k < 2147483648 by omega)
    refine e_220 ?_; simp only [b_220, i_int, i_long, i_null, i_stat, i_iload, i_lload, i_aload, i_istore, i_astore, i_lstore, i_iinc, i_ii, i_idz, i_i, i_ll, i_lsh, i_i2l, i_l2i, i_lcmp, i_dup, i_pop, i_dup2, i_ifeq, i_ifne, i_iflt, i_ifge, i_ifgt, i_ifle, i_cmpeq, i_cmpne, i_cmplt, i_cmpge, i_cmpgt, i_cmple, i_ifnull, i_ifnonnull, i_getf, am_wr, i_putI, i_putZ, i_putR, i_iald, i_iast, i_aald, i_aast, i_alen, i_newi, i_newq, i_new, i_recv, i_iret, i_zret, i_lret, i_aret, i_vret, List.getElem?_cons_zero, List.getElem?_cons_succ, Option.bind_some, Option.toList_some, Option.toList_none, List.cons_append, List.nil_append, x_nI, am_put, List.length_cons, List.length_nil, List.set_cons_zero, List.set_cons_succ, Nat.reduceAdd, Nat.reduceLT, Nat.reduceLeDiff, Nat.reduceEqDiff, Nat.add_left_cancel_iff, Nat.add_eq_left, Nat.left_eq_add, Nat.succ_ne_self, Nat.reduceSub, reduceIte, ite_self, eq_self, or_true, true_or, or_false, false_or, or_self, i10, not_true_eq_false, not_false_eq_true, x_call1, x_call2, x_call3, x_call4, x_call5, x_call6, x_sl0, x_sli, x_slr, x_sln, x_sll, am_ent, List.map_nil, List.map_cons, List.sum_nil, List.sum_cons, Value.category, and_true, true_and, and_self, Nat.zero_le, List.replicate_succ, List.replicate_zero, List.reduceReplicate, x_obj_set, x_row_set, x_len_set, x_obx, x_rox, x_rv, x_obj hM.1, mo_obj, x_row (show A.2.2 (b + 1) = some (.inl (0, 2, R 1)) from hM.2.2 1 (by decide) (by decide)), x_row (show A.2.2 (b + 2) = some (.inl (0, 8, R 2)) from hM.2.2 2 (by decide) (by decide)), show (4 : Int32) = nI 4 from rfl, pk_mul, x_ix hh (show h < 2147483648 by omega), hS.2.2.1.1, nI_add, hc, ix, w1, e1, x_obj b1.1.1, x_row r1, w2, e2, nI_1]
    exact e3
theorem n_wI2 {d b h : Nat} {s : sg_S} {bs : List Nat} (hN : NokS s) (hm : bs.length % 4 = 0) (hl : bs.length + (sg_cat (im_v s) s.2.2.1).length ≤ 800) : ∀ (m v : Nat), v + m = s.2.2.1 → ∀ {A : am_H} {R : Nat → Nat → Int32} {f : mo_F}, MS R h s → MW b A R f (bs ++ sg_cat (im_v s) v) → ∃ B S, MW b B S (sl f (bs ++ sg_cat (im_v s) s.2.2.1).length) (bs ++ sg_cat (im_v s) s.2.2.1) ∧ mw_to b A R B S ∧ ∀ Y, pev (d + 5) 221 [some (.ref b), some (.int (nI h)), some (.int (nI s.2.2.1)), none, none] [] B = some (none, Y) → pev (d + 5) 221 [some (.ref b), some (.int (nI h)), some (.int (nI v)), none, none] [] A = some (none, Y) := by
  intro m
  induction m with
  | zero =>
    intro k hk A R f hS hW
    have hkk : k = s.2.2.1 := by omega
    subst hkk
    exact ⟨A, R, by rw [sl_id hW.2.1]; exact hW, mw_to.refl, fun Y hY => hY⟩
  | succ m ih =>
    intro v hk A R f hS hW
    have hM := hW.1
    have hh := hS.2.1
    have h5 := hS.1.2.2.1
    have hlen : bs.length + ((sg_cat (im_v s) v).length + (im_v s v).length) ≤ 800 := by
      have := cat_le (f := im_v s) (m := v + 1) (n := s.2.2.1) (by omega)
      rw [sg_cat, List.length_append] at this
      omega
    have hmv : (sg_cat (im_v s) v).length % 4 = 0 := by
      rw [sg_cat_len]
      exact sum_mod (fun j _ => im_v_mod s j)
    obtain ⟨B1, S1, e1, b1, q1⟩ := n_writeVariable (d := d) hS (show v < s.2.2.1 by omega) (hN.2.2 v (by omega)).1 (hN.2.2 v (by omega)).2 hW (by rw [List.length_append]; omega) (by rw [List.length_append]; omega)
    obtain ⟨C, T, c1, q3, G⟩ := ih (v + 1) (by omega) (hS.to q1) (by rw [sg_cat, ← List.append_assoc]; exact b1)
    refine ⟨C, T, by rw [sl_sl] at c1; exact c1, q1.trans q3, fun Y hY => ?_⟩
    have e3 := G Y hY
    have hc : ¬ nI s.2.2.1 ≤ nI v := nI_ge (by omega) (by omega)
    refine e_221 ?_; simp only [b_221, i_int, i_long, i_null, i_stat, i_iload, i_lload, i_aload, i_istore, i_astore, i_lstore, i_iinc, i_ii, i_idz, i_i, i_ll, i_lsh, i_i2l, i_l2i, i_lcmp, i_dup, i_pop, i_dup2, i_ifeq, i_ifne, i_iflt, i_ifge, i_ifgt, i_ifle, i_cmpeq, i_cmpne, i_cmplt, i_cmpge, i_cmpgt, i_cmple, i_ifnull, i_ifnonnull, i_getf, am_wr, i_putI, i_putZ, i_putR, i_iald, i_iast, i_aald, i_aast, i_alen, i_newi, i_newq, i_new, i_recv, i_iret, i_zret, i_lret, i_aret, i_vret, List.getElem?_cons_zero, List.getElem?_cons_succ, Option.bind_some, Option.toList_some, Option.toList_none, List.cons_append, List.nil_append, x_nI, am_put, List.length_cons, List.length_nil, List.set_cons_zero, List.set_cons_succ, Nat.reduceAdd, Nat.reduceLT, Nat.reduceLeDiff, Nat.reduceEqDiff, Nat.add_left_cancel_iff, Nat.add_eq_left, Nat.left_eq_add, Nat.succ_ne_self, Nat.reduceSub, reduceIte, ite_self, eq_self, or_true, true_or, or_false, false_or, or_self, i10, not_true_eq_false, not_false_eq_true, x_call1, x_call2, x_call3, x_call4, x_call5, x_call6, x_sl0, x_sli, x_slr, x_sln, x_sll, am_ent, List.map_nil, List.map_cons, List.sum_nil, List.sum_cons, Value.category, and_true, true_and, and_self, Nat.zero_le, List.replicate_succ, List.replicate_zero, List.reduceReplicate, x_obj_set, x_row_set, x_len_set, x_obx, x_rox, x_rv, x_obj hM.1, mo_obj, x_row (show A.2.2 (b + 4) = some (.inl (0, 2, R 4)) from hM.2.2 4 (by decide) (by decide)), x_ix hh (show h < 2147483648 by omega), hS.2.2.1.2.1, hc, e1, nI_1]
    exact e3
theorem n_wI3 {d b h : Nat} {s : sg_S} {bs : List Nat} (hl : bs.length + (sg_cat (im_f s) s.2.2.1).length ≤ 800) : ∀ (m v : Nat), v + m = s.2.2.1 → ∀ {A : am_H} {R : Nat → Nat → Int32} {f : mo_F}, MS R h s → MW b A R f (bs ++ sg_cat (im_f s) v) → ∃ B S, MW b B S (sl f (bs ++ sg_cat (im_f s) s.2.2.1).length) (bs ++ sg_cat (im_f s) s.2.2.1) ∧ mw_to b A R B S ∧ ∀ Y, pev (d + 5) 222 [some (.ref b), some (.int (nI h)), some (.int (nI s.2.2.1)), none, none] [] B = some (none, Y) → pev (d + 5) 222 [some (.ref b), some (.int (nI h)), some (.int (nI v)), none, none] [] A = some (none, Y) := by
  intro m
  induction m with
  | zero =>
    intro k hk A R f hS hW
    have hkk : k = s.2.2.1 := by omega
    subst hkk
    exact ⟨A, R, by rw [sl_id hW.2.1]; exact hW, mw_to.refl, fun Y hY => hY⟩
  | succ m ih =>
    intro v hk A R f hS hW
    have hM := hW.1
    have hh := hS.2.1
    have hvn : v < s.2.2.1 := by omega
    have h5 := hS.1.2.2.1
    have er := n_isRecord (d := d + 3) hM hS hvn
    have hc : ¬ nI s.2.2.1 ≤ nI v := nI_ge (by omega) (by omega)
    by_cases c : sg_l0 s v = 0
    · have hcat : bs ++ sg_cat (im_f s) (v + 1) = bs ++ sg_cat (im_f s) v := by
        rw [sg_cat, im_f, if_pos c, List.append_nil]
      obtain ⟨C, T, c1, q3, G⟩ := ih (v + 1) (by omega) hS (by rw [hcat]; exact hW)
      refine ⟨C, T, c1, q3, fun Y hY => ?_⟩
      have e3 := G Y hY
      refine e_222 ?_; simp only [b_222, i_int, i_long, i_null, i_stat, i_iload, i_lload, i_aload, i_istore, i_astore, i_lstore, i_iinc, i_ii, i_idz, i_i, i_ll, i_lsh, i_i2l, i_l2i, i_lcmp, i_dup, i_pop, i_dup2, i_ifeq, i_ifne, i_iflt, i_ifge, i_ifgt, i_ifle, i_cmpeq, i_cmpne, i_cmplt, i_cmpge, i_cmpgt, i_cmple, i_ifnull, i_ifnonnull, i_getf, am_wr, i_putI, i_putZ, i_putR, i_iald, i_iast, i_aald, i_aast, i_alen, i_newi, i_newq, i_new, i_recv, i_iret, i_zret, i_lret, i_aret, i_vret, List.getElem?_cons_zero, List.getElem?_cons_succ, Option.bind_some, Option.toList_some, Option.toList_none, List.cons_append, List.nil_append, x_nI, am_put, List.length_cons, List.length_nil, List.set_cons_zero, List.set_cons_succ, Nat.reduceAdd, Nat.reduceLT, Nat.reduceLeDiff, Nat.reduceEqDiff, Nat.add_left_cancel_iff, Nat.add_eq_left, Nat.left_eq_add, Nat.succ_ne_self, Nat.reduceSub, reduceIte, ite_self, eq_self, or_true, true_or, or_false, false_or, or_self, i10, not_true_eq_false, not_false_eq_true, x_call1, x_call2, x_call3, x_call4, x_call5, x_call6, x_sl0, x_sli, x_slr, x_sln, x_sll, am_ent, List.map_nil, List.map_cons, List.sum_nil, List.sum_cons, Value.category, and_true, true_and, and_self, Nat.zero_le, List.replicate_succ, List.replicate_zero, List.reduceReplicate, x_obj_set, x_row_set, x_len_set, x_obx, x_rox, x_rv, x_obj hM.1, mo_obj, x_row (show A.2.2 (b + 4) = some (.inl (0, 2, R 4)) from hM.2.2 4 (by decide) (by decide)), x_ix hh (show h < 2147483648 by omega), hS.2.2.1.2.1, hc, er, c, decide_true, bz_true, nI_1]
      exact e3
    · have hcn : sg_cn s v ≤ 64 := by
        have h1 : sg_cn s v ≤ 8 * 8 := by
          unfold sg_cn
          rw [if_neg c]
          exact Nat.mul_le_mul (hS.1.l0 hvn) (hS.1.l1 hvn)
        omega
      have hpg := pad4_ge (sg_cn s v * wd (s.2.2.2.1 v).2.1)
      have hlen : bs.length + ((sg_cat (im_f s) v).length + pad4 (sg_cn s v * wd (s.2.2.2.1 v).2.1)) ≤ 800 := by
        have := cat_le (f := im_f s) (m := v + 1) (n := s.2.2.1) (by omega)
        rw [sg_cat, List.length_append, im_f_len, if_neg c, sg_ps] at this
        omega
      obtain ⟨B1, S1, e1, b1, q1⟩ := n_writeCells (d := d + 2) (r := 0) (pd := true) hS hvn (by omega) hW (by simp only [if_true, List.length_append]; omega)
      have him : im_f s v = im_c s v (0 * sg_cn s v) (sg_cn s v) ++ padl (sg_cn s v * wd (s.2.2.2.1 v).2.1) := by
        rw [im_f, if_neg c, Nat.zero_mul]
      simp only [if_true] at b1
      rw [← him] at b1
      obtain ⟨C, T, c1, q3, G⟩ := ih (v + 1) (by omega) (hS.to q1) (by rw [sg_cat, ← List.append_assoc]; exact b1)
      refine ⟨C, T, by rw [sl_sl] at c1; exact c1, q1.trans q3, fun Y hY => ?_⟩
      have e3 := G Y hY
      rw [nI_0, bz_true] at e1
      refine e_222 ?_; simp only [b_222, i_int, i_long, i_null, i_stat, i_iload, i_lload, i_aload, i_istore, i_astore, i_lstore, i_iinc, i_ii, i_idz, i_i, i_ll, i_lsh, i_i2l, i_l2i, i_lcmp, i_dup, i_pop, i_dup2, i_ifeq, i_ifne, i_iflt, i_ifge, i_ifgt, i_ifle, i_cmpeq, i_cmpne, i_cmplt, i_cmpge, i_cmpgt, i_cmple, i_ifnull, i_ifnonnull, i_getf, am_wr, i_putI, i_putZ, i_putR, i_iald, i_iast, i_aald, i_aast, i_alen, i_newi, i_newq, i_new, i_recv, i_iret, i_zret, i_lret, i_aret, i_vret, List.getElem?_cons_zero, List.getElem?_cons_succ, Option.bind_some, Option.toList_some, Option.toList_none, List.cons_append, List.nil_append, x_nI, am_put, List.length_cons, List.length_nil, List.set_cons_zero, List.set_cons_succ, Nat.reduceAdd, Nat.reduceLT, Nat.reduceLeDiff, Nat.reduceEqDiff, Nat.add_left_cancel_iff, Nat.add_eq_left, Nat.left_eq_add, Nat.succ_ne_self, Nat.reduceSub, reduceIte, ite_self, eq_self, or_true, true_or, or_false, false_or, or_self, i10, not_true_eq_false, not_false_eq_true, x_call1, x_call2, x_call3, x_call4, x_call5, x_call6, x_sl0, x_sli, x_slr, x_sln, x_sll, am_ent, List.map_nil, List.map_cons, List.sum_nil, List.sum_cons, Value.category, and_true, true_and, and_self, Nat.zero_le, List.replicate_succ, List.replicate_zero, List.reduceReplicate, x_obj_set, x_row_set, x_len_set, x_obx, x_rox, x_rv, x_obj hM.1, mo_obj, x_row (show A.2.2 (b + 4) = some (.inl (0, 2, R 4)) from hM.2.2 4 (by decide) (by decide)), x_ix hh (show h < 2147483648 by omega), hS.2.2.1.2.1, hc, er, c, decide_false, bz_false, e1, nI_1]
      exact e3
theorem n_wI5 {d b h r : Nat} {s : sg_S} {bs : List Nat} (hi : ∀ v, v < s.2.2.1 → sg_l0 s v = 0 → r * sg_l1 s v + sg_l1 s v ≤ 800) (hl : bs.length + (sg_cat (im_r s r) s.2.2.1).length ≤ 800) : ∀ (m v : Nat), v + m = s.2.2.1 → ∀ {A : am_H} {R : Nat → Nat → Int32} {f : mo_F}, MS R h s → MW b A R f (bs ++ sg_cat (im_r s r) v) → ∃ B S, MW b B S (sl f (bs ++ sg_cat (im_r s r) s.2.2.1).length) (bs ++ sg_cat (im_r s r) s.2.2.1) ∧ mw_to b A R B S ∧ ∀ Y, pev (d + 5) 224 [some (.ref b), some (.int (nI h)), some (.int (bz (decide (1 < sg_nr s)))), some (.int (nI r)), some (.int (nI s.2.2.1))] [] B = some (none, Y) → pev (d + 5) 224 [some (.ref b), some (.int (nI h)), some (.int (bz (decide (1 < sg_nr s)))), some (.int (nI r)), some (.int (nI v))] [] A = some (none, Y) := by
  intro m
  induction m with
  | zero =>
    intro k hk A R f hS hW
    have hkk : k = s.2.2.1 := by omega
    subst hkk
    exact ⟨A, R, by rw [sl_id hW.2.1]; exact hW, mw_to.refl, fun Y hY => hY⟩
  | succ m ih =>
    intro v hk A R f hS hW
    have hM := hW.1
    have hh := hS.2.1
    have hvn : v < s.2.2.1 := by omega
    have h5 := hS.1.2.2.1
    have er := n_isRecord (d := d + 3) hM hS hvn
    have hc : ¬ nI s.2.2.1 ≤ nI v := nI_ge (by omega) (by omega)
    by_cases c : sg_l0 s v = 0
    · have hcn := sg_cn_rec c
      have hlen : bs.length + ((sg_cat (im_r s r) v).length + (im_r s r v).length) ≤ 800 := by
        have := cat_le (f := im_r s r) (m := v + 1) (n := s.2.2.1) (by omega)
        rw [sg_cat, List.length_append] at this
        omega
      rw [im_r_len, if_pos c] at hlen
      have hpg := pad4_ge (sg_l1 s v * wd (s.2.2.2.1 v).2.1)
      have him : im_r s r v = im_c s v (r * sg_cn s v) (sg_cn s v) ++ if decide (1 < sg_nr s) = true then padl (sg_cn s v * wd (s.2.2.2.1 v).2.1) else [] := by
        rw [im_r, if_pos c, hcn]
        by_cases c2 : 1 < sg_nr s <;> simp [c2]
      obtain ⟨B1, S1, e1, b1, q1⟩ := n_writeCells (d := d + 2) (r := r) (pd := decide (1 < sg_nr s)) hS hvn (by rw [hcn]; exact hi v hvn c) hW (by
        rw [hcn, List.length_append]
        unfold sg_ps at hlen
        rw [hcn] at hlen
        by_cases c2 : 1 < sg_nr s
        · simp only [c2, decide_true, if_true] at hlen ⊢
          omega
        · simp only [c2, decide_false, if_false, Bool.false_eq_true] at hlen ⊢
          omega)
      rw [← him] at b1
      obtain ⟨C, T, c1, q3, G⟩ := ih (v + 1) (by omega) (hS.to q1) (by rw [sg_cat, ← List.append_assoc]; exact b1)
      refine ⟨C, T, by rw [sl_sl] at c1; exact c1, q1.trans q3, fun Y hY => ?_⟩
      have e3 := G Y hY
      refine e_224 ?_; simp only [b_224, i_int, i_long, i_null, i_stat, i_iload, i_lload, i_aload, i_istore, i_astore, i_lstore, i_iinc, i_ii, i_idz, i_i, i_ll, i_lsh, i_i2l, i_l2i, i_lcmp, i_dup, i_pop, i_dup2, i_ifeq, i_ifne, i_iflt, i_ifge, i_ifgt, i_ifle, i_cmpeq, i_cmpne, i_cmplt, i_cmpge, i_cmpgt, i_cmple, i_ifnull, i_ifnonnull, i_getf, am_wr, i_putI, i_putZ, i_putR, i_iald, i_iast, i_aald, i_aast, i_alen, i_newi, i_newq, i_new, i_recv, i_iret, i_zret, i_lret, i_aret, i_vret, List.getElem?_cons_zero, List.getElem?_cons_succ, Option.bind_some, Option.toList_some, Option.toList_none, List.cons_append, List.nil_append, x_nI, am_put, List.length_cons, List.length_nil, List.set_cons_zero, List.set_cons_succ, Nat.reduceAdd, Nat.reduceLT, Nat.reduceLeDiff, Nat.reduceEqDiff, Nat.add_left_cancel_iff, Nat.add_eq_left, Nat.left_eq_add, Nat.succ_ne_self, Nat.reduceSub, reduceIte, ite_self, eq_self, or_true, true_or, or_false, false_or, or_self, i10, not_true_eq_false, not_false_eq_true, x_call1, x_call2, x_call3, x_call4, x_call5, x_call6, x_sl0, x_sli, x_slr, x_sln, x_sll, am_ent, List.map_nil, List.map_cons, List.sum_nil, List.sum_cons, Value.category, and_true, true_and, and_self, Nat.zero_le, List.replicate_succ, List.replicate_zero, List.reduceReplicate, x_obj_set, x_row_set, x_len_set, x_obx, x_rox, x_rv, x_obj hM.1, mo_obj, x_row (show A.2.2 (b + 4) = some (.inl (0, 2, R 4)) from hM.2.2 4 (by decide) (by decide)), x_ix hh (show h < 2147483648 by omega), hS.2.2.1.2.1, hc, er, c, decide_true, bz_true, e1, nI_1]
      exact e3
    · have hcat : bs ++ sg_cat (im_r s r) (v + 1) = bs ++ sg_cat (im_r s r) v := by
        rw [sg_cat, im_r, if_neg c, List.append_nil]
      obtain ⟨C, T, c1, q3, G⟩ := ih (v + 1) (by omega) hS (by rw [hcat]; exact hW)
      refine ⟨C, T, c1, q3, fun Y hY => ?_⟩
      have e3 := G Y hY
      refine e_224 ?_; simp only [b_224, i_int, i_long, i_null, i_stat, i_iload, i_lload, i_aload, i_istore, i_astore, i_lstore, i_iinc, i_ii, i_idz, i_i, i_ll, i_lsh, i_i2l, i_l2i, i_lcmp, i_dup, i_pop, i_dup2, i_ifeq, i_ifne, i_iflt, i_ifge, i_ifgt, i_ifle, i_cmpeq, i_cmpne, i_cmplt, i_cmpge, i_cmpgt, i_cmple, i_ifnull, i_ifnonnull, i_getf, am_wr, i_putI, i_putZ, i_putR, i_iald, i_iast, i_aald, i_aast, i_alen, i_newi, i_newq, i_new, i_recv, i_iret, i_zret, i_lret, i_aret, i_vret, List.getElem?_cons_zero, List.getElem?_cons_succ, Option.bind_some, Option.toList_some, Option.toList_none, List.cons_append, List.nil_append, x_nI, am_put, List.length_cons, List.length_nil, List.set_cons_zero, List.set_cons_succ, Nat.reduceAdd, Nat.reduceLT, Nat.reduceLeDiff, Nat.reduceEqDiff, Nat.add_left_cancel_iff, Nat.add_eq_left, Nat.left_eq_add, Nat.succ_ne_self, Nat.reduceSub, reduceIte, ite_self, eq_self, or_true, true_or, or_false, false_or, or_self, i10, not_true_eq_false, not_false_eq_true, x_call1, x_call2, x_call3, x_call4, x_call5, x_call6, x_sl0, x_sli, x_slr, x_sln, x_sll, am_ent, List.map_nil, List.map_cons, List.sum_nil, List.sum_cons, Value.category, and_true, true_and, and_self, Nat.zero_le, List.replicate_succ, List.replicate_zero, List.reduceReplicate, x_obj_set, x_row_set, x_len_set, x_obx, x_rox, x_rv, x_obj hM.1, mo_obj, x_row (show A.2.2 (b + 4) = some (.inl (0, 2, R 4)) from hM.2.2 4 (by decide) (by decide)), x_ix hh (show h < 2147483648 by omega), hS.2.2.1.2.1, hc, er, c, decide_false, bz_false, nI_1]
      exact e3
theorem n_wI4 {d b h : Nat} {s : sg_S} {bs : List Nat} (hi : ∀ v, v < s.2.2.1 → sg_l0 s v = 0 → s.2.2.2.2 * sg_l1 s v ≤ 800) (hl : bs.length + (sg_cat (fun i => sg_cat (im_r s i) s.2.2.1) s.2.2.2.2).length ≤ 800) : ∀ (m r : Nat), r + m = s.2.2.2.2 → ∀ {A : am_H} {R : Nat → Nat → Int32} {f : mo_F} {o : Option Value}, MS R h s → MW b A R f (bs ++ sg_cat (fun i => sg_cat (im_r s i) s.2.2.1) r) → ∃ B S, pev (d + 5) 223 [some (.ref b), some (.int (nI h)), some (.int (bz (decide (1 < sg_nr s)))), some (.int (nI r)), o] [] A = some (none, B) ∧ MW b B S (sl f (bs ++ sg_cat (fun i => sg_cat (im_r s i) s.2.2.1) s.2.2.2.2).length) (bs ++ sg_cat (fun i => sg_cat (im_r s i) s.2.2.1) s.2.2.2.2) ∧ mw_to b A R B S := by
  intro m
  induction m with
  | zero =>
    intro r hr A R f o hS hW
    have hM := hW.1
    have hh := hS.2.1
    have h8 := hS.1.2.2.2.2
    have hkk : r = s.2.2.2.2 := by omega
    subst hkk
    refine ⟨A, R, ?_, by rw [sl_id hW.2.1]; exact hW, mw_to.refl⟩
    refine e_223 ?_; simp only [b_223, i_int, i_long, i_null, i_stat, i_iload, i_lload, i_aload, i_istore, i_astore, i_lstore, i_iinc, i_ii, i_idz, i_i, i_ll, i_lsh, i_i2l, i_l2i, i_lcmp, i_dup, i_pop, i_dup2, i_ifeq, i_ifne, i_iflt, i_ifge, i_ifgt, i_ifle, i_cmpeq, i_cmpne, i_cmplt, i_cmpge, i_cmpgt, i_cmple, i_ifnull, i_ifnonnull, i_getf, am_wr, i_putI, i_putZ, i_putR, i_iald, i_iast, i_aald, i_aast, i_alen, i_newi, i_newq, i_new, i_recv, i_iret, i_zret, i_lret, i_aret, i_vret, List.getElem?_cons_zero, List.getElem?_cons_succ, Option.bind_some, Option.toList_some, Option.toList_none, List.cons_append, List.nil_append, x_nI, am_put, List.length_cons, List.length_nil, List.set_cons_zero, List.set_cons_succ, Nat.reduceAdd, Nat.reduceLT, Nat.reduceLeDiff, Nat.reduceEqDiff, Nat.add_left_cancel_iff, Nat.add_eq_left, Nat.left_eq_add, Nat.succ_ne_self, Nat.reduceSub, reduceIte, ite_self, eq_self, or_true, true_or, or_false, false_or, or_self, i10, not_true_eq_false, not_false_eq_true, x_call1, x_call2, x_call3, x_call4, x_call5, x_call6, x_sl0, x_sli, x_slr, x_sln, x_sll, am_ent, List.map_nil, List.map_cons, List.sum_nil, List.sum_cons, Value.category, and_true, true_and, and_self, Nat.zero_le, List.replicate_succ, List.replicate_zero, List.reduceReplicate, x_obj_set, x_row_set, x_len_set, x_obx, x_rox, x_rv, x_obj hM.1, mo_obj, x_row (show A.2.2 (b + 14) = some (.inl (0, 2, R 14)) from hM.2.2 14 (by decide) (by decide)), x_ix hh (show h < 2147483648 by omega), hS.2.2.1.2.2, show nI s.2.2.2.2 ≤ nI s.2.2.2.2 from nI_le (Nat.le_refl _) (by omega)]
  | succ m ih =>
    intro r hr A R f o hS hW
    have hM := hW.1
    have hh := hS.2.1
    have h8 := hS.1.2.2.2.2
    have h5 := hS.1.2.2.1
    have hlen : bs.length + ((sg_cat (fun i => sg_cat (im_r s i) s.2.2.1) r).length + (sg_cat (im_r s r) s.2.2.1).length) ≤ 800 := by
      have := cat_le (f := fun i => sg_cat (im_r s i) s.2.2.1) (m := r + 1) (n := s.2.2.2.2) (by omega)
      rw [sg_cat, List.length_append] at this
      omega
    obtain ⟨B1, S1, b1, q1, G1⟩ := n_wI5 (d := d) (r := r) (bs := bs ++ sg_cat (fun i => sg_cat (im_r s i) s.2.2.1) r) (fun v hv c => by
      have h1 := hi v hv c
      have h2 : (r + 1) * sg_l1 s v ≤ s.2.2.2.2 * sg_l1 s v := Nat.mul_le_mul_right _ (by omega)
      rw [Nat.succ_mul] at h2
      omega) (by rw [List.length_append]; omega) s.2.2.1 0 (by omega) hS (by rw [sg_cat, List.append_nil]; exact hW)
    obtain ⟨C, T, e2, c1, q2⟩ := ih (r + 1) (by omega) (o := some (.int (nI s.2.2.1))) (hS.to q1) (by rw [sg_cat, ← List.append_assoc]; exact b1)
    refine ⟨C, T, ?_, by rw [sl_sl] at c1; exact c1, q1.trans q2⟩
    have e3 := G1 C (by
      have hS1 := hS.to q1
      have r4 : B1.2.2 (b + 4) = some (.inl (0, 2, S1 4)) := b1.1.2.2 4 (by decide) (by decide)
      refine e_224 ?_; simp only [b_224, i_int, i_long, i_null, i_stat, i_iload, i_lload, i_aload, i_istore, i_astore, i_lstore, i_iinc, i_ii, i_idz, i_i, i_ll, i_lsh, i_i2l, i_l2i, i_lcmp, i_dup, i_pop, i_dup2, i_ifeq, i_ifne, i_iflt, i_ifge, i_ifgt, i_ifle, i_cmpeq, i_cmpne, i_cmplt, i_cmpge, i_cmpgt, i_cmple, i_ifnull, i_ifnonnull, i_getf, am_wr, i_putI, i_putZ, i_putR, i_iald, i_iast, i_aald, i_aast, i_alen, i_newi, i_newq, i_new, i_recv, i_iret, i_zret, i_lret, i_aret, i_vret, List.getElem?_cons_zero, List.getElem?_cons_succ, Option.bind_some, Option.toList_some, Option.toList_none, List.cons_append, List.nil_append, x_nI, am_put, List.length_cons, List.length_nil, List.set_cons_zero, List.set_cons_succ, Nat.reduceAdd, Nat.reduceLT, Nat.reduceLeDiff, Nat.reduceEqDiff, Nat.add_left_cancel_iff, Nat.add_eq_left, Nat.left_eq_add, Nat.succ_ne_self, Nat.reduceSub, reduceIte, ite_self, eq_self, or_true, true_or, or_false, false_or, or_self, i10, not_true_eq_false, not_false_eq_true, x_call1, x_call2, x_call3, x_call4, x_call5, x_call6, x_sl0, x_sli, x_slr, x_sln, x_sll, am_ent, List.map_nil, List.map_cons, List.sum_nil, List.sum_cons, Value.category, and_true, true_and, and_self, Nat.zero_le, List.replicate_succ, List.replicate_zero, List.reduceReplicate, x_obj_set, x_row_set, x_len_set, x_obx, x_rox, x_rv, x_obj b1.1.1, mo_obj, x_row r4, x_ix hh (show h < 2147483648 by omega), hS1.2.2.1.2.1, show nI s.2.2.1 ≤ nI s.2.2.1 from nI_le (Nat.le_refl _) (by omega), nI_1]
      exact e2)
    have hc : ¬ nI s.2.2.2.2 ≤ nI r := nI_ge (by omega) (by omega)
    refine e_223 ?_; simp only [b_223, i_int, i_long, i_null, i_stat, i_iload, i_lload, i_aload, i_istore, i_astore, i_lstore, i_iinc, i_ii, i_idz, i_i, i_ll, i_lsh, i_i2l, i_l2i, i_lcmp, i_dup, i_pop, i_dup2, i_ifeq, i_ifne, i_iflt, i_ifge, i_ifgt, i_ifle, i_cmpeq, i_cmpne, i_cmplt, i_cmpge, i_cmpgt, i_cmple, i_ifnull, i_ifnonnull, i_getf, am_wr, i_putI, i_putZ, i_putR, i_iald, i_iast, i_aald, i_aast, i_alen, i_newi, i_newq, i_new, i_recv, i_iret, i_zret, i_lret, i_aret, i_vret, List.getElem?_cons_zero, List.getElem?_cons_succ, Option.bind_some, Option.toList_some, Option.toList_none, List.cons_append, List.nil_append, x_nI, am_put, List.length_cons, List.length_nil, List.set_cons_zero, List.set_cons_succ, Nat.reduceAdd, Nat.reduceLT, Nat.reduceLeDiff, Nat.reduceEqDiff, Nat.add_left_cancel_iff, Nat.add_eq_left, Nat.left_eq_add, Nat.succ_ne_self, Nat.reduceSub, reduceIte, ite_self, eq_self, or_true, true_or, or_false, false_or, or_self, i10, not_true_eq_false, not_false_eq_true, x_call1, x_call2, x_call3, x_call4, x_call5, x_call6, x_sl0, x_sli, x_slr, x_sln, x_sll, am_ent, List.map_nil, List.map_cons, List.sum_nil, List.sum_cons, Value.category, and_true, true_and, and_self, Nat.zero_le, List.replicate_succ, List.replicate_zero, List.reduceReplicate, x_obj_set, x_row_set, x_len_set, x_obx, x_rox, x_rv, x_obj hM.1, mo_obj, x_row (show A.2.2 (b + 14) = some (.inl (0, 2, R 14)) from hM.2.2 14 (by decide) (by decide)), x_ix hh (show h < 2147483648 by omega), hS.2.2.1.2.2, hc]
    exact e3
theorem n_writeImage {d b h : Nat} {A : am_H} {R : Nat → Nat → Int32} {f : mo_F} {s : sg_S} (hN : NokS s) (ht : sg_tot s s.2.2.2.2 ≤ 800) (hM : MM b A R f) (hS : MS R h s) : ∃ B S, pev (d + 5) 219 [some (.ref b), some (.int (nI h)), none, none, none] [] A = some (none, B) ∧ MW b B S (sl f (img s).length) (img s) ∧ mw_to b A R B S := by
  have hs := hS.1
  have hh := hS.2.1
  have h4 := hs.1
  have h5 := hs.2.2.1
  have h8 := hs.2.2.2.2
  have hlen := img_len s
  rw [img, im_h] at hlen
  simp only [List.length_append, num_len, wrd_len, hea_len] at hlen
  have hdm : (sg_cat (id1 s) s.1.1).length = s.1.1 * 12 := by
    rw [sg_cat_len, show (fun k => (id1 s k).length) = fun _ => 12 from funext (id1_len s), sg_sum_const]
  have hid : (sg_cat (fun k => nam (s.1.2.1 k) ++ wrd (s.1.2.2 k)) s.1.1) = sg_cat (id1 s) s.1.1 := rfl
  rw [hid] at hlen
  have hla := im_a_len s.2.1
  have hlm := sg_ls_mod s.2.1
  have hvm : (sg_cat (im_v s) s.2.2.1).length % 4 = 0 := by
    rw [sg_cat_len]
    exact sum_mod (fun j _ => im_v_mod s j)
  have hM0 := hM.obj (sl f 0)
  have W0 : MW b (am_set A b (.inr (.inr (6, mo_obj b (sl f 0))))) R (sl f 0) [] := ⟨hM0, rfl, by simp, fun i hi => by simp at hi⟩
  have q0 : mw_to b A R (am_set A b (.inr (.inr (6, mo_obj b (sl f 0))))) R := ⟨fun _ _ => rfl, (am_fr.refl A).set ⟨by omega, by omega⟩⟩
  obtain ⟨B1, S1, e1, b1, q1⟩ := n_writeValue (d := d + 3) (x := 1196573697) (w := 4) (by decide) W0 (by simp)
  obtain ⟨B2, S2, e2, b2, q2⟩ := n_writeValue (d := d + 3) (x := nI s.2.2.2.2) (w := 4) (by decide) b1 (by simp [num_len])
  obtain ⟨B3, S3, e3, b3, q3⟩ := n_writeCount (d := d + 2) (k := 10) (n := s.1.1) (by omega) b2 (by simp [num_len])
  have Q3 := q0.trans (q1.trans (q2.trans q3))
  obtain ⟨B4, S4, b4, q4, G4⟩ := n_wI1 (d := d) (bs := [] ++ num 1196573697 4 ++ num (nI s.2.2.2.2) 4 ++ hea 10 s.1.1) hN (by simp only [List.length_append, List.length_nil, num_len, hea_len]; omega) s.1.1 0 (by omega) (hS.to Q3) (by rw [sg_cat, List.append_nil]; exact b3)
  have Q4 := Q3.trans q4
  have hS4 := hS.to Q4
  obtain ⟨B5, S5, e5, b5, q5⟩ := n_writeList (d := d + 1) hh (show 0 < 6 by decide) hN.2.1 (by simp only [List.length_append, List.length_nil, num_len, hea_len]; omega) (by simp only [List.length_append, List.length_nil, num_len, hea_len]; omega) hS4.2.2.2.2.1 b4
  obtain ⟨B6, S6, e6, b6, q6⟩ := n_writeCount (d := d + 2) (k := 11) (n := s.2.2.1) (by omega) b5 (by simp only [List.length_append, List.length_nil, num_len, hea_len]; omega)
  have Q5 := Q4.trans q5
  have Q6 := Q5.trans q6
  obtain ⟨B7, S7, b7, q7, G7⟩ := n_wI2 (d := d) (bs := [] ++ num 1196573697 4 ++ num (nI s.2.2.2.2) 4 ++ hea 10 s.1.1 ++ sg_cat (id1 s) s.1.1 ++ im_a s.2.1 ++ hea 11 s.2.2.1) hN (by simp only [List.length_append, List.length_nil, num_len, hea_len]; omega) (by simp only [List.length_append, List.length_nil, num_len, hea_len]; omega) s.2.2.1 0 (by omega) (hS.to Q6) (by rw [sg_cat, List.append_nil]; exact b6)
  have Q7 := Q6.trans q7
  obtain ⟨B8, S8, b8, q8, G8⟩ := n_wI3 (d := d) (bs := [] ++ num 1196573697 4 ++ num (nI s.2.2.2.2) 4 ++ hea 10 s.1.1 ++ sg_cat (id1 s) s.1.1 ++ im_a s.2.1 ++ hea 11 s.2.2.1 ++ sg_cat (im_v s) s.2.2.1) (by simp only [List.length_append, List.length_nil, num_len, hea_len]; omega) s.2.2.1 0 (by omega) (hS.to Q7) (by rw [sg_cat, List.append_nil]; exact b7)
  have Q8 := Q7.trans q8
  obtain ⟨B9, S9, e9, b9, q9⟩ := n_wI4 (d := d) (bs := [] ++ num 1196573697 4 ++ num (nI s.2.2.2.2) 4 ++ hea 10 s.1.1 ++ sg_cat (id1 s) s.1.1 ++ im_a s.2.1 ++ hea 11 s.2.2.1 ++ sg_cat (im_v s) s.2.2.1 ++ sg_cat (im_f s) s.2.2.1) (cells_fit hs ht) (by simp only [List.length_append, List.length_nil, num_len, hea_len]; omega) s.2.2.2.2 0 (by omega) (o := none) (hS.to Q8) (by rw [sg_cat, List.append_nil]; exact b8)
  refine ⟨B9, S9, ?_, ?_, Q8.trans q9⟩
  · have ixh := x_ix hh (show h < 2147483648 by omega)
    have hnr := sg_nr_le s
    have ec : (nI (sg_nr s) ≤ (1 : Int32)) = (sg_nr s ≤ 1) := o_le (b := 1) (by omega) (by decide)
    have hle5 : nI s.2.2.1 ≤ nI s.2.2.1 := nI_le (Nat.le_refl _) (by omega)
    have g8 := G8 B9 (by
      have hS8 := hS.to Q8
      have en := n_recordVariables (d := d + 2) b8.1 hS8
      have r4 : B8.2.2 (b + 4) = some (.inl (0, 2, S8 4)) := b8.1.2.2 4 (by decide) (by decide)
      by_cases c : sg_nr s ≤ 1
      · rw [show decide (1 < sg_nr s) = false by simp; omega, bz_false] at e9
        refine e_222 ?_; simp only [b_222, i_int, i_long, i_null, i_stat, i_iload, i_lload, i_aload, i_istore, i_astore, i_lstore, i_iinc, i_ii, i_idz, i_i, i_ll, i_lsh, i_i2l, i_l2i, i_lcmp, i_dup, i_pop, i_dup2, i_ifeq, i_ifne, i_iflt, i_ifge, i_ifgt, i_ifle, i_cmpeq, i_cmpne, i_cmplt, i_cmpge, i_cmpgt, i_cmple, i_ifnull, i_ifnonnull, i_getf, am_wr, i_putI, i_putZ, i_putR, i_iald, i_iast, i_aald, i_aast, i_alen, i_newi, i_newq, i_new, i_recv, i_iret, i_zret, i_lret, i_aret, i_vret, List.getElem?_cons_zero, List.getElem?_cons_succ, Option.bind_some, Option.toList_some, Option.toList_none, List.cons_append, List.nil_append, x_nI, am_put, List.length_cons, List.length_nil, List.set_cons_zero, List.set_cons_succ, Nat.reduceAdd, Nat.reduceLT, Nat.reduceLeDiff, Nat.reduceEqDiff, Nat.add_left_cancel_iff, Nat.add_eq_left, Nat.left_eq_add, Nat.succ_ne_self, Nat.reduceSub, reduceIte, ite_self, eq_self, or_true, true_or, or_false, false_or, or_self, i10, not_true_eq_false, not_false_eq_true, x_call1, x_call2, x_call3, x_call4, x_call5, x_call6, x_sl0, x_sli, x_slr, x_sln, x_sll, am_ent, List.map_nil, List.map_cons, List.sum_nil, List.sum_cons, Value.category, and_true, true_and, and_self, Nat.zero_le, List.replicate_succ, List.replicate_zero, List.reduceReplicate, x_obj_set, x_row_set, x_len_set, x_obx, x_rox, x_rv, x_obj b8.1.1, mo_obj, x_row r4, ixh, hS8.2.2.1.2.1, hle5, en, ec, c]
        exact e9
      · rw [show decide (1 < sg_nr s) = true by simp; omega, bz_true] at e9
        refine e_222 ?_; simp only [b_222, i_int, i_long, i_null, i_stat, i_iload, i_lload, i_aload, i_istore, i_astore, i_lstore, i_iinc, i_ii, i_idz, i_i, i_ll, i_lsh, i_i2l, i_l2i, i_lcmp, i_dup, i_pop, i_dup2, i_ifeq, i_ifne, i_iflt, i_ifge, i_ifgt, i_ifle, i_cmpeq, i_cmpne, i_cmplt, i_cmpge, i_cmpgt, i_cmple, i_ifnull, i_ifnonnull, i_getf, am_wr, i_putI, i_putZ, i_putR, i_iald, i_iast, i_aald, i_aast, i_alen, i_newi, i_newq, i_new, i_recv, i_iret, i_zret, i_lret, i_aret, i_vret, List.getElem?_cons_zero, List.getElem?_cons_succ, Option.bind_some, Option.toList_some, Option.toList_none, List.cons_append, List.nil_append, x_nI, am_put, List.length_cons, List.length_nil, List.set_cons_zero, List.set_cons_succ, Nat.reduceAdd, Nat.reduceLT, Nat.reduceLeDiff, Nat.reduceEqDiff, Nat.add_left_cancel_iff, Nat.add_eq_left, Nat.left_eq_add, Nat.succ_ne_self, Nat.reduceSub, reduceIte, ite_self, eq_self, or_true, true_or, or_false, false_or, or_self, i10, not_true_eq_false, not_false_eq_true, x_call1, x_call2, x_call3, x_call4, x_call5, x_call6, x_sl0, x_sli, x_slr, x_sln, x_sll, am_ent, List.map_nil, List.map_cons, List.sum_nil, List.sum_cons, Value.category, and_true, true_and, and_self, Nat.zero_le, List.replicate_succ, List.replicate_zero, List.reduceReplicate, x_obj_set, x_row_set, x_len_set, x_obx, x_rox, x_rv, x_obj b8.1.1, mo_obj, x_row r4, ixh, hS8.2.2.1.2.1, hle5, en, ec, c]
        exact e9)
    have g7 := G7 B9 (by
      have hS7 := hS.to Q7
      have r4 : B7.2.2 (b + 4) = some (.inl (0, 2, S7 4)) := b7.1.2.2 4 (by decide) (by decide)
      refine e_221 ?_; simp only [b_221, i_int, i_long, i_null, i_stat, i_iload, i_lload, i_aload, i_istore, i_astore, i_lstore, i_iinc, i_ii, i_idz, i_i, i_ll, i_lsh, i_i2l, i_l2i, i_lcmp, i_dup, i_pop, i_dup2, i_ifeq, i_ifne, i_iflt, i_ifge, i_ifgt, i_ifle, i_cmpeq, i_cmpne, i_cmplt, i_cmpge, i_cmpgt, i_cmple, i_ifnull, i_ifnonnull, i_getf, am_wr, i_putI, i_putZ, i_putR, i_iald, i_iast, i_aald, i_aast, i_alen, i_newi, i_newq, i_new, i_recv, i_iret, i_zret, i_lret, i_aret, i_vret, List.getElem?_cons_zero, List.getElem?_cons_succ, Option.bind_some, Option.toList_some, Option.toList_none, List.cons_append, List.nil_append, x_nI, am_put, List.length_cons, List.length_nil, List.set_cons_zero, List.set_cons_succ, Nat.reduceAdd, Nat.reduceLT, Nat.reduceLeDiff, Nat.reduceEqDiff, Nat.add_left_cancel_iff, Nat.add_eq_left, Nat.left_eq_add, Nat.succ_ne_self, Nat.reduceSub, reduceIte, ite_self, eq_self, or_true, true_or, or_false, false_or, or_self, i10, not_true_eq_false, not_false_eq_true, x_call1, x_call2, x_call3, x_call4, x_call5, x_call6, x_sl0, x_sli, x_slr, x_sln, x_sll, am_ent, List.map_nil, List.map_cons, List.sum_nil, List.sum_cons, Value.category, and_true, true_and, and_self, Nat.zero_le, List.replicate_succ, List.replicate_zero, List.reduceReplicate, x_obj_set, x_row_set, x_len_set, x_obx, x_rox, x_rv, x_obj b7.1.1, mo_obj, x_row r4, ixh, hS7.2.2.1.2.1, hle5]
      exact g8)
    have g4 := G4 B9 (by
      have hS5 := hS.to Q5
      have r1 : B4.2.2 (b + 1) = some (.inl (0, 2, S4 1)) := b4.1.2.2 1 (by decide) (by decide)
      have r4 : B5.2.2 (b + 4) = some (.inl (0, 2, S5 4)) := b5.1.2.2 4 (by decide) (by decide)
      rw [nI_0] at e5
      refine e_220 ?_; simp only [b_220, i_int, i_long, i_null, i_stat, i_iload, i_lload, i_aload, i_istore, i_astore, i_lstore, i_iinc, i_ii, i_idz, i_i, i_ll, i_lsh, i_i2l, i_l2i, i_lcmp, i_dup, i_pop, i_dup2, i_ifeq, i_ifne, i_iflt, i_ifge, i_ifgt, i_ifle, i_cmpeq, i_cmpne, i_cmplt, i_cmpge, i_cmpgt, i_cmple, i_ifnull, i_ifnonnull, i_getf, am_wr, i_putI, i_putZ, i_putR, i_iald, i_iast, i_aald, i_aast, i_alen, i_newi, i_newq, i_new, i_recv, i_iret, i_zret, i_lret, i_aret, i_vret, List.getElem?_cons_zero, List.getElem?_cons_succ, Option.bind_some, Option.toList_some, Option.toList_none, List.cons_append, List.nil_append, x_nI, am_put, List.length_cons, List.length_nil, List.set_cons_zero, List.set_cons_succ, Nat.reduceAdd, Nat.reduceLT, Nat.reduceLeDiff, Nat.reduceEqDiff, Nat.add_left_cancel_iff, Nat.add_eq_left, Nat.left_eq_add, Nat.succ_ne_self, Nat.reduceSub, reduceIte, ite_self, eq_self, or_true, true_or, or_false, false_or, or_self, i10, not_true_eq_false, not_false_eq_true, x_call1, x_call2, x_call3, x_call4, x_call5, x_call6, x_sl0, x_sli, x_slr, x_sln, x_sll, am_ent, List.map_nil, List.map_cons, List.sum_nil, List.sum_cons, Value.category, and_true, true_and, and_self, Nat.zero_le, List.replicate_succ, List.replicate_zero, List.reduceReplicate, x_obj_set, x_row_set, x_len_set, x_obx, x_rox, x_rv, x_obj b4.1.1, mo_obj, x_row r1, ixh, hS4.2.2.1.1, show (4 : Int32) = nI 4 from rfl, pk_mul, nI_add, show nI (4 * h + s.1.1) ≤ nI (4 * h + s.1.1) from nI_le (Nat.le_refl _) (by omega), e5, x_obj b5.1.1, x_row r4, hS5.2.2.1.2.1, show (11 : Int32) = nI 11 from rfl, e6]
      exact g7)
    have hS1 := hS.to (q0.trans q1)
    have hS2 := hS.to (q0.trans (q1.trans q2))
    have r14 : B1.2.2 (b + 14) = some (.inl (0, 2, S1 14)) := b1.1.2.2 14 (by decide) (by decide)
    have r1 : B2.2.2 (b + 1) = some (.inl (0, 2, S2 1)) := b2.1.2.2 1 (by decide) (by decide)
    have eob : mo_obj b (sl f 0) = [.int (nI f.1), .int (bz f.2.1), .ref (b + 1), .ref (b + 2), .ref (b + 3), .ref (b + 4), .ref (b + 5), .ref (b + 6), .ref (b + 7), .ref (b + 8), .ref (b + 9), .ref (b + 10), .ref (b + 11), .ref (b + 12), .ref (b + 13), .ref (b + 14), .ref (b + 15), .ref (b + 16), .ref (b + 17), .ref (b + 18), .ref (b + 19), .int 0, .ref (b + 20), .int (nI f.2.2.2.1), .int (nI f.2.2.2.2.1), .int (bz f.2.2.2.2.2)] := rfl
    rw [eob] at e1
    refine e_219 ?_; simp only [b_219, i_int, i_long, i_null, i_stat, i_iload, i_lload, i_aload, i_istore, i_astore, i_lstore, i_iinc, i_ii, i_idz, i_i, i_ll, i_lsh, i_i2l, i_l2i, i_lcmp, i_dup, i_pop, i_dup2, i_ifeq, i_ifne, i_iflt, i_ifge, i_ifgt, i_ifle, i_cmpeq, i_cmpne, i_cmplt, i_cmpge, i_cmpgt, i_cmple, i_ifnull, i_ifnonnull, i_getf, am_wr, i_putI, i_putZ, i_putR, i_iald, i_iast, i_aald, i_aast, i_alen, i_newi, i_newq, i_new, i_recv, i_iret, i_zret, i_lret, i_aret, i_vret, List.getElem?_cons_zero, List.getElem?_cons_succ, Option.bind_some, Option.toList_some, Option.toList_none, List.cons_append, List.nil_append, x_nI, am_put, List.length_cons, List.length_nil, List.set_cons_zero, List.set_cons_succ, Nat.reduceAdd, Nat.reduceLT, Nat.reduceLeDiff, Nat.reduceEqDiff, Nat.add_left_cancel_iff, Nat.add_eq_left, Nat.left_eq_add, Nat.succ_ne_self, Nat.reduceSub, reduceIte, ite_self, eq_self, or_true, true_or, or_false, false_or, or_self, i10, not_true_eq_false, not_false_eq_true, x_call1, x_call2, x_call3, x_call4, x_call5, x_call6, x_sl0, x_sli, x_slr, x_sln, x_sll, am_ent, List.map_nil, List.map_cons, List.sum_nil, List.sum_cons, Value.category, and_true, true_and, and_self, Nat.zero_le, List.replicate_succ, List.replicate_zero, List.reduceReplicate, x_obj_set, x_row_set, x_len_set, x_obx, x_rox, x_rv, x_obj hM.1, mo_obj, x_own hM.2.1, show (4 : Int32) = nI 4 from rfl, e1, x_obj b1.1.1, x_row r14, ixh, hS1.2.2.1.2.2, e2, x_obj b2.1.1, x_row r1, hS2.2.2.1.1, show (10 : Int32) = nI 10 from rfl, e3, pk_mul]
    exact g4
  · have : img s = [] ++ num 1196573697 4 ++ num (nI s.2.2.2.2) 4 ++ hea 10 s.1.1 ++ sg_cat (id1 s) s.1.1 ++ im_a s.2.1 ++ hea 11 s.2.2.1 ++ sg_cat (im_v s) s.2.2.1 ++ sg_cat (im_f s) s.2.2.1 ++ sg_cat (fun i => sg_cat (im_r s i) s.2.2.1) s.2.2.2.2 := by
      simp only [img, im_h, wrd, List.append_assoc, List.nil_append]
      rfl
    rw [this]
    simp only [sl_sl] at b9
    exact b9
