/-! writing the cells -/
theorem k_writeCells1 {d b r cur : Nat} {s : sg_S} {ρ : Nat → sg_R} {bs : List Nat} (hdj : r + 1 < b ∨ b + 45 ≤ r) (hs : STv s) (hm : bs.length % 4 = 0) (hl : bs.length + (sg_cat (im_f s) s.2.2.1).length ≤ 800) : ∀ (m v : Nat), v + m = s.2.2.1 → ∀ {A : am_H} {o : Option Value}, am_St A → ST b A s ρ → BR r A (bs ++ sg_cat (im_f s) v) cur → ∃ B o2, am_St B ∧ ST b B s ρ ∧ BR r B (bs ++ sg_cat (im_f s) s.2.2.1) cur ∧ am_fr (at2 r) A B ∧ ∀ Y, pev (d + 4) 102 [some (.ref b), some (.ref r), some (.int (nI s.2.2.1)), o2] [] B = some (none, Y) → pev (d + 4) 102 [some (.ref b), some (.ref r), some (.int (nI v)), o] [] A = some (none, Y) := by
  intro m
  induction m with
  | zero =>
    intro v hv A o hst h hB
    have hvv : v = s.2.2.1 := by omega
    subst hvv
    exact ⟨A, o, hst, h, hB, am_fr.refl A, fun Y hY => hY⟩
  | succ m ih =>
    intro v hv A o hst h hB
    have h5 := hs.2.2.1
    have hvn : v < s.2.2.1 := by omega
    have hr : 5 ≤ r := by obtain ⟨_, _, _, _, q, _⟩ := hB; exact q
    obtain ⟨-, hb, ⟨g1, g2, g3, q, a0, a1, a2, a3, a4, a5, a6, a7⟩, -⟩ := id h
    obtain ⟨_, u0, -⟩ := id (h.var hvn)
    have hc : ¬ nI s.2.2.1 ≤ nI v := nI_ge (by omega) (by omega)
    have ix := x_ix (show v < 5 by omega) (show v < 2147483648 by omega)
    by_cases c : sg_l0 s v = 0
    · have hcat : bs ++ sg_cat (im_f s) (v + 1) = bs ++ sg_cat (im_f s) v := by
        rw [sg_cat, im_f, if_pos c, List.append_nil]
      obtain ⟨B, o2, s1, s2, s3, f1, g1⟩ := ih (v + 1) (by omega) (o := o) hst h (by rw [hcat]; exact hB)
      refine ⟨B, o2, s1, s2, s3, f1, fun Y hY => ?_⟩
      have e1 := g1 Y hY
      refine e_102 ?_; simp only [b_102, i_int, i_long, i_null, i_stat, i_iload, i_lload, i_aload, i_istore, i_astore, i_lstore, i_iinc, i_ii, i_idz, i_i, i_ll, i_lsh, i_i2l, i_l2i, i_lcmp, i_dup, i_pop, i_dup2, i_ifeq, i_ifne, i_iflt, i_ifge, i_ifgt, i_ifle, i_cmpeq, i_cmpne, i_cmplt, i_cmpge, i_cmpgt, i_cmple, i_ifnull, i_ifnonnull, i_getf, am_wr, i_putI, i_putZ, i_putR, i_iald, i_iast, i_aald, i_aast, i_alen, i_newi, i_newq, i_new, i_recv, i_iret, i_zret, i_lret, i_aret, i_vret, List.getElem?_cons_zero, List.getElem?_cons_succ, Option.bind_some, Option.toList_some, Option.toList_none, List.cons_append, List.nil_append, x_nI, am_put, List.length_cons, List.length_nil, List.set_cons_zero, List.set_cons_succ, Nat.reduceAdd, Nat.reduceLT, Nat.reduceLeDiff, Nat.reduceEqDiff, Nat.add_left_cancel_iff, Nat.add_eq_left, Nat.left_eq_add, Nat.succ_ne_self, Nat.reduceSub, reduceIte, ite_self, eq_self, or_true, true_or, or_false, false_or, or_self, i10, not_true_eq_false, not_false_eq_true, x_call1, x_call2, x_call3, x_call4, x_call5, x_call6, x_sl0, x_sli, x_slr, x_sln, x_sll, am_ent, List.map_nil, List.map_cons, List.sum_nil, List.sum_cons, Value.category, and_true, true_and, and_self, Nat.zero_le, List.replicate_succ, List.replicate_zero, List.reduceReplicate, x_obj_set, x_row_set, x_len_set, x_obx, x_rox, x_rv, x_obj a0, hc, x_refs a4, ix, a5 v (show v < 5 by omega), x_obj u0, sg_raw, c, decide_true, bz_true, nI_1]
      exact e1
    · have hcn : sg_cn s v = sg_l0 s v * sg_l1 s v := by unfold sg_cn; rw [if_neg c]
      have him : im_f s v = im_c s v 0 (sg_l0 s v * sg_l1 s v) ++ padl (sg_l0 s v * sg_l1 s v * wd (s.2.2.2.1 v).2.1) := by
        rw [im_f, if_neg c, hcn]
      have hlen : bs.length + ((sg_cat (im_f s) v).length + pad4 (sg_l0 s v * sg_l1 s v * wd (s.2.2.2.1 v).2.1)) ≤ 800 := by
        have := cat_le (f := im_f s) (m := v + 1) (n := s.2.2.1) (by omega)
        rw [sg_cat, List.length_append, im_f_len, if_neg c, sg_ps, hcn] at this
        omega
      have hpg := pad4_ge (sg_l0 s v * sg_l1 s v * wd (s.2.2.2.1 v).2.1)
      have hPm := im_f_mod s v
      obtain ⟨B1, s1, s2, s3, f1, G1⟩ := k_writeRows (d := d) (bs := bs ++ sg_cat (im_f s) v) hdj hvn hs (by rw [List.length_append]; omega) (sg_l0 s v) 0 (by omega) hst h (by rw [Nat.zero_mul]; simpa [im_c, sg_cat] using hB)
      obtain ⟨B2, e2, b2, f2⟩ := k_appendPadding (d := d + 2) s3
      have hpd : (bs ++ sg_cat (im_f s) v ++ im_c s v 0 (sg_l0 s v * sg_l1 s v)).length = bs.length + (sg_cat (im_f s) v).length + sg_l0 s v * sg_l1 s v * wd (s.2.2.2.1 v).2.1 := by
        rw [List.length_append, List.length_append, im_c_len]
      rw [hpd, padl_mod (by omega)] at b2
      have hcat : bs ++ sg_cat (im_f s) (v + 1) = bs ++ sg_cat (im_f s) v ++ im_c s v 0 (sg_l0 s v * sg_l1 s v) ++ padl (sg_l0 s v * sg_l1 s v * wd (s.2.2.2.1 v).2.1) := by
        rw [sg_cat, him]
        simp only [List.append_assoc]
      obtain ⟨B, o2, z1, z2, z3, f3, g3'⟩ := ih (v + 1) (by omega) (o := some (.int (nI (sg_l0 s v)))) (s1.two f2 hr) (s2.two f2 hdj) (by rw [hcat]; exact b2)
      refine ⟨B, o2, z1, z2, z3, f1.trans (f2.trans f3), fun Y hY => ?_⟩
      have e3 := g3' Y hY
      have e4 := G1 Y (by
        obtain ⟨-, -, ⟨_, _, _, q', a0', -, -, -, a4', a5', -, -⟩, -⟩ := id s2
        obtain ⟨_, u1, -⟩ := id (s2.var hvn)
        obtain ⟨_, q0, -⟩ := id s3
        refine e_103 ?_; simp only [b_103, i_int, i_long, i_null, i_stat, i_iload, i_lload, i_aload, i_istore, i_astore, i_lstore, i_iinc, i_ii, i_idz, i_i, i_ll, i_lsh, i_i2l, i_l2i, i_lcmp, i_dup, i_pop, i_dup2, i_ifeq, i_ifne, i_iflt, i_ifge, i_ifgt, i_ifle, i_cmpeq, i_cmpne, i_cmplt, i_cmpge, i_cmpgt, i_cmple, i_ifnull, i_ifnonnull, i_getf, am_wr, i_putI, i_putZ, i_putR, i_iald, i_iast, i_aald, i_aast, i_alen, i_newi, i_newq, i_new, i_recv, i_iret, i_zret, i_lret, i_aret, i_vret, List.getElem?_cons_zero, List.getElem?_cons_succ, Option.bind_some, Option.toList_some, Option.toList_none, List.cons_append, List.nil_append, x_nI, am_put, List.length_cons, List.length_nil, List.set_cons_zero, List.set_cons_succ, Nat.reduceAdd, Nat.reduceLT, Nat.reduceLeDiff, Nat.reduceEqDiff, Nat.add_left_cancel_iff, Nat.add_eq_left, Nat.left_eq_add, Nat.succ_ne_self, Nat.reduceSub, reduceIte, ite_self, eq_self, or_true, true_or, or_false, false_or, or_self, i10, not_true_eq_false, not_false_eq_true, x_call1, x_call2, x_call3, x_call4, x_call5, x_call6, x_sl0, x_sli, x_slr, x_sln, x_sll, am_ent, List.map_nil, List.map_cons, List.sum_nil, List.sum_cons, Value.category, and_true, true_and, and_self, Nat.zero_le, List.replicate_succ, List.replicate_zero, List.reduceReplicate, x_obj_set, x_row_set, x_len_set, x_obx, x_rox, x_rv, x_obj a0', x_refs a4', ix, a5' v (show v < 5 by omega), x_obj u1, show (sg_raw s v).2.2.2.2.1 = sg_l0 s v from rfl, show nI (sg_l0 s v) ≤ nI (sg_l0 s v) from nI_le (Nat.le_refl _) (by have := hs.l0 hvn; omega), x_obj q0, e2, nI_1]
        exact e3)
      refine e_102 ?_; simp only [b_102, i_int, i_long, i_null, i_stat, i_iload, i_lload, i_aload, i_istore, i_astore, i_lstore, i_iinc, i_ii, i_idz, i_i, i_ll, i_lsh, i_i2l, i_l2i, i_lcmp, i_dup, i_pop, i_dup2, i_ifeq, i_ifne, i_iflt, i_ifge, i_ifgt, i_ifle, i_cmpeq, i_cmpne, i_cmplt, i_cmpge, i_cmpgt, i_cmple, i_ifnull, i_ifnonnull, i_getf, am_wr, i_putI, i_putZ, i_putR, i_iald, i_iast, i_aald, i_aast, i_alen, i_newi, i_newq, i_new, i_recv, i_iret, i_zret, i_lret, i_aret, i_vret, List.getElem?_cons_zero, List.getElem?_cons_succ, Option.bind_some, Option.toList_some, Option.toList_none, List.cons_append, List.nil_append, x_nI, am_put, List.length_cons, List.length_nil, List.set_cons_zero, List.set_cons_succ, Nat.reduceAdd, Nat.reduceLT, Nat.reduceLeDiff, Nat.reduceEqDiff, Nat.add_left_cancel_iff, Nat.add_eq_left, Nat.left_eq_add, Nat.succ_ne_self, Nat.reduceSub, reduceIte, ite_self, eq_self, or_true, true_or, or_false, false_or, or_self, i10, not_true_eq_false, not_false_eq_true, x_call1, x_call2, x_call3, x_call4, x_call5, x_call6, x_sl0, x_sli, x_slr, x_sln, x_sll, am_ent, List.map_nil, List.map_cons, List.sum_nil, List.sum_cons, Value.category, and_true, true_and, and_self, Nat.zero_le, List.replicate_succ, List.replicate_zero, List.reduceReplicate, x_obj_set, x_row_set, x_len_set, x_obx, x_rox, x_rv, x_obj a0, hc, x_refs a4, ix, a5 v (show v < 5 by omega), x_obj u0, sg_raw, c, decide_false, bz_false]
      exact e4
theorem k_writeRecord1 {d b r cur i : Nat} {s : sg_S} {ρ : Nat → sg_R} {bs : List Nat} (hdj : r + 1 < b ∨ b + 45 ≤ r) (hs : STv s) (hm : 1 < sg_nr s → bs.length % 4 = 0) (hi : ∀ v, v < s.2.2.1 → sg_l0 s v = 0 → i * sg_l1 s v + sg_l1 s v ≤ 800) (hl : bs.length + (sg_cat (im_r s i) s.2.2.1).length ≤ 800) : ∀ (m v : Nat), v + m = s.2.2.1 → ∀ {A : am_H}, am_St A → ST b A s ρ → BR r A (bs ++ sg_cat (im_r s i) v) cur → ∃ B, pev (d + 3) 108 [some (.ref b), some (.ref r), some (.int (nI i)), some (.int (bz (decide (1 < sg_nr s)))), some (.int (nI v))] [] A = some (none, B) ∧ BR r B (bs ++ sg_cat (im_r s i) s.2.2.1) cur ∧ am_fr (at2 r) A B := by
  intro m
  induction m with
  | zero =>
    intro v hv A hst h hB
    have hvv : v = s.2.2.1 := by omega
    subst hvv
    obtain ⟨-, hb, ⟨g1, g2, g3, q, a0, -⟩, -⟩ := id h
    refine ⟨A, ?_, hB, am_fr.refl A⟩
    refine e_108 ?_; simp only [b_108, i_int, i_long, i_null, i_stat, i_iload, i_lload, i_aload, i_istore, i_astore, i_lstore, i_iinc, i_ii, i_idz, i_i, i_ll, i_lsh, i_i2l, i_l2i, i_lcmp, i_dup, i_pop, i_dup2, i_ifeq, i_ifne, i_iflt, i_ifge, i_ifgt, i_ifle, i_cmpeq, i_cmpne, i_cmplt, i_cmpge, i_cmpgt, i_cmple, i_ifnull, i_ifnonnull, i_getf, am_wr, i_putI, i_putZ, i_putR, i_iald, i_iast, i_aald, i_aast, i_alen, i_newi, i_newq, i_new, i_recv, i_iret, i_zret, i_lret, i_aret, i_vret, List.getElem?_cons_zero, List.getElem?_cons_succ, Option.bind_some, Option.toList_some, Option.toList_none, List.cons_append, List.nil_append, x_nI, am_put, List.length_cons, List.length_nil, List.set_cons_zero, List.set_cons_succ, Nat.reduceAdd, Nat.reduceLT, Nat.reduceLeDiff, Nat.reduceEqDiff, Nat.add_left_cancel_iff, Nat.add_eq_left, Nat.left_eq_add, Nat.succ_ne_self, Nat.reduceSub, reduceIte, ite_self, eq_self, or_true, true_or, or_false, false_or, or_self, i10, not_true_eq_false, not_false_eq_true, x_call1, x_call2, x_call3, x_call4, x_call5, x_call6, x_sl0, x_sli, x_slr, x_sln, x_sll, am_ent, List.map_nil, List.map_cons, List.sum_nil, List.sum_cons, Value.category, and_true, true_and, and_self, Nat.zero_le, List.replicate_succ, List.replicate_zero, List.reduceReplicate, x_obj_set, x_row_set, x_len_set, x_obx, x_rox, x_rv, x_obj a0, show nI s.2.2.1 ≤ nI s.2.2.1 from nI_le (Nat.le_refl _) (by have := hs.2.2.1; omega)]
  | succ m ih =>
    intro v hv A hst h hB
    have h5 := hs.2.2.1
    have hvn : v < s.2.2.1 := by omega
    have hr : 5 ≤ r := by obtain ⟨_, _, _, _, q, _⟩ := hB; exact q
    obtain ⟨-, hb, ⟨g1, g2, g3, q, a0, a1, a2, a3, a4, a5, a6, a7⟩, -⟩ := id h
    obtain ⟨_, u0, -⟩ := id (h.var hvn)
    obtain ⟨⟨t1, t4⟩, -⟩ := hs.2.2.2.1 v hvn
    have l1 := hs.l1 hvn
    have hc : ¬ nI s.2.2.1 ≤ nI v := nI_ge (by omega) (by omega)
    have ix := x_ix (show v < 5 by omega) (show v < 2147483648 by omega)
    by_cases c : sg_l0 s v = 0
    · have hlen : bs.length + ((sg_cat (im_r s i) v).length + (im_r s i v).length) ≤ 800 := by
        have := cat_le (f := im_r s i) (m := v + 1) (n := s.2.2.1) (by omega)
        rw [sg_cat, List.length_append] at this
        omega
      have hli : sg_l1 s v * wd (s.2.2.2.1 v).2.1 ≤ (im_r s i v).length := by
        rw [im_r_len, if_pos c]
        split
        · unfold sg_ps
          rw [sg_cn_rec c]
          exact pad4_ge _
        · exact Nat.le_refl _
      obtain ⟨B1, e1, b1, f1⟩ := k_writeRow (d := d) (i := i) (by omega) t1 t4 l1 (hi v hvn c) (show (bs ++ sg_cat (im_r s i) v).length + sg_l1 s v * wd (s.2.2.2.1 v).2.1 ≤ 800 by rw [List.length_append]; omega) hst (h.var hvn) hB
      have b1' : BR r B1 (bs ++ sg_cat (im_r s i) v ++ im_c s v (i * sg_l1 s v) (sg_l1 s v)) cur := b1
      by_cases c2 : 1 < sg_nr s
      · obtain ⟨B2, e2, b2, f2⟩ := k_appendPadding (d := d + 1) b1'
        have hpm : (sg_cat (im_r s i) v).length % 4 = 0 := by
          rw [sg_cat_len]
          exact sum_mod (fun j _ => by
            rw [im_r_len, if_pos c2]
            split
            · exact pad4_mod _
            · rfl)
        have hbm := hm c2
        have hpd : (bs ++ sg_cat (im_r s i) v ++ im_c s v (i * sg_l1 s v) (sg_l1 s v)).length = bs.length + (sg_cat (im_r s i) v).length + sg_l1 s v * wd (s.2.2.2.1 v).2.1 := by
          rw [List.length_append, List.length_append, im_c_len]
        rw [hpd, padl_mod (by omega)] at b2
        have hcat : bs ++ sg_cat (im_r s i) (v + 1) = bs ++ sg_cat (im_r s i) v ++ im_c s v (i * sg_l1 s v) (sg_l1 s v) ++ padl (sg_l1 s v * wd (s.2.2.2.1 v).2.1) := by
          rw [sg_cat, im_r, if_pos c, if_pos c2]
          simp only [List.append_assoc]
        have F := f1.trans f2
        obtain ⟨C, e3, b3, f3⟩ := ih (v + 1) (by omega) (hst.two F hr) (h.two F hdj) (by rw [hcat]; exact b2)
        refine ⟨C, ?_, b3, F.trans f3⟩
        obtain ⟨_, q0, -⟩ := id b1'
        simp only [c2, decide_true, bz_true] at e3 ⊢
        refine e_108 ?_; simp only [b_108, i_int, i_long, i_null, i_stat, i_iload, i_lload, i_aload, i_istore, i_astore, i_lstore, i_iinc, i_ii, i_idz, i_i, i_ll, i_lsh, i_i2l, i_l2i, i_lcmp, i_dup, i_pop, i_dup2, i_ifeq, i_ifne, i_iflt, i_ifge, i_ifgt, i_ifle, i_cmpeq, i_cmpne, i_cmplt, i_cmpge, i_cmpgt, i_cmple, i_ifnull, i_ifnonnull, i_getf, am_wr, i_putI, i_putZ, i_putR, i_iald, i_iast, i_aald, i_aast, i_alen, i_newi, i_newq, i_new, i_recv, i_iret, i_zret, i_lret, i_aret, i_vret, List.getElem?_cons_zero, List.getElem?_cons_succ, Option.bind_some, Option.toList_some, Option.toList_none, List.cons_append, List.nil_append, x_nI, am_put, List.length_cons, List.length_nil, List.set_cons_zero, List.set_cons_succ, Nat.reduceAdd, Nat.reduceLT, Nat.reduceLeDiff, Nat.reduceEqDiff, Nat.add_left_cancel_iff, Nat.add_eq_left, Nat.left_eq_add, Nat.succ_ne_self, Nat.reduceSub, reduceIte, ite_self, eq_self, or_true, true_or, or_false, false_or, or_self, i10, not_true_eq_false, not_false_eq_true, x_call1, x_call2, x_call3, x_call4, x_call5, x_call6, x_sl0, x_sli, x_slr, x_sln, x_sll, am_ent, List.map_nil, List.map_cons, List.sum_nil, List.sum_cons, Value.category, and_true, true_and, and_self, Nat.zero_le, List.replicate_succ, List.replicate_zero, List.reduceReplicate, x_obj_set, x_row_set, x_len_set, x_obx, x_rox, x_rv, x_obj a0, hc, x_refs a4, ix, a5 v (show v < 5 by omega), x_obj u0, sg_raw, c, decide_true, bz_true, e1, x_obj q0, e2, nI_1]
        exact e3
      · have hcat : bs ++ sg_cat (im_r s i) (v + 1) = bs ++ sg_cat (im_r s i) v ++ im_c s v (i * sg_l1 s v) (sg_l1 s v) := by
          rw [sg_cat, im_r, if_pos c, if_neg c2, List.append_nil]
          simp only [List.append_assoc]
        obtain ⟨C, e3, b3, f3⟩ := ih (v + 1) (by omega) (hst.two f1 hr) (h.two f1 hdj) (by rw [hcat]; exact b1')
        refine ⟨C, ?_, b3, f1.trans f3⟩
        simp only [c2, decide_false, bz_false] at e3 ⊢
        refine e_108 ?_; simp only [b_108, i_int, i_long, i_null, i_stat, i_iload, i_lload, i_aload, i_istore, i_astore, i_lstore, i_iinc, i_ii, i_idz, i_i, i_ll, i_lsh, i_i2l, i_l2i, i_lcmp, i_dup, i_pop, i_dup2, i_ifeq, i_ifne, i_iflt, i_ifge, i_ifgt, i_ifle, i_cmpeq, i_cmpne, i_cmplt, i_cmpge, i_cmpgt, i_cmple, i_ifnull, i_ifnonnull, i_getf, am_wr, i_putI, i_putZ, i_putR, i_iald, i_iast, i_aald, i_aast, i_alen, i_newi, i_newq, i_new, i_recv, i_iret, i_zret, i_lret, i_aret, i_vret, List.getElem?_cons_zero, List.getElem?_cons_succ, Option.bind_some, Option.toList_some, Option.toList_none, List.cons_append, List.nil_append, x_nI, am_put, List.length_cons, List.length_nil, List.set_cons_zero, List.set_cons_succ, Nat.reduceAdd, Nat.reduceLT, Nat.reduceLeDiff, Nat.reduceEqDiff, Nat.add_left_cancel_iff, Nat.add_eq_left, Nat.left_eq_add, Nat.succ_ne_self, Nat.reduceSub, reduceIte, ite_self, eq_self, or_true, true_or, or_false, false_or, or_self, i10, not_true_eq_false, not_false_eq_true, x_call1, x_call2, x_call3, x_call4, x_call5, x_call6, x_sl0, x_sli, x_slr, x_sln, x_sll, am_ent, List.map_nil, List.map_cons, List.sum_nil, List.sum_cons, Value.category, and_true, true_and, and_self, Nat.zero_le, List.replicate_succ, List.replicate_zero, List.reduceReplicate, x_obj_set, x_row_set, x_len_set, x_obx, x_rox, x_rv, x_obj a0, hc, x_refs a4, ix, a5 v (show v < 5 by omega), x_obj u0, sg_raw, c, decide_true, bz_true, e1, nI_1]
        exact e3
    · have hcat : bs ++ sg_cat (im_r s i) (v + 1) = bs ++ sg_cat (im_r s i) v := by
        rw [sg_cat, im_r, if_neg c, List.append_nil]
      obtain ⟨C, e3, b3, f3⟩ := ih (v + 1) (by omega) hst h (by rw [hcat]; exact hB)
      refine ⟨C, ?_, b3, f3⟩
      refine e_108 ?_; simp only [b_108, i_int, i_long, i_null, i_stat, i_iload, i_lload, i_aload, i_istore, i_astore, i_lstore, i_iinc, i_ii, i_idz, i_i, i_ll, i_lsh, i_i2l, i_l2i, i_lcmp, i_dup, i_pop, i_dup2, i_ifeq, i_ifne, i_iflt, i_ifge, i_ifgt, i_ifle, i_cmpeq, i_cmpne, i_cmplt, i_cmpge, i_cmpgt, i_cmple, i_ifnull, i_ifnonnull, i_getf, am_wr, i_putI, i_putZ, i_putR, i_iald, i_iast, i_aald, i_aast, i_alen, i_newi, i_newq, i_new, i_recv, i_iret, i_zret, i_lret, i_aret, i_vret, List.getElem?_cons_zero, List.getElem?_cons_succ, Option.bind_some, Option.toList_some, Option.toList_none, List.cons_append, List.nil_append, x_nI, am_put, List.length_cons, List.length_nil, List.set_cons_zero, List.set_cons_succ, Nat.reduceAdd, Nat.reduceLT, Nat.reduceLeDiff, Nat.reduceEqDiff, Nat.add_left_cancel_iff, Nat.add_eq_left, Nat.left_eq_add, Nat.succ_ne_self, Nat.reduceSub, reduceIte, ite_self, eq_self, or_true, true_or, or_false, false_or, or_self, i10, not_true_eq_false, not_false_eq_true, x_call1, x_call2, x_call3, x_call4, x_call5, x_call6, x_sl0, x_sli, x_slr, x_sln, x_sll, am_ent, List.map_nil, List.map_cons, List.sum_nil, List.sum_cons, Value.category, and_true, true_and, and_self, Nat.zero_le, List.replicate_succ, List.replicate_zero, List.reduceReplicate, x_obj_set, x_row_set, x_len_set, x_obx, x_rox, x_rv, x_obj a0, hc, x_refs a4, ix, a5 v (show v < 5 by omega), x_obj u0, sg_raw, c, decide_false, bz_false, nI_1]
      exact e3
theorem k_writeRecord {d b r cur i : Nat} {A : am_H} {s : sg_S} {ρ : Nat → sg_R} {bs : List Nat} (hdj : r + 1 < b ∨ b + 45 ≤ r) (hm : 1 < sg_nr s → bs.length % 4 = 0) (hi : ∀ v, v < s.2.2.1 → sg_l0 s v = 0 → i * sg_l1 s v + sg_l1 s v ≤ 800) (hl : bs.length + (sg_cat (im_r s i) s.2.2.1).length ≤ 800) (hst : am_St A) (h : ST b A s ρ) (hB : BR r A bs cur) : ∃ B, pev (d + 3) 107 [some (.ref b), some (.ref r), some (.int (nI i)), some (.int (bz (decide (1 < sg_nr s)))), none] [] A = some (none, B) ∧ BR r B (bs ++ sg_cat (im_r s i) s.2.2.1) cur ∧ am_fr (at2 r) A B := by
  obtain ⟨B, e1, b⟩ := k_writeRecord1 (d := d) hdj h.1 hm hi hl s.2.2.1 0 (by omega) hst h (by simpa [sg_cat] using hB)
  refine ⟨B, ?_, b⟩
  refine e_107 ?_; simp only [b_107, i_int, i_long, i_null, i_stat, i_iload, i_lload, i_aload, i_istore, i_astore, i_lstore, i_iinc, i_ii, i_idz, i_i, i_ll, i_lsh, i_i2l, i_l2i, i_lcmp, i_dup, i_pop, i_dup2, i_ifeq, i_ifne, i_iflt, i_ifge, i_ifgt, i_ifle, i_cmpeq, i_cmpne, i_cmplt, i_cmpge, i_cmpgt, i_cmple, i_ifnull, i_ifnonnull, i_getf, am_wr, i_putI, i_putZ, i_putR, i_iald, i_iast, i_aald, i_aast, i_alen, i_newi, i_newq, i_new, i_recv, i_iret, i_zret, i_lret, i_aret, i_vret, List.getElem?_cons_zero, List.getElem?_cons_succ, Option.bind_some, Option.toList_some, Option.toList_none, List.cons_append, List.nil_append, x_nI, am_put, List.length_cons, List.length_nil, List.set_cons_zero, List.set_cons_succ, Nat.reduceAdd, Nat.reduceLT, Nat.reduceLeDiff, Nat.reduceEqDiff, Nat.add_left_cancel_iff, Nat.add_eq_left, Nat.left_eq_add, Nat.succ_ne_self, Nat.reduceSub, reduceIte, ite_self, eq_self, or_true, true_or, or_false, false_or, or_self, i10, not_true_eq_false, not_false_eq_true, x_call1, x_call2, x_call3, x_call4, x_call5, x_call6, x_sl0, x_sli, x_slr, x_sln, x_sll, am_ent, List.map_nil, List.map_cons, List.sum_nil, List.sum_cons, Value.category, and_true, true_and, and_self, Nat.zero_le, List.replicate_succ, List.replicate_zero, List.reduceReplicate, x_obj_set, x_row_set, x_len_set, x_obx, x_rox, x_rv]
  exact e1
theorem k_writeCells2 {d b r cur : Nat} {s : sg_S} {ρ : Nat → sg_R} {bs : List Nat} (hdj : r + 1 < b ∨ b + 45 ≤ r) (hs : STv s) (hm : bs.length % 4 = 0) (hi : ∀ v, v < s.2.2.1 → sg_l0 s v = 0 → s.2.2.2.2 * sg_l1 s v ≤ 800) (hl : bs.length + (sg_cat (fun i => sg_cat (im_r s i) s.2.2.1) s.2.2.2.2).length ≤ 800) : ∀ (m i : Nat), i + m = s.2.2.2.2 → ∀ {A : am_H}, am_St A → ST b A s ρ → BR r A (bs ++ sg_cat (fun i => sg_cat (im_r s i) s.2.2.1) i) cur → ∃ B, pev (d + 4) 104 [some (.ref b), some (.ref r), some (.int (bz (decide (1 < sg_nr s)))), some (.int (nI i))] [] A = some (none, B) ∧ BR r B (bs ++ sg_cat (fun i => sg_cat (im_r s i) s.2.2.1) s.2.2.2.2) cur ∧ am_fr (at2 r) A B := by
  have h8 := hs.2.2.2.2
  intro m
  induction m with
  | zero =>
    intro i hii A hst h hB
    have hv : i = s.2.2.2.2 := by omega
    subst hv
    obtain ⟨-, hb, ⟨g1, g2, g3, q, a0, -⟩, -⟩ := id h
    refine ⟨A, ?_, hB, am_fr.refl A⟩
    refine e_104 ?_; simp only [b_104, i_int, i_long, i_null, i_stat, i_iload, i_lload, i_aload, i_istore, i_astore, i_lstore, i_iinc, i_ii, i_idz, i_i, i_ll, i_lsh, i_i2l, i_l2i, i_lcmp, i_dup, i_pop, i_dup2, i_ifeq, i_ifne, i_iflt, i_ifge, i_ifgt, i_ifle, i_cmpeq, i_cmpne, i_cmplt, i_cmpge, i_cmpgt, i_cmple, i_ifnull, i_ifnonnull, i_getf, am_wr, i_putI, i_putZ, i_putR, i_iald, i_iast, i_aald, i_aast, i_alen, i_newi, i_newq, i_new, i_recv, i_iret, i_zret, i_lret, i_aret, i_vret, List.getElem?_cons_zero, List.getElem?_cons_succ, Option.bind_some, Option.toList_some, Option.toList_none, List.cons_append, List.nil_append, x_nI, am_put, List.length_cons, List.length_nil, List.set_cons_zero, List.set_cons_succ, Nat.reduceAdd, Nat.reduceLT, Nat.reduceLeDiff, Nat.reduceEqDiff, Nat.add_left_cancel_iff, Nat.add_eq_left, Nat.left_eq_add, Nat.succ_ne_self, Nat.reduceSub, reduceIte, ite_self, eq_self, or_true, true_or, or_false, false_or, or_self, i10, not_true_eq_false, not_false_eq_true, x_call1, x_call2, x_call3, x_call4, x_call5, x_call6, x_sl0, x_sli, x_slr, x_sln, x_sll, am_ent, List.map_nil, List.map_cons, List.sum_nil, List.sum_cons, Value.category, and_true, true_and, and_self, Nat.zero_le, List.replicate_succ, List.replicate_zero, List.reduceReplicate, x_obj_set, x_row_set, x_len_set, x_obx, x_rox, x_rv, x_obj a0, show nI s.2.2.2.2 ≤ nI s.2.2.2.2 from nI_le (Nat.le_refl _) (by omega)]
  | succ m ih =>
    intro i hii A hst h hB
    have hr : 5 ≤ r := by obtain ⟨_, _, _, _, q, _⟩ := hB; exact q
    obtain ⟨-, hb, ⟨g1, g2, g3, q, a0, -⟩, -⟩ := id h
    have hc : ¬ nI s.2.2.2.2 ≤ nI i := nI_ge (by omega) (by omega)
    have hlen : bs.length + ((sg_cat (fun i => sg_cat (im_r s i) s.2.2.1) i).length + (sg_cat (im_r s i) s.2.2.1).length) ≤ 800 := by
      have := cat_le (f := fun i => sg_cat (im_r s i) s.2.2.1) (m := i + 1) (n := s.2.2.2.2) (by omega)
      rw [sg_cat, List.length_append] at this
      omega
    have hmm : 1 < sg_nr s → (bs ++ sg_cat (fun i => sg_cat (im_r s i) s.2.2.1) i).length % 4 = 0 := fun c2 => by
      have : (sg_cat (fun i => sg_cat (im_r s i) s.2.2.1) i).length % 4 = 0 := by
        rw [sg_cat_len]
        exact sum_mod (fun j _ => by
          rw [sg_cat_len]
          exact sum_mod (fun v _ => by
            rw [im_r_len, if_pos c2]
            split
            · exact pad4_mod _
            · rfl))
      rw [List.length_append]
      omega
    obtain ⟨B1, e1, b1, f1⟩ := k_writeRecord (d := d) (i := i) hdj hmm (fun v hv c => by
      have h1 := hi v hv c
      have h2 : (i + 1) * sg_l1 s v ≤ s.2.2.2.2 * sg_l1 s v := Nat.mul_le_mul_right _ (by omega)
      rw [Nat.succ_mul] at h2
      omega) (by rw [List.length_append]; omega) hst h hB
    obtain ⟨C, e2, b2, f2⟩ := ih (i + 1) (by omega) (hst.two f1 hr) (h.two f1 hdj) (by rw [sg_cat, ← List.append_assoc]; exact b1)
    refine ⟨C, ?_, b2, f1.trans f2⟩
    refine e_104 ?_; simp only [b_104, i_int, i_long, i_null, i_stat, i_iload, i_lload, i_aload, i_istore, i_astore, i_lstore, i_iinc, i_ii, i_idz, i_i, i_ll, i_lsh, i_i2l, i_l2i, i_lcmp, i_dup, i_pop, i_dup2, i_ifeq, i_ifne, i_iflt, i_ifge, i_ifgt, i_ifle, i_cmpeq, i_cmpne, i_cmplt, i_cmpge, i_cmpgt, i_cmple, i_ifnull, i_ifnonnull, i_getf, am_wr, i_putI, i_putZ, i_putR, i_iald, i_iast, i_aald, i_aast, i_alen, i_newi, i_newq, i_new, i_recv, i_iret, i_zret, i_lret, i_aret, i_vret, List.getElem?_cons_zero, List.getElem?_cons_succ, Option.bind_some, Option.toList_some, Option.toList_none, List.cons_append, List.nil_append, x_nI, am_put, List.length_cons, List.length_nil, List.set_cons_zero, List.set_cons_succ, Nat.reduceAdd, Nat.reduceLT, Nat.reduceLeDiff, Nat.reduceEqDiff, Nat.add_left_cancel_iff, Nat.add_eq_left, Nat.left_eq_add, Nat.succ_ne_self, Nat.reduceSub, reduceIte, ite_self, eq_self, or_true, true_or, or_false, false_or, or_self, i10, not_true_eq_false, not_false_eq_true, x_call1, x_call2, x_call3, x_call4, x_call5, x_call6, x_sl0, x_sli, x_slr, x_sln, x_sll, am_ent, List.map_nil, List.map_cons, List.sum_nil, List.sum_cons, Value.category, and_true, true_and, and_self, Nat.zero_le, List.replicate_succ, List.replicate_zero, List.reduceReplicate, x_obj_set, x_row_set, x_len_set, x_obx, x_rox, x_rv, x_obj a0, hc, e1, nI_1]
    exact e2
theorem k_writeCells {d b r cur : Nat} {A : am_H} {s : sg_S} {ρ : Nat → sg_R} {bs : List Nat} (hdj : r + 1 < b ∨ b + 45 ≤ r) (hm : bs.length % 4 = 0) (hi : ∀ v, v < s.2.2.1 → sg_l0 s v = 0 → s.2.2.2.2 * sg_l1 s v ≤ 800) (hl : bs.length + ((sg_cat (im_f s) s.2.2.1).length + (sg_cat (fun i => sg_cat (im_r s i) s.2.2.1) s.2.2.2.2).length) ≤ 800) (hst : am_St A) (h : ST b A s ρ) (hB : BR r A bs cur) : ∃ B, pev (d + 4) 101 [some (.ref b), some (.ref r), none, none] [] A = some (none, B) ∧ BR r B (bs ++ sg_cat (im_f s) s.2.2.1 ++ sg_cat (fun i => sg_cat (im_r s i) s.2.2.1) s.2.2.2.2) cur ∧ am_fr (at2 r) A B := by
  have hs := h.1
  obtain ⟨B1, o2, s1, s2, s3, f1, g1⟩ := k_writeCells1 (d := d) hdj hs hm (by omega) s.2.2.1 0 (by omega) (o := none) hst h (by simpa [sg_cat] using hB)
  have hfm := im_f_mod s s.2.2.1
  obtain ⟨B2, e2, b2, f2⟩ := k_writeCells2 (d := d) (bs := bs ++ sg_cat (im_f s) s.2.2.1) hdj hs (by rw [List.length_append]; omega) hi (by rw [List.length_append]; omega) s.2.2.2.2 0 (by omega) s1 s2 (by simpa [sg_cat] using s3)
  refine ⟨B2, ?_, b2, f1.trans f2⟩
  have en := k_recordVariables (d := d + 3) s2
  have hnr := sg_nr_le s
  have h5 := hs.2.2.1
  have ec : (nI (sg_nr s) ≤ (1 : Int32)) = (sg_nr s ≤ 1) := o_le (b := 1) (by omega) (by decide)
  have e3 := g1 B2 (by
    obtain ⟨-, hb, ⟨g1, g2, g3, q, a0, -⟩, -⟩ := id s2
    by_cases c : sg_nr s ≤ 1
    · rw [show decide (1 < sg_nr s) = false by simp; omega, bz_false] at e2
      refine e_102 ?_; simp only [b_102, i_int, i_long, i_null, i_stat, i_iload, i_lload, i_aload, i_istore, i_astore, i_lstore, i_iinc, i_ii, i_idz, i_i, i_ll, i_lsh, i_i2l, i_l2i, i_lcmp, i_dup, i_pop, i_dup2, i_ifeq, i_ifne, i_iflt, i_ifge, i_ifgt, i_ifle, i_cmpeq, i_cmpne, i_cmplt, i_cmpge, i_cmpgt, i_cmple, i_ifnull, i_ifnonnull, i_getf, am_wr, i_putI, i_putZ, i_putR, i_iald, i_iast, i_aald, i_aast, i_alen, i_newi, i_newq, i_new, i_recv, i_iret, i_zret, i_lret, i_aret, i_vret, List.getElem?_cons_zero, List.getElem?_cons_succ, Option.bind_some, Option.toList_some, Option.toList_none, List.cons_append, List.nil_append, x_nI, am_put, List.length_cons, List.length_nil, List.set_cons_zero, List.set_cons_succ, Nat.reduceAdd, Nat.reduceLT, Nat.reduceLeDiff, Nat.reduceEqDiff, Nat.add_left_cancel_iff, Nat.add_eq_left, Nat.left_eq_add, Nat.succ_ne_self, Nat.reduceSub, reduceIte, ite_self, eq_self, or_true, true_or, or_false, false_or, or_self, i10, not_true_eq_false, not_false_eq_true, x_call1, x_call2, x_call3, x_call4, x_call5, x_call6, x_sl0, x_sli, x_slr, x_sln, x_sll, am_ent, List.map_nil, List.map_cons, List.sum_nil, List.sum_cons, Value.category, and_true, true_and, and_self, Nat.zero_le, List.replicate_succ, List.replicate_zero, List.reduceReplicate, x_obj_set, x_row_set, x_len_set, x_obx, x_rox, x_rv, x_obj a0, show nI s.2.2.1 ≤ nI s.2.2.1 from nI_le (Nat.le_refl _) (by omega), en, ec, c]
      exact e2
    · rw [show decide (1 < sg_nr s) = true by simp; omega, bz_true] at e2
      refine e_102 ?_; simp only [b_102, i_int, i_long, i_null, i_stat, i_iload, i_lload, i_aload, i_istore, i_astore, i_lstore, i_iinc, i_ii, i_idz, i_i, i_ll, i_lsh, i_i2l, i_l2i, i_lcmp, i_dup, i_pop, i_dup2, i_ifeq, i_ifne, i_iflt, i_ifge, i_ifgt, i_ifle, i_cmpeq, i_cmpne, i_cmplt, i_cmpge, i_cmpgt, i_cmple, i_ifnull, i_ifnonnull, i_getf, am_wr, i_putI, i_putZ, i_putR, i_iald, i_iast, i_aald, i_aast, i_alen, i_newi, i_newq, i_new, i_recv, i_iret, i_zret, i_lret, i_aret, i_vret, List.getElem?_cons_zero, List.getElem?_cons_succ, Option.bind_some, Option.toList_some, Option.toList_none, List.cons_append, List.nil_append, x_nI, am_put, List.length_cons, List.length_nil, List.set_cons_zero, List.set_cons_succ, Nat.reduceAdd, Nat.reduceLT, Nat.reduceLeDiff, Nat.reduceEqDiff, Nat.add_left_cancel_iff, Nat.add_eq_left, Nat.left_eq_add, Nat.succ_ne_self, Nat.reduceSub, reduceIte, ite_self, eq_self, or_true, true_or, or_false, false_or, or_self, i10, not_true_eq_false, not_false_eq_true, x_call1, x_call2, x_call3, x_call4, x_call5, x_call6, x_sl0, x_sli, x_slr, x_sln, x_sll, am_ent, List.map_nil, List.map_cons, List.sum_nil, List.sum_cons, Value.category, and_true, true_and, and_self, Nat.zero_le, List.replicate_succ, List.replicate_zero, List.reduceReplicate, x_obj_set, x_row_set, x_len_set, x_obx, x_rox, x_rv, x_obj a0, show nI s.2.2.1 ≤ nI s.2.2.1 from nI_le (Nat.le_refl _) (by omega), en, ec, c]
      exact e2)
  refine e_101 ?_; simp only [b_101, i_int, i_long, i_null, i_stat, i_iload, i_lload, i_aload, i_istore, i_astore, i_lstore, i_iinc, i_ii, i_idz, i_i, i_ll, i_lsh, i_i2l, i_l2i, i_lcmp, i_dup, i_pop, i_dup2, i_ifeq, i_ifne, i_iflt, i_ifge, i_ifgt, i_ifle, i_cmpeq, i_cmpne, i_cmplt, i_cmpge, i_cmpgt, i_cmple, i_ifnull, i_ifnonnull, i_getf, am_wr, i_putI, i_putZ, i_putR, i_iald, i_iast, i_aald, i_aast, i_alen, i_newi, i_newq, i_new, i_recv, i_iret, i_zret, i_lret, i_aret, i_vret, List.getElem?_cons_zero, List.getElem?_cons_succ, Option.bind_some, Option.toList_some, Option.toList_none, List.cons_append, List.nil_append, x_nI, am_put, List.length_cons, List.length_nil, List.set_cons_zero, List.set_cons_succ, Nat.reduceAdd, Nat.reduceLT, Nat.reduceLeDiff, Nat.reduceEqDiff, Nat.add_left_cancel_iff, Nat.add_eq_left, Nat.left_eq_add, Nat.succ_ne_self, Nat.reduceSub, reduceIte, ite_self, eq_self, or_true, true_or, or_false, false_or, or_self, i10, not_true_eq_false, not_false_eq_true, x_call1, x_call2, x_call3, x_call4, x_call5, x_call6, x_sl0, x_sli, x_slr, x_sln, x_sll, am_ent, List.map_nil, List.map_cons, List.sum_nil, List.sum_cons, Value.category, and_true, true_and, and_self, Nat.zero_le, List.replicate_succ, List.replicate_zero, List.reduceReplicate, x_obj_set, x_row_set, x_len_set, x_obx, x_rox, x_rv]
  exact e3
