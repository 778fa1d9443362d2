/-! writing the image -/
theorem cat_add (F : Nat → List Nat) (a b : Nat) : sg_cat F (a + b) = sg_cat F a ++ sg_cat (fun j => F (a + j)) b := by
  induction b with
  | zero => simp [sg_cat]
  | succ b ih => rw [← Nat.add_assoc, sg_cat, ih, sg_cat, List.append_assoc]
theorem cat_flat (F : Nat → List Nat) (c n : Nat) : sg_cat (fun i => sg_cat (fun j => F (i * c + j)) c) n = sg_cat F (n * c) := by
  induction n with
  | zero => rw [Nat.zero_mul]; rfl
  | succ n ih => rw [sg_cat, ih, Nat.succ_mul, cat_add]
theorem im_v_mod (s : sg_S) (v : Nat) : (im_v s v).length % 4 = 0 := by
  rw [im_v_len]
  have := sg_ls_mod (s.2.2.2.1 v).2.2.2.2.1
  omega
theorem k_writeVar62 {d b r cur v : Nat} {A : am_H} {s : sg_S} {ρ : Nat → sg_R} {bs : List Nat} {x : Int32} (hdj : r + 1 < b ∨ b + 45 ≤ r) (hst : am_St A) (h : ST b A s ρ) (hv : v < s.2.2.1) (hB : BR r A bs cur) (hm : bs.length % 4 = 0) (hl : bs.length + sg_ls (s.2.2.2.1 v).2.2.2.2.1 + 12 ≤ 800) : ∃ B, pev (d + 4) 100 [some (.ref b), some (.ref r), some (.int (nI v)), some (.int x), some (.ref (b + 5 + 7 * v))] [] A = some (none, B) ∧ BR r B (bs ++ im_a (s.2.2.2.1 v).2.2.2.2.1 ++ wrd (s.2.2.2.1 v).2.1 ++ wrd (sg_ps s v) ++ num x 4) cur ∧ am_fr (at2 r) A B := by
  have hs := h.1
  have h5 := hs.2.2.1
  obtain ⟨⟨t1, t4⟩, -⟩ := hs.2.2.2.1 v hv
  have hr : 5 ≤ r := by obtain ⟨_, _, _, _, q, _⟩ := hB; exact q
  have V0 := h.var hv
  obtain ⟨g, p0, p1, p2, pA, p5⟩ := id V0
  obtain ⟨B1, e1, b1, f1⟩ := k_awrite (d := d) (r := r) (by omega) hm (by simp only [sg_raw]; omega) hst pA hB
  simp only [sg_raw] at b1
  have hla := im_a_len (s.2.2.2.1 v).2.2.2.2.1
  have V1 := V0.two f1 (by omega)
  obtain ⟨B2, e2, b2, f2⟩ := k_appendWord (d := d + 1) (x := nI (s.2.2.2.1 v).2.1) b1 (by rw [List.length_append]; omega)
  have V2 := V1.two f2 (by omega)
  have S2 := (hst.two f1 hr).two f2 hr
  have e3 := k_paddedSize (d := d + 2) S2 V2 t1 t4 (hs.l0 hv) (hs.l1 hv)
  rw [vps_raw] at e3
  obtain ⟨B3, e4, b3, f3⟩ := k_appendWord (d := d + 1) (x := nI (sg_ps s v)) b2 (by simp only [List.length_append, num_len]; omega)
  obtain ⟨B4, e5, b4, f4⟩ := k_appendWord (d := d + 1) (x := x) b3 (by simp only [List.length_append, num_len]; omega)
  refine ⟨B4, ?_, b4, f1.trans (f2.trans (f3.trans f4))⟩
  obtain ⟨_, _, _, _, w0, -⟩ := id pA
  obtain ⟨_, u1, -⟩ := id V1
  obtain ⟨_, u2, -⟩ := id V2
  obtain ⟨_, q1, -⟩ := id b1
  obtain ⟨_, q2, -⟩ := id b2
  obtain ⟨_, q3, -⟩ := id b3
  refine e_100 ?_; simp only [b_100, i_int, i_long, i_null, i_stat, i_iload, i_lload, i_aload, i_istore, i_astore, i_lstore, i_iinc, i_ii, i_idz, i_i, i_ll, i_lsh, i_i2l, i_l2i, i_lcmp, i_dup, i_pop, i_dup2, i_ifeq, i_ifne, i_iflt, i_ifge, i_ifgt, i_ifle, i_cmpeq, i_cmpne, i_cmplt, i_cmpge, i_cmpgt, i_cmple, i_ifnull, i_ifnonnull, i_getf, am_wr, i_putI, i_putZ, i_putR, i_iald, i_iast, i_aald, i_aast, i_alen, i_newi, i_newq, i_new, i_recv, i_iret, i_zret, i_lret, i_aret, i_vret, List.getElem?_cons_zero, List.getElem?_cons_succ, Option.bind_some, Option.toList_some, Option.toList_none, List.cons_append, List.nil_append, x_nI, am_put, List.length_cons, List.length_nil, List.set_cons_zero, List.set_cons_succ, Nat.reduceAdd, Nat.reduceLT, Nat.reduceLeDiff, Nat.reduceEqDiff, Nat.add_left_cancel_iff, Nat.add_eq_left, Nat.left_eq_add, Nat.succ_ne_self, Nat.reduceSub, reduceIte, ite_self, eq_self, or_true, true_or, or_false, false_or, or_self, i10, not_true_eq_false, not_false_eq_true, x_call1, x_call2, x_call3, x_call4, x_call5, x_call6, x_sl0, x_sli, x_slr, x_sln, x_sll, am_ent, List.map_nil, List.map_cons, List.sum_nil, List.sum_cons, Value.category, and_true, true_and, and_self, Nat.zero_le, List.replicate_succ, List.replicate_zero, List.reduceReplicate, x_obj_set, x_row_set, x_len_set, x_obx, x_rox, x_rv, x_obj p0, x_obj w0, e1, x_obj u1, x_obj q1, sg_raw, e2, x_obj u2, e3, x_obj q2, e4, x_obj q3, e5]
theorem k_writeVariable {d b r cur v : Nat} {A : am_H} {s : sg_S} {ρ : Nat → sg_R} {bs : List Nat} (hdj : r + 1 < b ∨ b + 45 ≤ r) (hst : am_St A) (h : ST b A s ρ) (hv : v < s.2.2.1) (hB : BR r A bs cur) (hm : bs.length % 4 = 0) (hl : bs.length + (im_v s v).length ≤ 800) : ∃ B, pev (d + 4) 99 [some (.ref b), some (.ref r), some (.int (nI v)), some (.int (nI (sg_bg s v))), none] [] A = some (none, B) ∧ BR r B (bs ++ im_v s v) cur ∧ am_fr (at2 r) A B := by
  rw [im_v_len] at hl
  have hs := h.1
  have h5 := hs.2.2.1
  have hax := vax_raw hs hv
  obtain ⟨-, x2, x3, -⟩ := hs.2.2.2.1 v hv
  have hr : 5 ≤ r := by obtain ⟨_, _, _, _, q, _⟩ := hB; exact q
  obtain ⟨-, hb, ⟨g1, g2, g3, q, a0, a1, a2, a3, a4, a5, a6, a7⟩, -⟩ := id h
  have V0 := h.var hv
  obtain ⟨B1, e1, b1, f1⟩ := k_appendName (d := d + 1) (x := (s.2.2.2.1 v).1) hB (by omega)
  have V1 := V0.two f1 (by omega)
  have c1 := k_axisCount (d := d + 3) V1
  rw [hax] at c1
  obtain ⟨B2, e2, b2, f2⟩ := k_appendWord (d := d + 1) (x := nI (s.2.2.2.1 v).2.2.1) b1 (by rw [List.length_append, nam_len]; omega)
  have V2 := V1.two f2 (by omega)
  have c2 := k_axisCount (d := d + 3) V2
  rw [hax] at c2
  obtain ⟨_, u0, -⟩ := id V0
  obtain ⟨_, u1, -⟩ := id V1
  obtain ⟨_, u2, -⟩ := id V2
  obtain ⟨_, q0, -⟩ := id hB
  obtain ⟨_, q1, -⟩ := id b1
  obtain ⟨_, q2, -⟩ := id b2
  have ix := x_ix (show v < 5 by omega) (show v < 2147483648 by omega)
  have F2 := f1.trans f2
  rcases (show (s.2.2.2.1 v).2.2.1 = 0 ∨ (s.2.2.2.1 v).2.2.1 = 1 ∨ (s.2.2.2.1 v).2.2.1 = 2 by omega) with e | e | e
  · obtain ⟨B5, e5, b5, f5⟩ := k_writeVar62 (d := d) (x := nI (sg_bg s v)) hdj (hst.two F2 hr) (h.two F2 hdj) hv b2 (by simp only [List.length_append, nam_len, num_len]; omega) (by simp only [List.length_append, nam_len, num_len]; omega)
    refine ⟨B5, ?_, ?_, F2.trans f5⟩
    · rw [e] at e2 c1 c2
      refine e_99 ?_; simp only [b_99, i_int, i_long, i_null, i_stat, i_iload, i_lload, i_aload, i_istore, i_astore, i_lstore, i_iinc, i_ii, i_idz, i_i, i_ll, i_lsh, i_i2l, i_l2i, i_lcmp, i_dup, i_pop, i_dup2, i_ifeq, i_ifne, i_iflt, i_ifge, i_ifgt, i_ifle, i_cmpeq, i_cmpne, i_cmplt, i_cmpge, i_cmpgt, i_cmple, i_ifnull, i_ifnonnull, i_getf, am_wr, i_putI, i_putZ, i_putR, i_iald, i_iast, i_aald, i_aast, i_alen, i_newi, i_newq, i_new, i_recv, i_iret, i_zret, i_lret, i_aret, i_vret, List.getElem?_cons_zero, List.getElem?_cons_succ, Option.bind_some, Option.toList_some, Option.toList_none, List.cons_append, List.nil_append, x_nI, am_put, List.length_cons, List.length_nil, List.set_cons_zero, List.set_cons_succ, Nat.reduceAdd, Nat.reduceLT, Nat.reduceLeDiff, Nat.reduceEqDiff, Nat.add_left_cancel_iff, Nat.add_eq_left, Nat.left_eq_add, Nat.succ_ne_self, Nat.reduceSub, reduceIte, ite_self, eq_self, or_true, true_or, or_false, false_or, or_self, i10, not_true_eq_false, not_false_eq_true, x_call1, x_call2, x_call3, x_call4, x_call5, x_call6, x_sl0, x_sli, x_slr, x_sln, x_sll, am_ent, List.map_nil, List.map_cons, List.sum_nil, List.sum_cons, Value.category, and_true, true_and, and_self, Nat.zero_le, List.replicate_succ, List.replicate_zero, List.reduceReplicate, x_obj_set, x_row_set, x_len_set, x_obx, x_rox, x_rv, x_obj a0, x_refs a4, ix, a5 v (show v < 5 by omega), x_row a3, a7 v hv, x_obj q0, e1, x_obj u1, c1, x_obj q1, e2, x_obj u2, c2, show (nI 0 ≤ 0) = True by decide, show (nI 0 ≤ 1) = True by decide]
      exact e5
    · rw [e] at b5
      simp only [im_v, e, sg_cat, wrd, List.append_assoc, List.append_nil] at b5 ⊢
      exact b5
  · obtain ⟨B3, e3, b3, f3⟩ := k_appendWord (d := d + 1) (x := nI ((s.2.2.2.1 v).2.2.2.1 0)) b2 (by simp only [List.length_append, nam_len, num_len]; omega)
    have V3 := V2.two f3 (by omega)
    have c3 := k_axisCount (d := d + 3) V3
    rw [hax] at c3
    have F3 := F2.trans f3
    obtain ⟨B5, e5, b5, f5⟩ := k_writeVar62 (d := d) (x := nI (sg_bg s v)) hdj (hst.two F3 hr) (h.two F3 hdj) hv b3 (by simp only [List.length_append, nam_len, num_len]; omega) (by simp only [List.length_append, nam_len, num_len]; omega)
    obtain ⟨_, u3, -⟩ := id V3
    refine ⟨B5, ?_, ?_, F3.trans f5⟩
    · have hraw : (sg_raw s v).2.1 = nI ((s.2.2.2.1 v).2.2.2.1 0) := by simp [sg_raw, e]
      rw [e] at e2 c1 c2 c3
      refine e_99 ?_; simp only [b_99, i_int, i_long, i_null, i_stat, i_iload, i_lload, i_aload, i_istore, i_astore, i_lstore, i_iinc, i_ii, i_idz, i_i, i_ll, i_lsh, i_i2l, i_l2i, i_lcmp, i_dup, i_pop, i_dup2, i_ifeq, i_ifne, i_iflt, i_ifge, i_ifgt, i_ifle, i_cmpeq, i_cmpne, i_cmplt, i_cmpge, i_cmpgt, i_cmple, i_ifnull, i_ifnonnull, i_getf, am_wr, i_putI, i_putZ, i_putR, i_iald, i_iast, i_aald, i_aast, i_alen, i_newi, i_newq, i_new, i_recv, i_iret, i_zret, i_lret, i_aret, i_vret, List.getElem?_cons_zero, List.getElem?_cons_succ, Option.bind_some, Option.toList_some, Option.toList_none, List.cons_append, List.nil_append, x_nI, am_put, List.length_cons, List.length_nil, List.set_cons_zero, List.set_cons_succ, Nat.reduceAdd, Nat.reduceLT, Nat.reduceLeDiff, Nat.reduceEqDiff, Nat.add_left_cancel_iff, Nat.add_eq_left, Nat.left_eq_add, Nat.succ_ne_self, Nat.reduceSub, reduceIte, ite_self, eq_self, or_true, true_or, or_false, false_or, or_self, i10, not_true_eq_false, not_false_eq_true, x_call1, x_call2, x_call3, x_call4, x_call5, x_call6, x_sl0, x_sli, x_slr, x_sln, x_sll, am_ent, List.map_nil, List.map_cons, List.sum_nil, List.sum_cons, Value.category, and_true, true_and, and_self, Nat.zero_le, List.replicate_succ, List.replicate_zero, List.reduceReplicate, x_obj_set, x_row_set, x_len_set, x_obx, x_rox, x_rv, x_obj a0, x_refs a4, ix, a5 v (show v < 5 by omega), x_row a3, a7 v hv, x_obj q0, e1, x_obj u1, c1, x_obj q1, e2, x_obj u2, c2, hraw, show (nI 1 ≤ 0) = False by decide, x_obj q2, e3, x_obj u3, c3, show (nI 1 ≤ 1) = True by decide]
      exact e5
    · rw [e] at b5
      simp only [im_v, e, sg_cat, wrd, List.append_assoc, List.append_nil, List.nil_append] at b5 ⊢
      exact b5
  · obtain ⟨B3, e3, b3, f3⟩ := k_appendWord (d := d + 1) (x := nI ((s.2.2.2.1 v).2.2.2.1 0)) b2 (by simp only [List.length_append, nam_len, num_len]; omega)
    have V3 := V2.two f3 (by omega)
    have c3 := k_axisCount (d := d + 3) V3
    rw [hax] at c3
    obtain ⟨B4, e4, b4, f4⟩ := k_appendWord (d := d + 1) (x := nI ((s.2.2.2.1 v).2.2.2.1 1)) b3 (by simp only [List.length_append, nam_len, num_len]; omega)
    have F4 := F2.trans (f3.trans f4)
    obtain ⟨B5, e5, b5, f5⟩ := k_writeVar62 (d := d) (x := nI (sg_bg s v)) hdj (hst.two F4 hr) (h.two F4 hdj) hv b4 (by simp only [List.length_append, nam_len, num_len]; omega) (by simp only [List.length_append, nam_len, num_len]; omega)
    obtain ⟨_, u3, -⟩ := id V3
    obtain ⟨_, q3, -⟩ := id b3
    refine ⟨B5, ?_, ?_, F4.trans f5⟩
    · have hraw : (sg_raw s v).2.1 = nI ((s.2.2.2.1 v).2.2.2.1 0) := by simp [sg_raw, e]
      have hraw2 : (sg_raw s v).2.2.1 = nI ((s.2.2.2.1 v).2.2.2.1 1) := by simp [sg_raw, e]
      rw [e] at e2 c1 c2 c3
      refine e_99 ?_; simp only [b_99, i_int, i_long, i_null, i_stat, i_iload, i_lload, i_aload, i_istore, i_astore, i_lstore, i_iinc, i_ii, i_idz, i_i, i_ll, i_lsh, i_i2l, i_l2i, i_lcmp, i_dup, i_pop, i_dup2, i_ifeq, i_ifne, i_iflt, i_ifge, i_ifgt, i_ifle, i_cmpeq, i_cmpne, i_cmplt, i_cmpge, i_cmpgt, i_cmple, i_ifnull, i_ifnonnull, i_getf, am_wr, i_putI, i_putZ, i_putR, i_iald, i_iast, i_aald, i_aast, i_alen, i_newi, i_newq, i_new, i_recv, i_iret, i_zret, i_lret, i_aret, i_vret, List.getElem?_cons_zero, List.getElem?_cons_succ, Option.bind_some, Option.toList_some, Option.toList_none, List.cons_append, List.nil_append, x_nI, am_put, List.length_cons, List.length_nil, List.set_cons_zero, List.set_cons_succ, Nat.reduceAdd, Nat.reduceLT, Nat.reduceLeDiff, Nat.reduceEqDiff, Nat.add_left_cancel_iff, Nat.add_eq_left, Nat.left_eq_add, Nat.succ_ne_self, Nat.reduceSub, reduceIte, ite_self, eq_self, or_true, true_or, or_false, false_or, or_self, i10, not_true_eq_false, not_false_eq_true, x_call1, x_call2, x_call3, x_call4, x_call5, x_call6, x_sl0, x_sli, x_slr, x_sln, x_sll, am_ent, List.map_nil, List.map_cons, List.sum_nil, List.sum_cons, Value.category, and_true, true_and, and_self, Nat.zero_le, List.replicate_succ, List.replicate_zero, List.reduceReplicate, x_obj_set, x_row_set, x_len_set, x_obx, x_rox, x_rv, x_obj a0, x_refs a4, ix, a5 v (show v < 5 by omega), x_row a3, a7 v hv, x_obj q0, e1, x_obj u1, c1, x_obj q1, e2, x_obj u2, c2, hraw, hraw2, show (nI 2 ≤ 0) = False by decide, x_obj q2, e3, x_obj u3, c3, show (nI 2 ≤ 1) = False by decide, x_obj q3, e4]
      exact e5
    · rw [e] at b5
      simp only [im_v, e, sg_cat, wrd, List.append_assoc, List.append_nil, List.nil_append] at b5 ⊢
      exact b5
/-! cells of variables that don't grow -/
theorem im_f_mod (s : sg_S) (k : Nat) : (sg_cat (im_f s) k).length % 4 = 0 := by
  rw [sg_cat_len]
  exact sum_mod (fun j _ => by
    rw [im_f_len]
    split
    · rfl
    · exact pad4_mod _)
theorem wrow_raw (s : sg_S) (v i j : Nat) : wrow (sg_raw s v) i j = num ((s.2.2.2.1 v).2.2.2.2.2 (i * sg_l1 s v + j)) (wd (s.2.2.2.1 v).2.1) := rfl
theorem rows_c (s : sg_S) (v n : Nat) : sg_cat (fun i => sg_cat (wrow (sg_raw s v) i) (sg_l1 s v)) n = im_c s v 0 (n * sg_l1 s v) := by
  have := cat_flat (fun k => num ((s.2.2.2.1 v).2.2.2.2.2 k) (wd (s.2.2.2.1 v).2.1)) (sg_l1 s v) n
  unfold im_c
  simp only [Nat.zero_add]
  exact this
theorem k_writeRows {d b r cur v : Nat} {s : sg_S} {ρ : Nat → sg_R} {bs : List Nat} (hdj : r + 1 < b ∨ b + 45 ≤ r) (hv : v < s.2.2.1) (hs : STv s) (hl : bs.length + sg_l0 s v * sg_l1 s v * wd (s.2.2.2.1 v).2.1 ≤ 800) : ∀ (m i : Nat), i + m = sg_l0 s v → ∀ {A : am_H}, am_St A → ST b A s ρ → BR r A (bs ++ im_c s v 0 (i * sg_l1 s v)) cur → ∃ B, am_St B ∧ ST b B s ρ ∧ BR r B (bs ++ im_c s v 0 (sg_l0 s v * sg_l1 s v)) cur ∧ am_fr (at2 r) A B ∧ ∀ Y, pev (d + 4) 103 [some (.ref b), some (.ref r), some (.int (nI v)), some (.int (nI (sg_l0 s v)))] [] B = some (none, Y) → pev (d + 4) 103 [some (.ref b), some (.ref r), some (.int (nI v)), some (.int (nI i))] [] A = some (none, Y) := by
  intro m
  induction m with
  | zero =>
    intro i hi A hst h hB
    have hii : i = sg_l0 s v := by omega
    subst hii
    exact ⟨A, hst, h, hB, am_fr.refl A, fun Y hY => hY⟩
  | succ m ih =>
    intro i hi A hst h hB
    have h5 := hs.2.2.1
    have hr : 5 ≤ r := by obtain ⟨_, _, _, _, q, _⟩ := hB; exact q
    obtain ⟨⟨t1, t4⟩, -⟩ := hs.2.2.2.1 v hv
    have l0 := hs.l0 hv
    have l1 := hs.l1 hv
    have hm1 : (i + 1) * sg_l1 s v ≤ sg_l0 s v * sg_l1 s v := Nat.mul_le_mul_right _ (by omega)
    have hm2 : sg_l0 s v * sg_l1 s v ≤ 8 * 8 := Nat.mul_le_mul l0 l1
    have hm3 : (i + 1) * sg_l1 s v * wd (s.2.2.2.1 v).2.1 ≤ sg_l0 s v * sg_l1 s v * wd (s.2.2.2.1 v).2.1 := Nat.mul_le_mul_right _ hm1
    rw [Nat.succ_mul] at hm1
    have hm4 : (i + 1) * sg_l1 s v * wd (s.2.2.2.1 v).2.1 = i * sg_l1 s v * wd (s.2.2.2.1 v).2.1 + sg_l1 s v * wd (s.2.2.2.1 v).2.1 := by rw [Nat.succ_mul, Nat.add_mul]
    obtain ⟨B, e1, b1, f1⟩ := k_writeRow (d := d + 1) (i := i) (by omega) t1 t4 l1 (show i * sg_l1 s v + sg_l1 s v ≤ 800 by omega) (show (bs ++ im_c s v 0 (i * sg_l1 s v)).length + sg_l1 s v * wd (s.2.2.2.1 v).2.1 ≤ 800 by rw [List.length_append, im_c_len]; omega) hst (h.var hv) hB
    have hcat : bs ++ im_c s v 0 ((i + 1) * sg_l1 s v) = bs ++ im_c s v 0 (i * sg_l1 s v) ++ sg_cat (wrow (sg_raw s v) i) (sg_l1 s v) := by
      rw [← rows_c, ← rows_c, sg_cat, List.append_assoc]
    obtain ⟨C, s1, s2, s3, f2, g2⟩ := ih (i + 1) (by omega) (hst.two f1 hr) (h.two f1 hdj) (by rw [hcat]; exact b1)
    refine ⟨C, s1, s2, s3, f1.trans f2, fun Y hY => ?_⟩
    have e2 := g2 Y hY
    obtain ⟨-, hb, ⟨g1, g2, g3, q, a0, a1, a2, a3, a4, a5, a6, a7⟩, -⟩ := id h
    obtain ⟨_, u0, -⟩ := id (h.var hv)
    have hc : ¬ nI (sg_l0 s v) ≤ nI i := nI_ge (by omega) (by omega)
    refine e_103 ?_; simp only [b_103, i_int, i_long, i_null, i_stat, i_iload, i_lload, i_aload, i_istore, i_astore, i_lstore, i_iinc, i_ii, i_idz, i_i, i_ll, i_lsh, i_i2l, i_l2i, i_lcmp, i_dup, i_pop, i_dup2, i_ifeq, i_ifne, i_iflt, i_ifge, i_ifgt, i_ifle, i_cmpeq, i_cmpne, i_cmplt, i_cmpge, i_cmpgt, i_cmple, i_ifnull, i_ifnonnull, i_getf, am_wr, i_putI, i_putZ, i_putR, i_iald, i_iast, i_aald, i_aast, i_alen, i_newi, i_newq, i_new, i_recv, i_iret, i_zret, i_lret, i_aret, i_vret, List.getElem?_cons_zero, List.getElem?_cons_succ, Option.bind_some, Option.toList_some, Option.toList_none, List.cons_append, List.nil_append, x_nI, am_put, List.length_cons, List.length_nil, List.set_cons_zero, List.set_cons_succ, Nat.reduceAdd, Nat.reduceLT, Nat.reduceLeDiff, Nat.reduceEqDiff, Nat.add_left_cancel_iff, Nat.add_eq_left, Nat.left_eq_add, Nat.succ_ne_self, Nat.reduceSub, reduceIte, ite_self, eq_self, or_true, true_or, or_false, false_or, or_self, i10, not_true_eq_false, not_false_eq_true, x_call1, x_call2, x_call3, x_call4, x_call5, x_call6, x_sl0, x_sli, x_slr, x_sln, x_sll, am_ent, List.map_nil, List.map_cons, List.sum_nil, List.sum_cons, Value.category, and_true, true_and, and_self, Nat.zero_le, List.replicate_succ, List.replicate_zero, List.reduceReplicate, x_obj_set, x_row_set, x_len_set, x_obx, x_rox, x_rv, x_obj a0, x_refs a4, x_ix (show v < 5 by omega) (show v < 2147483648 by omega), a5 v (show v < 5 by omega), x_obj u0, show (sg_raw s v).2.2.2.2.1 = sg_l0 s v from rfl, hc, e1, nI_1]
    exact e2
