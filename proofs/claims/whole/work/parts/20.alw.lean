/-! writing a list of attributes -/
theorem cat_le {f : Nat → List Nat} {m n : Nat} (h : m ≤ n) : (sg_cat f m).length ≤ (sg_cat f n).length := by
  rw [sg_cat_len, sg_cat_len]
  exact sg_sum_mono h
theorem ia1_mod (a : sg_A) (k : Nat) : (sg_cat (ia1 a) k).length % 4 = 0 := by
  rw [sg_cat_len]
  exact sum_mod (fun j _ => by
    rw [ia1_len]
    have := pad4_mod (2 * wd (a.2.2.1 j))
    omega)
theorem AL.two {p r : Nat} {A B : am_H} {a : sg_A} (h : AL p A a) (hf : am_fr (at2 r) A B) (hdj : r + 1 < p ∨ p + 5 ≤ r) : AL p B a := h.kept hf (fun q h1 h2 h3 => by
  unfold at2 at h3
  omega)
theorem am_St.two {r : Nat} {A B : am_H} (h : am_St A) (hf : am_fr (at2 r) A B) (hr : 5 ≤ r) : am_St B := h.kept hf (fun q h1 h3 => by
  unfold at2 at h3
  omega)
theorem k_awrite1 {d p r cur : Nat} {a : sg_A} {bs : List Nat} (hdj : r + 1 < p ∨ p + 5 ≤ r) (hm : bs.length % 4 = 0) (hl : bs.length + (sg_cat (ia1 a) a.1).length ≤ 800) : ∀ (m k : Nat), k + m = a.1 → ∀ {A : am_H}, am_St A → AL p A a → BR r A (bs ++ sg_cat (ia1 a) k) cur → ∃ B, pev (d + 3) 96 [some (.ref p), some (.ref r), some (.int (nI k))] [] A = some (none, B) ∧ BR r B (bs ++ sg_cat (ia1 a) a.1) cur ∧ am_fr (at2 r) A B := by
  intro m
  induction m with
  | zero =>
    intro k hk A hs hA hB
    obtain ⟨g1, g2, g3, g4, h0, h1, h2, h3, h4, h5, h6, h7⟩ := id hA
    have hka : k = a.1 := by omega
    subst hka
    refine ⟨A, ?_, hB, am_fr.refl A⟩
    refine e_96 ?_; simp only [b_96, i_int, i_long, i_null, i_stat, i_iload, i_lload, i_aload, i_istore, i_astore, i_lstore, i_iinc, i_ii, i_idz, i_i, i_ll, i_lsh, i_i2l, i_l2i, i_lcmp, i_dup, i_pop, i_dup2, i_ifeq, i_ifne, i_iflt, i_ifge, i_ifgt, i_ifle, i_cmpeq, i_cmpne, i_cmplt, i_cmpge, i_cmpgt, i_cmple, i_ifnull, i_ifnonnull, i_getf, am_wr, i_putI, i_putZ, i_putR, i_iald, i_iast, i_aald, i_aast, i_alen, i_newi, i_newq, i_new, i_recv, i_iret, i_zret, i_lret, i_aret, i_vret, List.getElem?_cons_zero, List.getElem?_cons_succ, Option.bind_some, Option.toList_some, Option.toList_none, List.cons_append, List.nil_append, x_nI, am_put, List.length_cons, List.length_nil, List.set_cons_zero, List.set_cons_succ, Nat.reduceAdd, Nat.reduceLT, Nat.reduceLeDiff, Nat.reduceEqDiff, Nat.add_left_cancel_iff, Nat.add_eq_left, Nat.left_eq_add, Nat.succ_ne_self, Nat.reduceSub, reduceIte, ite_self, not_true_eq_false, not_false_eq_true, x_call1, x_call2, x_call3, x_call4, x_call5, x_call6, x_sl0, x_sli, x_slr, x_sln, x_sll, am_ent, List.map_nil, List.map_cons, List.sum_nil, List.sum_cons, Value.category, and_true, true_and, and_self, Nat.zero_le, List.replicate_succ, List.replicate_zero, List.reduceReplicate, x_obj_set, x_row_set, x_len_set, x_obx, x_rox, x_obj h0, show nI a.1 ≤ nI a.1 from nI_le (Nat.le_refl _) (by omega)]
  | succ m ih =>
    intro k hk A hs hA hB
    obtain ⟨g1, g2, g3, g4, h0, h1, h2, h3, h4, h5, h6, h7⟩ := id hA
    have hr : 5 ≤ r := by obtain ⟨_, _, _, _, q, _⟩ := hB; exact q
    obtain ⟨n1, n2, n3, n4, t1, t4⟩ := h7 k (by omega)
    have hw := wd_le (a.2.2.1 k)
    have hlen : bs.length + ((sg_cat (ia1 a) k).length + (16 + pad4 (2 * wd (a.2.2.1 k)))) ≤ 800 := by
      have := cat_le (f := ia1 a) (m := k + 1) (n := a.1) (by omega)
      rw [sg_cat, List.length_append, ia1_len] at this
      omega
    have hpg := pad4_ge (2 * wd (a.2.2.1 k))
    have hP : (bs ++ sg_cat (ia1 a) k).length = bs.length + (sg_cat (ia1 a) k).length := List.length_append
    have hPm := ia1_mod a k
    obtain ⟨B1, e1, b1, f1⟩ := k_appendName (d := d) (x := a.2.1 k) hB (by omega)
    obtain ⟨B2, e2, b2, f2⟩ := k_appendWord (d := d) (x := nI (a.2.2.1 k)) b1 (by simp only [List.length_append, nam_len]; omega)
    obtain ⟨B3, e3, b3, f3⟩ := k_appendWord (d := d) (x := nI 2) b2 (by simp only [List.length_append, nam_len, num_len]; omega)
    obtain ⟨B4, e4, b4, f4⟩ := k_appendNumber (d := d + 1) (x := a.2.2.2.1 k) (w := wd (a.2.2.1 k)) hw b3 (by simp only [List.length_append, nam_len, num_len]; omega)
    obtain ⟨B5, e5, b5, f5⟩ := k_appendNumber (d := d + 1) (x := a.2.2.2.2 k) (w := wd (a.2.2.1 k)) hw b4 (by simp only [List.length_append, nam_len, num_len]; omega)
    obtain ⟨B6, e6, b6, f6⟩ := k_appendPadding (d := d + 1) b5
    have hpd : (bs ++ sg_cat (ia1 a) k ++ nam (a.2.1 k) ++ num (nI (a.2.2.1 k)) 4 ++ num (nI 2) 4 ++ num (a.2.2.2.1 k) (wd (a.2.2.1 k)) ++ num (a.2.2.2.2 k) (wd (a.2.2.1 k))).length = (bs.length + (sg_cat (ia1 a) k).length + 16) + 2 * wd (a.2.2.1 k) := by
      simp only [List.length_append, nam_len, num_len]
      omega
    rw [hpd, padl_mod (by omega)] at b6
    have hcat : bs ++ sg_cat (ia1 a) (k + 1) = bs ++ sg_cat (ia1 a) k ++ nam (a.2.1 k) ++ num (nI (a.2.2.1 k)) 4 ++ num (nI 2) 4 ++ num (a.2.2.2.1 k) (wd (a.2.2.1 k)) ++ num (a.2.2.2.2 k) (wd (a.2.2.1 k)) ++ padl (2 * wd (a.2.2.1 k)) := by
      simp only [sg_cat, ia1, wrd, List.append_assoc]
    have F := f1.trans (f2.trans (f3.trans (f4.trans (f5.trans f6))))
    obtain ⟨C, e7, b7, f7⟩ := ih (k + 1) (by omega) (hs.two F hr) (hA.two F hdj) (by rw [hcat]; exact b6)
    refine ⟨C, ?_, b7, F.trans f7⟩
    have hc : ¬ nI a.1 ≤ nI k := nI_ge (by omega) (by omega)
    have hi := x_ix (show k < 3 by omega) (show k < 2147483648 by omega)
    have hit := x_ix (show a.2.2.1 k < 5 by omega) (show a.2.2.1 k < 2147483648 by omega)
    have A1 := hA.two f1 hdj
    have A2 := A1.two f2 hdj
    have A3 := A2.two f3 hdj
    have A4 := A3.two f4 hdj
    have S3 := (((hs.two f1 hr).two f2 hr).two f3 hr)
    have S4 := S3.two f4 hr
    obtain ⟨p1, p2, p3, p4, u0, u1, u2, u3, u4, u5, u6, u7⟩ := A1
    obtain ⟨v1, v2, v3, v4, w0, w1, w2, w3, w4, w5, w6, w7⟩ := A3
    obtain ⟨y1, y2, y3, y4, z0, z1, z2, z3, z4, z5, z6, z7⟩ := A4
    obtain ⟨_, q0, -⟩ := id hB
    obtain ⟨_, q1, -⟩ := id b1
    obtain ⟨_, q2, -⟩ := id b2
    obtain ⟨_, q3, -⟩ := id b3
    obtain ⟨_, q4, -⟩ := id b4
    obtain ⟨_, q5, -⟩ := id b5
    refine e_96 ?_; simp only [b_96, i_int, i_long, i_null, i_stat, i_iload, i_lload, i_aload, i_istore, i_astore, i_lstore, i_iinc, i_ii, i_idz, i_i, i_ll, i_lsh, i_i2l, i_l2i, i_lcmp, i_dup, i_pop, i_dup2, i_ifeq, i_ifne, i_iflt, i_ifge, i_ifgt, i_ifle, i_cmpeq, i_cmpne, i_cmplt, i_cmpge, i_cmpgt, i_cmple, i_ifnull, i_ifnonnull, i_getf, am_wr, i_putI, i_putZ, i_putR, i_iald, i_iast, i_aald, i_aast, i_alen, i_newi, i_newq, i_new, i_recv, i_iret, i_zret, i_lret, i_aret, i_vret, List.getElem?_cons_zero, List.getElem?_cons_succ, Option.bind_some, Option.toList_some, Option.toList_none, List.cons_append, List.nil_append, x_nI, am_put, List.length_cons, List.length_nil, List.set_cons_zero, List.set_cons_succ, Nat.reduceAdd, Nat.reduceLT, Nat.reduceLeDiff, Nat.reduceEqDiff, Nat.add_left_cancel_iff, Nat.add_eq_left, Nat.left_eq_add, Nat.succ_ne_self, Nat.reduceSub, reduceIte, ite_self, not_true_eq_false, not_false_eq_true, x_call1, x_call2, x_call3, x_call4, x_call5, x_call6, x_sl0, x_sli, x_slr, x_sln, x_sll, am_ent, List.map_nil, List.map_cons, List.sum_nil, List.sum_cons, Value.category, and_true, true_and, and_self, Nat.zero_le, List.replicate_succ, List.replicate_zero, List.reduceReplicate, x_obj_set, x_row_set, x_len_set, x_obx, x_rox, x_obj h0, hc, x_row h1, hi, n1, x_obj q0, e1, x_obj u0, x_row u2, (u7 k (show k < a.1 by omega)).2.1, x_obj q1, e2, show (2 : Int32) = nI 2 from rfl, x_obj q2, e3, x_obj w0, x_row w3, x_row w2, (w7 k (show k < a.1 by omega)).2.1, (w7 k (show k < a.1 by omega)).2.2.1, x_row S3.1, hit, s0_wd t1 t4, x_obj q3, e4, x_obj z0, x_row z4, x_row z2, (z7 k (show k < a.1 by omega)).2.1, (z7 k (show k < a.1 by omega)).2.2.2.1, x_row S4.1, x_obj q4, e5, x_obj q5, e6, nI_1]
    exact e7
theorem k_awrite {d p r cur : Nat} {a : sg_A} {bs : List Nat} {A : am_H} (hdj : r + 1 < p ∨ p + 5 ≤ r) (hm : bs.length % 4 = 0) (hl : bs.length + sg_ls a ≤ 800) (hs : am_St A) (hA : AL p A a) (hB : BR r A bs cur) : ∃ B, pev (d + 3) 95 [some (.ref p), some (.ref r), none] [] A = some (none, B) ∧ BR r B (bs ++ im_a a) cur ∧ am_fr (at2 r) A B := by
  obtain ⟨g1, g2, g3, g4, h0, h1, h2, h3, h4, h5, h6, h7⟩ := id hA
  have hr : 5 ≤ r := by obtain ⟨_, _, _, _, q, _⟩ := hB; exact q
  have hla := im_a_len a
  unfold im_a at hla
  rw [List.length_append, hea_len] at hla
  obtain ⟨B1, e1, b1, f1⟩ := k_appendListHead (d := d) (k := 12) (n := a.1) (by omega) hB (by omega)
  obtain ⟨B2, e2, b2, f2⟩ := k_awrite1 (d := d) (bs := bs ++ hea 12 a.1) hdj (by rw [List.length_append, hea_len]; omega) (by rw [List.length_append, hea_len]; omega) a.1 0 (by omega) (hs.two f1 hr) (hA.two f1 hdj) (by simpa [sg_cat] using b1)
  refine ⟨B2, ?_, by rw [im_a, ← List.append_assoc]; exact b2, f1.trans f2⟩
  obtain ⟨_, q0, -⟩ := id hB
  refine e_95 ?_; simp only [b_95, i_int, i_long, i_null, i_stat, i_iload, i_lload, i_aload, i_istore, i_astore, i_lstore, i_iinc, i_ii, i_idz, i_i, i_ll, i_lsh, i_i2l, i_l2i, i_lcmp, i_dup, i_pop, i_dup2, i_ifeq, i_ifne, i_iflt, i_ifge, i_ifgt, i_ifle, i_cmpeq, i_cmpne, i_cmplt, i_cmpge, i_cmpgt, i_cmple, i_ifnull, i_ifnonnull, i_getf, am_wr, i_putI, i_putZ, i_putR, i_iald, i_iast, i_aald, i_aast, i_alen, i_newi, i_newq, i_new, i_recv, i_iret, i_zret, i_lret, i_aret, i_vret, List.getElem?_cons_zero, List.getElem?_cons_succ, Option.bind_some, Option.toList_some, Option.toList_none, List.cons_append, List.nil_append, x_nI, am_put, List.length_cons, List.length_nil, List.set_cons_zero, List.set_cons_succ, Nat.reduceAdd, Nat.reduceLT, Nat.reduceLeDiff, Nat.reduceEqDiff, Nat.add_left_cancel_iff, Nat.add_eq_left, Nat.left_eq_add, Nat.succ_ne_self, Nat.reduceSub, reduceIte, ite_self, not_true_eq_false, not_false_eq_true, x_call1, x_call2, x_call3, x_call4, x_call5, x_call6, x_sl0, x_sli, x_slr, x_sln, x_sll, am_ent, List.map_nil, List.map_cons, List.sum_nil, List.sum_cons, Value.category, and_true, true_and, and_self, Nat.zero_le, List.replicate_succ, List.replicate_zero, List.reduceReplicate, x_obj_set, x_row_set, x_len_set, x_obx, x_rox, x_obj h0, show (12 : Int32) = nI 12 from rfl, x_obj q0, e1]
  exact e2
