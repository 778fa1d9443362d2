/-! the image as a whole; an empty store; renaming -/
def id1 (s : sg_S) (k : Nat) : List Nat := nam (s.1.2.1 k) ++ wrd (s.1.2.2 k)
theorem id1_len (s : sg_S) (k : Nat) : (id1 s k).length = 12 := by
  rw [id1, List.length_append, nam_len, wrd_len]
theorem k_writeTo1 {d b r cur : Nat} {s : sg_S} {ρ : Nat → sg_R} {bs : List Nat} (hdj : r + 1 < b ∨ b + 45 ≤ r) (hs : STv s) (hl : bs.length + (sg_cat (id1 s) s.1.1).length ≤ 800) : ∀ (m k : Nat), k + m = s.1.1 → ∀ {A : am_H}, am_St A → ST b A s ρ → BR r A (bs ++ sg_cat (id1 s) k) cur → ∃ B, am_St B ∧ ST b B s ρ ∧ BR r B (bs ++ sg_cat (id1 s) s.1.1) cur ∧ am_fr (at2 r) A B ∧ ∀ Y, pev (d + 5) 86 [some (.ref b), some (.ref r), some (.int (nI s.1.1))] [] B = some (none, Y) → pev (d + 5) 86 [some (.ref b), some (.ref r), some (.int (nI k))] [] A = some (none, Y) := by
  have h4 := hs.1
  intro m
  induction m with
  | zero =>
    intro k hk A hst h hB
    have hkk : k = s.1.1 := by omega
    subst hkk
    exact ⟨A, hst, h, hB, am_fr.refl A, fun Y hY => hY⟩
  | succ m ih =>
    intro k hk A hst h hB
    have hr : 5 ≤ r := by obtain ⟨_, _, _, _, q, _⟩ := hB; exact q
    obtain ⟨-, hb, ⟨g1, g2, g3, q, a0, a1, a2, a3, a4, a5, a6, a7⟩, -⟩ := id h
    have hlen : bs.length + ((sg_cat (id1 s) k).length + 12) ≤ 800 := by
      have := cat_le (f := id1 s) (m := k + 1) (n := s.1.1) (by omega)
      rw [sg_cat, List.length_append, id1_len] at this
      omega
    obtain ⟨B1, e1, b1, f1⟩ := k_appendName (d := d + 2) (x := s.1.2.1 k) hB (by rw [List.length_append]; omega)
    obtain ⟨B2, e2, b2, f2⟩ := k_appendWord (d := d + 2) (x := nI (s.1.2.2 k)) b1 (by simp only [List.length_append, nam_len]; omega)
    have F := f1.trans f2
    obtain ⟨C, s1, s2, s3, f3, G⟩ := ih (k + 1) (by omega) (hst.two F hr) (h.two F hdj) (by
      rw [sg_cat, id1, wrd]
      simpa only [List.append_assoc] using b2)
    refine ⟨C, s1, s2, s3, F.trans f3, fun Y hY => ?_⟩
    have e3 := G Y hY
    have hc : ¬ nI s.1.1 ≤ nI k := nI_ge (by omega) (by omega)
    have ix := x_ix (show k < 4 by omega) (show k < 2147483648 by omega)
    obtain ⟨_, q0, -⟩ := id hB
    obtain ⟨_, q1, -⟩ := id b1
    obtain ⟨-, -, ⟨_, k2, _, _, z0, z1, z2, -, -, -, z6, -⟩, -⟩ := id (h.two f1 hdj)
    refine e_86 ?_; simp only [b_86, i_int, i_long, i_null, i_stat, i_iload, i_lload, i_aload, i_istore, i_astore, i_lstore, i_iinc, i_ii, i_idz, i_i, i_ll, i_lsh, i_i2l, i_l2i, i_lcmp, i_dup, i_pop, i_dup2, i_ifeq, i_ifne, i_iflt, i_ifge, i_ifgt, i_ifle, i_cmpeq, i_cmpne, i_cmplt, i_cmpge, i_cmpgt, i_cmple, i_ifnull, i_ifnonnull, i_getf, am_wr, i_putI, i_putZ, i_putR, i_iald, i_iast, i_aald, i_aast, i_alen, i_newi, i_newq, i_new, i_recv, i_iret, i_zret, i_lret, i_aret, i_vret, List.getElem?_cons_zero, List.getElem?_cons_succ, Option.bind_some, Option.toList_some, Option.toList_none, List.cons_append, List.nil_append, x_nI, am_put, am_put2, List.length_cons, List.length_nil, List.set_cons_zero, List.set_cons_succ, Nat.reduceAdd, Nat.reduceLT, Nat.reduceLeDiff, Nat.reduceEqDiff, Nat.add_left_cancel_iff, Nat.add_eq_left, Nat.left_eq_add, Nat.succ_ne_self, Nat.reduceSub, reduceIte, ite_self, eq_self, or_true, true_or, or_false, false_or, or_self, i10, not_true_eq_false, not_false_eq_true, x_call1, x_call2, x_call3, x_call4, x_call5, x_call6, x_sl0, x_sli, x_slr, x_sln, x_sll, am_ent, List.map_nil, List.map_cons, List.sum_nil, List.sum_cons, Value.category, and_true, true_and, and_self, Nat.zero_le, List.replicate_succ, List.replicate_zero, List.reduceReplicate, x_obj_set, x_row_set, x_len_set, x_obx, x_rox, x_rv, x_obj a0, hc, x_row a1, ix, (a6 k (show k < s.1.1 by omega)).1, x_obj q0, e1, x_obj z0, x_row z2, (z6 k (show k < s.1.1 by omega)).2, x_obj q1, e2, nI_1]
    exact e3
theorem k_writeTo2 {d b r cur : Nat} {s : sg_S} {ρ : Nat → sg_R} {bs : List Nat} (hdj : r + 1 < b ∨ b + 45 ≤ r) (hs : STv s) (hm : bs.length % 4 = 0) (hl : bs.length + (sg_cat (im_v s) s.2.2.1).length ≤ 800) : ∀ (m v : Nat), v + m = s.2.2.1 → ∀ {A : am_H}, am_St A → ST b A s ρ → BR r A (bs ++ sg_cat (im_v s) v) cur → ∃ B, am_St B ∧ ST b B s ρ ∧ BR r B (bs ++ sg_cat (im_v s) s.2.2.1) cur ∧ am_fr (at2 r) A B ∧ ∀ Y, pev (d + 5) 87 [some (.ref b), some (.ref r), some (.int (nI s.2.2.1))] [] B = some (none, Y) → pev (d + 5) 87 [some (.ref b), some (.ref r), some (.int (nI v))] [] A = some (none, Y) := by
  have h5 := hs.2.2.1
  intro m
  induction m with
  | zero =>
    intro k hk A hst h hB
    have hkk : k = s.2.2.1 := by omega
    subst hkk
    exact ⟨A, hst, h, hB, am_fr.refl A, fun Y hY => hY⟩
  | succ m ih =>
    intro v hk A hst h hB
    have hr : 5 ≤ r := by obtain ⟨_, _, _, _, q, _⟩ := hB; exact q
    obtain ⟨-, hb, ⟨g1, g2, g3, q, a0, a1, a2, a3, a4, a5, a6, a7⟩, -⟩ := id h
    have hlen : bs.length + ((sg_cat (im_v s) v).length + (im_v s v).length) ≤ 800 := by
      have := cat_le (f := im_v s) (m := v + 1) (n := s.2.2.1) (by omega)
      rw [sg_cat, List.length_append] at this
      omega
    have hmv : (sg_cat (im_v s) v).length % 4 = 0 := by
      rw [sg_cat_len]
      exact sum_mod (fun j _ => im_v_mod s j)
    have e0 := k_beginOf (d := d) hst h (show v < s.2.2.1 by omega)
    obtain ⟨B1, e1, b1, f1⟩ := k_writeVariable (d := d) hdj hst h (show v < s.2.2.1 by omega) hB (by rw [List.length_append]; omega) (by rw [List.length_append]; omega)
    obtain ⟨C, s1, s2, s3, f3, G⟩ := ih (v + 1) (by omega) (hst.two f1 hr) (h.two f1 hdj) (by rw [sg_cat, ← List.append_assoc]; exact b1)
    refine ⟨C, s1, s2, s3, f1.trans f3, fun Y hY => ?_⟩
    have e3 := G Y hY
    have hc : ¬ nI s.2.2.1 ≤ nI v := nI_ge (by omega) (by omega)
    refine e_87 ?_; simp only [b_87, i_int, i_long, i_null, i_stat, i_iload, i_lload, i_aload, i_istore, i_astore, i_lstore, i_iinc, i_ii, i_idz, i_i, i_ll, i_lsh, i_i2l, i_l2i, i_lcmp, i_dup, i_pop, i_dup2, i_ifeq, i_ifne, i_iflt, i_ifge, i_ifgt, i_ifle, i_cmpeq, i_cmpne, i_cmplt, i_cmpge, i_cmpgt, i_cmple, i_ifnull, i_ifnonnull, i_getf, am_wr, i_putI, i_putZ, i_putR, i_iald, i_iast, i_aald, i_aast, i_alen, i_newi, i_newq, i_new, i_recv, i_iret, i_zret, i_lret, i_aret, i_vret, List.getElem?_cons_zero, List.getElem?_cons_succ, Option.bind_some, Option.toList_some, Option.toList_none, List.cons_append, List.nil_append, x_nI, am_put, am_put2, List.length_cons, List.length_nil, List.set_cons_zero, List.set_cons_succ, Nat.reduceAdd, Nat.reduceLT, Nat.reduceLeDiff, Nat.reduceEqDiff, Nat.add_left_cancel_iff, Nat.add_eq_left, Nat.left_eq_add, Nat.succ_ne_self, Nat.reduceSub, reduceIte, ite_self, eq_self, or_true, true_or, or_false, false_or, or_self, i10, not_true_eq_false, not_false_eq_true, x_call1, x_call2, x_call3, x_call4, x_call5, x_call6, x_sl0, x_sli, x_slr, x_sln, x_sll, am_ent, List.map_nil, List.map_cons, List.sum_nil, List.sum_cons, Value.category, and_true, true_and, and_self, Nat.zero_le, List.replicate_succ, List.replicate_zero, List.reduceReplicate, x_obj_set, x_row_set, x_len_set, x_obx, x_rox, x_rv, x_obj a0, hc, e0, e1, nI_1]
    exact e3
theorem cells_fit {s : sg_S} (hs : STv s) (ht : sg_tot s s.2.2.2.2 ≤ 800) : ∀ v, v < s.2.2.1 → sg_l0 s v = 0 → s.2.2.2.2 * sg_l1 s v ≤ 800 := by
  intro v hv c
  have hw := wd_pos (s.2.2.2.1 v).2.1
  have hp : sg_l1 s v * 1 ≤ sg_l1 s v * wd (s.2.2.2.1 v).2.1 := Nat.mul_le_mul_left _ hw
  have key : ∀ f : Nat → Nat, sg_l1 s v ≤ f v → sg_l1 s v ≤ sg_sum f s.2.2.1 := fun f hf => by
    have h2 : sg_sum f (v + 1) ≤ sg_sum f s.2.2.1 := sg_sum_mono (by omega)
    rw [sg_sum] at h2
    omega
  have h1 : sg_l1 s v ≤ sg_rs s := by
    unfold sg_rs
    split
    · exact key _ (by rw [if_pos c]; omega)
    · refine key _ ?_
      rw [if_pos c]
      unfold sg_ps
      rw [sg_cn_rec c]
      have := pad4_ge (sg_l1 s v * wd (s.2.2.2.1 v).2.1)
      omega
  have h2 : s.2.2.2.2 * sg_l1 s v ≤ s.2.2.2.2 * sg_rs s := Nat.mul_le_mul_left _ h1
  unfold sg_tot at ht
  omega
theorem k_writeTo {d b r cur : Nat} {A : am_H} {s : sg_S} {ρ : Nat → sg_R} {bs : List Nat} (hdj : r + 1 < b ∨ b + 45 ≤ r) (ht : sg_tot s s.2.2.2.2 ≤ 800) (hst : am_St A) (h : ST b A s ρ) (hB : BR r A bs cur) : ∃ B, pev (d + 5) 85 [some (.ref b), some (.ref r), none] [] A = some (none, B) ∧ BR r B (img s) 0 ∧ am_fr (at2 r) A B := by
  have hs := h.1
  have h4 := hs.1
  have h5 := hs.2.2.1
  have h8 := hs.2.2.2.2
  have hr : 5 ≤ r := by obtain ⟨_, _, _, _, q, _⟩ := hB; exact q
  have hlen := img_len s
  rw [img, im_h] at hlen
  simp only [List.length_append, num_len, wrd_len, hea_len] at hlen
  have hdm : (sg_cat (id1 s) s.1.1).length = s.1.1 * 12 := by
    rw [sg_cat_len, show (fun k => (id1 s k).length) = fun _ => 12 from funext (id1_len s), sg_sum_const]
  have hid : (sg_cat (fun k => nam (s.1.2.1 k) ++ wrd (s.1.2.2 k)) s.1.1) = sg_cat (id1 s) s.1.1 := rfl
  rw [hid] at hlen
  have hla := im_a_len s.2.1
  have hlm := sg_ls_mod s.2.1
  have hvm : (sg_cat (im_v s) s.2.2.1).length % 4 = 0 := by
    rw [sg_cat_len]
    exact sum_mod (fun j _ => im_v_mod s j)
  obtain ⟨B0, e0, b0, f0⟩ := k_rclear (d := d + 4) hB
  obtain ⟨B1, e1, b1, f1⟩ := k_appendWord (d := d + 2) (x := 1196573697) b0 (by simp)
  obtain ⟨B2, e2, b2, f2⟩ := k_appendWord (d := d + 2) (x := nI s.2.2.2.2) b1 (by simp [num_len])
  obtain ⟨B3, e3, b3, f3⟩ := k_appendListHead (d := d + 2) (k := 10) (n := s.1.1) (by omega) b2 (by simp [num_len])
  have F3 := f0.trans (f1.trans (f2.trans f3))
  obtain ⟨B4, s1, s2, s3, f4, G4⟩ := k_writeTo1 (d := d) (bs := [] ++ num 1196573697 4 ++ num (nI s.2.2.2.2) 4 ++ hea 10 s.1.1) hdj hs (by simp only [List.length_append, List.length_nil, num_len, hea_len]; omega) s.1.1 0 (by omega) (hst.two F3 hr) (h.two F3 hdj) (by rw [sg_cat, List.append_nil]; exact b3)
  obtain ⟨-, -, -, A4, -⟩ := id s2
  obtain ⟨B5, e5, b5, f5⟩ := k_awrite (d := d + 1) (r := r) (by omega) (by simp only [List.length_append, List.length_nil, num_len, hea_len]; omega) (by simp only [List.length_append, List.length_nil, num_len, hea_len]; omega) s1 A4 s3
  obtain ⟨B6, e6, b6, f6⟩ := k_appendListHead (d := d + 2) (k := 11) (n := s.2.2.1) (by omega) b5 (by simp only [List.length_append, List.length_nil, num_len, hea_len]; omega)
  have F6 := f5.trans f6
  obtain ⟨B7, z1, z2, z3, f7, G7⟩ := k_writeTo2 (d := d) (bs := [] ++ num 1196573697 4 ++ num (nI s.2.2.2.2) 4 ++ hea 10 s.1.1 ++ sg_cat (id1 s) s.1.1 ++ im_a s.2.1 ++ hea 11 s.2.2.1) hdj hs (by simp only [List.length_append, List.length_nil, num_len, hea_len]; omega) (by simp only [List.length_append, List.length_nil, num_len, hea_len]; omega) s.2.2.1 0 (by omega) (s1.two F6 hr) (s2.two F6 hdj) (by rw [sg_cat, List.append_nil]; exact b6)
  obtain ⟨B8, e8, b8, f8⟩ := k_writeCells (d := d) hdj (by simp only [List.length_append, List.length_nil, num_len, hea_len]; omega) (cells_fit hs ht) (by simp only [List.length_append, List.length_nil, num_len, hea_len]; omega) z1 z2 z3
  refine ⟨B8, ?_, ?_, F3.trans (f4.trans (F6.trans (f7.trans f8)))⟩
  · have e7 := G7 B8 (by
      obtain ⟨-, -, ⟨_, _, _, _, y0, -⟩, -⟩ := id z2
      refine e_87 ?_; simp only [b_87, i_int, i_long, i_null, i_stat, i_iload, i_lload, i_aload, i_istore, i_astore, i_lstore, i_iinc, i_ii, i_idz, i_i, i_ll, i_lsh, i_i2l, i_l2i, i_lcmp, i_dup, i_pop, i_dup2, i_ifeq, i_ifne, i_iflt, i_ifge, i_ifgt, i_ifle, i_cmpeq, i_cmpne, i_cmplt, i_cmpge, i_cmpgt, i_cmple, i_ifnull, i_ifnonnull, i_getf, am_wr, i_putI, i_putZ, i_putR, i_iald, i_iast, i_aald, i_aast, i_alen, i_newi, i_newq, i_new, i_recv, i_iret, i_zret, i_lret, i_aret, i_vret, List.getElem?_cons_zero, List.getElem?_cons_succ, Option.bind_some, Option.toList_some, Option.toList_none, List.cons_append, List.nil_append, x_nI, am_put, am_put2, List.length_cons, List.length_nil, List.set_cons_zero, List.set_cons_succ, Nat.reduceAdd, Nat.reduceLT, Nat.reduceLeDiff, Nat.reduceEqDiff, Nat.add_left_cancel_iff, Nat.add_eq_left, Nat.left_eq_add, Nat.succ_ne_self, Nat.reduceSub, reduceIte, ite_self, eq_self, or_true, true_or, or_false, false_or, or_self, i10, not_true_eq_false, not_false_eq_true, x_call1, x_call2, x_call3, x_call4, x_call5, x_call6, x_sl0, x_sli, x_slr, x_sln, x_sll, am_ent, List.map_nil, List.map_cons, List.sum_nil, List.sum_cons, Value.category, and_true, true_and, and_self, Nat.zero_le, List.replicate_succ, List.replicate_zero, List.reduceReplicate, x_obj_set, x_row_set, x_len_set, x_obx, x_rox, x_rv, x_obj y0, show nI s.2.2.1 ≤ nI s.2.2.1 from nI_le (Nat.le_refl _) (by omega), e8])
    have e4 := G4 B8 (by
      obtain ⟨-, -, ⟨_, _, _, _, y0, -⟩, -⟩ := id s2
      obtain ⟨-, -, ⟨_, _, _, _, x0, -⟩, -⟩ := id (s2.two f5 hdj)
      obtain ⟨_, _, _, _, w0, -⟩ := id A4
      obtain ⟨_, q5, -⟩ := id b5
      refine e_86 ?_; simp only [b_86, i_int, i_long, i_null, i_stat, i_iload, i_lload, i_aload, i_istore, i_astore, i_lstore, i_iinc, i_ii, i_idz, i_i, i_ll, i_lsh, i_i2l, i_l2i, i_lcmp, i_dup, i_pop, i_dup2, i_ifeq, i_ifne, i_iflt, i_ifge, i_ifgt, i_ifle, i_cmpeq, i_cmpne, i_cmplt, i_cmpge, i_cmpgt, i_cmple, i_ifnull, i_ifnonnull, i_getf, am_wr, i_putI, i_putZ, i_putR, i_iald, i_iast, i_aald, i_aast, i_alen, i_newi, i_newq, i_new, i_recv, i_iret, i_zret, i_lret, i_aret, i_vret, List.getElem?_cons_zero, List.getElem?_cons_succ, Option.bind_some, Option.toList_some, Option.toList_none, List.cons_append, List.nil_append, x_nI, am_put, am_put2, List.length_cons, List.length_nil, List.set_cons_zero, List.set_cons_succ, Nat.reduceAdd, Nat.reduceLT, Nat.reduceLeDiff, Nat.reduceEqDiff, Nat.add_left_cancel_iff, Nat.add_eq_left, Nat.left_eq_add, Nat.succ_ne_self, Nat.reduceSub, reduceIte, ite_self, eq_self, or_true, true_or, or_false, false_or, or_self, i10, not_true_eq_false, not_false_eq_true, x_call1, x_call2, x_call3, x_call4, x_call5, x_call6, x_sl0, x_sli, x_slr, x_sln, x_sll, am_ent, List.map_nil, List.map_cons, List.sum_nil, List.sum_cons, Value.category, and_true, true_and, and_self, Nat.zero_le, List.replicate_succ, List.replicate_zero, List.reduceReplicate, x_obj_set, x_row_set, x_len_set, x_obx, x_rox, x_rv, x_obj y0, show nI s.1.1 ≤ nI s.1.1 from nI_le (Nat.le_refl _) (by omega), x_obj w0, e5, x_obj x0, show (11 : Int32) = nI 11 from rfl, x_obj q5, e6]
      exact e7)
    obtain ⟨-, -, ⟨_, _, _, _, y1, -⟩, -⟩ := id ((h.two f0 hdj).two f1 hdj)
    obtain ⟨-, -, ⟨_, _, _, _, y2, -⟩, -⟩ := id (((h.two f0 hdj).two f1 hdj).two f2 hdj)
    obtain ⟨_, q, -⟩ := id hB
    obtain ⟨_, q0, -⟩ := id b0
    obtain ⟨_, q1, -⟩ := id b1
    obtain ⟨_, q2, -⟩ := id b2
    refine e_85 ?_; simp only [b_85, i_int, i_long, i_null, i_stat, i_iload, i_lload, i_aload, i_istore, i_astore, i_lstore, i_iinc, i_ii, i_idz, i_i, i_ll, i_lsh, i_i2l, i_l2i, i_lcmp, i_dup, i_pop, i_dup2, i_ifeq, i_ifne, i_iflt, i_ifge, i_ifgt, i_ifle, i_cmpeq, i_cmpne, i_cmplt, i_cmpge, i_cmpgt, i_cmple, i_ifnull, i_ifnonnull, i_getf, am_wr, i_putI, i_putZ, i_putR, i_iald, i_iast, i_aald, i_aast, i_alen, i_newi, i_newq, i_new, i_recv, i_iret, i_zret, i_lret, i_aret, i_vret, List.getElem?_cons_zero, List.getElem?_cons_succ, Option.bind_some, Option.toList_some, Option.toList_none, List.cons_append, List.nil_append, x_nI, am_put, am_put2, List.length_cons, List.length_nil, List.set_cons_zero, List.set_cons_succ, Nat.reduceAdd, Nat.reduceLT, Nat.reduceLeDiff, Nat.reduceEqDiff, Nat.add_left_cancel_iff, Nat.add_eq_left, Nat.left_eq_add, Nat.succ_ne_self, Nat.reduceSub, reduceIte, ite_self, eq_self, or_true, true_or, or_false, false_or, or_self, i10, not_true_eq_false, not_false_eq_true, x_call1, x_call2, x_call3, x_call4, x_call5, x_call6, x_sl0, x_sli, x_slr, x_sln, x_sll, am_ent, List.map_nil, List.map_cons, List.sum_nil, List.sum_cons, Value.category, and_true, true_and, and_self, Nat.zero_le, List.replicate_succ, List.replicate_zero, List.reduceReplicate, x_obj_set, x_row_set, x_len_set, x_obx, x_rox, x_rv, x_obj q, e0, x_obj q0, e1, x_obj y1, x_obj q1, e2, show (10 : Int32) = nI 10 from rfl, x_obj y2, x_obj q2, e3]
    exact e4
  · have : img s = [] ++ num 1196573697 4 ++ num (nI s.2.2.2.2) 4 ++ hea 10 s.1.1 ++ sg_cat (id1 s) s.1.1 ++ im_a s.2.1 ++ hea 11 s.2.2.1 ++ sg_cat (im_v s) s.2.2.1 ++ sg_cat (im_f s) s.2.2.1 ++ sg_cat (fun i => sg_cat (im_r s i) s.2.2.1) s.2.2.2.2 := by
      simp only [img, im_h, wrd, List.append_assoc, List.nil_append]
      rfl
    rw [this]
    exact b8
/-! an empty store -/
def clrR (ρ : Nat → sg_R) (k : Nat) : Nat → sg_R := fun v => if v < k then ((ρ v).1, (ρ v).2.1, (ρ v).2.2.1, (ρ v).2.2.2.1, (ρ v).2.2.2.2.1, (ρ v).2.2.2.2.2.1, ((0, (ρ v).2.2.2.2.2.2.1.2) : sg_A), (ρ v).2.2.2.2.2.2.2) else ρ v
def clrS (s : sg_S) : sg_S := ((0, s.1.2), (0, s.2.1.2), 0, s.2.2.2.1, 0)
theorem k_sclear1 {d b : Nat} {s : sg_S} {ρ : Nat → sg_R} : ∀ (m k : Nat), k + m = 5 → ∀ {A : am_H}, ST b A (clrS s) (clrR ρ k) → ∃ B, pev (d + 1) 115 [some (.ref b), some (.int (nI k))] [] A = some (none, B) ∧ ST b B (clrS s) (clrR ρ 5) ∧ am_fr (at45 b) A B := by
  intro m
  induction m with
  | zero =>
    intro k hk A h
    have hk5 : k = 5 := by omega
    subst hk5
    refine ⟨A, ?_, h, am_fr.refl A⟩
    refine e_115 ?_; simp only [b_115, i_int, i_long, i_null, i_stat, i_iload, i_lload, i_aload, i_istore, i_astore, i_lstore, i_iinc, i_ii, i_idz, i_i, i_ll, i_lsh, i_i2l, i_l2i, i_lcmp, i_dup, i_pop, i_dup2, i_ifeq, i_ifne, i_iflt, i_ifge, i_ifgt, i_ifle, i_cmpeq, i_cmpne, i_cmplt, i_cmpge, i_cmpgt, i_cmple, i_ifnull, i_ifnonnull, i_getf, am_wr, i_putI, i_putZ, i_putR, i_iald, i_iast, i_aald, i_aast, i_alen, i_newi, i_newq, i_new, i_recv, i_iret, i_zret, i_lret, i_aret, i_vret, List.getElem?_cons_zero, List.getElem?_cons_succ, Option.bind_some, Option.toList_some, Option.toList_none, List.cons_append, List.nil_append, x_nI, am_put, am_put2, List.length_cons, List.length_nil, List.set_cons_zero, List.set_cons_succ, Nat.reduceAdd, Nat.reduceLT, Nat.reduceLeDiff, Nat.reduceEqDiff, Nat.add_left_cancel_iff, Nat.add_eq_left, Nat.left_eq_add, Nat.succ_ne_self, Nat.reduceSub, reduceIte, ite_self, eq_self, or_true, true_or, or_false, false_or, or_self, i10, not_true_eq_false, not_false_eq_true, x_call1, x_call2, x_call3, x_call4, x_call5, x_call6, x_sl0, x_sli, x_slr, x_sln, x_sll, am_ent, List.map_nil, List.map_cons, List.sum_nil, List.sum_cons, Value.category, and_true, true_and, and_self, Nat.zero_le, List.replicate_succ, List.replicate_zero, List.reduceReplicate, x_obj_set, x_row_set, x_len_set, x_obx, x_rox, x_rv, show ((5 : Int32) ≤ nI 5) = True by decide]
  | succ m ih =>
    intro k hk A h
    obtain ⟨hs, hb, ⟨g1, g2, g3, q, a0, a1, a2, a3, a4, a5, a6, a7⟩, hA, hV, hR⟩ := id h
    have hc : ¬ (5 : Int32) ≤ nI k := nI_ge (b := 5) (by omega) (by decide)
    obtain ⟨g, p0, p1, p2, pA, p5⟩ := id (hV k (by omega))
    obtain ⟨B1, e1, b1, f1⟩ := k_aclear (d := d) pA
    have h1 : ST b B1 (clrS s) (clrR ρ (k + 1)) := by
      refine ⟨hs, hb, ⟨g1, g2, g3, q, (f1.2.2 _ (fun e => by unfold at5 at e; omega)).trans a0, (f1.2.2 _ (fun e => by unfold at5 at e; omega)).trans a1, (f1.2.2 _ (fun e => by unfold at5 at e; omega)).trans a2, (f1.2.2 _ (fun e => by unfold at5 at e; omega)).trans a3, (f1.2.2 _ (fun e => by unfold at5 at e; omega)).trans a4, a5, a6, a7⟩, hA.kept f1 (fun q q1 q2 e => by unfold at5 at e; omega), fun v hv => ?_, fun v hv => absurd hv (Nat.not_lt_zero v)⟩
      by_cases he : v = k
      · subst he
        have e0 : clrR ρ v v = ρ v := if_neg (by omega)
        have e2 : clrR ρ (v + 1) v = ((ρ v).1, (ρ v).2.1, (ρ v).2.2.1, (ρ v).2.2.2.1, (ρ v).2.2.2.2.1, (ρ v).2.2.2.2.2.1, ((0, (ρ v).2.2.2.2.2.2.1.2) : sg_A), (ρ v).2.2.2.2.2.2.2) := if_pos (by omega)
        rw [e2]
        rw [e0] at p0 p2 b1
        exact ⟨g, (f1.2.2 _ (fun e => by unfold at5 at e; omega)).trans p0, (f1.2.2 _ (fun e => by unfold at5 at e; omega)).trans p1, p2, b1, p5⟩
      · have e3 : clrR ρ (k + 1) v = clrR ρ k v := by
          unfold clrR
          by_cases c : v < k
          · rw [if_pos c, if_pos (by omega)]
          · rw [if_neg c, if_neg (by omega)]
        rw [e3]
        exact (hV v hv).kept f1 (fun q q1 q2 e => by unfold at5 at e; omega)
    obtain ⟨C, e2, c2, f2⟩ := ih (k + 1) (by omega) h1
    refine ⟨C, ?_, c2, (f1.mono (fun q hq => by unfold at5 at hq; exact ⟨by omega, by omega⟩)).trans f2⟩
    obtain ⟨_, _, _, _, w0, -⟩ := id pA
    refine e_115 ?_; simp only [b_115, i_int, i_long, i_null, i_stat, i_iload, i_lload, i_aload, i_istore, i_astore, i_lstore, i_iinc, i_ii, i_idz, i_i, i_ll, i_lsh, i_i2l, i_l2i, i_lcmp, i_dup, i_pop, i_dup2, i_ifeq, i_ifne, i_iflt, i_ifge, i_ifgt, i_ifle, i_cmpeq, i_cmpne, i_cmplt, i_cmpge, i_cmpgt, i_cmple, i_ifnull, i_ifnonnull, i_getf, am_wr, i_putI, i_putZ, i_putR, i_iald, i_iast, i_aald, i_aast, i_alen, i_newi, i_newq, i_new, i_recv, i_iret, i_zret, i_lret, i_aret, i_vret, List.getElem?_cons_zero, List.getElem?_cons_succ, Option.bind_some, Option.toList_some, Option.toList_none, List.cons_append, List.nil_append, x_nI, am_put, am_put2, List.length_cons, List.length_nil, List.set_cons_zero, List.set_cons_succ, Nat.reduceAdd, Nat.reduceLT, Nat.reduceLeDiff, Nat.reduceEqDiff, Nat.add_left_cancel_iff, Nat.add_eq_left, Nat.left_eq_add, Nat.succ_ne_self, Nat.reduceSub, reduceIte, ite_self, eq_self, or_true, true_or, or_false, false_or, or_self, i10, not_true_eq_false, not_false_eq_true, x_call1, x_call2, x_call3, x_call4, x_call5, x_call6, x_sl0, x_sli, x_slr, x_sln, x_sll, am_ent, List.map_nil, List.map_cons, List.sum_nil, List.sum_cons, Value.category, and_true, true_and, and_self, Nat.zero_le, List.replicate_succ, List.replicate_zero, List.reduceReplicate, x_obj_set, x_row_set, x_len_set, x_obx, x_rox, x_rv, hc, x_obj a0, x_refs a4, x_ix (show k < 5 by omega) (show k < 2147483648 by omega), a5 k (show k < 5 by omega), x_obj p0, x_obj w0, e1, nI_1]
    exact e2
theorem k_sclear {d b : Nat} {A : am_H} {s : sg_S} {ρ : Nat → sg_R} (h : ST b A s ρ) : ∃ B, pev (d + 1) 114 [some (.ref b), none] [] A = some (none, B) ∧ ST b B (clrS s) (clrR ρ 5) ∧ am_fr (at45 b) A B := by
  obtain ⟨hs, hb, ⟨g1, g2, g3, q, a0, a1, a2, a3, a4, a5, a6, a7⟩, hA, hV, hR⟩ := id h
  have F : am_fr (fun q => q = b) A (am_set (am_set (am_set A b (.inr (.inr (3, [.int 0, .int (nI s.1.1), .ref (b + 1), .ref (b + 2), .int (nI s.2.2.1), .ref (b + 3), .ref (b + 4), .ref (b + 40)])))) b (.inr (.inr (3, [.int 0, .int 0, .ref (b + 1), .ref (b + 2), .int (nI s.2.2.1), .ref (b + 3), .ref (b + 4), .ref (b + 40)])))) b (.inr (.inr (3, [.int 0, .int 0, .ref (b + 1), .ref (b + 2), .int 0, .ref (b + 3), .ref (b + 4), .ref (b + 40)])))) := (((am_fr.refl (P := fun q => q = b) A).set rfl).set rfl).set rfl
  have A1 := hA.kept F (fun q q1 q2 q3 => by omega)
  obtain ⟨B1, e1, b1, f1⟩ := k_aclear (d := d) A1
  have n5 : ∀ j, j < 40 ∨ 45 ≤ j → ¬ at5 (b + 40) (b + j) := fun j hj e => by unfold at5 at e; omega
  have h1 : ST b B1 (clrS s) (clrR ρ 0) := by
    refine ⟨⟨Nat.zero_le _, fun k hk => absurd hk (Nat.not_lt_zero k), Nat.zero_le _, fun v hv => absurd hv (Nat.not_lt_zero v), by show 0 < 2147483648; decide⟩, hb, ⟨g1, g2, g3, q, ?_, ?_, ?_, ?_, ?_, a5, fun k hk => absurd hk (Nat.not_lt_zero k), fun v hv => absurd hv (Nat.not_lt_zero v)⟩, b1, fun v hv => ?_, fun v hv => absurd hv (Nat.not_lt_zero v)⟩
    · exact (f1.2.2 _ (n5 0 (by omega))).trans (x_set_self _ _ _)
    · exact (f1.2.2 _ (n5 1 (by omega))).trans ((F.2.2 _ (by omega)).trans a1)
    · exact (f1.2.2 _ (n5 2 (by omega))).trans ((F.2.2 _ (by omega)).trans a2)
    · exact (f1.2.2 _ (n5 3 (by omega))).trans ((F.2.2 _ (by omega)).trans a3)
    · exact (f1.2.2 _ (n5 4 (by omega))).trans ((F.2.2 _ (by omega)).trans a4)
    · have e0 : clrR ρ 0 v = ρ v := if_neg (Nat.not_lt_zero v)
      rw [e0]
      exact ((hV v hv).kept F (fun q q1 q2 q3 => by omega)).kept f1 (fun q q1 q2 e => by unfold at5 at e; omega)
  obtain ⟨C, e2, c2, f2⟩ := k_sclear1 (d := d) 5 0 (by omega) h1
  refine ⟨C, ?_, c2, (F.mono (Q := at45 b) (fun q hq => by rw [hq]; exact ⟨by omega, by omega⟩)).trans ((f1.mono (Q := at45 b) (fun q hq => by unfold at5 at hq; exact ⟨by omega, by omega⟩)).trans f2)⟩
  obtain ⟨_, _, _, _, w0, -⟩ := id hA
  refine e_114 ?_; simp only [b_114, i_int, i_long, i_null, i_stat, i_iload, i_lload, i_aload, i_istore, i_astore, i_lstore, i_iinc, i_ii, i_idz, i_i, i_ll, i_lsh, i_i2l, i_l2i, i_lcmp, i_dup, i_pop, i_dup2, i_ifeq, i_ifne, i_iflt, i_ifge, i_ifgt, i_ifle, i_cmpeq, i_cmpne, i_cmplt, i_cmpge, i_cmpgt, i_cmple, i_ifnull, i_ifnonnull, i_getf, am_wr, i_putI, i_putZ, i_putR, i_iald, i_iast, i_aald, i_aast, i_alen, i_newi, i_newq, i_new, i_recv, i_iret, i_zret, i_lret, i_aret, i_vret, List.getElem?_cons_zero, List.getElem?_cons_succ, Option.bind_some, Option.toList_some, Option.toList_none, List.cons_append, List.nil_append, x_nI, am_put, am_put2, List.length_cons, List.length_nil, List.set_cons_zero, List.set_cons_succ, Nat.reduceAdd, Nat.reduceLT, Nat.reduceLeDiff, Nat.reduceEqDiff, Nat.add_left_cancel_iff, Nat.add_eq_left, Nat.left_eq_add, Nat.succ_ne_self, Nat.reduceSub, reduceIte, ite_self, eq_self, or_true, true_or, or_false, false_or, or_self, i10, not_true_eq_false, not_false_eq_true, x_call1, x_call2, x_call3, x_call4, x_call5, x_call6, x_sl0, x_sli, x_slr, x_sln, x_sll, am_ent, List.map_nil, List.map_cons, List.sum_nil, List.sum_cons, Value.category, and_true, true_and, and_self, Nat.zero_le, List.replicate_succ, List.replicate_zero, List.reduceReplicate, x_obj_set, x_row_set, x_len_set, x_obx, x_rox, x_rv, x_obj a0, x_own hb, x_obj w0]
  simp [x_obj_set, x_obx, e1, x_obj w0, i_call, am_sl, am_ent, Value.category, i_int, i_istore, am_put]
  exact e2
