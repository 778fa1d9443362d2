/-! the class reads a whole draft -/
theorem cuI_le {s : sg_S} (hs : STv s) (c : Nat) : ∀ i, cuI s c i ≤ c + 2 * (i * sg_rs s) := by
  intro i
  induction i with
  | zero => rw [cuI]; omega
  | succ i ih =>
    have h1 := cuR_le hs (cuI s c i) s.2.2.1 (Nat.le_refl _)
    rw [rz_sum] at h1
    rw [cuI, Nat.succ_mul i]
    omega
theorem k_rc80 {d b r c : Nat} {D : List Nat} {s : sg_S} {ce : Nat → Nat → Int32} (hdj : r + 1 < b ∨ b + 45 ≤ r) (hs : STv s) (hi : ∀ v, v < s.2.2.1 → sg_l0 s v = 0 → s.2.2.2.2 * sg_l1 s v ≤ 800) (hc : c + 2 * (s.2.2.2.2 * sg_rs s) < 70000) : ∀ (m i : Nat), i + m = s.2.2.2.2 → ∀ {A : am_H} {ρ : Nat → sg_R}, am_St A → ST b A (setAll s (cI D s c ce i)) ρ → BR r A D (cuI s c i) → ∃ B ρ2, pev (d + 4) 138 [some (.ref b), some (.ref r), some (.int (bz (decide (1 < sg_nr s)))), some (.int (nI i))] [] A = some (none, B) ∧ am_St B ∧ ST b B (setAll s (cI D s c ce s.2.2.2.2)) ρ2 ∧ (∀ u, (ρ2 u).2.2.2.2.2.2.1 = (ρ u).2.2.2.2.2.2.1) ∧ BR r B D (cuI s c s.2.2.2.2) ∧ am_fr (at47 b r) A B := by
  have h8 := hs.2.2.2.2
  intro m
  induction m with
  | zero =>
    intro i hii A ρ hst hS hB
    have e : i = s.2.2.2.2 := by omega
    subst e
    obtain ⟨-, -, ⟨g1, g2, g3, q, a0, -⟩, -⟩ := id hS
    have hrc : (setAll s (cI D s c ce s.2.2.2.2)).2.2.2.2 = s.2.2.2.2 := rfl
    refine ⟨A, ρ, ?_, hst, hS, fun _ => rfl, hB, am_fr.refl A⟩
    refine e_138 ?_; simp only [b_138, i_int, i_long, i_null, i_stat, i_iload, i_lload, i_aload, i_istore, i_astore, i_lstore, i_iinc, i_ii, i_idz, i_i, i_ll, i_lsh, i_i2l, i_l2i, i_lcmp, i_dup, i_pop, i_dup2, i_ifeq, i_ifne, i_iflt, i_ifge, i_ifgt, i_ifle, i_cmpeq, i_cmpne, i_cmplt, i_cmpge, i_cmpgt, i_cmple, i_ifnull, i_ifnonnull, i_getf, am_wr, i_putI, i_putZ, i_putR, i_iald, i_iast, i_aald, i_aast, i_alen, i_newi, i_newq, i_new, i_recv, i_iret, i_zret, i_lret, i_aret, i_vret, List.getElem?_cons_zero, List.getElem?_cons_succ, Option.bind_some, Option.toList_some, Option.toList_none, List.cons_append, List.nil_append, x_nI, am_put, am_put2, List.length_cons, List.length_nil, List.set_cons_zero, List.set_cons_succ, Nat.reduceAdd, Nat.reduceLT, Nat.reduceLeDiff, Nat.reduceEqDiff, Nat.add_left_cancel_iff, Nat.add_eq_left, Nat.left_eq_add, Nat.succ_ne_self, Nat.reduceSub, reduceIte, ite_self, eq_self, or_true, true_or, or_false, false_or, or_self, i10, not_true_eq_false, not_false_eq_true, x_call1, x_call2, x_call3, x_call4, x_call5, x_call6, x_sl0, x_sli, x_slr, x_sln, x_sll, am_ent, List.map_nil, List.map_cons, List.sum_nil, List.sum_cons, Value.category, and_true, true_and, and_self, Nat.zero_le, List.replicate_succ, List.replicate_zero, List.reduceReplicate, x_obj_set, x_row_set, x_len_set, x_obx, x_rox, x_rv, x_obj a0, hrc, show nI s.2.2.2.2 ≤ nI s.2.2.2.2 from nI_le (Nat.le_refl _) (by omega)]
  | succ m ih =>
    intro i hii A ρ hst hS hB
    obtain ⟨-, -, ⟨g1, g2, g3, q, a0, -⟩, -⟩ := id hS
    have hrc : (setAll s (cI D s c ce i)).2.2.2.2 = s.2.2.2.2 := rfl
    have hcn : ¬ nI s.2.2.2.2 ≤ nI i := nI_ge (by omega) (by omega)
    have hle := cuI_le hs c i
    have hm1 : (i + 1) * sg_rs s ≤ s.2.2.2.2 * sg_rs s := Nat.mul_le_mul_right _ (by omega)
    rw [Nat.succ_mul] at hm1
    obtain ⟨B1, ρ1, e1, s1, s2, s3, s4, s5⟩ := k_rr3 (d := d) (D := D) (i := i) (c := cuI s c i) (ce := cI D s c ce i) hdj hs (fun v hv c0 => by
      have h1 := hi v hv c0
      have h2 : (i + 1) * sg_l1 s v ≤ s.2.2.2.2 * sg_l1 s v := Nat.mul_le_mul_right _ (by omega)
      rw [Nat.succ_mul] at h2
      omega) (by omega) s.2.2.1 0 (by omega) hst (by
        have e0 : cR1 D s (cuI s c i) (cI D s c ce i) i 0 = cI D s c ce i := by
          funext u
          exact if_neg (fun e => by omega)
        rw [e0]
        exact hS) hB
    obtain ⟨C, ρ2, e2, r1, r2, r3, r4, r5⟩ := ih (i + 1) (by omega) s1 s2 s4
    refine ⟨C, ρ2, ?_, r1, r2, fun u => (r3 u).trans (s3 u), r4, s5.trans r5⟩
    have e1' : pev (d + 3) 141 [some (.ref b), some (.ref r), some (.int (nI i)), some (.int (bz (decide (1 < sg_nr s)))), none] [] A = some (none, B1) := by
      refine e_141 ?_; simp only [b_141, i_int, i_long, i_null, i_stat, i_iload, i_lload, i_aload, i_istore, i_astore, i_lstore, i_iinc, i_ii, i_idz, i_i, i_ll, i_lsh, i_i2l, i_l2i, i_lcmp, i_dup, i_pop, i_dup2, i_ifeq, i_ifne, i_iflt, i_ifge, i_ifgt, i_ifle, i_cmpeq, i_cmpne, i_cmplt, i_cmpge, i_cmpgt, i_cmple, i_ifnull, i_ifnonnull, i_getf, am_wr, i_putI, i_putZ, i_putR, i_iald, i_iast, i_aald, i_aast, i_alen, i_newi, i_newq, i_new, i_recv, i_iret, i_zret, i_lret, i_aret, i_vret, List.getElem?_cons_zero, List.getElem?_cons_succ, Option.bind_some, Option.toList_some, Option.toList_none, List.cons_append, List.nil_append, x_nI, am_put, am_put2, List.length_cons, List.length_nil, List.set_cons_zero, List.set_cons_succ, Nat.reduceAdd, Nat.reduceLT, Nat.reduceLeDiff, Nat.reduceEqDiff, Nat.add_left_cancel_iff, Nat.add_eq_left, Nat.left_eq_add, Nat.succ_ne_self, Nat.reduceSub, reduceIte, ite_self, eq_self, or_true, true_or, or_false, false_or, or_self, i10, not_true_eq_false, not_false_eq_true, x_call1, x_call2, x_call3, x_call4, x_call5, x_call6, x_sl0, x_sli, x_slr, x_sln, x_sll, am_ent, List.map_nil, List.map_cons, List.sum_nil, List.sum_cons, Value.category, and_true, true_and, and_self, Nat.zero_le, List.replicate_succ, List.replicate_zero, List.reduceReplicate, x_obj_set, x_row_set, x_len_set, x_obx, x_rox, x_rv]
      exact e1
    refine e_138 ?_; simp only [b_138, i_int, i_long, i_null, i_stat, i_iload, i_lload, i_aload, i_istore, i_astore, i_lstore, i_iinc, i_ii, i_idz, i_i, i_ll, i_lsh, i_i2l, i_l2i, i_lcmp, i_dup, i_pop, i_dup2, i_ifeq, i_ifne, i_iflt, i_ifge, i_ifgt, i_ifle, i_cmpeq, i_cmpne, i_cmplt, i_cmpge, i_cmpgt, i_cmple, i_ifnull, i_ifnonnull, i_getf, am_wr, i_putI, i_putZ, i_putR, i_iald, i_iast, i_aald, i_aast, i_alen, i_newi, i_newq, i_new, i_recv, i_iret, i_zret, i_lret, i_aret, i_vret, List.getElem?_cons_zero, List.getElem?_cons_succ, Option.bind_some, Option.toList_some, Option.toList_none, List.cons_append, List.nil_append, x_nI, am_put, am_put2, List.length_cons, List.length_nil, List.set_cons_zero, List.set_cons_succ, Nat.reduceAdd, Nat.reduceLT, Nat.reduceLeDiff, Nat.reduceEqDiff, Nat.add_left_cancel_iff, Nat.add_eq_left, Nat.left_eq_add, Nat.succ_ne_self, Nat.reduceSub, reduceIte, ite_self, eq_self, or_true, true_or, or_false, false_or, or_self, i10, not_true_eq_false, not_false_eq_true, x_call1, x_call2, x_call3, x_call4, x_call5, x_call6, x_sl0, x_sli, x_slr, x_sln, x_sll, am_ent, List.map_nil, List.map_cons, List.sum_nil, List.sum_cons, Value.category, and_true, true_and, and_self, Nat.zero_le, List.replicate_succ, List.replicate_zero, List.reduceReplicate, x_obj_set, x_row_set, x_len_set, x_obx, x_rox, x_rv, x_obj a0, hrc, hcn, e1', nI_1]
    exact e2
theorem k_rcells {d b r c : Nat} {D : List Nat} {s : sg_S} {ρ : Nat → sg_R} {A : am_H} (hdj : r + 1 < b ∨ b + 45 ≤ r) (hi : ∀ v, v < s.2.2.1 → sg_l0 s v = 0 → s.2.2.2.2 * sg_l1 s v ≤ 800) (hc : c < 20000) (hr8 : s.2.2.2.2 * sg_rs s ≤ 800) (hst : am_St A) (hS : ST b A s ρ) (hB : BR r A D c) : ∃ B ρ2 c2, pev (d + 4) 135 [some (.ref b), some (.ref r), none, none] [] A = some (none, B) ∧ am_St B ∧ ST b B (setAll s (celF D s c)) ρ2 ∧ (∀ u, (ρ2 u).2.2.2.2.2.2.1 = (ρ u).2.2.2.2.2.2.1) ∧ BR r B D c2 ∧ am_fr (at47 b r) A B := by
  have hs := hS.1
  have h5 := hs.2.2.1
  have e0 : setAll s (cF1 D s c (fun u => (s.2.2.2.1 u).2.2.2.2.2) 0) = s := by
    have e1 : cF1 D s c (fun u => (s.2.2.2.1 u).2.2.2.2.2) 0 = fun u => (s.2.2.2.1 u).2.2.2.2.2 := by
      funext u
      exact if_neg (fun e => by omega)
    rw [e1]
    rfl
  obtain ⟨B1, ρ1, o2, s1, s2, s3, s4, s5, s6⟩ := k_rc2 (d := d + 1) (D := D) (c := c) (ce := fun u => (s.2.2.2.1 u).2.2.2.2.2) hdj hs (by omega) s.2.2.1 0 (by omega) (o := none) hst (by rw [e0]; exact hS) hB
  have hle := cuF_le hs c s.2.2.1 (Nat.le_refl _)
  obtain ⟨C, ρ2, e2, r1, r2, r3, r4, r5⟩ := k_rc80 (d := d) (D := D) (c := cuF s c s.2.2.1) (ce := cF1 D s c (fun u => (s.2.2.2.1 u).2.2.2.2.2) s.2.2.1) hdj hs hi (by omega) s.2.2.2.2 0 (by omega) s1 s2 s4
  refine ⟨C, ρ2, _, ?_, r1, r2, fun u => (r3 u).trans (s3 u), r4, s5.trans r5⟩
  have en := k_recordVariables (d := d + 3) s2
  have hnr := sg_nr_le s
  have en' : sg_nr (setAll s (cF1 D s c (fun u => (s.2.2.2.1 u).2.2.2.2.2) s.2.2.1)) = sg_nr s := rfl
  rw [en'] at en
  have ec : (nI (sg_nr s) ≤ (1 : Int32)) = (sg_nr s ≤ 1) := o_le (b := 1) (by omega) (by decide)
  have e3 : pev (d + 4) 136 [some (.ref b), some (.ref r), some (.int (nI 0)), none] [] A = some (none, C) := by
    refine s6 C ?_
    obtain ⟨-, -, ⟨g1, g2, g3, q, a0, -⟩, -⟩ := id s2
    have hnv : (setAll s (cF1 D s c (fun u => (s.2.2.2.1 u).2.2.2.2.2) s.2.2.1)).2.2.1 = s.2.2.1 := rfl
    by_cases cc : sg_nr s ≤ 1
    · rw [show decide (1 < sg_nr s) = false by simp; omega, bz_false] at e2
      refine e_136 ?_; simp only [b_136, i_int, i_long, i_null, i_stat, i_iload, i_lload, i_aload, i_istore, i_astore, i_lstore, i_iinc, i_ii, i_idz, i_i, i_ll, i_lsh, i_i2l, i_l2i, i_lcmp, i_dup, i_pop, i_dup2, i_ifeq, i_ifne, i_iflt, i_ifge, i_ifgt, i_ifle, i_cmpeq, i_cmpne, i_cmplt, i_cmpge, i_cmpgt, i_cmple, i_ifnull, i_ifnonnull, i_getf, am_wr, i_putI, i_putZ, i_putR, i_iald, i_iast, i_aald, i_aast, i_alen, i_newi, i_newq, i_new, i_recv, i_iret, i_zret, i_lret, i_aret, i_vret, List.getElem?_cons_zero, List.getElem?_cons_succ, Option.bind_some, Option.toList_some, Option.toList_none, List.cons_append, List.nil_append, x_nI, am_put, am_put2, List.length_cons, List.length_nil, List.set_cons_zero, List.set_cons_succ, Nat.reduceAdd, Nat.reduceLT, Nat.reduceLeDiff, Nat.reduceEqDiff, Nat.add_left_cancel_iff, Nat.add_eq_left, Nat.left_eq_add, Nat.succ_ne_self, Nat.reduceSub, reduceIte, ite_self, eq_self, or_true, true_or, or_false, false_or, or_self, i10, not_true_eq_false, not_false_eq_true, x_call1, x_call2, x_call3, x_call4, x_call5, x_call6, x_sl0, x_sli, x_slr, x_sln, x_sll, am_ent, List.map_nil, List.map_cons, List.sum_nil, List.sum_cons, Value.category, and_true, true_and, and_self, Nat.zero_le, List.replicate_succ, List.replicate_zero, List.reduceReplicate, x_obj_set, x_row_set, x_len_set, x_obx, x_rox, x_rv, x_obj a0, hnv, show nI s.2.2.1 ≤ nI s.2.2.1 from nI_le (Nat.le_refl _) (by omega), en, ec, cc]
      exact e2
    · rw [show decide (1 < sg_nr s) = true by simp; omega, bz_true] at e2
      refine e_136 ?_; simp only [b_136, i_int, i_long, i_null, i_stat, i_iload, i_lload, i_aload, i_istore, i_astore, i_lstore, i_iinc, i_ii, i_idz, i_i, i_ll, i_lsh, i_i2l, i_l2i, i_lcmp, i_dup, i_pop, i_dup2, i_ifeq, i_ifne, i_iflt, i_ifge, i_ifgt, i_ifle, i_cmpeq, i_cmpne, i_cmplt, i_cmpge, i_cmpgt, i_cmple, i_ifnull, i_ifnonnull, i_getf, am_wr, i_putI, i_putZ, i_putR, i_iald, i_iast, i_aald, i_aast, i_alen, i_newi, i_newq, i_new, i_recv, i_iret, i_zret, i_lret, i_aret, i_vret, List.getElem?_cons_zero, List.getElem?_cons_succ, Option.bind_some, Option.toList_some, Option.toList_none, List.cons_append, List.nil_append, x_nI, am_put, am_put2, List.length_cons, List.length_nil, List.set_cons_zero, List.set_cons_succ, Nat.reduceAdd, Nat.reduceLT, Nat.reduceLeDiff, Nat.reduceEqDiff, Nat.add_left_cancel_iff, Nat.add_eq_left, Nat.left_eq_add, Nat.succ_ne_self, Nat.reduceSub, reduceIte, ite_self, eq_self, or_true, true_or, or_false, false_or, or_self, i10, not_true_eq_false, not_false_eq_true, x_call1, x_call2, x_call3, x_call4, x_call5, x_call6, x_sl0, x_sli, x_slr, x_sln, x_sll, am_ent, List.map_nil, List.map_cons, List.sum_nil, List.sum_cons, Value.category, and_true, true_and, and_self, Nat.zero_le, List.replicate_succ, List.replicate_zero, List.reduceReplicate, x_obj_set, x_row_set, x_len_set, x_obx, x_rox, x_rv, x_obj a0, hnv, show nI s.2.2.1 ≤ nI s.2.2.1 from nI_le (Nat.le_refl _) (by omega), en, ec, cc]
      exact e2
  refine e_135 ?_; simp only [b_135, i_int, i_long, i_null, i_stat, i_iload, i_lload, i_aload, i_istore, i_astore, i_lstore, i_iinc, i_ii, i_idz, i_i, i_ll, i_lsh, i_i2l, i_l2i, i_lcmp, i_dup, i_pop, i_dup2, i_ifeq, i_ifne, i_iflt, i_ifge, i_ifgt, i_ifle, i_cmpeq, i_cmpne, i_cmplt, i_cmpge, i_cmpgt, i_cmple, i_ifnull, i_ifnonnull, i_getf, am_wr, i_putI, i_putZ, i_putR, i_iald, i_iast, i_aald, i_aast, i_alen, i_newi, i_newq, i_new, i_recv, i_iret, i_zret, i_lret, i_aret, i_vret, List.getElem?_cons_zero, List.getElem?_cons_succ, Option.bind_some, Option.toList_some, Option.toList_none, List.cons_append, List.nil_append, x_nI, am_put, am_put2, List.length_cons, List.length_nil, List.set_cons_zero, List.set_cons_succ, Nat.reduceAdd, Nat.reduceLT, Nat.reduceLeDiff, Nat.reduceEqDiff, Nat.add_left_cancel_iff, Nat.add_eq_left, Nat.left_eq_add, Nat.succ_ne_self, Nat.reduceSub, reduceIte, ite_self, eq_self, or_true, true_or, or_false, false_or, or_self, i10, not_true_eq_false, not_false_eq_true, x_call1, x_call2, x_call3, x_call4, x_call5, x_call6, x_sl0, x_sli, x_slr, x_sln, x_sll, am_ent, List.map_nil, List.map_cons, List.sum_nil, List.sum_cons, Value.category, and_true, true_and, and_self, Nat.zero_le, List.replicate_succ, List.replicate_zero, List.reduceReplicate, x_obj_set, x_row_set, x_len_set, x_obx, x_rox, x_rv]
  exact e3
/-- the wanted store: in order, as defined, its header at the front of the bytes, its size theirs -/
def WT (D : List Nat) (t0 : sg_S) : Prop := HP t0 ∧ STv t0 ∧ (∀ v, v < t0.2.2.1 → nrm t0 v) ∧ seg D 0 (im_h t0) ∧ sg_tot t0 t0.2.2.2.2 = D.length ∧ (t0.2.2.2.2 = 0 ∨ 0 < sg_nr t0)
/-- an empty store that may become t0 -/
def emp (t0 : sg_S) : sg_S := ((0, t0.1.2), (0, t0.2.1.2), 0, t0.2.2.2.1, 0)
theorem im_h_parts {D : List Nat} {t0 : sg_S} (h : seg D 0 (im_h t0)) : rd D 4 4 = nI t0.2.2.2.2 ∧ seg D 8 (hea 10 t0.1.1 ++ sg_cat (id1 t0) t0.1.1) ∧ seg D (16 + 12 * t0.1.1) (im_a t0.2.1) ∧ seg D (16 + 12 * t0.1.1 + sg_ls t0.2.1) (hea 11 t0.2.2.1 ++ sg_cat (im_v t0) t0.2.2.1) := by
  have e : im_h t0 = num 1196573697 4 ++ (wrd t0.2.2.2.2 ++ ((hea 10 t0.1.1 ++ sg_cat (id1 t0) t0.1.1) ++ (im_a t0.2.1 ++ (hea 11 t0.2.2.1 ++ sg_cat (im_v t0) t0.2.2.1)))) := by
    simp only [im_h, List.append_assoc]
    rfl
  rw [e] at h
  have r1 := seg_r h
  rw [num_len] at r1
  have r2 := seg_r r1
  rw [wrd_len] at r2
  have r3 := seg_r r2
  rw [List.length_append, hea_len, id1_cat] at r3
  have r4 := seg_r r3
  rw [im_a_len] at r4
  refine ⟨rd_wrd (by simpa using seg_l r1), by simpa using seg_l r2, ?_, ?_⟩
  · have := seg_l r3
    rw [show 0 + 4 + 4 + (8 + 12 * t0.1.1) = 16 + 12 * t0.1.1 by omega] at this
    exact this
  · rw [show 0 + 4 + 4 + (8 + 12 * t0.1.1) + sg_ls t0.2.1 = 16 + 12 * t0.1.1 + sg_ls t0.2.1 by omega] at r4
    exact r4
theorem HP_emp {s : sg_S} (h1 : s.1.1 = 0) (h2 : s.2.1.1 = 0) (h3 : s.2.2.1 = 0) : HP s := by
  refine ⟨⟨fun k hk => by omega, fun k hk => by omega, fun v hv => by omega⟩, fun i j hi => by omega, fun i j hi => by omega, by rw [h1]; exact Nat.zero_le _, ⟨fun k hk => by omega, fun i j hi => by omega, by omega⟩, fun v hv => by omega⟩
theorem HP_all {s : sg_S} {ce : Nat → Nat → Int32} (h : HP s) : HP (setAll s ce) := h
theorem HP_rec {s : sg_S} {n : Nat} (h : HP s) : HP (setRec s n) := h
theorem rec_fit {s : sg_S} (hs : STv s) (hrec : s.2.2.2.2 = 0 ∨ 0 < sg_nr s) (h : sg_tot s s.2.2.2.2 ≤ 800) : s.2.2.2.2 * sg_rs s ≤ 800 := by
  unfold sg_tot at h
  omega
theorem k_rfrom60 {d b r c n : Nat} {D : List Nat} {s : sg_S} {ρ : Nat → sg_R} {A : am_H} (hdj : r + 1 < b ∨ b + 45 ≤ r) (hn : n < 2147483648) (hst : am_St A) (hS : ST b A s ρ) (hP : HP s) (h0 : s.2.2.2.2 = 0) (hB : BR r A D c) (hc : c < 20000) : ∃ B ok s2 ρ2 c2, pev (d + 5) 118 [some (.ref b), some (.ref r), some (.int (nI n))] [] A = some (some (.int (bz ok)), B) ∧ am_St B ∧ ST b B s2 ρ2 ∧ (∀ u, (ρ2 u).2.2.2.2.2.2.1 = (ρ u).2.2.2.2.2.2.1) ∧ BR r B D c2 ∧ am_fr (at47 b r) A B ∧ ok = decide (sg_tot s n = D.length) ∧ (ok = true → s2 = setAll (setRec s n) (celF D (setRec s n) c)) := by
  have hs := hS.1
  have hb := hS.2.1
  have hr := hB.five
  have hD8 : D.length ≤ 800 := by obtain ⟨g, -, -, q3, -⟩ := hB; exact q3
  have e1 := k_imageBytes (d := d) (r := n) hst hS
  have b1 := hS.hs_le
  have b2 := pb_le hs false (Nat.le_refl s.2.2.1)
  have b3 := rs_le hs
  rw [pb_f] at b2
  have b4 : n * sg_rs s ≤ 2147483648 * 1280 := Nat.mul_le_mul (by omega) b3
  have ett : sg_tot s n = sg_hs s + sg_pf s s.2.2.1 + n * sg_rs s := rfl
  have ec : (lN (sg_tot s n) = lN D.length) = (sg_tot s n = D.length) := propext (pk_lEQ (by omega) (by omega))
  obtain ⟨-, -, ⟨g1, g2, g3, q, a0, a1, a2, a3, a4, a5, a6, a7⟩, hA, hV, hR⟩ := id hS
  by_cases c0 : sg_tot s n = D.length
  · have F : am_fr (fun q => q = b) A (am_set A b (.inr (.inr (3, [.int (nI n), .int (nI s.1.1), .ref (b + 1), .ref (b + 2), .int (nI s.2.2.1), .ref (b + 3), .ref (b + 4), .ref (b + 40)])))) := (am_fr.refl A).set rfl
    have hS1 : ST b (am_set A b (.inr (.inr (3, [.int (nI n), .int (nI s.1.1), .ref (b + 1), .ref (b + 2), .int (nI s.2.2.1), .ref (b + 3), .ref (b + 4), .ref (b + 40)])))) (setRec s n) ρ := ⟨⟨hs.1, hs.2.1, hs.2.2.1, hs.2.2.2.1, hn⟩, hb, ⟨g1, g2, g3, q, x_set_self _ _ _, (F.2.2 _ (by omega)).trans a1, (F.2.2 _ (by omega)).trans a2, (F.2.2 _ (by omega)).trans a3, (F.2.2 _ (by omega)).trans a4, a5, a6, a7⟩, hA.kept F (fun q q1 q2 q3 => by omega), fun v hv => (hV v hv).kept F (fun q q1 q2 q3 => by omega), hR⟩
    have hst1 : am_St (am_set A b (.inr (.inr (3, [.int (nI n), .int (nI s.1.1), .ref (b + 1), .ref (b + 2), .int (nI s.2.2.1), .ref (b + 3), .ref (b + 4), .ref (b + 40)])))) := hst.kept F (fun q q1 q2 => by omega)
    have hB1 := hB.kept F (by omega) (by omega)
    have ht : sg_tot (setRec s n) n ≤ 800 := by
      show sg_tot s n ≤ 800
      omega
    obtain ⟨C, ρ2, c2, e2, r1, r2, r3, r4, r5⟩ := k_rcells (d := d) (D := D) (s := setRec s n) hdj (cells_fit hS1.1 ht) hc (by show n * sg_rs s ≤ 800; omega) hst1 hS1 hB1
    refine ⟨C, true, _, ρ2, c2, ?_, r1, r2, r3, r4, (F.mono (fun z hz => Or.inl (by subst hz; unfold at45; omega))).trans r5, by simp [c0], fun _ => rfl⟩
    refine e_118 ?_; simp only [b_118, i_int, i_long, i_null, i_stat, i_iload, i_lload, i_aload, i_istore, i_astore, i_lstore, i_iinc, i_ii, i_idz, i_i, i_ll, i_lsh, i_i2l, i_l2i, i_lcmp, i_dup, i_pop, i_dup2, i_ifeq, i_ifne, i_iflt, i_ifge, i_ifgt, i_ifle, i_cmpeq, i_cmpne, i_cmplt, i_cmpge, i_cmpgt, i_cmple, i_ifnull, i_ifnonnull, i_getf, am_wr, i_putI, i_putZ, i_putR, i_iald, i_iast, i_aald, i_aast, i_alen, i_newi, i_newq, i_new, i_recv, i_iret, i_zret, i_lret, i_aret, i_vret, List.getElem?_cons_zero, List.getElem?_cons_succ, Option.bind_some, Option.toList_some, Option.toList_none, List.cons_append, List.nil_append, x_nI, am_put, am_put2, List.length_cons, List.length_nil, List.set_cons_zero, List.set_cons_succ, Nat.reduceAdd, Nat.reduceLT, Nat.reduceLeDiff, Nat.reduceEqDiff, Nat.add_left_cancel_iff, Nat.add_eq_left, Nat.left_eq_add, Nat.succ_ne_self, Nat.reduceSub, reduceIte, ite_self, eq_self, or_true, true_or, or_false, false_or, or_self, i10, not_true_eq_false, not_false_eq_true, x_call1, x_call2, x_call3, x_call4, x_call5, x_call6, x_sl0, x_sli, x_slr, x_sln, x_sll, am_ent, List.map_nil, List.map_cons, List.sum_nil, List.sum_cons, Value.category, and_true, true_and, and_self, Nat.zero_le, List.replicate_succ, List.replicate_zero, List.reduceReplicate, x_obj_set, x_row_set, x_len_set, x_obx, x_rox, x_rv, x_obj a0, nI_l (show n < 2 ^ 31 by omega), e1, x_obj hB.obj, nI_l (show D.length < 2 ^ 31 by omega), lg_cmp_eq, ec, c0, x_own hb, e2]
    all_goals rfl
  · refine ⟨A, false, s, ρ, c, ?_, hst, hS, fun _ => rfl, hB, am_fr.refl A, by simp [c0], fun e => (by cases e)⟩
    refine e_118 ?_; simp only [b_118, i_int, i_long, i_null, i_stat, i_iload, i_lload, i_aload, i_istore, i_astore, i_lstore, i_iinc, i_ii, i_idz, i_i, i_ll, i_lsh, i_i2l, i_l2i, i_lcmp, i_dup, i_pop, i_dup2, i_ifeq, i_ifne, i_iflt, i_ifge, i_ifgt, i_ifle, i_cmpeq, i_cmpne, i_cmplt, i_cmpge, i_cmpgt, i_cmple, i_ifnull, i_ifnonnull, i_getf, am_wr, i_putI, i_putZ, i_putR, i_iald, i_iast, i_aald, i_aast, i_alen, i_newi, i_newq, i_new, i_recv, i_iret, i_zret, i_lret, i_aret, i_vret, List.getElem?_cons_zero, List.getElem?_cons_succ, Option.bind_some, Option.toList_some, Option.toList_none, List.cons_append, List.nil_append, x_nI, am_put, am_put2, List.length_cons, List.length_nil, List.set_cons_zero, List.set_cons_succ, Nat.reduceAdd, Nat.reduceLT, Nat.reduceLeDiff, Nat.reduceEqDiff, Nat.add_left_cancel_iff, Nat.add_eq_left, Nat.left_eq_add, Nat.succ_ne_self, Nat.reduceSub, reduceIte, ite_self, eq_self, or_true, true_or, or_false, false_or, or_self, i10, not_true_eq_false, not_false_eq_true, x_call1, x_call2, x_call3, x_call4, x_call5, x_call6, x_sl0, x_sli, x_slr, x_sln, x_sll, am_ent, List.map_nil, List.map_cons, List.sum_nil, List.sum_cons, Value.category, and_true, true_and, and_self, Nat.zero_le, List.replicate_succ, List.replicate_zero, List.reduceReplicate, x_obj_set, x_row_set, x_len_set, x_obx, x_rox, x_rv, x_obj a0, nI_l (show n < 2 ^ 31 by omega), e1, x_obj hB.obj, nI_l (show D.length < 2 ^ 31 by omega), lg_cmp_eq, ec, c0]
    all_goals rfl
theorem k_readFrom {d b r c : Nat} {D : List Nat} {s : sg_S} {ρ : Nat → sg_R} {A : am_H} (T : Option sg_S) (hdj : r + 1 < b ∨ b + 45 ≤ r) (hst : am_St A) (hS : ST b A s ρ) (h1 : s.1.1 = 0) (h2 : s.2.1.1 = 0) (h3 : s.2.2.1 = 0) (h0 : s.2.2.2.2 = 0) (hz : ∀ v, v < 5 → (ρ v).2.2.2.2.2.2.1.1 = 0) (hB : BR r A D c) (hT : ∀ t0, T = some t0 → WT D t0 ∧ s = emp t0) : ∃ B ok s2 ρ2 c2, pev (d + 6) 117 [some (.ref b), some (.ref r), none] [] A = some (some (.int (bz ok)), B) ∧ am_St B ∧ ST b B s2 ρ2 ∧ BR r B D c2 ∧ am_fr (at47 b r) A B ∧ (ok = true → HP s2 ∧ sg_tot s2 s2.2.2.2.2 = D.length ∧ (s2.2.2.2.2 = 0 ∨ 0 < sg_nr s2) ∧ ∀ v, s2.2.2.1 ≤ v → v < 5 → (ρ2 v).2.2.2.2.2.2.1.1 = 0) ∧ ∀ t0, T = some t0 → ok = true ∧ s2 = setAll t0 (celF D t0 (sg_hs t0)) := by
  have hb := hS.2.1
  have hr := hB.five
  have hP := HP_emp h1 h2 h3
  obtain ⟨B1, e1, b1, f1⟩ := k_rewind (d := d + 5) hB
  obtain ⟨B2, e2, b2, f2⟩ := k_takeWord (d := d + 4) (by omega) b1
  obtain ⟨B3, e3, b3, f3⟩ := k_takeWord (d := d + 4) (by omega) b2
  have F3 := f1.trans (f2.trans f3)
  have hS3 := hS.two F3 hdj
  have hst3 := hst.two F3 hr
  rw [show 0 + 4 = 4 by omega] at e3 b2
  rw [show 0 + 4 + 4 = 8 by omega] at b3
  obtain ⟨B4, ok4, s4, c4, e4, q1, q2, q3, q4, q5, q6, q7⟩ := k_rdim (d := d + 3) (D := D) hdj hS3 hP h1 b3 (by omega)
  have G4 : am_fr (at47 b r) A B4 := (F3.mono (fun z hz => Or.inr hz)).trans q6
  have hst4 : am_St B4 := hst3.kept q6 (fun q z1 z2 => z2.elim (fun e => by unfold at45 at e; omega) (fun e => by unfold at2 at e; omega))
  have x4 : ∀ t0, T = some t0 → ok4 = true ∧ s4 = (t0.1, (0, t0.2.1.2), 0, t0.2.2.2.1, 0) ∧ c4 = 16 + 12 * t0.1.1 := by
    intro t0 e
    obtain ⟨w, rfl⟩ := hT t0 e
    obtain ⟨z1, z2, z3⟩ := q7 t0 w.1 w.2.1 (im_h_parts w.2.2.2.1).2.1 rfl
    refine ⟨z1, ?_, by omega⟩
    rw [show s4 = (s4.1, s4.2) from rfl, z2, q3]
    rfl
  cases ok4 with
  | false =>
    refine ⟨B4, false, s4, ρ, c4, ?_, hst4, q1, q4, G4, fun e => (by cases e), fun t0 e => absurd (x4 t0 e).1 (by decide)⟩
    refine e_117 ?_; simp only [b_117, i_int, i_long, i_null, i_stat, i_iload, i_lload, i_aload, i_istore, i_astore, i_lstore, i_iinc, i_ii, i_idz, i_i, i_ll, i_lsh, i_i2l, i_l2i, i_lcmp, i_dup, i_pop, i_dup2, i_ifeq, i_ifne, i_iflt, i_ifge, i_ifgt, i_ifle, i_cmpeq, i_cmpne, i_cmplt, i_cmpge, i_cmpgt, i_cmple, i_ifnull, i_ifnonnull, i_getf, am_wr, i_putI, i_putZ, i_putR, i_iald, i_iast, i_aald, i_aast, i_alen, i_newi, i_newq, i_new, i_recv, i_iret, i_zret, i_lret, i_aret, i_vret, List.getElem?_cons_zero, List.getElem?_cons_succ, Option.bind_some, Option.toList_some, Option.toList_none, List.cons_append, List.nil_append, x_nI, am_put, am_put2, List.length_cons, List.length_nil, List.set_cons_zero, List.set_cons_succ, Nat.reduceAdd, Nat.reduceLT, Nat.reduceLeDiff, Nat.reduceEqDiff, Nat.add_left_cancel_iff, Nat.add_eq_left, Nat.left_eq_add, Nat.succ_ne_self, Nat.reduceSub, reduceIte, ite_self, eq_self, or_true, true_or, or_false, false_or, or_self, i10, not_true_eq_false, not_false_eq_true, x_call1, x_call2, x_call3, x_call4, x_call5, x_call6, x_sl0, x_sli, x_slr, x_sln, x_sll, am_ent, List.map_nil, List.map_cons, List.sum_nil, List.sum_cons, Value.category, and_true, true_and, and_self, Nat.zero_le, List.replicate_succ, List.replicate_zero, List.reduceReplicate, x_obj_set, x_row_set, x_len_set, x_obx, x_rox, x_rv, x_obj hB.obj, e1, x_obj b1.obj, e2, x_obj b2.obj, e3, x_obj hS3.obj, e4, bz_false]
    all_goals rfl
  | true =>
    have s421 : s4.2.1.1 = 0 := by rw [q3]; exact h2
    obtain ⟨B5, ok5, a5, c5, e5, l1, l2, l3, l4, l5, l6⟩ := k_aread (d := d + 2) (D := D) (by omega) hst4 q1.2.2.2.1 s421 q4 (by omega)
    obtain ⟨aa, ha1, ha2, ha3⟩ : ∃ aa, AL (b + 40) B5 aa ∧ AV aa ∧ ∀ t0, T = some t0 → aa = t0.2.1 ∧ ok5 = true ∧ c5 = 16 + 12 * t0.1.1 + sg_ls t0.2.1 := by
      cases T with
      | none => exact ⟨a5, l1, l2, fun t0 e => (by cases e)⟩
      | some t0 =>
        obtain ⟨w, -⟩ := hT t0 rfl
        obtain ⟨z1, z2, z3⟩ := x4 t0 rfl
        have hAV := w.1.2.2.2.2.1
        have hsg := (im_h_parts w.2.2.2.1).2.2.1
        rw [← z3] at hsg
        obtain ⟨j1, j2, j3⟩ := l6 _ hAV hsg (by omega)
        exact ⟨_, j2, hAV, fun t1 e => by cases e; exact ⟨rfl, j1, by omega⟩⟩
    have hS5 := q1.setL0 ha1 l5 hdj
    have G5 : am_fr (at47 b r) A B5 := G4.trans (l5.mono (atAR_47 (by omega) (by omega)))
    have hst5 : am_St B5 := hst4.kept l5 (fun q z1 z2 => z2.elim (fun e => by unfold at5 at e; omega) (fun e => by unfold at2 at e; omega))
    have s4nv : s4.2.2.1 = 0 := by rw [q3]; exact h3
    have s4rc : s4.2.2.2.2 = 0 := by rw [q3]; exact h0
    have hP5 : HP (setAt s4 0 aa) := ⟨⟨q2.1.1, fun k hk => (ha2.1 k hk).1, fun v hv => by have : v < s4.2.2.1 := hv; omega⟩, q2.2.1, q2.2.2.1, q2.2.2.2.1, ha2, fun v hv => by have : v < s4.2.2.1 := hv; omega⟩
    cases ok5 with
    | false =>
      refine ⟨B5, false, _, ρ, c5, ?_, hst5, hS5, l3, G5, fun e => (by cases e), fun t0 e => absurd (ha3 t0 e).2.1 (by decide)⟩
      refine e_117 ?_; simp only [b_117, i_int, i_long, i_null, i_stat, i_iload, i_lload, i_aload, i_istore, i_astore, i_lstore, i_iinc, i_ii, i_idz, i_i, i_ll, i_lsh, i_i2l, i_l2i, i_lcmp, i_dup, i_pop, i_dup2, i_ifeq, i_ifne, i_iflt, i_ifge, i_ifgt, i_ifle, i_cmpeq, i_cmpne, i_cmplt, i_cmpge, i_cmpgt, i_cmple, i_ifnull, i_ifnonnull, i_getf, am_wr, i_putI, i_putZ, i_putR, i_iald, i_iast, i_aald, i_aast, i_alen, i_newi, i_newq, i_new, i_recv, i_iret, i_zret, i_lret, i_aret, i_vret, List.getElem?_cons_zero, List.getElem?_cons_succ, Option.bind_some, Option.toList_some, Option.toList_none, List.cons_append, List.nil_append, x_nI, am_put, am_put2, List.length_cons, List.length_nil, List.set_cons_zero, List.set_cons_succ, Nat.reduceAdd, Nat.reduceLT, Nat.reduceLeDiff, Nat.reduceEqDiff, Nat.add_left_cancel_iff, Nat.add_eq_left, Nat.left_eq_add, Nat.succ_ne_self, Nat.reduceSub, reduceIte, ite_self, eq_self, or_true, true_or, or_false, false_or, or_self, i10, not_true_eq_false, not_false_eq_true, x_call1, x_call2, x_call3, x_call4, x_call5, x_call6, x_sl0, x_sli, x_slr, x_sln, x_sll, am_ent, List.map_nil, List.map_cons, List.sum_nil, List.sum_cons, Value.category, and_true, true_and, and_self, Nat.zero_le, List.replicate_succ, List.replicate_zero, List.reduceReplicate, x_obj_set, x_row_set, x_len_set, x_obx, x_rox, x_rv, x_obj hB.obj, e1, x_obj b1.obj, e2, x_obj b2.obj, e3, x_obj hS3.obj, e4, bz_true, x_obj q1.obj, x_obj (q1.2.2.2.1).obj, e5, bz_false]
      all_goals rfl
    | true =>
      obtain ⟨B6, ok6, s6, ρ6, c6, e6, r1, r2, r3, r4, r5, r6, r7, r8⟩ := k_rvars (d := d) (D := D) T hdj hst5 hS5 hP5 s4nv hz l3 (by omega) (fun t0 e => by
        obtain ⟨w, -⟩ := hT t0 e
        obtain ⟨z1, z2, z3⟩ := x4 t0 e
        obtain ⟨y1, y2, y3⟩ := ha3 t0 e
        have hsg := (im_h_parts w.2.2.2.1).2.2.2
        rw [← y3] at hsg
        refine ⟨w.1, w.2.1, w.2.2.1, hsg, ?_, ?_⟩
        · have := sg_ls_mod t0.2.1
          omega
        · rw [z2, y1]
          rfl)
      have G6 : am_fr (at47 b r) A B6 := G5.trans r7
      have hst6 : am_St B6 := hst5.kept r7 (fun q z1 z2 => z2.elim (fun e => by unfold at45 at e; omega) (fun e => by unfold at2 at e; omega))
      cases ok6 with
      | false =>
        refine ⟨B6, false, s6, ρ6, c6, ?_, hst6, r1, r5, G6, fun e => (by cases e), fun t0 e => absurd (r8 t0 e).1 (by decide)⟩
        refine e_117 ?_; simp only [b_117, i_int, i_long, i_null, i_stat, i_iload, i_lload, i_aload, i_istore, i_astore, i_lstore, i_iinc, i_ii, i_idz, i_i, i_ll, i_lsh, i_i2l, i_l2i, i_lcmp, i_dup, i_pop, i_dup2, i_ifeq, i_ifne, i_iflt, i_ifge, i_ifgt, i_ifle, i_cmpeq, i_cmpne, i_cmplt, i_cmpge, i_cmpgt, i_cmple, i_ifnull, i_ifnonnull, i_getf, am_wr, i_putI, i_putZ, i_putR, i_iald, i_iast, i_aald, i_aast, i_alen, i_newi, i_newq, i_new, i_recv, i_iret, i_zret, i_lret, i_aret, i_vret, List.getElem?_cons_zero, List.getElem?_cons_succ, Option.bind_some, Option.toList_some, Option.toList_none, List.cons_append, List.nil_append, x_nI, am_put, am_put2, List.length_cons, List.length_nil, List.set_cons_zero, List.set_cons_succ, Nat.reduceAdd, Nat.reduceLT, Nat.reduceLeDiff, Nat.reduceEqDiff, Nat.add_left_cancel_iff, Nat.add_eq_left, Nat.left_eq_add, Nat.succ_ne_self, Nat.reduceSub, reduceIte, ite_self, eq_self, or_true, true_or, or_false, false_or, or_self, i10, not_true_eq_false, not_false_eq_true, x_call1, x_call2, x_call3, x_call4, x_call5, x_call6, x_sl0, x_sli, x_slr, x_sln, x_sll, am_ent, List.map_nil, List.map_cons, List.sum_nil, List.sum_cons, Value.category, and_true, true_and, and_self, Nat.zero_le, List.replicate_succ, List.replicate_zero, List.reduceReplicate, x_obj_set, x_row_set, x_len_set, x_obx, x_rox, x_rv, x_obj hB.obj, e1, x_obj b1.obj, e2, x_obj b2.obj, e3, x_obj hS3.obj, e4, bz_true, x_obj q1.obj, x_obj (q1.2.2.2.1).obj, e5, x_obj hS5.obj, e6, bz_false]
        all_goals rfl
      | true =>
        have en := k_recordVariables (d := d + 5) r1
        have hnr := sg_nr_le s6
        have h55 := r1.1.2.2.1
        have s6rc : s6.2.2.2.2 = 0 := r4.2.2.trans s4rc
        have xt : ∀ t0, T = some t0 → rd D 4 4 = nI t0.2.2.2.2 ∧ s6 = cutV t0 t0.2.2.1 ∧ c6 = sg_hs t0 ∧ (t0.2.2.2.2 = 0 ∨ 0 < sg_nr t0) ∧ t0.2.2.2.2 < 2147483648 ∧ sg_tot t0 t0.2.2.2.2 = D.length := by
          intro t0 e
          obtain ⟨w, -⟩ := hT t0 e
          obtain ⟨y1, y2, y3⟩ := ha3 t0 e
          obtain ⟨z1, z2, z3⟩ := r8 t0 e
          refine ⟨(im_h_parts w.2.2.2.1).1, z2, ?_, w.2.2.2.2.2, w.2.1.2.2.2.2, w.2.2.2.2.1⟩
          rw [z3, y3, sg_hs, sg_cat_len, sg_sum_congr (fun v _ => im_v_len t0 v)]
          omega
        by_cases c1 : rd D 4 4 < 0
        · refine ⟨B6, false, s6, ρ6, c6, ?_, hst6, r1, r5, G6, fun e => (by cases e), fun t0 e => ?_⟩
          · refine e_117 ?_; simp only [b_117, i_int, i_long, i_null, i_stat, i_iload, i_lload, i_aload, i_istore, i_astore, i_lstore, i_iinc, i_ii, i_idz, i_i, i_ll, i_lsh, i_i2l, i_l2i, i_lcmp, i_dup, i_pop, i_dup2, i_ifeq, i_ifne, i_iflt, i_ifge, i_ifgt, i_ifle, i_cmpeq, i_cmpne, i_cmplt, i_cmpge, i_cmpgt, i_cmple, i_ifnull, i_ifnonnull, i_getf, am_wr, i_putI, i_putZ, i_putR, i_iald, i_iast, i_aald, i_aast, i_alen, i_newi, i_newq, i_new, i_recv, i_iret, i_zret, i_lret, i_aret, i_vret, List.getElem?_cons_zero, List.getElem?_cons_succ, Option.bind_some, Option.toList_some, Option.toList_none, List.cons_append, List.nil_append, x_nI, am_put, am_put2, List.length_cons, List.length_nil, List.set_cons_zero, List.set_cons_succ, Nat.reduceAdd, Nat.reduceLT, Nat.reduceLeDiff, Nat.reduceEqDiff, Nat.add_left_cancel_iff, Nat.add_eq_left, Nat.left_eq_add, Nat.succ_ne_self, Nat.reduceSub, reduceIte, ite_self, eq_self, or_true, true_or, or_false, false_or, or_self, i10, not_true_eq_false, not_false_eq_true, x_call1, x_call2, x_call3, x_call4, x_call5, x_call6, x_sl0, x_sli, x_slr, x_sln, x_sll, am_ent, List.map_nil, List.map_cons, List.sum_nil, List.sum_cons, Value.category, and_true, true_and, and_self, Nat.zero_le, List.replicate_succ, List.replicate_zero, List.reduceReplicate, x_obj_set, x_row_set, x_len_set, x_obx, x_rox, x_rv, x_obj hB.obj, e1, x_obj b1.obj, e2, x_obj b2.obj, e3, x_obj hS3.obj, e4, bz_true, x_obj q1.obj, x_obj (q1.2.2.2.1).obj, e5, x_obj hS5.obj, e6, c1]
            all_goals rfl
          · obtain ⟨k1, -, -, -, k5, -⟩ := xt t0 e
            rw [k1] at c1
            exact absurd c1 (nI_pos (by omega))
        · obtain ⟨n, hn, en0⟩ := nI_of c1
          rw [en0] at e3 c1
          have hnx : ∀ t0, T = some t0 → n = t0.2.2.2.2 := fun t0 e => (nI_eq hn (by have := (xt t0 e).2.2.2.2.1; omega)).mp (en0.symm.trans (xt t0 e).1)
          obtain ⟨C, ok7, s7, ρ7, c7, e7, w1, w2, w3, w4, w5, w6, w7⟩ := k_rfrom60 (d := d + 1) (D := D) (n := n) hdj (by omega) hst6 r1 r2 s6rc r5 (by omega)
          -- from place 60 on
          have fin : (n = 0 ∨ 0 < sg_nr s6) → ∃ B ok s2 ρ2 c2, pev (d + 6) 118 [some (.ref b), some (.ref r), some (.int (nI n))] [] B6 = some (some (.int (bz ok)), B) ∧ am_St B ∧ ST b B s2 ρ2 ∧ BR r B D c2 ∧ am_fr (at47 b r) A B ∧ (ok = true → HP s2 ∧ sg_tot s2 s2.2.2.2.2 = D.length ∧ (s2.2.2.2.2 = 0 ∨ 0 < sg_nr s2) ∧ ∀ v, s2.2.2.1 ≤ v → v < 5 → (ρ2 v).2.2.2.2.2.2.1.1 = 0) ∧ ∀ t0, T = some t0 → ok = true ∧ s2 = setAll t0 (celF D t0 (sg_hs t0)) := by
            intro hor
            refine ⟨C, ok7, s7, ρ7, c7, e7, w1, w2, w4, G6.trans w5, fun e => ?_, fun t0 e => ?_⟩
            · have ht := w6
              rw [e] at ht
              have ht2 := of_decide_eq_true ht.symm
              have es := w7 e
              subst es
              refine ⟨HP_all (HP_rec r2), ht2, hor, fun v v1 v2 => ?_⟩
              rw [w3 v]
              exact r3 rfl v v1 v2
            · obtain ⟨k1, k2, k3, k4, k5, k6⟩ := xt t0 e
              have hnn := hnx t0 e
              have etot : sg_tot s6 n = D.length := by
                rw [k2, hnn]
                exact k6
              have hok : ok7 = true := by rw [w6]; simp [etot]
              refine ⟨hok, ?_⟩
              rw [w7 hok, k2, hnn, k3]
              rfl
          by_cases c2 : nI n ≤ 0
          · have hn0 : n = 0 := by
              rcases Nat.eq_zero_or_pos n with h | h
              · exact h
              · exact absurd c2 (nI_nle h (by omega))
            obtain ⟨B, ok, s2, ρ2, c2', y1, y2⟩ := fin (Or.inl hn0)
            refine ⟨B, ok, s2, ρ2, c2', ?_, y2⟩
            refine e_117 ?_; simp only [b_117, i_int, i_long, i_null, i_stat, i_iload, i_lload, i_aload, i_istore, i_astore, i_lstore, i_iinc, i_ii, i_idz, i_i, i_ll, i_lsh, i_i2l, i_l2i, i_lcmp, i_dup, i_pop, i_dup2, i_ifeq, i_ifne, i_iflt, i_ifge, i_ifgt, i_ifle, i_cmpeq, i_cmpne, i_cmplt, i_cmpge, i_cmpgt, i_cmple, i_ifnull, i_ifnonnull, i_getf, am_wr, i_putI, i_putZ, i_putR, i_iald, i_iast, i_aald, i_aast, i_alen, i_newi, i_newq, i_new, i_recv, i_iret, i_zret, i_lret, i_aret, i_vret, List.getElem?_cons_zero, List.getElem?_cons_succ, Option.bind_some, Option.toList_some, Option.toList_none, List.cons_append, List.nil_append, x_nI, am_put, am_put2, List.length_cons, List.length_nil, List.set_cons_zero, List.set_cons_succ, Nat.reduceAdd, Nat.reduceLT, Nat.reduceLeDiff, Nat.reduceEqDiff, Nat.add_left_cancel_iff, Nat.add_eq_left, Nat.left_eq_add, Nat.succ_ne_self, Nat.reduceSub, reduceIte, ite_self, eq_self, or_true, true_or, or_false, false_or, or_self, i10, not_true_eq_false, not_false_eq_true, x_call1, x_call2, x_call3, x_call4, x_call5, x_call6, x_sl0, x_sli, x_slr, x_sln, x_sll, am_ent, List.map_nil, List.map_cons, List.sum_nil, List.sum_cons, Value.category, and_true, true_and, and_self, Nat.zero_le, List.replicate_succ, List.replicate_zero, List.reduceReplicate, x_obj_set, x_row_set, x_len_set, x_obx, x_rox, x_rv, x_obj hB.obj, e1, x_obj b1.obj, e2, x_obj b2.obj, e3, x_obj hS3.obj, e4, bz_true, x_obj q1.obj, x_obj (q1.2.2.2.1).obj, e5, x_obj hS5.obj, e6, c1, c2]
            exact y1
          · by_cases c3 : sg_nr s6 = 0
            · refine ⟨B6, false, s6, ρ6, c6, ?_, hst6, r1, r5, G6, fun e => (by cases e), fun t0 e => ?_⟩
              · refine e_117 ?_; simp only [b_117, i_int, i_long, i_null, i_stat, i_iload, i_lload, i_aload, i_istore, i_astore, i_lstore, i_iinc, i_ii, i_idz, i_i, i_ll, i_lsh, i_i2l, i_l2i, i_lcmp, i_dup, i_pop, i_dup2, i_ifeq, i_ifne, i_iflt, i_ifge, i_ifgt, i_ifle, i_cmpeq, i_cmpne, i_cmplt, i_cmpge, i_cmpgt, i_cmple, i_ifnull, i_ifnonnull, i_getf, am_wr, i_putI, i_putZ, i_putR, i_iald, i_iast, i_aald, i_aast, i_alen, i_newi, i_newq, i_new, i_recv, i_iret, i_zret, i_lret, i_aret, i_vret, List.getElem?_cons_zero, List.getElem?_cons_succ, Option.bind_some, Option.toList_some, Option.toList_none, List.cons_append, List.nil_append, x_nI, am_put, am_put2, List.length_cons, List.length_nil, List.set_cons_zero, List.set_cons_succ, Nat.reduceAdd, Nat.reduceLT, Nat.reduceLeDiff, Nat.reduceEqDiff, Nat.add_left_cancel_iff, Nat.add_eq_left, Nat.left_eq_add, Nat.succ_ne_self, Nat.reduceSub, reduceIte, ite_self, eq_self, or_true, true_or, or_false, false_or, or_self, i10, not_true_eq_false, not_false_eq_true, x_call1, x_call2, x_call3, x_call4, x_call5, x_call6, x_sl0, x_sli, x_slr, x_sln, x_sll, am_ent, List.map_nil, List.map_cons, List.sum_nil, List.sum_cons, Value.category, and_true, true_and, and_self, Nat.zero_le, List.replicate_succ, List.replicate_zero, List.reduceReplicate, x_obj_set, x_row_set, x_len_set, x_obx, x_rox, x_rv, x_obj hB.obj, e1, x_obj b1.obj, e2, x_obj b2.obj, e3, x_obj hS3.obj, e4, bz_true, x_obj q1.obj, x_obj (q1.2.2.2.1).obj, e5, x_obj hS5.obj, e6, c1, c2, x_obj r1.obj, en, c3, nI_0]
                all_goals rfl
              · obtain ⟨k1, k2, k3, k4, k5, k6⟩ := xt t0 e
                have hnn := hnx t0 e
                have e9 : sg_nr s6 = sg_nr t0 := by rw [k2]; rfl
                rcases k4 with k4 | k4
                · refine absurd ?_ c2
                  rw [hnn, k4]
                  decide
                · omega
            · obtain ⟨B, ok, s2, ρ2, c2', y1, y2⟩ := fin (Or.inr (by omega))
              refine ⟨B, ok, s2, ρ2, c2', ?_, y2⟩
              have hne : ¬ nI (sg_nr s6) = 0 := nI_ne0 (by omega) (by omega)
              refine e_117 ?_; simp only [b_117, i_int, i_long, i_null, i_stat, i_iload, i_lload, i_aload, i_istore, i_astore, i_lstore, i_iinc, i_ii, i_idz, i_i, i_ll, i_lsh, i_i2l, i_l2i, i_lcmp, i_dup, i_pop, i_dup2, i_ifeq, i_ifne, i_iflt, i_ifge, i_ifgt, i_ifle, i_cmpeq, i_cmpne, i_cmplt, i_cmpge, i_cmpgt, i_cmple, i_ifnull, i_ifnonnull, i_getf, am_wr, i_putI, i_putZ, i_putR, i_iald, i_iast, i_aald, i_aast, i_alen, i_newi, i_newq, i_new, i_recv, i_iret, i_zret, i_lret, i_aret, i_vret, List.getElem?_cons_zero, List.getElem?_cons_succ, Option.bind_some, Option.toList_some, Option.toList_none, List.cons_append, List.nil_append, x_nI, am_put, am_put2, List.length_cons, List.length_nil, List.set_cons_zero, List.set_cons_succ, Nat.reduceAdd, Nat.reduceLT, Nat.reduceLeDiff, Nat.reduceEqDiff, Nat.add_left_cancel_iff, Nat.add_eq_left, Nat.left_eq_add, Nat.succ_ne_self, Nat.reduceSub, reduceIte, ite_self, eq_self, or_true, true_or, or_false, false_or, or_self, i10, not_true_eq_false, not_false_eq_true, x_call1, x_call2, x_call3, x_call4, x_call5, x_call6, x_sl0, x_sli, x_slr, x_sln, x_sll, am_ent, List.map_nil, List.map_cons, List.sum_nil, List.sum_cons, Value.category, and_true, true_and, and_self, Nat.zero_le, List.replicate_succ, List.replicate_zero, List.reduceReplicate, x_obj_set, x_row_set, x_len_set, x_obx, x_rox, x_rv, x_obj hB.obj, e1, x_obj b1.obj, e2, x_obj b2.obj, e3, x_obj hS3.obj, e4, bz_true, x_obj q1.obj, x_obj (q1.2.2.2.1).obj, e5, x_obj hS5.obj, e6, c1, c2, x_obj r1.obj, en, hne]
              exact y1
