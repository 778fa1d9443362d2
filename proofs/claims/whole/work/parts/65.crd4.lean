/-! the class reads all variables, then the cells -/
theorem k_rvars18 {d b r n c0 : Nat} {D : List Nat} (T : Option sg_S) (hdj : r + 1 < b ∨ b + 45 ≤ r) (hn : n ≤ 5) (hT0 : ∀ t0, T = some t0 → HP t0 ∧ STv t0 ∧ t0.2.2.1 = n ∧ (∀ v, v < n → nrm t0 v) ∧ seg D c0 (sg_cat (im_v t0) n) ∧ c0 % 4 = 0) : ∀ (m k : Nat), k + m = n → ∀ {A : am_H} {s : sg_S} {ρ : Nat → sg_R} {c : Nat}, am_St A → ST b A s ρ → HP s → s.2.2.1 = k → (∀ v, k ≤ v → v < 5 → (ρ v).2.2.2.2.2.2.1.1 = 0) → BR r A D c → c + 170 * m < 30000 → (∀ t0, T = some t0 → s = cutV t0 k ∧ c = c0 + (sg_cat (im_v t0) k).length) → ∃ B ok s2 ρ2 c2, pev (d + 5) 132 [some (.ref b), some (.ref r), some (.int (nI n)), some (.int (nI k))] [] A = some (some (.int (bz ok)), B) ∧ ST b B s2 ρ2 ∧ HP s2 ∧ (ok = true → s2.2.2.1 = n ∧ ∀ v, n ≤ v → v < 5 → (ρ2 v).2.2.2.2.2.2.1.1 = 0) ∧ (s2.1 = s.1 ∧ s2.2.1 = s.2.1 ∧ s2.2.2.2.2 = s.2.2.2.2) ∧ BR r B D c2 ∧ c2 ≤ c + 170 * m ∧ am_fr (at47 b r) A B ∧ ∀ t0, T = some t0 → ok = true ∧ s2 = cutV t0 n ∧ c2 = c0 + (sg_cat (im_v t0) n).length := by
  intro m
  induction m with
  | zero =>
    intro k hk A s ρ c hst hS hP hnv hz hB hc hT
    have hkn : k = n := by omega
    subst hkn
    refine ⟨A, true, s, ρ, c, ?_, hS, hP, fun _ => ⟨hnv, hz⟩, ⟨rfl, rfl, rfl⟩, hB, by omega, am_fr.refl A, fun t0 e => ⟨rfl, hT t0 e⟩⟩
    refine e_132 ?_; simp only [b_132, i_int, i_long, i_null, i_stat, i_iload, i_lload, i_aload, i_istore, i_astore, i_lstore, i_iinc, i_ii, i_idz, i_i, i_ll, i_lsh, i_i2l, i_l2i, i_lcmp, i_dup, i_pop, i_dup2, i_ifeq, i_ifne, i_iflt, i_ifge, i_ifgt, i_ifle, i_cmpeq, i_cmpne, i_cmplt, i_cmpge, i_cmpgt, i_cmple, i_ifnull, i_ifnonnull, i_getf, am_wr, i_putI, i_putZ, i_putR, i_iald, i_iast, i_aald, i_aast, i_alen, i_newi, i_newq, i_new, i_recv, i_iret, i_zret, i_lret, i_aret, i_vret, List.getElem?_cons_zero, List.getElem?_cons_succ, Option.bind_some, Option.toList_some, Option.toList_none, List.cons_append, List.nil_append, x_nI, am_put, am_put2, List.length_cons, List.length_nil, List.set_cons_zero, List.set_cons_succ, Nat.reduceAdd, Nat.reduceLT, Nat.reduceLeDiff, Nat.reduceEqDiff, Nat.add_left_cancel_iff, Nat.add_eq_left, Nat.left_eq_add, Nat.succ_ne_self, Nat.reduceSub, reduceIte, ite_self, eq_self, or_true, true_or, or_false, false_or, or_self, i10, not_true_eq_false, not_false_eq_true, x_call1, x_call2, x_call3, x_call4, x_call5, x_call6, x_sl0, x_sli, x_slr, x_sln, x_sll, am_ent, List.map_nil, List.map_cons, List.sum_nil, List.sum_cons, Value.category, and_true, true_and, and_self, Nat.zero_le, List.replicate_succ, List.replicate_zero, List.reduceReplicate, x_obj_set, x_row_set, x_len_set, x_obx, x_rox, x_rv, show nI k ≤ nI k from nI_le (Nat.le_refl _) (by omega)]
    all_goals rfl
  | succ m ih =>
    intro k hk A s ρ c hst hS hP hnv hz hB hc hT
    subst hnv
    have hb := hS.2.1
    have hr := hB.five
    have hcn : ¬ nI n ≤ nI s.2.2.1 := nI_ge (by omega) (by omega)
    obtain ⟨B1, ok, s1, ρ1, c1, e1, q1, q2, q3, q4, q5, q6, q7, q8⟩ := k_rvar (d := d) (D := D) T hdj hst hS hP (by omega) hz hB (by omega) (fun t0 e => by
      obtain ⟨k1, k2, k3, k4, k5, k6⟩ := hT0 t0 e
      obtain ⟨m1, m2⟩ := hT t0 e
      have hs := seg_cat k5 (show s.2.2.1 < n by omega)
      rw [← m2] at hs
      refine ⟨k1, k2, by omega, k4 _ (by omega), m1, hs, ?_⟩
      have : (sg_cat (im_v t0) s.2.2.1).length % 4 = 0 := by
        rw [sg_cat_len]
        exact sum_mod (fun j _ => im_v_mod t0 j)
      omega)
    obtain ⟨-, -, ⟨g1, g2, g3, qq, a0, a1, a2, a3, a4, a5, a6, a7⟩, -, hVA, -⟩ := id hS
    have hV := hVA s.2.2.1 (by omega)
    have hst1 : am_St B1 := hst.kept q7 (fun q z1 z2 => z2.elim (fun e => by unfold at45 at e; omega) (fun e => by unfold at2 at e; omega))
    cases ok with
    | false =>
      refine ⟨B1, false, s1, ρ1, c1, ?_, q1, q2, fun e => (by cases e), q4, q5, by omega, q7, fun t0 e => ?_⟩
      · refine e_132 ?_; simp only [b_132, i_int, i_long, i_null, i_stat, i_iload, i_lload, i_aload, i_istore, i_astore, i_lstore, i_iinc, i_ii, i_idz, i_i, i_ll, i_lsh, i_i2l, i_l2i, i_lcmp, i_dup, i_pop, i_dup2, i_ifeq, i_ifne, i_iflt, i_ifge, i_ifgt, i_ifle, i_cmpeq, i_cmpne, i_cmplt, i_cmpge, i_cmpgt, i_cmple, i_ifnull, i_ifnonnull, i_getf, am_wr, i_putI, i_putZ, i_putR, i_iald, i_iast, i_aald, i_aast, i_alen, i_newi, i_newq, i_new, i_recv, i_iret, i_zret, i_lret, i_aret, i_vret, List.getElem?_cons_zero, List.getElem?_cons_succ, Option.bind_some, Option.toList_some, Option.toList_none, List.cons_append, List.nil_append, x_nI, am_put, am_put2, List.length_cons, List.length_nil, List.set_cons_zero, List.set_cons_succ, Nat.reduceAdd, Nat.reduceLT, Nat.reduceLeDiff, Nat.reduceEqDiff, Nat.add_left_cancel_iff, Nat.add_eq_left, Nat.left_eq_add, Nat.succ_ne_self, Nat.reduceSub, reduceIte, ite_self, eq_self, or_true, true_or, or_false, false_or, or_self, i10, not_true_eq_false, not_false_eq_true, x_call1, x_call2, x_call3, x_call4, x_call5, x_call6, x_sl0, x_sli, x_slr, x_sln, x_sll, am_ent, List.map_nil, List.map_cons, List.sum_nil, List.sum_cons, Value.category, and_true, true_and, and_self, Nat.zero_le, List.replicate_succ, List.replicate_zero, List.reduceReplicate, x_obj_set, x_row_set, x_len_set, x_obx, x_rox, x_rv, hcn, x_obj a0, x_refs a4, x_ix (show s.2.2.1 < 5 by omega) (show s.2.2.1 < 2147483648 by omega), a5 s.2.2.1 (by omega), x_obj hV.obj, e1, bz_false]
        all_goals rfl
      · exact absurd (q8 t0 e).1 (by decide)
    | true =>
      obtain ⟨n1, n2⟩ := q3 rfl
      obtain ⟨C, ok2, s2, ρ2, c2, e2, r1, r2, r3, r4, r5, r6, r7, r8⟩ := ih (s.2.2.1 + 1) (by omega) hst1 q1 q2 n1 (by rw [← n1]; exact n2) q5 (by omega) (fun t0 e => by
        obtain ⟨z1, z2, z3⟩ := q8 t0 e
        refine ⟨z2, ?_⟩
        rw [z3, sg_cat, List.length_append, (hT t0 e).2]
        omega)
      refine ⟨C, ok2, s2, ρ2, c2, ?_, r1, r2, r3, ⟨r4.1.trans q4.1, r4.2.1.trans q4.2.1, r4.2.2.trans q4.2.2⟩, r5, by omega, q7.trans r7, r8⟩
      refine e_132 ?_; simp only [b_132, i_int, i_long, i_null, i_stat, i_iload, i_lload, i_aload, i_istore, i_astore, i_lstore, i_iinc, i_ii, i_idz, i_i, i_ll, i_lsh, i_i2l, i_l2i, i_lcmp, i_dup, i_pop, i_dup2, i_ifeq, i_ifne, i_iflt, i_ifge, i_ifgt, i_ifle, i_cmpeq, i_cmpne, i_cmplt, i_cmpge, i_cmpgt, i_cmple, i_ifnull, i_ifnonnull, i_getf, am_wr, i_putI, i_putZ, i_putR, i_iald, i_iast, i_aald, i_aast, i_alen, i_newi, i_newq, i_new, i_recv, i_iret, i_zret, i_lret, i_aret, i_vret, List.getElem?_cons_zero, List.getElem?_cons_succ, Option.bind_some, Option.toList_some, Option.toList_none, List.cons_append, List.nil_append, x_nI, am_put, am_put2, List.length_cons, List.length_nil, List.set_cons_zero, List.set_cons_succ, Nat.reduceAdd, Nat.reduceLT, Nat.reduceLeDiff, Nat.reduceEqDiff, Nat.add_left_cancel_iff, Nat.add_eq_left, Nat.left_eq_add, Nat.succ_ne_self, Nat.reduceSub, reduceIte, ite_self, eq_self, or_true, true_or, or_false, false_or, or_self, i10, not_true_eq_false, not_false_eq_true, x_call1, x_call2, x_call3, x_call4, x_call5, x_call6, x_sl0, x_sli, x_slr, x_sln, x_sll, am_ent, List.map_nil, List.map_cons, List.sum_nil, List.sum_cons, Value.category, and_true, true_and, and_self, Nat.zero_le, List.replicate_succ, List.replicate_zero, List.reduceReplicate, x_obj_set, x_row_set, x_len_set, x_obx, x_rox, x_rv, hcn, x_obj a0, x_refs a4, x_ix (show s.2.2.1 < 5 by omega) (show s.2.2.1 < 2147483648 by omega), a5 s.2.2.1 (by omega), x_obj hV.obj, e1, bz_true, nI_1]
      exact e2
theorem k_rvars {d b r c : Nat} {D : List Nat} {A : am_H} {s : sg_S} {ρ : Nat → sg_R} (T : Option sg_S) (hdj : r + 1 < b ∨ b + 45 ≤ r) (hst : am_St A) (hS : ST b A s ρ) (hP : HP s) (hnv : s.2.2.1 = 0) (hz : ∀ v, v < 5 → (ρ v).2.2.2.2.2.2.1.1 = 0) (hB : BR r A D c) (hc : c < 20000) (hT : ∀ t0, T = some t0 → HP t0 ∧ STv t0 ∧ (∀ v, v < t0.2.2.1 → nrm t0 v) ∧ seg D c (hea 11 t0.2.2.1 ++ sg_cat (im_v t0) t0.2.2.1) ∧ c % 4 = 0 ∧ s = cutV t0 0) : ∃ B ok s2 ρ2 c2, pev (d + 5) 131 [some (.ref b), some (.ref r), none, none] [] A = some (some (.int (bz ok)), B) ∧ ST b B s2 ρ2 ∧ HP s2 ∧ (ok = true → ∀ v, s2.2.2.1 ≤ v → v < 5 → (ρ2 v).2.2.2.2.2.2.1.1 = 0) ∧ (s2.1 = s.1 ∧ s2.2.1 = s.2.1 ∧ s2.2.2.2.2 = s.2.2.2.2) ∧ BR r B D c2 ∧ c2 ≤ c + 900 ∧ am_fr (at47 b r) A B ∧ ∀ t0, T = some t0 → ok = true ∧ s2 = cutV t0 t0.2.2.1 ∧ c2 = c + 8 + (sg_cat (im_v t0) t0.2.2.1).length := by
  have hr := hB.five
  obtain ⟨B1, e1, b1, f1⟩ := k_takeCount (d := d + 3) (by omega) hB
  have hS1 := hS.two f1 hdj
  have hst1 := hst.two f1 hr
  have hx : ∀ t0, T = some t0 → rd D (c + 4) 4 = nI t0.2.2.1 ∧ seg D (c + 8) (sg_cat (im_v t0) t0.2.2.1) ∧ t0.2.2.1 ≤ 5 := by
    intro t0 e
    obtain ⟨k1, k2, k3, k4, k5, k6⟩ := hT t0 e
    have s1 := seg_l k4
    unfold hea at s1
    have r1 := seg_r s1
    have r2 := seg_r k4
    rw [wrd_len] at r1
    rw [hea_len] at r2
    exact ⟨rd_wrd r1, r2, k2.2.2.1⟩
  by_cases c1 : rd D (c + 4) 4 < 0
  · refine ⟨B1, false, s, ρ, c + 8, ?_, hS1, hP, fun e => (by cases e), ⟨rfl, rfl, rfl⟩, b1, by omega, f1.mono (fun z hz => Or.inr hz), fun t0 e => ?_⟩
    · refine e_131 ?_; simp only [b_131, i_int, i_long, i_null, i_stat, i_iload, i_lload, i_aload, i_istore, i_astore, i_lstore, i_iinc, i_ii, i_idz, i_i, i_ll, i_lsh, i_i2l, i_l2i, i_lcmp, i_dup, i_pop, i_dup2, i_ifeq, i_ifne, i_iflt, i_ifge, i_ifgt, i_ifle, i_cmpeq, i_cmpne, i_cmplt, i_cmpge, i_cmpgt, i_cmple, i_ifnull, i_ifnonnull, i_getf, am_wr, i_putI, i_putZ, i_putR, i_iald, i_iast, i_aald, i_aast, i_alen, i_newi, i_newq, i_new, i_recv, i_iret, i_zret, i_lret, i_aret, i_vret, List.getElem?_cons_zero, List.getElem?_cons_succ, Option.bind_some, Option.toList_some, Option.toList_none, List.cons_append, List.nil_append, x_nI, am_put, am_put2, List.length_cons, List.length_nil, List.set_cons_zero, List.set_cons_succ, Nat.reduceAdd, Nat.reduceLT, Nat.reduceLeDiff, Nat.reduceEqDiff, Nat.add_left_cancel_iff, Nat.add_eq_left, Nat.left_eq_add, Nat.succ_ne_self, Nat.reduceSub, reduceIte, ite_self, eq_self, or_true, true_or, or_false, false_or, or_self, i10, not_true_eq_false, not_false_eq_true, x_call1, x_call2, x_call3, x_call4, x_call5, x_call6, x_sl0, x_sli, x_slr, x_sln, x_sll, am_ent, List.map_nil, List.map_cons, List.sum_nil, List.sum_cons, Value.category, and_true, true_and, and_self, Nat.zero_le, List.replicate_succ, List.replicate_zero, List.reduceReplicate, x_obj_set, x_row_set, x_len_set, x_obx, x_rox, x_rv, x_obj hB.obj, e1, c1]
      all_goals rfl
    · rw [(hx t0 e).1] at c1
      exact absurd c1 (nI_pos (by have := (hx t0 e).2.2; omega))
  · by_cases c2 : rd D (c + 4) 4 ≤ 5
    · obtain ⟨n, hn, en⟩ := nI_of2 (M := 5) (n := 5) rfl c1 c2
      have hnx : ∀ t0, T = some t0 → t0.2.2.1 = n := fun t0 e => ((nI_eq (by omega) (by have := (hx t0 e).2.2; omega)).mp (en.symm.trans (hx t0 e).1)).symm
      obtain ⟨C, ok, s2, ρ2, c3, e2, q1, q2, q3, q4, q5, q6, q7, q8⟩ := k_rvars18 (d := d) (D := D) (c0 := c + 8) (n := n) T hdj hn (fun t0 e => by
        obtain ⟨k1, k2, k3, k4, k5, k6⟩ := hT t0 e
        have hh := (hx t0 e).2.1
        rw [hnx t0 e] at hh k3
        exact ⟨k1, k2, hnx t0 e, k3, hh, by omega⟩) n 0 (by omega) hst1 hS1 hP hnv (fun v _ v2 => hz v v2) b1 (by omega) (fun t0 e => ⟨(hT t0 e).2.2.2.2.2, by simp [sg_cat]⟩)
      refine ⟨C, ok, s2, ρ2, c3, ?_, q1, q2, fun e v v1 v2 => (q3 e).2 v (by have := (q3 e).1; omega) v2, q4, q5, by omega, (f1.mono (fun z hz => Or.inr hz)).trans q7, fun t0 e => ?_⟩
      · refine e_131 ?_; simp only [b_131, i_int, i_long, i_null, i_stat, i_iload, i_lload, i_aload, i_istore, i_astore, i_lstore, i_iinc, i_ii, i_idz, i_i, i_ll, i_lsh, i_i2l, i_l2i, i_lcmp, i_dup, i_pop, i_dup2, i_ifeq, i_ifne, i_iflt, i_ifge, i_ifgt, i_ifle, i_cmpeq, i_cmpne, i_cmplt, i_cmpge, i_cmpgt, i_cmple, i_ifnull, i_ifnonnull, i_getf, am_wr, i_putI, i_putZ, i_putR, i_iald, i_iast, i_aald, i_aast, i_alen, i_newi, i_newq, i_new, i_recv, i_iret, i_zret, i_lret, i_aret, i_vret, List.getElem?_cons_zero, List.getElem?_cons_succ, Option.bind_some, Option.toList_some, Option.toList_none, List.cons_append, List.nil_append, x_nI, am_put, am_put2, List.length_cons, List.length_nil, List.set_cons_zero, List.set_cons_succ, Nat.reduceAdd, Nat.reduceLT, Nat.reduceLeDiff, Nat.reduceEqDiff, Nat.add_left_cancel_iff, Nat.add_eq_left, Nat.left_eq_add, Nat.succ_ne_self, Nat.reduceSub, reduceIte, ite_self, eq_self, or_true, true_or, or_false, false_or, or_self, i10, not_true_eq_false, not_false_eq_true, x_call1, x_call2, x_call3, x_call4, x_call5, x_call6, x_sl0, x_sli, x_slr, x_sln, x_sll, am_ent, List.map_nil, List.map_cons, List.sum_nil, List.sum_cons, Value.category, and_true, true_and, and_self, Nat.zero_le, List.replicate_succ, List.replicate_zero, List.reduceReplicate, x_obj_set, x_row_set, x_len_set, x_obx, x_rox, x_rv, x_obj hB.obj, e1, c1, c2]
        rw [en]
        exact e2
      · rw [hnx t0 e]
        exact q8 t0 e
    · refine ⟨B1, false, s, ρ, c + 8, ?_, hS1, hP, fun e => (by cases e), ⟨rfl, rfl, rfl⟩, b1, by omega, f1.mono (fun z hz => Or.inr hz), fun t0 e => ?_⟩
      · refine e_131 ?_; simp only [b_131, i_int, i_long, i_null, i_stat, i_iload, i_lload, i_aload, i_istore, i_astore, i_lstore, i_iinc, i_ii, i_idz, i_i, i_ll, i_lsh, i_i2l, i_l2i, i_lcmp, i_dup, i_pop, i_dup2, i_ifeq, i_ifne, i_iflt, i_ifge, i_ifgt, i_ifle, i_cmpeq, i_cmpne, i_cmplt, i_cmpge, i_cmpgt, i_cmple, i_ifnull, i_ifnonnull, i_getf, am_wr, i_putI, i_putZ, i_putR, i_iald, i_iast, i_aald, i_aast, i_alen, i_newi, i_newq, i_new, i_recv, i_iret, i_zret, i_lret, i_aret, i_vret, List.getElem?_cons_zero, List.getElem?_cons_succ, Option.bind_some, Option.toList_some, Option.toList_none, List.cons_append, List.nil_append, x_nI, am_put, am_put2, List.length_cons, List.length_nil, List.set_cons_zero, List.set_cons_succ, Nat.reduceAdd, Nat.reduceLT, Nat.reduceLeDiff, Nat.reduceEqDiff, Nat.add_left_cancel_iff, Nat.add_eq_left, Nat.left_eq_add, Nat.succ_ne_self, Nat.reduceSub, reduceIte, ite_self, eq_self, or_true, true_or, or_false, false_or, or_self, i10, not_true_eq_false, not_false_eq_true, x_call1, x_call2, x_call3, x_call4, x_call5, x_call6, x_sl0, x_sli, x_slr, x_sln, x_sll, am_ent, List.map_nil, List.map_cons, List.sum_nil, List.sum_cons, Value.category, and_true, true_and, and_self, Nat.zero_le, List.replicate_succ, List.replicate_zero, List.reduceReplicate, x_obj_set, x_row_set, x_len_set, x_obx, x_rox, x_rv, x_obj hB.obj, e1, c1, c2]
        all_goals rfl
      · have h3 := (hx t0 e).2.2
        rw [(hx t0 e).1] at c2
        exact absurd (nI_le (b := 5) h3 (by decide)) c2
/-! cells: positions of the cursor and contents, by the steps of the readers -/
def setAll (s : sg_S) (ce : Nat → Nat → Int32) : sg_S := (s.1, s.2.1, s.2.2.1, (fun u => ((s.2.2.2.1 u).1, (s.2.2.2.1 u).2.1, (s.2.2.2.1 u).2.2.1, (s.2.2.2.1 u).2.2.2.1, (s.2.2.2.1 u).2.2.2.2.1, ce u)), s.2.2.2.2)
def upC (ce : Nat → Nat → Int32) (v : Nat) (f : Nat → Int32) : Nat → Nat → Int32 := fun u => if u = v then f else ce u
def rC (D : List Nat) (c t : Nat) (ce : Nat → Int32) (n : Nat) : Nat → Int32 := fun k => if k < n then vof t (rd D (c + k * wd t) (wd t)) else ce k
/-- the place of variable v's first cell, the variables that don't grow being read from c on -/
def cuF (s : sg_S) (c : Nat) : Nat → Nat
  | 0 => c
  | v + 1 => if sg_l0 s v = 0 then cuF s c v else pad4 (cuF s c v + sg_cn s v * wd (s.2.2.2.1 v).2.1)
def cF1 (D : List Nat) (s : sg_S) (c : Nat) (ce : Nat → Nat → Int32) (v : Nat) : Nat → Nat → Int32 := fun u => if u < v ∧ sg_l0 s u ≠ 0 then rC D (cuF s c u) (s.2.2.2.1 u).2.1 (ce u) (sg_cn s u) else ce u
/-- within a record from c on -/
def cuR (s : sg_S) (c : Nat) : Nat → Nat
  | 0 => c
  | v + 1 => if sg_l0 s v = 0 then (if 1 < sg_nr s then pad4 (cuR s c v + sg_l1 s v * wd (s.2.2.2.1 v).2.1) else cuR s c v + sg_l1 s v * wd (s.2.2.2.1 v).2.1) else cuR s c v
def cR1 (D : List Nat) (s : sg_S) (c : Nat) (ce : Nat → Nat → Int32) (i v : Nat) : Nat → Nat → Int32 := fun u => if u < v ∧ sg_l0 s u = 0 then rdc D (cuR s c u) (s.2.2.2.1 u).2.1 i (sg_l1 s u) (ce u) (sg_l1 s u) else ce u
def cuI (s : sg_S) (c : Nat) : Nat → Nat
  | 0 => c
  | i + 1 => cuR s (cuI s c i) s.2.2.1
def cI (D : List Nat) (s : sg_S) (c : Nat) (ce : Nat → Nat → Int32) : Nat → (Nat → Nat → Int32)
  | 0 => ce
  | i + 1 => cR1 D s (cuI s c i) (cI D s c ce i) i s.2.2.1
def celF (D : List Nat) (s : sg_S) (c : Nat) : Nat → Nat → Int32 := cI D s (cuF s c s.2.2.1) (cF1 D s c (fun u => (s.2.2.2.1 u).2.2.2.2.2) s.2.2.1) s.2.2.2.2
theorem setCe_all (s : sg_S) (ce : Nat → Nat → Int32) (v : Nat) (f : Nat → Int32) : setCe (setAll s ce) v f = setAll s (upC ce v f) := by
  have e : (fun u => if u = v then (((setAll s ce).2.2.2.1 u).1, ((setAll s ce).2.2.2.1 u).2.1, ((setAll s ce).2.2.2.1 u).2.2.1, ((setAll s ce).2.2.2.1 u).2.2.2.1, ((setAll s ce).2.2.2.1 u).2.2.2.2.1, f) else (setAll s ce).2.2.2.1 u) = (setAll s (upC ce v f)).2.2.2.1 := funext fun u => by
    by_cases c : u = v
    · rw [if_pos c]
      show _ = ((s.2.2.2.1 u).1, (s.2.2.2.1 u).2.1, (s.2.2.2.1 u).2.2.1, (s.2.2.2.1 u).2.2.2.1, (s.2.2.2.1 u).2.2.2.2.1, upC ce v f u)
      rw [show upC ce v f u = f from if_pos c]
      rfl
    · rw [if_neg c]
      show _ = ((s.2.2.2.1 u).1, (s.2.2.2.1 u).2.1, (s.2.2.2.1 u).2.2.1, (s.2.2.2.1 u).2.2.2.1, (s.2.2.2.1 u).2.2.2.2.1, upC ce v f u)
      rw [show upC ce v f u = ce u from if_neg c]
      rfl
  unfold setCe
  rw [e]
  rfl
theorem ST_setV {b v : Nat} {A B : am_H} {s : sg_S} {ρ : Nat → sg_R} {ce : Nat → Int32} {P : Nat → Prop} (h : ST b A s ρ) (hv : v < s.2.2.1) (hB : VA (b + 5 + 7 * v) B (setC (sg_raw s v) ce)) (hf : am_fr P A B) (hP : ∀ q, b ≤ q → q < b + 45 → P q → at7 (b + 5 + 7 * v) q) : ST b B (setCe s v ce) (fun u => if u = v then setC (ρ v) ce else ρ u) := by
  obtain ⟨hs, hb, ⟨g1, g2, g3, q, a0, a1, a2, a3, a4, a5, a6, a7⟩, hA, hV, hR⟩ := h
  have h5 := hs.2.2.1
  have n0 : ∀ j, j < 5 → ¬ P (b + j) := fun j hj e => by
    have := hP _ (by omega) (by omega) e
    unfold at7 at this
    omega
  refine ⟨setCe_v hs v ce, hb, ⟨g1, g2, g3, q, (hf.2.2 _ (n0 0 (by omega))).trans a0, (hf.2.2 _ (n0 1 (by omega))).trans a1, (hf.2.2 _ (n0 2 (by omega))).trans a2, (hf.2.2 _ (n0 3 (by omega))).trans a3, (hf.2.2 _ (n0 4 (by omega))).trans a4, a5, a6, fun u hu => ?_⟩, hA.kept hf (fun q q1 q2 q3 => by have := hP q (by omega) (by omega) q3; unfold at7 at this; omega), fun u hu => ?_, fun u hu => ?_⟩
  · rw [(setCe_var s v ce u).1]
    exact a7 u hu
  · by_cases c : u = v
    · subst c
      simp only [if_true]
      rw [hR u hv]
      exact hB
    · simp only [c, if_false]
      exact (hV u hu).kept hf (fun q q1 q2 q3 => by have := hP q (by omega) (by omega) q3; unfold at7 at this; omega)
  · rw [setCe_raw]
    by_cases c : u = v
    · subst c
      simp only [if_true]
      rw [hR u hu]
    · simp only [c, if_false]
      exact hR u hu
theorem rC_step (D : List Nat) (c t : Nat) (ce : Nat → Int32) (i l : Nat) : rdc D (c + i * l * wd t) t i l (rC D c t ce (i * l)) l = rC D c t ce ((i + 1) * l) := by
  funext k
  have e : (i + 1) * l = i * l + l := Nat.succ_mul i l
  unfold rdc rC
  by_cases c1 : i * l ≤ k ∧ k < i * l + l
  · rw [if_pos c1, if_pos (by omega)]
    have e2 : c + i * l * wd t + (k - i * l) * wd t = c + k * wd t := by
      rw [Nat.add_assoc, ← Nat.add_mul]
      congr 2
      omega
    rw [e2]
  · rw [if_neg c1]
    by_cases c2 : k < i * l
    · rw [if_pos c2, if_pos (by omega)]
    · rw [if_neg c2, if_neg (by omega)]
theorem at7_45 {b v : Nat} (hv : v < 5) : ∀ q, at7 (b + 5 + 7 * v) q → at45 b q := fun q hq => by unfold at7 at hq; unfold at45; omega
theorem k_rrows {d b r v c : Nat} {D : List Nat} {s : sg_S} {ce : Nat → Nat → Int32} (hdj : r + 1 < b ∨ b + 45 ≤ r) (hv : v < s.2.2.1) (hs : STv s) (hc : c < 50000) : ∀ (m i : Nat), i + m = sg_l0 s v → ∀ {A : am_H} {ρ : Nat → sg_R}, am_St A → ST b A (setAll s (upC ce v (rC D c (s.2.2.2.1 v).2.1 (ce v) (i * sg_l1 s v)))) ρ → BR r A D (c + i * sg_l1 s v * wd (s.2.2.2.1 v).2.1) → ∃ B ρ2, am_St B ∧ ST b B (setAll s (upC ce v (rC D c (s.2.2.2.1 v).2.1 (ce v) (sg_l0 s v * sg_l1 s v)))) ρ2 ∧ (∀ u, (ρ2 u).2.2.2.2.2.2.1 = (ρ u).2.2.2.2.2.2.1) ∧ BR r B D (c + sg_l0 s v * sg_l1 s v * wd (s.2.2.2.1 v).2.1) ∧ am_fr (at47 b r) A B ∧ ∀ Y, pev (d + 3) 137 [some (.ref b), some (.ref r), some (.int (nI v)), some (.int (nI (sg_l0 s v)))] [] B = some (none, Y) → pev (d + 3) 137 [some (.ref b), some (.ref r), some (.int (nI v)), some (.int (nI i))] [] A = some (none, Y) := by
  have h5 := hs.2.2.1
  have l0 := hs.l0 hv
  have l1 := hs.l1 hv
  obtain ⟨⟨t1, t4⟩, -⟩ := hs.2.2.2.1 v hv
  have hw := wd_le (s.2.2.2.1 v).2.1
  intro m
  induction m with
  | zero =>
    intro i hi A ρ hst hS hB
    have e : i = sg_l0 s v := by omega
    subst e
    exact ⟨A, ρ, hst, hS, fun _ => rfl, hB, am_fr.refl A, fun Y hY => hY⟩
  | succ m ih =>
    intro i hi A ρ hst hS hB
    have hb := hS.2.1
    have hr := hB.five
    obtain ⟨-, -, ⟨g1, g2, g3, q, a0, a1, a2, a3, a4, a5, a6, a7⟩, -⟩ := id hS
    have hVA := hS.var hv
    have ib : i * sg_l1 s v ≤ 8 * 8 := Nat.mul_le_mul (by omega) l1
    have ibw : i * sg_l1 s v * wd (s.2.2.2.1 v).2.1 ≤ 8 * 8 * 4 := Nat.mul_le_mul ib hw
    obtain ⟨B1, e1, v1, b1, f1⟩ := k_readRow (d := d) (i := i) (c := c + i * sg_l1 s v * wd (s.2.2.2.1 v).2.1) (by omega) t1 t4 l1 (show i * sg_l1 s v + sg_l1 s v ≤ 800 by omega) (by omega) hst hVA hB
    have hS1 := ST_setV hS hv v1 f1 (fun q q1 q2 q3 => q3.elim id (fun e => by unfold at2 at e; omega))
    rw [setCe_all] at hS1
    have ec : upC (upC ce v (rC D c (s.2.2.2.1 v).2.1 (ce v) (i * sg_l1 s v))) v (rdc D (c + i * sg_l1 s v * wd (s.2.2.2.1 v).2.1) (s.2.2.2.1 v).2.1 i (sg_l1 s v) (rC D c (s.2.2.2.1 v).2.1 (ce v) (i * sg_l1 s v)) (sg_l1 s v)) = upC ce v (rC D c (s.2.2.2.1 v).2.1 (ce v) ((i + 1) * sg_l1 s v)) := by
      rw [rC_step]
      funext u
      unfold upC
      by_cases c0 : u = v <;> simp [c0]
    have hcell : (sg_raw (setAll s (upC ce v (rC D c (s.2.2.2.1 v).2.1 (ce v) (i * sg_l1 s v)))) v).2.2.2.2.2.2.2 = rC D c (s.2.2.2.1 v).2.1 (ce v) (i * sg_l1 s v) := if_pos rfl
    rw [hcell] at hS1
    have hS1e : ST b B1 (setAll s (upC ce v (rC D c (s.2.2.2.1 v).2.1 (ce v) ((i + 1) * sg_l1 s v)))) (fun u => if u = v then setC (ρ v) (rdc D (c + i * sg_l1 s v * wd (s.2.2.2.1 v).2.1) (s.2.2.2.1 v).2.1 i (sg_l1 s v) (rC D c (s.2.2.2.1 v).2.1 (ce v) (i * sg_l1 s v)) (sg_l1 s v)) else ρ u) := by
      rw [← ec]
      exact hS1
    obtain ⟨ρ1, hS1', hρ1⟩ : ∃ ρ1, ST b B1 (setAll s (upC ce v (rC D c (s.2.2.2.1 v).2.1 (ce v) ((i + 1) * sg_l1 s v)))) ρ1 ∧ ∀ u, (ρ1 u).2.2.2.2.2.2.1 = (ρ u).2.2.2.2.2.2.1 := by
      refine ⟨_, hS1e, fun u => ?_⟩
      by_cases c0 : u = v
      · simp only [c0, if_true]
        rfl
      · simp only [c0, if_false]
    have hst1 : am_St B1 := hst.kept f1 (fun q z1 z2 => z2.elim (fun e => by unfold at7 at e; omega) (fun e => by unfold at2 at e; omega))
    obtain ⟨C, ρ2, s1, s2, s3, s4, s5, s6⟩ := ih (i + 1) (by omega) hst1 hS1' (by
      have e : c + i * sg_l1 s v * wd (s.2.2.2.1 v).2.1 + sg_l1 s v * wd (s.2.2.2.1 v).2.1 = c + (i + 1) * sg_l1 s v * wd (s.2.2.2.1 v).2.1 := by
        rw [Nat.succ_mul, Nat.add_mul]
        omega
      rw [← e]
      exact b1)
    refine ⟨C, ρ2, s1, s2, fun u => (s3 u).trans (hρ1 u), s4, (f1.mono (fun z hz => hz.elim (fun e => Or.inl (at7_45 (by omega) z e)) Or.inr)).trans s5, fun Y hY => ?_⟩
    · have hcn : ¬ nI (sg_l0 s v) ≤ nI i := nI_ge (by omega) (by omega)
      have e2 := s6 Y hY
      have hVo := hVA.obj
      have hr4 : (sg_raw (setAll s (upC ce v (rC D c (s.2.2.2.1 v).2.1 (ce v) (i * sg_l1 s v)))) v).2.2.2.2.1 = sg_l0 s v := rfl
      rw [hr4] at hVo
      refine e_137 ?_; simp only [b_137, i_int, i_long, i_null, i_stat, i_iload, i_lload, i_aload, i_istore, i_astore, i_lstore, i_iinc, i_ii, i_idz, i_i, i_ll, i_lsh, i_i2l, i_l2i, i_lcmp, i_dup, i_pop, i_dup2, i_ifeq, i_ifne, i_iflt, i_ifge, i_ifgt, i_ifle, i_cmpeq, i_cmpne, i_cmplt, i_cmpge, i_cmpgt, i_cmple, i_ifnull, i_ifnonnull, i_getf, am_wr, i_putI, i_putZ, i_putR, i_iald, i_iast, i_aald, i_aast, i_alen, i_newi, i_newq, i_new, i_recv, i_iret, i_zret, i_lret, i_aret, i_vret, List.getElem?_cons_zero, List.getElem?_cons_succ, Option.bind_some, Option.toList_some, Option.toList_none, List.cons_append, List.nil_append, x_nI, am_put, am_put2, List.length_cons, List.length_nil, List.set_cons_zero, List.set_cons_succ, Nat.reduceAdd, Nat.reduceLT, Nat.reduceLeDiff, Nat.reduceEqDiff, Nat.add_left_cancel_iff, Nat.add_eq_left, Nat.left_eq_add, Nat.succ_ne_self, Nat.reduceSub, reduceIte, ite_self, eq_self, or_true, true_or, or_false, false_or, or_self, i10, not_true_eq_false, not_false_eq_true, x_call1, x_call2, x_call3, x_call4, x_call5, x_call6, x_sl0, x_sli, x_slr, x_sln, x_sll, am_ent, List.map_nil, List.map_cons, List.sum_nil, List.sum_cons, Value.category, and_true, true_and, and_self, Nat.zero_le, List.replicate_succ, List.replicate_zero, List.reduceReplicate, x_obj_set, x_row_set, x_len_set, x_obx, x_rox, x_rv, x_obj a0, x_refs a4, x_ix (show v < 5 by omega) (show v < 2147483648 by omega), a5 v (by omega), x_obj hVo, hcn, e1, nI_1]
      exact e2
theorem cn_fix {s : sg_S} {v : Nat} (h : sg_l0 s v ≠ 0) : sg_cn s v = sg_l0 s v * sg_l1 s v := by
  unfold sg_cn
  rw [if_neg h]
theorem cuF_le {s : sg_S} (hs : STv s) (c : Nat) : ∀ v, v ≤ s.2.2.1 → cuF s c v ≤ c + 260 * v := by
  intro v
  induction v with
  | zero => intro _; exact Nat.le_refl _
  | succ v ih =>
    intro hv
    have h1 := ih (by omega)
    have h2 := cn_le hs (show v < s.2.2.1 by omega)
    rw [cuF]
    split
    · omega
    · unfold pad4
      omega
theorem k_rc2 {d b r c : Nat} {D : List Nat} {s : sg_S} {ce : Nat → Nat → Int32} (hdj : r + 1 < b ∨ b + 45 ≤ r) (hs : STv s) (hc : c < 30000) : ∀ (m v : Nat), v + m = s.2.2.1 → ∀ {A : am_H} {ρ : Nat → sg_R} {o : Option Value}, am_St A → ST b A (setAll s (cF1 D s c ce v)) ρ → BR r A D (cuF s c v) → ∃ B ρ2 o2, am_St B ∧ ST b B (setAll s (cF1 D s c ce s.2.2.1)) ρ2 ∧ (∀ u, (ρ2 u).2.2.2.2.2.2.1 = (ρ u).2.2.2.2.2.2.1) ∧ BR r B D (cuF s c s.2.2.1) ∧ am_fr (at47 b r) A B ∧ ∀ Y, pev (d + 3) 136 [some (.ref b), some (.ref r), some (.int (nI s.2.2.1)), o2] [] B = some (none, Y) → pev (d + 3) 136 [some (.ref b), some (.ref r), some (.int (nI v)), o] [] A = some (none, Y) := by
  have h5 := hs.2.2.1
  intro m
  induction m with
  | zero =>
    intro v hv A ρ o hst hS hB
    have e : v = s.2.2.1 := by omega
    subst e
    exact ⟨A, ρ, o, hst, hS, fun _ => rfl, hB, am_fr.refl A, fun Y hY => hY⟩
  | succ m ih =>
    intro v hv A ρ o hst hS hB
    have hvn : v < s.2.2.1 := by omega
    have hb := hS.2.1
    have hr := hB.five
    obtain ⟨-, -, ⟨g1, g2, g3, q, a0, a1, a2, a3, a4, a5, a6, a7⟩, -⟩ := id hS
    have hVA := hS.var hvn
    have hVo := hVA.obj
    have hcn : ¬ nI s.2.2.1 ≤ nI v := nI_ge (by omega) (by omega)
    have hnv : (setAll s (cF1 D s c ce v)).2.2.1 = s.2.2.1 := rfl
    have hgr : (sg_raw (setAll s (cF1 D s c ce v)) v).2.2.2.1 = decide (sg_l0 s v = 0) := rfl
    rw [hgr] at hVo
    have hle := cuF_le hs c v (by omega)
    by_cases c0 : sg_l0 s v = 0
    · have eC : cF1 D s c ce (v + 1) = cF1 D s c ce v := by
        funext u
        unfold cF1
        by_cases c1 : u < v ∧ sg_l0 s u ≠ 0
        · rw [if_pos c1, if_pos ⟨by omega, c1.2⟩]
        · rw [if_neg c1, if_neg (fun e => c1 ⟨by
            rcases Nat.lt_or_ge u v with h | h
            · exact h
            · have : u = v := by omega
              rw [this] at e
              exact absurd c0 e.2, e.2⟩)]
      have eU : cuF s c (v + 1) = cuF s c v := by rw [cuF, if_pos c0]
      obtain ⟨C, ρ2, o2, s1, s2, s3, s4, s5, s6⟩ := ih (v + 1) (by omega) (o := o) hst (by rw [eC]; exact hS) (by rw [eU]; exact hB)
      refine ⟨C, ρ2, o2, s1, s2, s3, s4, s5, fun Y hY => ?_⟩
      have e2 := s6 Y hY
      refine e_136 ?_; simp only [b_136, i_int, i_long, i_null, i_stat, i_iload, i_lload, i_aload, i_istore, i_astore, i_lstore, i_iinc, i_ii, i_idz, i_i, i_ll, i_lsh, i_i2l, i_l2i, i_lcmp, i_dup, i_pop, i_dup2, i_ifeq, i_ifne, i_iflt, i_ifge, i_ifgt, i_ifle, i_cmpeq, i_cmpne, i_cmplt, i_cmpge, i_cmpgt, i_cmple, i_ifnull, i_ifnonnull, i_getf, am_wr, i_putI, i_putZ, i_putR, i_iald, i_iast, i_aald, i_aast, i_alen, i_newi, i_newq, i_new, i_recv, i_iret, i_zret, i_lret, i_aret, i_vret, List.getElem?_cons_zero, List.getElem?_cons_succ, Option.bind_some, Option.toList_some, Option.toList_none, List.cons_append, List.nil_append, x_nI, am_put, am_put2, List.length_cons, List.length_nil, List.set_cons_zero, List.set_cons_succ, Nat.reduceAdd, Nat.reduceLT, Nat.reduceLeDiff, Nat.reduceEqDiff, Nat.add_left_cancel_iff, Nat.add_eq_left, Nat.left_eq_add, Nat.succ_ne_self, Nat.reduceSub, reduceIte, ite_self, eq_self, or_true, true_or, or_false, false_or, or_self, i10, not_true_eq_false, not_false_eq_true, x_call1, x_call2, x_call3, x_call4, x_call5, x_call6, x_sl0, x_sli, x_slr, x_sln, x_sll, am_ent, List.map_nil, List.map_cons, List.sum_nil, List.sum_cons, Value.category, and_true, true_and, and_self, Nat.zero_le, List.replicate_succ, List.replicate_zero, List.reduceReplicate, x_obj_set, x_row_set, x_len_set, x_obx, x_rox, x_rv, x_obj a0, hnv, hcn, x_refs a4, x_ix (show v < 5 by omega) (show v < 2147483648 by omega), a5 v (by omega), x_obj hVo, c0, decide_true, bz_true, nI_1]
      exact e2
    · have e0 : cF1 D s c ce v = upC (cF1 D s c ce v) v (rC D (cuF s c v) (s.2.2.2.1 v).2.1 (cF1 D s c ce v v) (0 * sg_l1 s v)) := by
        funext u
        unfold upC
        by_cases c1 : u = v
        · rw [if_pos c1, c1]
          funext k
          unfold rC
          rw [if_neg (by omega)]
        · rw [if_neg c1]
      rw [e0] at hS
      obtain ⟨B1, ρ1, s1, s2, s3, s4, s5, s6⟩ := k_rrows (d := d) (ce := cF1 D s c ce v) (c := cuF s c v) hdj hvn hs (by omega) (sg_l0 s v) 0 (by omega) hst hS (by rw [Nat.zero_mul, Nat.zero_mul]; exact hB)
      have hcw := cn_le hs hvn
      rw [cn_fix c0] at hcw
      obtain ⟨B2, e2, b2, f2⟩ := k_takePadding (d := d + 1) (by omega) s4
      have hS2 := s2.two f2 hdj
      have hst2 := s1.two f2 hr
      have eC : cF1 D s c ce (v + 1) = upC (cF1 D s c ce v) v (rC D (cuF s c v) (s.2.2.2.1 v).2.1 (cF1 D s c ce v v) (sg_l0 s v * sg_l1 s v)) := by
        funext u
        unfold upC
        by_cases c1 : u = v
        · rw [if_pos c1, c1]
          have k1 : cF1 D s c ce v v = ce v := if_neg (fun e => by omega)
          rw [k1]
          show (if v < v + 1 ∧ sg_l0 s v ≠ 0 then _ else _) = _
          rw [if_pos ⟨by omega, c0⟩, cn_fix c0]
        · rw [if_neg c1]
          unfold cF1
          by_cases c2 : u < v ∧ sg_l0 s u ≠ 0
          · rw [if_pos c2, if_pos ⟨by omega, c2.2⟩]
          · rw [if_neg c2, if_neg (fun e => c2 ⟨by omega, e.2⟩)]
      have eU : cuF s c (v + 1) = pad4 (cuF s c v + sg_l0 s v * sg_l1 s v * wd (s.2.2.2.1 v).2.1) := by rw [cuF, if_neg c0, cn_fix c0]
      obtain ⟨C, ρ2, o2, r1, r2, r3, r4, r5, r6⟩ := ih (v + 1) (by omega) (o := some (.int (nI (sg_l0 s v)))) hst2 (by rw [eC]; exact hS2) (by rw [eU]; exact b2)
      refine ⟨C, ρ2, o2, r1, r2, fun u => (r3 u).trans (s3 u), r4, (s5.trans (f2.mono (fun z hz => Or.inr hz))).trans r5, fun Y hY => ?_⟩
      have e3 := r6 Y hY
      have e4 : pev (d + 3) 137 [some (.ref b), some (.ref r), some (.int (nI v)), some (.int (nI 0))] [] A = some (none, Y) := by
        refine s6 Y ?_
        obtain ⟨-, -, ⟨g1, g2, g3, q, p0, p1, p2, p3, p4, p5, p6, p7⟩, -⟩ := id s2
        have hVo2 := (s2.var hvn).obj
        have hr4 : (sg_raw (setAll s (upC (cF1 D s c ce v) v (rC D (cuF s c v) (s.2.2.2.1 v).2.1 (cF1 D s c ce v v) (sg_l0 s v * sg_l1 s v)))) v).2.2.2.2.1 = sg_l0 s v := rfl
        rw [hr4] at hVo2
        have l0 := hs.l0 hvn
        refine e_137 ?_; simp only [b_137, i_int, i_long, i_null, i_stat, i_iload, i_lload, i_aload, i_istore, i_astore, i_lstore, i_iinc, i_ii, i_idz, i_i, i_ll, i_lsh, i_i2l, i_l2i, i_lcmp, i_dup, i_pop, i_dup2, i_ifeq, i_ifne, i_iflt, i_ifge, i_ifgt, i_ifle, i_cmpeq, i_cmpne, i_cmplt, i_cmpge, i_cmpgt, i_cmple, i_ifnull, i_ifnonnull, i_getf, am_wr, i_putI, i_putZ, i_putR, i_iald, i_iast, i_aald, i_aast, i_alen, i_newi, i_newq, i_new, i_recv, i_iret, i_zret, i_lret, i_aret, i_vret, List.getElem?_cons_zero, List.getElem?_cons_succ, Option.bind_some, Option.toList_some, Option.toList_none, List.cons_append, List.nil_append, x_nI, am_put, am_put2, List.length_cons, List.length_nil, List.set_cons_zero, List.set_cons_succ, Nat.reduceAdd, Nat.reduceLT, Nat.reduceLeDiff, Nat.reduceEqDiff, Nat.add_left_cancel_iff, Nat.add_eq_left, Nat.left_eq_add, Nat.succ_ne_self, Nat.reduceSub, reduceIte, ite_self, eq_self, or_true, true_or, or_false, false_or, or_self, i10, not_true_eq_false, not_false_eq_true, x_call1, x_call2, x_call3, x_call4, x_call5, x_call6, x_sl0, x_sli, x_slr, x_sln, x_sll, am_ent, List.map_nil, List.map_cons, List.sum_nil, List.sum_cons, Value.category, and_true, true_and, and_self, Nat.zero_le, List.replicate_succ, List.replicate_zero, List.reduceReplicate, x_obj_set, x_row_set, x_len_set, x_obx, x_rox, x_rv, x_obj p0, x_refs p4, x_ix (show v < 5 by omega) (show v < 2147483648 by omega), p5 v (by omega), x_obj hVo2, show nI (sg_l0 s v) ≤ nI (sg_l0 s v) from nI_le (Nat.le_refl _) (by omega), x_obj s4.obj, e2, nI_1]
        exact e3
      have c0' : ¬ sg_l0 s v = 0 := c0
      refine e_136 ?_; simp only [b_136, i_int, i_long, i_null, i_stat, i_iload, i_lload, i_aload, i_istore, i_astore, i_lstore, i_iinc, i_ii, i_idz, i_i, i_ll, i_lsh, i_i2l, i_l2i, i_lcmp, i_dup, i_pop, i_dup2, i_ifeq, i_ifne, i_iflt, i_ifge, i_ifgt, i_ifle, i_cmpeq, i_cmpne, i_cmplt, i_cmpge, i_cmpgt, i_cmple, i_ifnull, i_ifnonnull, i_getf, am_wr, i_putI, i_putZ, i_putR, i_iald, i_iast, i_aald, i_aast, i_alen, i_newi, i_newq, i_new, i_recv, i_iret, i_zret, i_lret, i_aret, i_vret, List.getElem?_cons_zero, List.getElem?_cons_succ, Option.bind_some, Option.toList_some, Option.toList_none, List.cons_append, List.nil_append, x_nI, am_put, am_put2, List.length_cons, List.length_nil, List.set_cons_zero, List.set_cons_succ, Nat.reduceAdd, Nat.reduceLT, Nat.reduceLeDiff, Nat.reduceEqDiff, Nat.add_left_cancel_iff, Nat.add_eq_left, Nat.left_eq_add, Nat.succ_ne_self, Nat.reduceSub, reduceIte, ite_self, eq_self, or_true, true_or, or_false, false_or, or_self, i10, not_true_eq_false, not_false_eq_true, x_call1, x_call2, x_call3, x_call4, x_call5, x_call6, x_sl0, x_sli, x_slr, x_sln, x_sll, am_ent, List.map_nil, List.map_cons, List.sum_nil, List.sum_cons, Value.category, and_true, true_and, and_self, Nat.zero_le, List.replicate_succ, List.replicate_zero, List.reduceReplicate, x_obj_set, x_row_set, x_len_set, x_obx, x_rox, x_rv, x_obj a0, hnv, hcn, x_refs a4, x_ix (show v < 5 by omega) (show v < 2147483648 by omega), a5 v (by omega), x_obj hVo, c0', decide_false, bz_false]
      exact e4
/-- bytes of variable v within a record -/
def rz (s : sg_S) (v : Nat) : Nat := if sg_l0 s v = 0 then (if 1 < sg_nr s then sg_ps s v else sg_l1 s v * wd (s.2.2.2.1 v).2.1) else 0
theorem rz_sum (s : sg_S) : sg_sum (rz s) s.2.2.1 = sg_rs s := by
  rw [← im_rec_len s 0, sg_cat_len]
  exact sg_sum_congr (fun v _ => (im_r_len s 0 v).symm)
theorem cuR_le {s : sg_S} (hs : STv s) (c : Nat) : ∀ v, v ≤ s.2.2.1 → cuR s c v ≤ c + 2 * sg_sum (rz s) v := by
  intro v
  induction v with
  | zero => intro _; exact Nat.le_refl _
  | succ v ih =>
    intro hv
    have h1 := ih (by omega)
    rw [cuR, sg_sum, rz]
    by_cases c0 : sg_l0 s v = 0
    · rw [if_pos c0, if_pos c0]
      have hw := wd_pos (s.2.2.2.1 v).2.1
      have h2 := (hs.2.2.2.1 v (by omega)).2.2.2
      have hp : 1 * 1 ≤ sg_l1 s v * wd (s.2.2.2.1 v).2.1 := Nat.mul_le_mul h2 hw
      split
      · unfold sg_ps
        rw [sg_cn_rec c0]
        unfold pad4
        omega
      · omega
    · rw [if_neg c0, if_neg c0]
      omega
theorem k_rr3 {d b r i c : Nat} {D : List Nat} {s : sg_S} {ce : Nat → Nat → Int32} (hdj : r + 1 < b ∨ b + 45 ≤ r) (hs : STv s) (hi : ∀ v, v < s.2.2.1 → sg_l0 s v = 0 → i * sg_l1 s v + sg_l1 s v ≤ 800) (hc : c + 2 * sg_rs s < 80000) : ∀ (m v : Nat), v + m = s.2.2.1 → ∀ {A : am_H} {ρ : Nat → sg_R}, am_St A → ST b A (setAll s (cR1 D s c ce i v)) ρ → BR r A D (cuR s c v) → ∃ B ρ2, pev (d + 3) 142 [some (.ref b), some (.ref r), some (.int (nI i)), some (.int (bz (decide (1 < sg_nr s)))), some (.int (nI v))] [] A = some (none, B) ∧ am_St B ∧ ST b B (setAll s (cR1 D s c ce i s.2.2.1)) ρ2 ∧ (∀ u, (ρ2 u).2.2.2.2.2.2.1 = (ρ u).2.2.2.2.2.2.1) ∧ BR r B D (cuR s c s.2.2.1) ∧ am_fr (at47 b r) A B := by
  have h5 := hs.2.2.1
  intro m
  induction m with
  | zero =>
    intro v hv A ρ hst hS hB
    have e : v = s.2.2.1 := by omega
    subst e
    obtain ⟨-, -, ⟨g1, g2, g3, q, a0, -⟩, -⟩ := id hS
    have hnv : (setAll s (cR1 D s c ce i s.2.2.1)).2.2.1 = s.2.2.1 := rfl
    refine ⟨A, ρ, ?_, hst, hS, fun _ => rfl, hB, am_fr.refl A⟩
    refine e_142 ?_; simp only [b_142, i_int, i_long, i_null, i_stat, i_iload, i_lload, i_aload, i_istore, i_astore, i_lstore, i_iinc, i_ii, i_idz, i_i, i_ll, i_lsh, i_i2l, i_l2i, i_lcmp, i_dup, i_pop, i_dup2, i_ifeq, i_ifne, i_iflt, i_ifge, i_ifgt, i_ifle, i_cmpeq, i_cmpne, i_cmplt, i_cmpge, i_cmpgt, i_cmple, i_ifnull, i_ifnonnull, i_getf, am_wr, i_putI, i_putZ, i_putR, i_iald, i_iast, i_aald, i_aast, i_alen, i_newi, i_newq, i_new, i_recv, i_iret, i_zret, i_lret, i_aret, i_vret, List.getElem?_cons_zero, List.getElem?_cons_succ, Option.bind_some, Option.toList_some, Option.toList_none, List.cons_append, List.nil_append, x_nI, am_put, am_put2, List.length_cons, List.length_nil, List.set_cons_zero, List.set_cons_succ, Nat.reduceAdd, Nat.reduceLT, Nat.reduceLeDiff, Nat.reduceEqDiff, Nat.add_left_cancel_iff, Nat.add_eq_left, Nat.left_eq_add, Nat.succ_ne_self, Nat.reduceSub, reduceIte, ite_self, eq_self, or_true, true_or, or_false, false_or, or_self, i10, not_true_eq_false, not_false_eq_true, x_call1, x_call2, x_call3, x_call4, x_call5, x_call6, x_sl0, x_sli, x_slr, x_sln, x_sll, am_ent, List.map_nil, List.map_cons, List.sum_nil, List.sum_cons, Value.category, and_true, true_and, and_self, Nat.zero_le, List.replicate_succ, List.replicate_zero, List.reduceReplicate, x_obj_set, x_row_set, x_len_set, x_obx, x_rox, x_rv, x_obj a0, hnv, show nI s.2.2.1 ≤ nI s.2.2.1 from nI_le (Nat.le_refl _) (by omega)]
  | succ m ih =>
    intro v hv A ρ hst hS hB
    have hvn : v < s.2.2.1 := by omega
    have hb := hS.2.1
    have hr := hB.five
    obtain ⟨-, -, ⟨g1, g2, g3, q, a0, a1, a2, a3, a4, a5, a6, a7⟩, -⟩ := id hS
    have hVA := hS.var hvn
    have hVo := hVA.obj
    have hcn : ¬ nI s.2.2.1 ≤ nI v := nI_ge (by omega) (by omega)
    have hnv : (setAll s (cR1 D s c ce i v)).2.2.1 = s.2.2.1 := rfl
    have hgr : (sg_raw (setAll s (cR1 D s c ce i v)) v).2.2.2.1 = decide (sg_l0 s v = 0) := rfl
    rw [hgr] at hVo
    have hle := cuR_le hs c v (by omega)
    have hsm : sg_sum (rz s) v ≤ sg_sum (rz s) s.2.2.1 := sg_sum_mono (by omega)
    rw [rz_sum] at hsm
    by_cases c0 : sg_l0 s v = 0
    · obtain ⟨⟨t1, t4⟩, -⟩ := hs.2.2.2.1 v hvn
      have l1 := hs.l1 hvn
      have hw := wd_le (s.2.2.2.1 v).2.1
      have hlw : sg_l1 s v * wd (s.2.2.2.1 v).2.1 ≤ 8 * 4 := Nat.mul_le_mul l1 hw
      obtain ⟨B1, e1, v1, b1, f1⟩ := k_readRow (d := d) (i := i) (c := cuR s c v) (by omega) t1 t4 l1 (hi v hvn c0) (by omega) hst hVA hB
      have hS1 := ST_setV hS hvn v1 f1 (fun q q1 q2 q3 => q3.elim id (fun e => by unfold at2 at e; omega))
      rw [setCe_all] at hS1
      have eC : cR1 D s c ce i (v + 1) = upC (cR1 D s c ce i v) v (rdc D (cuR s c v) (s.2.2.2.1 v).2.1 i (sg_l1 s v) (cR1 D s c ce i v v) (sg_l1 s v)) := by
        funext u
        unfold upC
        by_cases c1 : u = v
        · rw [if_pos c1, c1]
          have k1 : cR1 D s c ce i v v = ce v := if_neg (fun e => by omega)
          rw [k1]
          show (if v < v + 1 ∧ sg_l0 s v = 0 then _ else _) = _
          rw [if_pos ⟨by omega, c0⟩]
        · rw [if_neg c1]
          unfold cR1
          by_cases c2 : u < v ∧ sg_l0 s u = 0
          · rw [if_pos c2, if_pos ⟨by omega, c2.2⟩]
          · rw [if_neg c2, if_neg (fun e => c2 ⟨by omega, e.2⟩)]
      have hS1' : ST b B1 (setAll s (cR1 D s c ce i (v + 1))) (fun u => if u = v then setC (ρ v) (rdc D (cuR s c v) (s.2.2.2.1 v).2.1 i (sg_l1 s v) (cR1 D s c ce i v v) (sg_l1 s v)) else ρ u) := by
        rw [eC]
        exact hS1
      have hst1 : am_St B1 := hst.kept f1 (fun q z1 z2 => z2.elim (fun e => by unfold at7 at e; omega) (fun e => by unfold at2 at e; omega))
      have hρ : ∀ u, ((fun u => if u = v then setC (ρ v) (rdc D (cuR s c v) (s.2.2.2.1 v).2.1 i (sg_l1 s v) (cR1 D s c ce i v v) (sg_l1 s v)) else ρ u) u).2.2.2.2.2.2.1 = (ρ u).2.2.2.2.2.2.1 := fun u => by
        by_cases c1 : u = v
        · simp only [c1, if_true]
          rfl
        · simp only [c1, if_false]
      have G1 : am_fr (at47 b r) A B1 := f1.mono (fun z hz => hz.elim (fun e => Or.inl (at7_45 (by omega) z e)) Or.inr)
      have b1 : BR r B1 D (cuR s c v + sg_l1 s v * wd (s.2.2.2.1 v).2.1) := b1
      by_cases cp : 1 < sg_nr s
      · obtain ⟨B2, e2, b2, f2⟩ := k_takePadding (d := d + 1) (by omega) b1
        have eU : cuR s c (v + 1) = pad4 (cuR s c v + sg_l1 s v * wd (s.2.2.2.1 v).2.1) := by rw [cuR, if_pos c0, if_pos cp]
        obtain ⟨C, ρ2, e3, r1, r2, r3, r4, r5⟩ := ih (v + 1) (by omega) (hst1.two f2 hr) (hS1'.two f2 hdj) (by rw [eU]; exact b2)
        refine ⟨C, ρ2, ?_, r1, r2, fun u => (r3 u).trans (hρ u), r4, (G1.trans (f2.mono (fun z hz => Or.inr hz))).trans r5⟩
        simp only [cp, decide_true, bz_true] at e3 ⊢
        refine e_142 ?_; simp only [b_142, i_int, i_long, i_null, i_stat, i_iload, i_lload, i_aload, i_istore, i_astore, i_lstore, i_iinc, i_ii, i_idz, i_i, i_ll, i_lsh, i_i2l, i_l2i, i_lcmp, i_dup, i_pop, i_dup2, i_ifeq, i_ifne, i_iflt, i_ifge, i_ifgt, i_ifle, i_cmpeq, i_cmpne, i_cmplt, i_cmpge, i_cmpgt, i_cmple, i_ifnull, i_ifnonnull, i_getf, am_wr, i_putI, i_putZ, i_putR, i_iald, i_iast, i_aald, i_aast, i_alen, i_newi, i_newq, i_new, i_recv, i_iret, i_zret, i_lret, i_aret, i_vret, List.getElem?_cons_zero, List.getElem?_cons_succ, Option.bind_some, Option.toList_some, Option.toList_none, List.cons_append, List.nil_append, x_nI, am_put, am_put2, List.length_cons, List.length_nil, List.set_cons_zero, List.set_cons_succ, Nat.reduceAdd, Nat.reduceLT, Nat.reduceLeDiff, Nat.reduceEqDiff, Nat.add_left_cancel_iff, Nat.add_eq_left, Nat.left_eq_add, Nat.succ_ne_self, Nat.reduceSub, reduceIte, ite_self, eq_self, or_true, true_or, or_false, false_or, or_self, i10, not_true_eq_false, not_false_eq_true, x_call1, x_call2, x_call3, x_call4, x_call5, x_call6, x_sl0, x_sli, x_slr, x_sln, x_sll, am_ent, List.map_nil, List.map_cons, List.sum_nil, List.sum_cons, Value.category, and_true, true_and, and_self, Nat.zero_le, List.replicate_succ, List.replicate_zero, List.reduceReplicate, x_obj_set, x_row_set, x_len_set, x_obx, x_rox, x_rv, x_obj a0, hnv, hcn, x_refs a4, x_ix (show v < 5 by omega) (show v < 2147483648 by omega), a5 v (by omega), x_obj hVo, c0, decide_true, bz_true, e1, x_obj b1.obj, e2, nI_1]
        exact e3
      · have eU : cuR s c (v + 1) = cuR s c v + sg_l1 s v * wd (s.2.2.2.1 v).2.1 := by rw [cuR, if_pos c0, if_neg cp]
        obtain ⟨C, ρ2, e3, r1, r2, r3, r4, r5⟩ := ih (v + 1) (by omega) hst1 hS1' (by rw [eU]; exact b1)
        refine ⟨C, ρ2, ?_, r1, r2, fun u => (r3 u).trans (hρ u), r4, G1.trans r5⟩
        simp only [cp, decide_false, bz_false] at e3 ⊢
        refine e_142 ?_; simp only [b_142, i_int, i_long, i_null, i_stat, i_iload, i_lload, i_aload, i_istore, i_astore, i_lstore, i_iinc, i_ii, i_idz, i_i, i_ll, i_lsh, i_i2l, i_l2i, i_lcmp, i_dup, i_pop, i_dup2, i_ifeq, i_ifne, i_iflt, i_ifge, i_ifgt, i_ifle, i_cmpeq, i_cmpne, i_cmplt, i_cmpge, i_cmpgt, i_cmple, i_ifnull, i_ifnonnull, i_getf, am_wr, i_putI, i_putZ, i_putR, i_iald, i_iast, i_aald, i_aast, i_alen, i_newi, i_newq, i_new, i_recv, i_iret, i_zret, i_lret, i_aret, i_vret, List.getElem?_cons_zero, List.getElem?_cons_succ, Option.bind_some, Option.toList_some, Option.toList_none, List.cons_append, List.nil_append, x_nI, am_put, am_put2, List.length_cons, List.length_nil, List.set_cons_zero, List.set_cons_succ, Nat.reduceAdd, Nat.reduceLT, Nat.reduceLeDiff, Nat.reduceEqDiff, Nat.add_left_cancel_iff, Nat.add_eq_left, Nat.left_eq_add, Nat.succ_ne_self, Nat.reduceSub, reduceIte, ite_self, eq_self, or_true, true_or, or_false, false_or, or_self, i10, not_true_eq_false, not_false_eq_true, x_call1, x_call2, x_call3, x_call4, x_call5, x_call6, x_sl0, x_sli, x_slr, x_sln, x_sll, am_ent, List.map_nil, List.map_cons, List.sum_nil, List.sum_cons, Value.category, and_true, true_and, and_self, Nat.zero_le, List.replicate_succ, List.replicate_zero, List.reduceReplicate, x_obj_set, x_row_set, x_len_set, x_obx, x_rox, x_rv, x_obj a0, hnv, hcn, x_refs a4, x_ix (show v < 5 by omega) (show v < 2147483648 by omega), a5 v (by omega), x_obj hVo, c0, decide_true, bz_true, e1, nI_1]
        exact e3
    · have eC : cR1 D s c ce i (v + 1) = cR1 D s c ce i v := by
        funext u
        unfold cR1
        by_cases c1 : u < v ∧ sg_l0 s u = 0
        · rw [if_pos c1, if_pos ⟨by omega, c1.2⟩]
        · rw [if_neg c1, if_neg (fun e => c1 ⟨by
            rcases Nat.lt_or_ge u v with h | h
            · exact h
            · have : u = v := by omega
              rw [this] at e
              exact absurd e.2 c0, e.2⟩)]
      have eU : cuR s c (v + 1) = cuR s c v := by rw [cuR, if_neg c0]
      obtain ⟨C, ρ2, e3, r1, r2, r3, r4, r5⟩ := ih (v + 1) (by omega) hst (by rw [eC]; exact hS) (by rw [eU]; exact hB)
      refine ⟨C, ρ2, ?_, r1, r2, r3, r4, r5⟩
      refine e_142 ?_; simp only [b_142, i_int, i_long, i_null, i_stat, i_iload, i_lload, i_aload, i_istore, i_astore, i_lstore, i_iinc, i_ii, i_idz, i_i, i_ll, i_lsh, i_i2l, i_l2i, i_lcmp, i_dup, i_pop, i_dup2, i_ifeq, i_ifne, i_iflt, i_ifge, i_ifgt, i_ifle, i_cmpeq, i_cmpne, i_cmplt, i_cmpge, i_cmpgt, i_cmple, i_ifnull, i_ifnonnull, i_getf, am_wr, i_putI, i_putZ, i_putR, i_iald, i_iast, i_aald, i_aast, i_alen, i_newi, i_newq, i_new, i_recv, i_iret, i_zret, i_lret, i_aret, i_vret, List.getElem?_cons_zero, List.getElem?_cons_succ, Option.bind_some, Option.toList_some, Option.toList_none, List.cons_append, List.nil_append, x_nI, am_put, am_put2, List.length_cons, List.length_nil, List.set_cons_zero, List.set_cons_succ, Nat.reduceAdd, Nat.reduceLT, Nat.reduceLeDiff, Nat.reduceEqDiff, Nat.add_left_cancel_iff, Nat.add_eq_left, Nat.left_eq_add, Nat.succ_ne_self, Nat.reduceSub, reduceIte, ite_self, eq_self, or_true, true_or, or_false, false_or, or_self, i10, not_true_eq_false, not_false_eq_true, x_call1, x_call2, x_call3, x_call4, x_call5, x_call6, x_sl0, x_sli, x_slr, x_sln, x_sll, am_ent, List.map_nil, List.map_cons, List.sum_nil, List.sum_cons, Value.category, and_true, true_and, and_self, Nat.zero_le, List.replicate_succ, List.replicate_zero, List.reduceReplicate, x_obj_set, x_row_set, x_len_set, x_obx, x_rox, x_rv, x_obj a0, hnv, hcn, x_refs a4, x_ix (show v < 5 by omega) (show v < 2147483648 by omega), a5 v (by omega), x_obj hVo, c0, decide_false, bz_false, nI_1]
      exact e3
