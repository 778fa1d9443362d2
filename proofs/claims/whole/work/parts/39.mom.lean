/-! the reference: new dimensions -/
theorem setR_self (R : Nat → Nat → Int32) (i : Nat) (g : Nat → Int32) : setR R i g i = g := if_pos rfl
theorem setR_ne {R : Nat → Nat → Int32} {i j : Nat} {g : Nat → Int32} (h : j ≠ i) : setR R i g j = R j := if_neg h
theorem nI_ne_m1 {k : Nat} (h : k < 1000) : ¬ nI k = -1 := fun e => nI_pos (show k < 2 ^ 31 by omega) (by rw [e]; decide)
theorem nmd_fnd {g : Nat → Int32} {n : Nat} {nm : Int32} (hn : n ≤ 10) : nmd g n nm (-1) = (fnd g nm n).isSome := by
  cases hf : fnd g nm n with
  | some j =>
    obtain ⟨hj, he⟩ := fnd_some hf
    exact anyN_of hj (by simp [nI_ne_m1 (show j < 1000 by omega), he])
  | none =>
    have h1 := fnd_none hf
    cases hc : nmd g n nm (-1) with
    | false => rfl
    | true =>
      obtain ⟨k, hk, hp⟩ := anyN_iff.mp hc
      simp at hp
      exact absurd hp.2 (h1 k hk)
theorem hasG_sum (s : sg_S) : hasG s = decide (0 < sg_sum (fun k => if s.1.2.2 k = 0 then 1 else 0) s.1.1) := by
  cases hc : hasG s with
  | true =>
    obtain ⟨k, hk, hp⟩ := anyN_iff.mp hc
    simp at hp
    have h1 : sg_sum (fun k => if s.1.2.2 k = 0 then 1 else 0) (k + 1) ≤ sg_sum (fun k => if s.1.2.2 k = 0 then 1 else 0) s.1.1 := sg_sum_mono (by omega)
    rw [sg_sum, if_pos hp] at h1
    simp
    omega
  | false =>
    have h0 : sg_sum (fun k => if s.1.2.2 k = 0 then 1 else 0) s.1.1 = 0 := by
      have : sg_sum (fun k => if s.1.2.2 k = 0 then 1 else 0) s.1.1 = sg_sum (fun _ => 0) s.1.1 := sg_sum_congr (fun k hk => by
        by_cases c : s.1.2.2 k = 0
        · have := anyN_of (p := fun k => decide (s.1.2.2 k = 0)) hk (by simp [c])
          rw [show anyN (fun k => decide (s.1.2.2 k = 0)) s.1.1 = hasG s from rfl, hc] at this
          cases this
        · rw [if_neg c])
      rw [this, sg_sum_const, Nat.mul_zero]
    simp [h0]
theorem n_dimension76 {d b : Nat} {A : am_H} {R : Nat → Nat → Int32} {f : mo_F} {s : sg_S} {nm : Int32} {ln : Nat} (hM : MM b A R f) (hS : MS R f.1 s) (h4 : s.1.1 < 4) (hl : ln ≤ 8) : ∃ B S, pev d 147 [some (.ref b), some (.int nm), some (.int (nI ln)), none] [] A = some (some (.int (nI s.1.1)), B) ∧ MM b B S f ∧ MS S f.1 (addD s nm ln) ∧ (∀ i, 15 ≤ i → S i = R i) ∧ am_fr (at21 b) A B := by
  have hh := hS.2.1
  have hb := hM.2.1
  have m1 := hM.set (i := 2) (by decide) (by decide) (upd (R 2) (4 * f.1 + s.1.1) nm)
  have m2 := m1.set (i := 3) (by decide) (by decide) (upd (R 3) (4 * f.1 + s.1.1) (nI ln))
  have m3 := m2.set (i := 1) (by decide) (by decide) (upd (R 1) f.1 (nI (s.1.1 + 1)))
  refine ⟨_, _, ?_, m3, ?_, fun i hi => ?_, (((am_fr.refl A).set ⟨by omega, by omega⟩).set ⟨by omega, by omega⟩).set ⟨by omega, by omega⟩⟩
  · refine e_147 ?_; simp only [b_147, i_int, i_long, i_null, i_stat, i_iload, i_lload, i_aload, i_istore, i_astore, i_lstore, i_iinc, i_ii, i_idz, i_i, i_ll, i_lsh, i_i2l, i_l2i, i_lcmp, i_dup, i_pop, i_dup2, i_ifeq, i_ifne, i_iflt, i_ifge, i_ifgt, i_ifle, i_cmpeq, i_cmpne, i_cmplt, i_cmpge, i_cmpgt, i_cmple, i_ifnull, i_ifnonnull, i_getf, am_wr, i_putI, i_putZ, i_putR, i_iald, i_iast, i_aald, i_aast, i_alen, i_newi, i_newq, i_new, i_recv, i_iret, i_zret, i_lret, i_aret, i_vret, List.getElem?_cons_zero, List.getElem?_cons_succ, Option.bind_some, Option.toList_some, Option.toList_none, List.cons_append, List.nil_append, x_nI, am_put, List.length_cons, List.length_nil, List.set_cons_zero, List.set_cons_succ, Nat.reduceAdd, Nat.reduceLT, Nat.reduceLeDiff, Nat.reduceEqDiff, Nat.add_left_cancel_iff, Nat.add_eq_left, Nat.left_eq_add, Nat.succ_ne_self, Nat.reduceSub, reduceIte, ite_self, eq_self, or_true, true_or, or_false, false_or, or_self, i10, not_true_eq_false, not_false_eq_true, x_call1, x_call2, x_call3, x_call4, x_call5, x_call6, x_sl0, x_sli, x_slr, x_sln, x_sll, am_ent, List.map_nil, List.map_cons, List.sum_nil, List.sum_cons, Value.category, and_true, true_and, and_self, Nat.zero_le, List.replicate_succ, List.replicate_zero, List.reduceReplicate, x_obj_set, x_row_set, x_len_set, x_obx, x_rox, x_rv, x_obj hM.1, mo_obj, x_row (show A.2.2 (b + 1) = some (.inl (0, 2, R 1)) from hM.2.2 1 (by decide) (by decide)), x_row (show A.2.2 (b + 2) = some (.inl (0, 8, R 2)) from hM.2.2 2 (by decide) (by decide)), x_row (show A.2.2 (b + 3) = some (.inl (0, 8, R 3)) from hM.2.2 3 (by decide) (by decide)), x_ix hh (show f.1 < 2147483648 by omega), hS.2.2.1.1, show (4 : Int32) = nI 4 from rfl, pk_mul, nI_add, x_ix (show 4 * f.1 + s.1.1 < 8 by omega) (show 4 * f.1 + s.1.1 < 2147483648 by omega), x_own (show 5 ≤ b + 1 by omega), x_own (show 5 ≤ b + 2 by omega), x_own (show 5 ≤ b + 3 by omega), nI_1]
    rfl
  · obtain ⟨h1, h2, h3, h4', h5, h6⟩ := hS
    have same : ∀ i, i ≠ 1 → i ≠ 2 → i ≠ 3 → setR (setR (setR R 2 (upd (R 2) (4 * f.1 + s.1.1) nm)) 3 (upd (R 3) (4 * f.1 + s.1.1) (nI ln))) 1 (upd (R 1) f.1 (nI (s.1.1 + 1))) i = R i := fun i a b c => by rw [setR_ne a, setR_ne c, setR_ne b]
    refine ⟨addD_v h1 h4 hl, h2, ⟨?_, ?_, ?_⟩, fun k hk => ?_, h5.same (fun i i1 i2 => same i (by omega) (by omega) (by omega)), fun v hv => ?_⟩
    · rw [setR_self, pk_us]
      rfl
    · rw [same 4 (by decide) (by decide) (by decide)]
      exact h3.2.1
    · rw [same 14 (by decide) (by decide) (by decide)]
      exact h3.2.2
    · have hk2 : k < s.1.1 + 1 := hk
      rw [setR_ne (show (2 : Nat) ≠ 1 by decide), setR_ne (show (2 : Nat) ≠ 3 by decide), setR_self, setR_ne (show (3 : Nat) ≠ 1 by decide), setR_self]
      by_cases he : k = s.1.1
      · subst he
        rw [pk_us, pk_us]
        simp [addD, upd]
      · rw [pk_un (by omega), pk_un (by omega)]
        simp only [addD, pk_un he, if_neg he]
        exact h4' k (by omega)
    · rw [same 5 (by decide) (by decide) (by decide), same 6 (by decide) (by decide) (by decide), same 7 (by decide) (by decide) (by decide), same 8 (by decide) (by decide) (by decide), same 15 (by decide) (by decide) (by decide)]
      obtain ⟨w1, w2, w3, w4, w5, w6⟩ := h6 v hv
      exact ⟨w1, w2, w3, w4, w5.same (fun i i1 i2 => same i (by omega) (by omega) (by omega)), w6⟩
  · rw [setR_ne (by omega), setR_ne (by omega), setR_ne (by omega)]
theorem n_dimension {d b : Nat} {A : am_H} {R : Nat → Nat → Int32} {f : mo_F} {s : sg_S} {nm ln : Int32} (hM : MM b A R f) (hS : MS R f.1 s) (hd : f.2.1 = false) : ∃ B S, pev (d + 1) 146 [some (.ref b), some (.int nm), some (.int ln), none] [] A = some (some (.int (dd_c s nm ln)), B) ∧ MM b B S f ∧ MS S f.1 (dd_s s nm ln) ∧ (∀ i, 15 ≤ i → S i = R i) ∧ am_fr (at21 b) A B := by
  have hh := hS.2.1
  have h4 := hS.1.1
  have stay : ∀ s', s' = s → MS R f.1 s' := fun s' e => by rw [e]; exact hS
  unfold dd_c dd_s
  by_cases c1 : isNb nm = true
  · by_cases c2 : ln < 0
    · refine ⟨A, R, ?_, hM, stay _ (by simp [c2]), fun _ _ => rfl, am_fr.refl A⟩
      refine e_146 ?_; simp only [b_146, i_int, i_long, i_null, i_stat, i_iload, i_lload, i_aload, i_istore, i_astore, i_lstore, i_iinc, i_ii, i_idz, i_i, i_ll, i_lsh, i_i2l, i_l2i, i_lcmp, i_dup, i_pop, i_dup2, i_ifeq, i_ifne, i_iflt, i_ifge, i_ifgt, i_ifle, i_cmpeq, i_cmpne, i_cmplt, i_cmpge, i_cmpgt, i_cmple, i_ifnull, i_ifnonnull, i_getf, am_wr, i_putI, i_putZ, i_putR, i_iald, i_iast, i_aald, i_aast, i_alen, i_newi, i_newq, i_new, i_recv, i_iret, i_zret, i_lret, i_aret, i_vret, List.getElem?_cons_zero, List.getElem?_cons_succ, Option.bind_some, Option.toList_some, Option.toList_none, List.cons_append, List.nil_append, x_nI, am_put, List.length_cons, List.length_nil, List.set_cons_zero, List.set_cons_succ, Nat.reduceAdd, Nat.reduceLT, Nat.reduceLeDiff, Nat.reduceEqDiff, Nat.add_left_cancel_iff, Nat.add_eq_left, Nat.left_eq_add, Nat.succ_ne_self, Nat.reduceSub, reduceIte, ite_self, eq_self, or_true, true_or, or_false, false_or, or_self, i10, not_true_eq_false, not_false_eq_true, x_call1, x_call2, x_call3, x_call4, x_call5, x_call6, x_sl0, x_sli, x_slr, x_sln, x_sll, am_ent, List.map_nil, List.map_cons, List.sum_nil, List.sum_cons, Value.category, and_true, true_and, and_self, Nat.zero_le, List.replicate_succ, List.replicate_zero, List.reduceReplicate, x_obj_set, x_row_set, x_len_set, x_obx, x_rox, x_rv, x_obj hM.1, mo_obj, hd, bz_false, n_isName, c1, bz_true, c2]
      simp
    · by_cases c3 : 8 < ln
      · refine ⟨A, R, ?_, hM, stay _ (by simp [c3]), fun _ _ => rfl, am_fr.refl A⟩
        have c3' : ¬ ln ≤ 8 := Int32.not_le.mpr c3
        refine e_146 ?_; simp only [b_146, i_int, i_long, i_null, i_stat, i_iload, i_lload, i_aload, i_istore, i_astore, i_lstore, i_iinc, i_ii, i_idz, i_i, i_ll, i_lsh, i_i2l, i_l2i, i_lcmp, i_dup, i_pop, i_dup2, i_ifeq, i_ifne, i_iflt, i_ifge, i_ifgt, i_ifle, i_cmpeq, i_cmpne, i_cmplt, i_cmpge, i_cmpgt, i_cmple, i_ifnull, i_ifnonnull, i_getf, am_wr, i_putI, i_putZ, i_putR, i_iald, i_iast, i_aald, i_aast, i_alen, i_newi, i_newq, i_new, i_recv, i_iret, i_zret, i_lret, i_aret, i_vret, List.getElem?_cons_zero, List.getElem?_cons_succ, Option.bind_some, Option.toList_some, Option.toList_none, List.cons_append, List.nil_append, x_nI, am_put, List.length_cons, List.length_nil, List.set_cons_zero, List.set_cons_succ, Nat.reduceAdd, Nat.reduceLT, Nat.reduceLeDiff, Nat.reduceEqDiff, Nat.add_left_cancel_iff, Nat.add_eq_left, Nat.left_eq_add, Nat.succ_ne_self, Nat.reduceSub, reduceIte, ite_self, eq_self, or_true, true_or, or_false, false_or, or_self, i10, not_true_eq_false, not_false_eq_true, x_call1, x_call2, x_call3, x_call4, x_call5, x_call6, x_sl0, x_sli, x_slr, x_sln, x_sll, am_ent, List.map_nil, List.map_cons, List.sum_nil, List.sum_cons, Value.category, and_true, true_and, and_self, Nat.zero_le, List.replicate_succ, List.replicate_zero, List.reduceReplicate, x_obj_set, x_row_set, x_len_set, x_obx, x_rox, x_rv, x_obj hM.1, mo_obj, hd, bz_false, n_isName, c1, bz_true, c2, c3']
        simp [c3]
      · have c3' : ln ≤ 8 := Int32.not_lt.mp c3
        obtain ⟨n, hn, rfl⟩ := nI_of2 (M := 8) (n := 8) rfl c2 c3'
        rw [nI_clamp (by omega)]
        have hnm := n_dimNamed (d := d) (nm := nm) (e := -1) hM hh h4 hS.2.2.1.1 (fun k hk => (hS.2.2.2.1 k hk).1)
        rw [nmd_fnd (by omega)] at hnm
        cases hf : (fnd s.1.2.1 nm s.1.1).isSome with
        | true =>
          rw [hf] at hnm
          refine ⟨A, R, ?_, hM, stay _ (by simp [c1, c2, c3]), fun _ _ => rfl, am_fr.refl A⟩
          refine e_146 ?_; simp only [b_146, i_int, i_long, i_null, i_stat, i_iload, i_lload, i_aload, i_istore, i_astore, i_lstore, i_iinc, i_ii, i_idz, i_i, i_ll, i_lsh, i_i2l, i_l2i, i_lcmp, i_dup, i_pop, i_dup2, i_ifeq, i_ifne, i_iflt, i_ifge, i_ifgt, i_ifle, i_cmpeq, i_cmpne, i_cmplt, i_cmpge, i_cmpgt, i_cmple, i_ifnull, i_ifnonnull, i_getf, am_wr, i_putI, i_putZ, i_putR, i_iald, i_iast, i_aald, i_aast, i_alen, i_newi, i_newq, i_new, i_recv, i_iret, i_zret, i_lret, i_aret, i_vret, List.getElem?_cons_zero, List.getElem?_cons_succ, Option.bind_some, Option.toList_some, Option.toList_none, List.cons_append, List.nil_append, x_nI, am_put, List.length_cons, List.length_nil, List.set_cons_zero, List.set_cons_succ, Nat.reduceAdd, Nat.reduceLT, Nat.reduceLeDiff, Nat.reduceEqDiff, Nat.add_left_cancel_iff, Nat.add_eq_left, Nat.left_eq_add, Nat.succ_ne_self, Nat.reduceSub, reduceIte, ite_self, eq_self, or_true, true_or, or_false, false_or, or_self, i10, not_true_eq_false, not_false_eq_true, x_call1, x_call2, x_call3, x_call4, x_call5, x_call6, x_sl0, x_sli, x_slr, x_sln, x_sll, am_ent, List.map_nil, List.map_cons, List.sum_nil, List.sum_cons, Value.category, and_true, true_and, and_self, Nat.zero_le, List.replicate_succ, List.replicate_zero, List.reduceReplicate, x_obj_set, x_row_set, x_len_set, x_obx, x_rox, x_rv, x_obj hM.1, mo_obj, hd, bz_false, n_isName, c1, bz_true, c2, c3', hnm]
          simp [c3]
        | false =>
          rw [hf] at hnm
          have e4 : (nI s.1.1 = (4 : Int32)) = (s.1.1 = 4) := o_eq (b := 4) (by omega) (by decide)
          by_cases c4 : s.1.1 = 4
          · refine ⟨A, R, ?_, hM, stay _ (by simp [c1, c2, c3, c4]), fun _ _ => rfl, am_fr.refl A⟩
            refine e_146 ?_; simp only [b_146, i_int, i_long, i_null, i_stat, i_iload, i_lload, i_aload, i_istore, i_astore, i_lstore, i_iinc, i_ii, i_idz, i_i, i_ll, i_lsh, i_i2l, i_l2i, i_lcmp, i_dup, i_pop, i_dup2, i_ifeq, i_ifne, i_iflt, i_ifge, i_ifgt, i_ifle, i_cmpeq, i_cmpne, i_cmplt, i_cmpge, i_cmpgt, i_cmple, i_ifnull, i_ifnonnull, i_getf, am_wr, i_putI, i_putZ, i_putR, i_iald, i_iast, i_aald, i_aast, i_alen, i_newi, i_newq, i_new, i_recv, i_iret, i_zret, i_lret, i_aret, i_vret, List.getElem?_cons_zero, List.getElem?_cons_succ, Option.bind_some, Option.toList_some, Option.toList_none, List.cons_append, List.nil_append, x_nI, am_put, List.length_cons, List.length_nil, List.set_cons_zero, List.set_cons_succ, Nat.reduceAdd, Nat.reduceLT, Nat.reduceLeDiff, Nat.reduceEqDiff, Nat.add_left_cancel_iff, Nat.add_eq_left, Nat.left_eq_add, Nat.succ_ne_self, Nat.reduceSub, reduceIte, ite_self, eq_self, or_true, true_or, or_false, false_or, or_self, i10, not_true_eq_false, not_false_eq_true, x_call1, x_call2, x_call3, x_call4, x_call5, x_call6, x_sl0, x_sli, x_slr, x_sln, x_sll, am_ent, List.map_nil, List.map_cons, List.sum_nil, List.sum_cons, Value.category, and_true, true_and, and_self, Nat.zero_le, List.replicate_succ, List.replicate_zero, List.reduceReplicate, x_obj_set, x_row_set, x_len_set, x_obx, x_rox, x_rv, x_obj hM.1, mo_obj, hd, bz_false, n_isName, c1, bz_true, c2, c3', hnm, x_row (show A.2.2 (b + 1) = some (.inl (0, 2, R 1)) from hM.2.2 1 (by decide) (by decide)), x_ix hh (show f.1 < 2147483648 by omega), hS.2.2.1.1, c4, show (nI 4 = (4 : Int32)) = True by decide]
            simp [c3]
          · have c4' : ¬ 4 ≤ s.1.1 := by omega
            have ez : (nI n = (0 : Int32)) = (n = 0) := o_eq (b := 0) (by omega) (by decide)
            have hg := n_growing (d := d) hM hh h4 hS.2.2.1.1 (fun k hk => ⟨(hS.2.2.2.1 k hk).2, hS.1.2.1 k hk⟩)
            have hsl : sg_sum (fun k => if s.1.2.2 k = 0 then 1 else 0) s.1.1 ≤ 4 := by
              have : sg_sum (fun k => if s.1.2.2 k = 0 then 1 else 0) s.1.1 ≤ sg_sum (fun _ => 1) s.1.1 := sg_sum_le (fun k _ => by split <;> omega)
              rw [sg_sum_const] at this
              omega
            have eg : (nI (sg_sum (fun k => if s.1.2.2 k = 0 then 1 else 0) s.1.1) ≤ (0 : Int32)) = (sg_sum (fun k => if s.1.2.2 k = 0 then 1 else 0) s.1.1 ≤ 0) := o_le (b := 0) (by omega) (by decide)
            by_cases c5 : n = 0 ∧ hasG s = true
            · obtain ⟨rfl, c6⟩ := c5
              have c7 : ¬ sg_sum (fun k => if s.1.2.2 k = 0 then 1 else 0) s.1.1 ≤ 0 := by
                rw [hasG_sum] at c6
                simp at c6
                omega
              refine ⟨A, R, ?_, hM, stay _ (by simp [c1, c2, c3, c4', c6, nI_0]), fun _ _ => rfl, am_fr.refl A⟩
              refine e_146 ?_; simp only [b_146, i_int, i_long, i_null, i_stat, i_iload, i_lload, i_aload, i_istore, i_astore, i_lstore, i_iinc, i_ii, i_idz, i_i, i_ll, i_lsh, i_i2l, i_l2i, i_lcmp, i_dup, i_pop, i_dup2, i_ifeq, i_ifne, i_iflt, i_ifge, i_ifgt, i_ifle, i_cmpeq, i_cmpne, i_cmplt, i_cmpge, i_cmpgt, i_cmple, i_ifnull, i_ifnonnull, i_getf, am_wr, i_putI, i_putZ, i_putR, i_iald, i_iast, i_aald, i_aast, i_alen, i_newi, i_newq, i_new, i_recv, i_iret, i_zret, i_lret, i_aret, i_vret, List.getElem?_cons_zero, List.getElem?_cons_succ, Option.bind_some, Option.toList_some, Option.toList_none, List.cons_append, List.nil_append, x_nI, am_put, List.length_cons, List.length_nil, List.set_cons_zero, List.set_cons_succ, Nat.reduceAdd, Nat.reduceLT, Nat.reduceLeDiff, Nat.reduceEqDiff, Nat.add_left_cancel_iff, Nat.add_eq_left, Nat.left_eq_add, Nat.succ_ne_self, Nat.reduceSub, reduceIte, ite_self, eq_self, or_true, true_or, or_false, false_or, or_self, i10, not_true_eq_false, not_false_eq_true, x_call1, x_call2, x_call3, x_call4, x_call5, x_call6, x_sl0, x_sli, x_slr, x_sln, x_sll, am_ent, List.map_nil, List.map_cons, List.sum_nil, List.sum_cons, Value.category, and_true, true_and, and_self, Nat.zero_le, List.replicate_succ, List.replicate_zero, List.reduceReplicate, x_obj_set, x_row_set, x_len_set, x_obx, x_rox, x_rv, x_obj hM.1, mo_obj, hd, bz_false, n_isName, c1, bz_true, c2, c3', hnm, x_row (show A.2.2 (b + 1) = some (.inl (0, 2, R 1)) from hM.2.2 1 (by decide) (by decide)), x_ix hh (show f.1 < 2147483648 by omega), hS.2.2.1.1, e4, c4, ez, hg, eg, c7]
              simp [c3, c4', c6, nI_0]
            · obtain ⟨B, S, e1, m1, s1, k1, f1⟩ := n_dimension76 (d := d + 1) (nm := nm) (ln := n) hM hS (by omega) hn
              have c7 : (decide (nI n = (0 : Int32)) && hasG s) = false := by
                by_cases c8 : n = 0
                · have : hasG s = false := by
                    cases hh : hasG s
                    · rfl
                    · exact absurd ⟨c8, hh⟩ c5
                  simp [this]
                · simp [ez, c8]
              refine ⟨B, S, ?_, m1, by simp only [c1, c2, c3, c4', c7]; simpa using s1, k1, f1⟩
              by_cases c8 : n = 0
              · have c9 : hasG s = false := by
                  cases hh : hasG s
                  · rfl
                  · exact absurd ⟨c8, hh⟩ c5
                have c10 : sg_sum (fun k => if s.1.2.2 k = 0 then 1 else 0) s.1.1 ≤ 0 := by
                  rw [hasG_sum] at c9
                  simp at c9
                  omega
                refine e_146 ?_; simp only [b_146, i_int, i_long, i_null, i_stat, i_iload, i_lload, i_aload, i_istore, i_astore, i_lstore, i_iinc, i_ii, i_idz, i_i, i_ll, i_lsh, i_i2l, i_l2i, i_lcmp, i_dup, i_pop, i_dup2, i_ifeq, i_ifne, i_iflt, i_ifge, i_ifgt, i_ifle, i_cmpeq, i_cmpne, i_cmplt, i_cmpge, i_cmpgt, i_cmple, i_ifnull, i_ifnonnull, i_getf, am_wr, i_putI, i_putZ, i_putR, i_iald, i_iast, i_aald, i_aast, i_alen, i_newi, i_newq, i_new, i_recv, i_iret, i_zret, i_lret, i_aret, i_vret, List.getElem?_cons_zero, List.getElem?_cons_succ, Option.bind_some, Option.toList_some, Option.toList_none, List.cons_append, List.nil_append, x_nI, am_put, List.length_cons, List.length_nil, List.set_cons_zero, List.set_cons_succ, Nat.reduceAdd, Nat.reduceLT, Nat.reduceLeDiff, Nat.reduceEqDiff, Nat.add_left_cancel_iff, Nat.add_eq_left, Nat.left_eq_add, Nat.succ_ne_self, Nat.reduceSub, reduceIte, ite_self, eq_self, or_true, true_or, or_false, false_or, or_self, i10, not_true_eq_false, not_false_eq_true, x_call1, x_call2, x_call3, x_call4, x_call5, x_call6, x_sl0, x_sli, x_slr, x_sln, x_sll, am_ent, List.map_nil, List.map_cons, List.sum_nil, List.sum_cons, Value.category, and_true, true_and, and_self, Nat.zero_le, List.replicate_succ, List.replicate_zero, List.reduceReplicate, x_obj_set, x_row_set, x_len_set, x_obx, x_rox, x_rv, x_obj hM.1, mo_obj, hd, bz_false, n_isName, c1, bz_true, c2, c3', hnm, x_row (show A.2.2 (b + 1) = some (.inl (0, 2, R 1)) from hM.2.2 1 (by decide) (by decide)), x_ix hh (show f.1 < 2147483648 by omega), hS.2.2.1.1, e4, c4, ez, c8, hg, eg, c10]
                rw [c8] at e1
                simp [c3, c4', c9, nI_0]
                simpa [nI_0] using e1
              · refine e_146 ?_; simp only [b_146, i_int, i_long, i_null, i_stat, i_iload, i_lload, i_aload, i_istore, i_astore, i_lstore, i_iinc, i_ii, i_idz, i_i, i_ll, i_lsh, i_i2l, i_l2i, i_lcmp, i_dup, i_pop, i_dup2, i_ifeq, i_ifne, i_iflt, i_ifge, i_ifgt, i_ifle, i_cmpeq, i_cmpne, i_cmplt, i_cmpge, i_cmpgt, i_cmple, i_ifnull, i_ifnonnull, i_getf, am_wr, i_putI, i_putZ, i_putR, i_iald, i_iast, i_aald, i_aast, i_alen, i_newi, i_newq, i_new, i_recv, i_iret, i_zret, i_lret, i_aret, i_vret, List.getElem?_cons_zero, List.getElem?_cons_succ, Option.bind_some, Option.toList_some, Option.toList_none, List.cons_append, List.nil_append, x_nI, am_put, List.length_cons, List.length_nil, List.set_cons_zero, List.set_cons_succ, Nat.reduceAdd, Nat.reduceLT, Nat.reduceLeDiff, Nat.reduceEqDiff, Nat.add_left_cancel_iff, Nat.add_eq_left, Nat.left_eq_add, Nat.succ_ne_self, Nat.reduceSub, reduceIte, ite_self, eq_self, or_true, true_or, or_false, false_or, or_self, i10, not_true_eq_false, not_false_eq_true, x_call1, x_call2, x_call3, x_call4, x_call5, x_call6, x_sl0, x_sli, x_slr, x_sln, x_sll, am_ent, List.map_nil, List.map_cons, List.sum_nil, List.sum_cons, Value.category, and_true, true_and, and_self, Nat.zero_le, List.replicate_succ, List.replicate_zero, List.reduceReplicate, x_obj_set, x_row_set, x_len_set, x_obx, x_rox, x_rv, x_obj hM.1, mo_obj, hd, bz_false, n_isName, c1, bz_true, c2, c3', hnm, x_row (show A.2.2 (b + 1) = some (.inl (0, 2, R 1)) from hM.2.2 1 (by decide) (by decide)), x_ix hh (show f.1 < 2147483648 by omega), hS.2.2.1.1, e4, c4, ez, c8]
                simp [c3, c4', ez, c8]
                exact e1
  · refine ⟨A, R, ?_, hM, stay _ (by simp [c1]), fun _ _ => rfl, am_fr.refl A⟩
    simp only [Bool.not_eq_true] at c1
    refine e_146 ?_; simp only [b_146, i_int, i_long, i_null, i_stat, i_iload, i_lload, i_aload, i_istore, i_astore, i_lstore, i_iinc, i_ii, i_idz, i_i, i_ll, i_lsh, i_i2l, i_l2i, i_lcmp, i_dup, i_pop, i_dup2, i_ifeq, i_ifne, i_iflt, i_ifge, i_ifgt, i_ifle, i_cmpeq, i_cmpne, i_cmplt, i_cmpge, i_cmpgt, i_cmple, i_ifnull, i_ifnonnull, i_getf, am_wr, i_putI, i_putZ, i_putR, i_iald, i_iast, i_aald, i_aast, i_alen, i_newi, i_newq, i_new, i_recv, i_iret, i_zret, i_lret, i_aret, i_vret, List.getElem?_cons_zero, List.getElem?_cons_succ, Option.bind_some, Option.toList_some, Option.toList_none, List.cons_append, List.nil_append, x_nI, am_put, List.length_cons, List.length_nil, List.set_cons_zero, List.set_cons_succ, Nat.reduceAdd, Nat.reduceLT, Nat.reduceLeDiff, Nat.reduceEqDiff, Nat.add_left_cancel_iff, Nat.add_eq_left, Nat.left_eq_add, Nat.succ_ne_self, Nat.reduceSub, reduceIte, ite_self, eq_self, or_true, true_or, or_false, false_or, or_self, i10, not_true_eq_false, not_false_eq_true, x_call1, x_call2, x_call3, x_call4, x_call5, x_call6, x_sl0, x_sli, x_slr, x_sln, x_sll, am_ent, List.map_nil, List.map_cons, List.sum_nil, List.sum_cons, Value.category, and_true, true_and, and_self, Nat.zero_le, List.replicate_succ, List.replicate_zero, List.reduceReplicate, x_obj_set, x_row_set, x_len_set, x_obx, x_rox, x_rv, x_obj hM.1, mo_obj, hd, bz_false, n_isName, c1]
    simp
theorem n_dimensionM {d b : Nat} {A : am_H} {R : Nat → Nat → Int32} {f : mo_F} {nm ln : Int32} (hM : MM b A R f) (hd : f.2.1 = true) : pev d 146 [some (.ref b), some (.int nm), some (.int ln), none] [] A = some (some (.int (-1)), A) := by
  refine e_146 ?_; simp only [b_146, i_int, i_long, i_null, i_stat, i_iload, i_lload, i_aload, i_istore, i_astore, i_lstore, i_iinc, i_ii, i_idz, i_i, i_ll, i_lsh, i_i2l, i_l2i, i_lcmp, i_dup, i_pop, i_dup2, i_ifeq, i_ifne, i_iflt, i_ifge, i_ifgt, i_ifle, i_cmpeq, i_cmpne, i_cmplt, i_cmpge, i_cmpgt, i_cmple, i_ifnull, i_ifnonnull, i_getf, am_wr, i_putI, i_putZ, i_putR, i_iald, i_iast, i_aald, i_aast, i_alen, i_newi, i_newq, i_new, i_recv, i_iret, i_zret, i_lret, i_aret, i_vret, List.getElem?_cons_zero, List.getElem?_cons_succ, Option.bind_some, Option.toList_some, Option.toList_none, List.cons_append, List.nil_append, x_nI, am_put, List.length_cons, List.length_nil, List.set_cons_zero, List.set_cons_succ, Nat.reduceAdd, Nat.reduceLT, Nat.reduceLeDiff, Nat.reduceEqDiff, Nat.add_left_cancel_iff, Nat.add_eq_left, Nat.left_eq_add, Nat.succ_ne_self, Nat.reduceSub, reduceIte, ite_self, eq_self, or_true, true_or, or_false, false_or, or_self, i10, not_true_eq_false, not_false_eq_true, x_call1, x_call2, x_call3, x_call4, x_call5, x_call6, x_sl0, x_sli, x_slr, x_sln, x_sll, am_ent, List.map_nil, List.map_cons, List.sum_nil, List.sum_cons, Value.category, and_true, true_and, and_self, Nat.zero_le, List.replicate_succ, List.replicate_zero, List.reduceReplicate, x_obj_set, x_row_set, x_len_set, x_obx, x_rox, x_rv, x_obj hM.1, mo_obj, hd, bz_true]
