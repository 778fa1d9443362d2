/-! the reference: drop, rename -/
theorem n_drop25 {d b L : Nat} {A : am_H} {R : Nat → Nat → Int32} {f : mo_F} {s : sg_S} {v nm : Int32} (hM : MM b A R f) (hS : MS R f.1 s) (hL : L ≤ s.2.2.1) (v1 : v + 1 = nI L) (v6 : nI (6 * f.1) + v + 1 = nI (6 * f.1 + L)) : ∃ B S, pev (d + 1) 173 [some (.ref b), some (.int v), some (.int nm), none, none, none, none] [] A = some (some (.int (match fnd (getAt s L).2.1 nm (getAt s L).1 with
    | some _ => 0
    | none => -3)), B) ∧ MM b B S f ∧ MS S f.1 (setAt s L (match fnd (getAt s L).2.1 nm (getAt s L).1 with
    | some k => al_rm (getAt s L) k
    | none => getAt s L)) ∧ (∀ i, 14 ≤ i → S i = R i) ∧ am_fr (at21 b) A B := by
  have hh := hS.2.1
  have h5 := hS.1.2.2.1
  have hA := hS.lists hL
  have h3 := hA.1
  have hcnt := hA.2.1
  have ef := n_find (d := d) (l := L) (nm := nm) hM hh (by omega) hA
  have ix6 := x_ix (show 6 * f.1 + L < 12 by omega) (show 6 * f.1 + L < 2147483648 by omega)
  have e18 : 3 * (6 * f.1 + L) + (getAt s L).1 = 18 * f.1 + 3 * L + (getAt s L).1 := by omega
  cases hf : fnd (getAt s L).2.1 nm (getAt s L).1 with
  | some k =>
    obtain ⟨hk, -⟩ := fnd_some hf
    have hfx : fnx (getAt s L) nm = k := by unfold fnx; rw [hf]
    rw [hfx] at ef
    obtain ⟨B, S, e1, y1, y2, y3, y4, f1⟩ := n_drop75 (d := d + 1) (p := 18 * f.1 + 3 * L) (n := (getAt s L).1) (pl := k) (l := 6 * f.1 + L) (v := v) (nm := nm) (R0 := R) (F := fun i j => R i (18 * f.1 + 3 * L + j)) h3 (by omega) (by omega) hk hcnt ((getAt s L).1 - (k + 1)) k (by omega) (Nat.le_refl _) hM (fun _ _ => rfl) (fun _ _ _ _ _ => rfl) (fun i _ _ => rsh_refl _ _ _ _ (fun _ _ => rfl))
    refine ⟨B, _, ?_, y1, ?_, fun i hi => ?_, f1⟩
    · have hc : (nI (18 * f.1 + 3 * L + k) ≤ nI (18 * f.1 + 3 * L + (getAt s L).1) - 1) = True := by
        rw [le_pred (by omega) (by omega)]
        exact eq_true (by omega)
      refine e_173 ?_; simp only [b_173, i_int, i_long, i_null, i_stat, i_iload, i_lload, i_aload, i_istore, i_astore, i_lstore, i_iinc, i_ii, i_idz, i_i, i_ll, i_lsh, i_i2l, i_l2i, i_lcmp, i_dup, i_pop, i_dup2, i_ifeq, i_ifne, i_iflt, i_ifge, i_ifgt, i_ifle, i_cmpeq, i_cmpne, i_cmplt, i_cmpge, i_cmpgt, i_cmple, i_ifnull, i_ifnonnull, i_getf, am_wr, i_putI, i_putZ, i_putR, i_iald, i_iast, i_aald, i_aast, i_alen, i_newi, i_newq, i_new, i_recv, i_iret, i_zret, i_lret, i_aret, i_vret, List.getElem?_cons_zero, List.getElem?_cons_succ, Option.bind_some, Option.toList_some, Option.toList_none, List.cons_append, List.nil_append, x_nI, am_put, List.length_cons, List.length_nil, List.set_cons_zero, List.set_cons_succ, Nat.reduceAdd, Nat.reduceLT, Nat.reduceLeDiff, Nat.reduceEqDiff, Nat.add_left_cancel_iff, Nat.add_eq_left, Nat.left_eq_add, Nat.succ_ne_self, Nat.reduceSub, reduceIte, ite_self, eq_self, or_true, true_or, or_false, false_or, or_self, i10, not_true_eq_false, not_false_eq_true, x_call1, x_call2, x_call3, x_call4, x_call5, x_call6, x_sl0, x_sli, x_slr, x_sln, x_sll, am_ent, List.map_nil, List.map_cons, List.sum_nil, List.sum_cons, Value.category, and_true, true_and, and_self, Nat.zero_le, List.replicate_succ, List.replicate_zero, List.reduceReplicate, x_obj_set, x_row_set, x_len_set, x_obx, x_rox, x_rv, v1, x_obj hM.1, ef, mo_obj, show (6 : Int32) = nI 6 from rfl, pk_mul, v6, show (3 : Int32) = nI 3 from rfl, x_row (show A.2.2 (b + 9) = some (.inl (0, 12, R 9)) from hM.2.2 9 (by decide) (by decide)), ix6, hcnt, nI_add, e18, hc]
      exact e1
    · refine MS_setAt hS (fun i hi => ?_) (fun l hl => ?_) (fun i i1 i2 l j hl hj => ?_) ⟨?_, ?_, fun j hj => ?_⟩
      · rw [setR_ne (by omega)]
        exact y2 i (by omega)
      · rw [setR_self, pk_un (by omega)]
      · rw [setR_ne (by omega)]
        exact y3 i i1 i2 _ (by omega)
      · show (getAt s L).1 - 1 ≤ 3
        omega
      · rw [setR_self, pk_us]
        rfl
      · have hj2 : j < (getAt s L).1 - 1 := hj
        have s10 := rsh_end (y4 10 (by decide) (by decide)) hj2
        have s11 := rsh_end (y4 11 (by decide) (by decide)) hj2
        have s12 := rsh_end (y4 12 (by decide) (by decide)) hj2
        have s13 := rsh_end (y4 13 (by decide) (by decide)) hj2
        have a1 := hA.2.2 j (by omega)
        have a2 := hA.2.2 (j + 1) (by omega)
        rw [setR_ne (show (10 : Nat) ≠ 9 by decide), setR_ne (show (11 : Nat) ≠ 9 by decide), setR_ne (show (12 : Nat) ≠ 9 by decide), setR_ne (show (13 : Nat) ≠ 9 by decide)]
        simp only [al_rm]
        by_cases c : j < k
        · simp only [c, if_true] at s10 s11 s12 s13 ⊢
          rw [s10, s11, s12, s13]
          exact a1
        · simp only [c, if_false] at s10 s11 s12 s13 ⊢
          rw [s10, s11, s12, s13]
          exact a2
    · rw [setR_ne (by omega)]
      exact y2 i (by omega)
  | none =>
    have hfx : fnx (getAt s L) nm = (getAt s L).1 := by unfold fnx; rw [hf]
    rw [hfx] at ef
    refine ⟨A, R, ?_, hM, MS_setAt hS (fun _ _ => rfl) (fun _ _ => rfl) (fun _ _ _ _ _ _ _ => rfl) hA, fun _ _ => rfl, am_fr.refl A⟩
    have hc : (nI (18 * f.1 + 3 * L + (getAt s L).1) ≤ nI (18 * f.1 + 3 * L + (getAt s L).1) - 1) = False := by
      rw [le_pred (by omega) (by omega)]
      exact eq_false (by omega)
    refine e_173 ?_; simp only [b_173, i_int, i_long, i_null, i_stat, i_iload, i_lload, i_aload, i_istore, i_astore, i_lstore, i_iinc, i_ii, i_idz, i_i, i_ll, i_lsh, i_i2l, i_l2i, i_lcmp, i_dup, i_pop, i_dup2, i_ifeq, i_ifne, i_iflt, i_ifge, i_ifgt, i_ifle, i_cmpeq, i_cmpne, i_cmplt, i_cmpge, i_cmpgt, i_cmple, i_ifnull, i_ifnonnull, i_getf, am_wr, i_putI, i_putZ, i_putR, i_iald, i_iast, i_aald, i_aast, i_alen, i_newi, i_newq, i_new, i_recv, i_iret, i_zret, i_lret, i_aret, i_vret, List.getElem?_cons_zero, List.getElem?_cons_succ, Option.bind_some, Option.toList_some, Option.toList_none, List.cons_append, List.nil_append, x_nI, am_put, List.length_cons, List.length_nil, List.set_cons_zero, List.set_cons_succ, Nat.reduceAdd, Nat.reduceLT, Nat.reduceLeDiff, Nat.reduceEqDiff, Nat.add_left_cancel_iff, Nat.add_eq_left, Nat.left_eq_add, Nat.succ_ne_self, Nat.reduceSub, reduceIte, ite_self, eq_self, or_true, true_or, or_false, false_or, or_self, i10, not_true_eq_false, not_false_eq_true, x_call1, x_call2, x_call3, x_call4, x_call5, x_call6, x_sl0, x_sli, x_slr, x_sln, x_sll, am_ent, List.map_nil, List.map_cons, List.sum_nil, List.sum_cons, Value.category, and_true, true_and, and_self, Nat.zero_le, List.replicate_succ, List.replicate_zero, List.reduceReplicate, x_obj_set, x_row_set, x_len_set, x_obx, x_rox, x_rv, v1, x_obj hM.1, ef, mo_obj, show (6 : Int32) = nI 6 from rfl, pk_mul, v6, show (3 : Int32) = nI 3 from rfl, x_row (show A.2.2 (b + 9) = some (.inl (0, 12, R 9)) from hM.2.2 9 (by decide) (by decide)), ix6, hcnt, nI_add, e18, hc]
theorem n_drop {d b : Nat} {A : am_H} {R : Nat → Nat → Int32} {f : mo_F} {s : sg_S} {v nm : Int32} {L : Nat} (hM : MM b A R f) (hS : MS R f.1 s) (hd : f.2.1 = false) (hv : (v = -1 ∧ L = 0) ∨ (∃ k, k < s.2.2.1 ∧ v = nI k ∧ L = k + 1)) : ∃ B S, pev (d + 1) 172 [some (.ref b), some (.int v), some (.int nm), none, none, none, none] [] A = some (some (.int (match fnd (getAt s L).2.1 nm (getAt s L).1 with
    | some _ => 0
    | none => -3)), B) ∧ MM b B S f ∧ MS S f.1 (setAt s L (match fnd (getAt s L).2.1 nm (getAt s L).1 with
    | some k => al_rm (getAt s L) k
    | none => getAt s L)) ∧ (∀ i, 14 ≤ i → S i = R i) ∧ am_fr (at21 b) A B := by
  rcases hv with ⟨rfl, rfl⟩ | ⟨k, hk, rfl, rfl⟩
  · obtain ⟨B, S, e1, r⟩ := n_drop25 (d := d) (nm := nm) hM hS (Nat.zero_le _) v1_m1 (v6_m1 _)
    refine ⟨B, S, ?_, r⟩
    refine e_172 ?_; simp only [b_172, i_int, i_long, i_null, i_stat, i_iload, i_lload, i_aload, i_istore, i_astore, i_lstore, i_iinc, i_ii, i_idz, i_i, i_ll, i_lsh, i_i2l, i_l2i, i_lcmp, i_dup, i_pop, i_dup2, i_ifeq, i_ifne, i_iflt, i_ifge, i_ifgt, i_ifle, i_cmpeq, i_cmpne, i_cmplt, i_cmpge, i_cmpgt, i_cmple, i_ifnull, i_ifnonnull, i_getf, am_wr, i_putI, i_putZ, i_putR, i_iald, i_iast, i_aald, i_aast, i_alen, i_newi, i_newq, i_new, i_recv, i_iret, i_zret, i_lret, i_aret, i_vret, List.getElem?_cons_zero, List.getElem?_cons_succ, Option.bind_some, Option.toList_some, Option.toList_none, List.cons_append, List.nil_append, x_nI, am_put, List.length_cons, List.length_nil, List.set_cons_zero, List.set_cons_succ, Nat.reduceAdd, Nat.reduceLT, Nat.reduceLeDiff, Nat.reduceEqDiff, Nat.add_left_cancel_iff, Nat.add_eq_left, Nat.left_eq_add, Nat.succ_ne_self, Nat.reduceSub, reduceIte, ite_self, eq_self, or_true, true_or, or_false, false_or, or_self, i10, not_true_eq_false, not_false_eq_true, x_call1, x_call2, x_call3, x_call4, x_call5, x_call6, x_sl0, x_sli, x_slr, x_sln, x_sll, am_ent, List.map_nil, List.map_cons, List.sum_nil, List.sum_cons, Value.category, and_true, true_and, and_self, Nat.zero_le, List.replicate_succ, List.replicate_zero, List.reduceReplicate, x_obj_set, x_row_set, x_len_set, x_obx, x_rox, x_rv, x_obj hM.1, mo_obj, hd, bz_false]
    exact e1
  · have h5 := hS.1.2.2.1
    obtain ⟨B, S, e1, r⟩ := n_drop25 (d := d) (nm := nm) hM hS (L := k + 1) (by omega) (nI_1 k) (by rw [nI_add, nI_1]; rfl)
    refine ⟨B, S, ?_, r⟩
    have ev := n_isVariable (d := d) hM hS (nI k)
    have hvb : isVb s (nI k) = true := by simp [isVb, nI_pos (show k < 2 ^ 31 by omega), nI_lt hk (show s.2.2.1 < 2 ^ 31 by omega)]
    rw [hvb] at ev
    refine e_172 ?_; simp only [b_172, i_int, i_long, i_null, i_stat, i_iload, i_lload, i_aload, i_istore, i_astore, i_lstore, i_iinc, i_ii, i_idz, i_i, i_ll, i_lsh, i_i2l, i_l2i, i_lcmp, i_dup, i_pop, i_dup2, i_ifeq, i_ifne, i_iflt, i_ifge, i_ifgt, i_ifle, i_cmpeq, i_cmpne, i_cmplt, i_cmpge, i_cmpgt, i_cmple, i_ifnull, i_ifnonnull, i_getf, am_wr, i_putI, i_putZ, i_putR, i_iald, i_iast, i_aald, i_aast, i_alen, i_newi, i_newq, i_new, i_recv, i_iret, i_zret, i_lret, i_aret, i_vret, List.getElem?_cons_zero, List.getElem?_cons_succ, Option.bind_some, Option.toList_some, Option.toList_none, List.cons_append, List.nil_append, x_nI, am_put, List.length_cons, List.length_nil, List.set_cons_zero, List.set_cons_succ, Nat.reduceAdd, Nat.reduceLT, Nat.reduceLeDiff, Nat.reduceEqDiff, Nat.add_left_cancel_iff, Nat.add_eq_left, Nat.left_eq_add, Nat.succ_ne_self, Nat.reduceSub, reduceIte, ite_self, eq_self, or_true, true_or, or_false, false_or, or_self, i10, not_true_eq_false, not_false_eq_true, x_call1, x_call2, x_call3, x_call4, x_call5, x_call6, x_sl0, x_sli, x_slr, x_sln, x_sll, am_ent, List.map_nil, List.map_cons, List.sum_nil, List.sum_cons, Value.category, and_true, true_and, and_self, Nat.zero_le, List.replicate_succ, List.replicate_zero, List.reduceReplicate, x_obj_set, x_row_set, x_len_set, x_obx, x_rox, x_rv, x_obj hM.1, mo_obj, hd, bz_false, bz_true, nI_ne_m1 (show k < 1000 by omega), ev]
    exact e1
theorem n_dropN {d b : Nat} {A : am_H} {R : Nat → Nat → Int32} {f : mo_F} {s : sg_S} {v nm : Int32} (hM : MM b A R f) (hS : MS R f.1 s) (hd : f.2.1 = false) (hv : v ≠ -1) (hb : isVb s v = false) : pev (d + 1) 172 [some (.ref b), some (.int v), some (.int nm), none, none, none, none] [] A = some (some (.int (-3)), A) := by
  have ev := n_isVariable (d := d) hM hS v
  rw [hb] at ev
  refine e_172 ?_; simp only [b_172, i_int, i_long, i_null, i_stat, i_iload, i_lload, i_aload, i_istore, i_astore, i_lstore, i_iinc, i_ii, i_idz, i_i, i_ll, i_lsh, i_i2l, i_l2i, i_lcmp, i_dup, i_pop, i_dup2, i_ifeq, i_ifne, i_iflt, i_ifge, i_ifgt, i_ifle, i_cmpeq, i_cmpne, i_cmplt, i_cmpge, i_cmpgt, i_cmple, i_ifnull, i_ifnonnull, i_getf, am_wr, i_putI, i_putZ, i_putR, i_iald, i_iast, i_aald, i_aast, i_alen, i_newi, i_newq, i_new, i_recv, i_iret, i_zret, i_lret, i_aret, i_vret, List.getElem?_cons_zero, List.getElem?_cons_succ, Option.bind_some, Option.toList_some, Option.toList_none, List.cons_append, List.nil_append, x_nI, am_put, List.length_cons, List.length_nil, List.set_cons_zero, List.set_cons_succ, Nat.reduceAdd, Nat.reduceLT, Nat.reduceLeDiff, Nat.reduceEqDiff, Nat.add_left_cancel_iff, Nat.add_eq_left, Nat.left_eq_add, Nat.succ_ne_self, Nat.reduceSub, reduceIte, ite_self, eq_self, or_true, true_or, or_false, false_or, or_self, i10, not_true_eq_false, not_false_eq_true, x_call1, x_call2, x_call3, x_call4, x_call5, x_call6, x_sl0, x_sli, x_slr, x_sln, x_sll, am_ent, List.map_nil, List.map_cons, List.sum_nil, List.sum_cons, Value.category, and_true, true_and, and_self, Nat.zero_le, List.replicate_succ, List.replicate_zero, List.reduceReplicate, x_obj_set, x_row_set, x_len_set, x_obx, x_rox, x_rv, x_obj hM.1, mo_obj, hd, bz_false, hv, ev]
theorem n_dropM {d b : Nat} {A : am_H} {R : Nat → Nat → Int32} {f : mo_F} {v nm : Int32} (hM : MM b A R f) (hd : f.2.1 = true) : pev d 172 [some (.ref b), some (.int v), some (.int nm), none, none, none, none] [] A = some (some (.int (-1)), A) := by
  refine e_172 ?_; simp only [b_172, i_int, i_long, i_null, i_stat, i_iload, i_lload, i_aload, i_istore, i_astore, i_lstore, i_iinc, i_ii, i_idz, i_i, i_ll, i_lsh, i_i2l, i_l2i, i_lcmp, i_dup, i_pop, i_dup2, i_ifeq, i_ifne, i_iflt, i_ifge, i_ifgt, i_ifle, i_cmpeq, i_cmpne, i_cmplt, i_cmpge, i_cmpgt, i_cmple, i_ifnull, i_ifnonnull, i_getf, am_wr, i_putI, i_putZ, i_putR, i_iald, i_iast, i_aald, i_aast, i_alen, i_newi, i_newq, i_new, i_recv, i_iret, i_zret, i_lret, i_aret, i_vret, List.getElem?_cons_zero, List.getElem?_cons_succ, Option.bind_some, Option.toList_some, Option.toList_none, List.cons_append, List.nil_append, x_nI, am_put, List.length_cons, List.length_nil, List.set_cons_zero, List.set_cons_succ, Nat.reduceAdd, Nat.reduceLT, Nat.reduceLeDiff, Nat.reduceEqDiff, Nat.add_left_cancel_iff, Nat.add_eq_left, Nat.left_eq_add, Nat.succ_ne_self, Nat.reduceSub, reduceIte, ite_self, eq_self, or_true, true_or, or_false, false_or, or_self, i10, not_true_eq_false, not_false_eq_true, x_call1, x_call2, x_call3, x_call4, x_call5, x_call6, x_sl0, x_sli, x_slr, x_sln, x_sll, am_ent, List.map_nil, List.map_cons, List.sum_nil, List.sum_cons, Value.category, and_true, true_and, and_self, Nat.zero_le, List.replicate_succ, List.replicate_zero, List.reduceReplicate, x_obj_set, x_row_set, x_len_set, x_obx, x_rox, x_rv, x_obj hM.1, mo_obj, hd, bz_true]
