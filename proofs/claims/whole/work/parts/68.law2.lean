/-! the law's calls: cells, slabs, bytes -/
theorem put_pl {s : sg_S} {v i j : Nat} (hs : STv s) (hv : v < s.2.2.1) (ht : sg_tot s s.2.2.2.2 ≤ 800) (hj : j < sg_l1 s v) (hi : sg_l0 s v = 0 ∨ i < sg_l0 s v) (hg : (!(decide (sg_l0 s v = 0)) || decide (i < s.2.2.2.2) || decide (sg_tot s (i + 1) ≤ 800)) = true) : i * sg_l1 s v + j < 800 := by
  by_cases c : sg_l0 s v = 0
  · by_cases c2 : i < s.2.2.2.2
    · exact place_lt hs hv ht hj (Or.inl ⟨c, c2⟩)
    · simp only [c, decide_true, Bool.not_true, Bool.false_or, c2, decide_false, decide_eq_true_eq] at hg
      have hr1 := rs_pos hs hv c
      have ett : sg_tot s (i + 1) = sg_hs s + sg_pf s s.2.2.1 + (i + 1) * sg_rs s := rfl
      have hi8 : i + 1 ≤ 800 := by
        have : (i + 1) * 1 ≤ (i + 1) * sg_rs s := Nat.mul_le_mul_left _ hr1
        omega
      have hsg : STv (setRec s (i + 1)) := ⟨hs.1, hs.2.1, hs.2.2.1, hs.2.2.2.1, by show i + 1 < 2147483648; omega⟩
      exact place_lt (s := setRec s (i + 1)) hsg hv hg hj (Or.inl ⟨c, by show i < i + 1; omega⟩)
  · rcases hi with h3 | h3
    · exact absurd h3 c
    · exact place_lt hs hv ht hj (Or.inr ⟨c, h3⟩)
theorem lst_7 : LStep sw_7 := by
  intro L xs i A hL hi hI
  obtain ⟨h0, b, b', df, s, ρ, s', ρ', q, D, c, bs, c2, R, f, hC, hR, hG, hD⟩ := hI
  have h4 := h0.1
  have hs := hC.2.2.2.1.1
  have I0 : Inv L xs A := Inv.next h0 (am_fr.refl A) (am_fr.refl A) hC hR hG hD
  cases df with
  | true =>
    have e1 := c_putM (d := 8) (v := xs (i + 1)) (i := xs (i + 2)) (j := xs (i + 3)) (x := xs (i + 4)) hC
    have e2 := n_putM (d := 8) (v := xs (i + 1)) (i := xs (i + 2)) (j := xs (i + 3)) (x := xs (i + 4)) hR.1 hR.2.2.2.2
    refine ⟨A, I0, fun Y hY => ?_⟩
    have h4B := h4
    simp only [sw_7, i_int, i_long, i_null, i_stat, i_iload, i_lload, i_aload, i_istore, i_astore, i_lstore, i_iinc, i_ii, i_idz, i_i, i_ll, i_lsh, i_i2l, i_l2i, i_lcmp, i_dup, i_pop, i_dup2, i_ifeq, i_ifne, i_iflt, i_ifge, i_ifgt, i_ifle, i_cmpeq, i_cmpne, i_cmplt, i_cmpge, i_cmpgt, i_cmple, i_ifnull, i_ifnonnull, i_getf, am_wr, i_putI, i_putZ, i_putR, i_iald, i_iast, i_aald, i_aast, i_alen, i_newi, i_newq, i_new, i_recv, i_iret, i_zret, i_lret, i_aret, i_vret, List.getElem?_cons_zero, List.getElem?_cons_succ, Option.bind_some, Option.toList_some, Option.toList_none, List.cons_append, List.nil_append, x_nI, am_put, am_put2, List.length_cons, List.length_nil, List.set_cons_zero, List.set_cons_succ, Nat.reduceAdd, Nat.reduceLT, Nat.reduceLeDiff, Nat.reduceEqDiff, Nat.add_left_cancel_iff, Nat.add_eq_left, Nat.left_eq_add, Nat.succ_ne_self, Nat.reduceSub, reduceIte, ite_self, eq_self, or_true, true_or, or_false, false_or, or_self, i10, not_true_eq_false, not_false_eq_true, x_call1, x_call2, x_call3, x_call4, x_call5, x_call6, x_sl0, x_sli, x_slr, x_sln, x_sll, am_ent, List.map_nil, List.map_cons, List.sum_nil, List.sum_cons, Value.category, and_true, true_and, and_self, Nat.zero_le, List.replicate_succ, List.replicate_zero, List.reduceReplicate, x_obj_set, x_row_set, x_len_set, x_obx, x_rox, x_rv, nI_1, ix_2, ix_3, ix_4, ix_5, ix_6, x_row h4, x_row h4B, x_ix (show i + 1 < L by omega) (show i + 1 < 2147483648 by omega), x_ix (show i + 2 < L by omega) (show i + 2 < 2147483648 by omega), x_ix (show i + 3 < L by omega) (show i + 3 < 2147483648 by omega), x_ix (show i + 4 < L by omega) (show i + 4 < 2147483648 by omega), x_ix (show i + 5 < L by omega) (show i + 5 < 2147483648 by omega), x_obj hC.2.1, e1, x_obj hR.1.1, e2]
    exact hY
  | false =>
    have ht := hG.2.2.2 rfl
    cases cv : isVb s (xs (i + 1)) with
    | false =>
      have e1 := c_putN (d := 7) (v := xs (i + 1)) (i := xs (i + 2)) (j := xs (i + 3)) (x := xs (i + 4)) hC cv
      have e2 := n_putN (d := 7) (v := xs (i + 1)) (i := xs (i + 2)) (j := xs (i + 3)) (x := xs (i + 4)) hR.1 hR.2.1 hR.2.2.2.2 cv
      refine ⟨A, I0, fun Y hY => ?_⟩
      have h4B := h4
      simp only [Nat.reduceAdd] at e1 e2
      simp only [sw_7, i_int, i_long, i_null, i_stat, i_iload, i_lload, i_aload, i_istore, i_astore, i_lstore, i_iinc, i_ii, i_idz, i_i, i_ll, i_lsh, i_i2l, i_l2i, i_lcmp, i_dup, i_pop, i_dup2, i_ifeq, i_ifne, i_iflt, i_ifge, i_ifgt, i_ifle, i_cmpeq, i_cmpne, i_cmplt, i_cmpge, i_cmpgt, i_cmple, i_ifnull, i_ifnonnull, i_getf, am_wr, i_putI, i_putZ, i_putR, i_iald, i_iast, i_aald, i_aast, i_alen, i_newi, i_newq, i_new, i_recv, i_iret, i_zret, i_lret, i_aret, i_vret, List.getElem?_cons_zero, List.getElem?_cons_succ, Option.bind_some, Option.toList_some, Option.toList_none, List.cons_append, List.nil_append, x_nI, am_put, am_put2, List.length_cons, List.length_nil, List.set_cons_zero, List.set_cons_succ, Nat.reduceAdd, Nat.reduceLT, Nat.reduceLeDiff, Nat.reduceEqDiff, Nat.add_left_cancel_iff, Nat.add_eq_left, Nat.left_eq_add, Nat.succ_ne_self, Nat.reduceSub, reduceIte, ite_self, eq_self, or_true, true_or, or_false, false_or, or_self, i10, not_true_eq_false, not_false_eq_true, x_call1, x_call2, x_call3, x_call4, x_call5, x_call6, x_sl0, x_sli, x_slr, x_sln, x_sll, am_ent, List.map_nil, List.map_cons, List.sum_nil, List.sum_cons, Value.category, and_true, true_and, and_self, Nat.zero_le, List.replicate_succ, List.replicate_zero, List.reduceReplicate, x_obj_set, x_row_set, x_len_set, x_obx, x_rox, x_rv, nI_1, ix_2, ix_3, ix_4, ix_5, ix_6, x_row h4, x_row h4B, x_ix (show i + 1 < L by omega) (show i + 1 < 2147483648 by omega), x_ix (show i + 2 < L by omega) (show i + 2 < 2147483648 by omega), x_ix (show i + 3 < L by omega) (show i + 3 < 2147483648 by omega), x_ix (show i + 4 < L by omega) (show i + 4 < 2147483648 by omega), x_ix (show i + 5 < L by omega) (show i + 5 < 2147483648 by omega), x_obj hC.2.1, e1, x_obj hR.1.1, e2]
      exact hY
    | true =>
      obtain ⟨v, hv, ev⟩ := isVb_nI cv hs
      cases ca : adm (sg_raw s v) (xs (i + 2)).toInt64 (xs (i + 3)).toInt64 with
      | false =>
        have e1 := c_putO (d := 7) (x := xs (i + 4)) hC hv ca
        have e2 := n_putO (d := 5) (x := xs (i + 4)) hR.1 hR.2.1 hR.2.2.2.2 hv ca
        refine ⟨A, I0, fun Y hY => ?_⟩
        have h4B := h4
        simp only [Nat.reduceAdd] at e1 e2
        simp only [sw_7, i_int, i_long, i_null, i_stat, i_iload, i_lload, i_aload, i_istore, i_astore, i_lstore, i_iinc, i_ii, i_idz, i_i, i_ll, i_lsh, i_i2l, i_l2i, i_lcmp, i_dup, i_pop, i_dup2, i_ifeq, i_ifne, i_iflt, i_ifge, i_ifgt, i_ifle, i_cmpeq, i_cmpne, i_cmplt, i_cmpge, i_cmpgt, i_cmple, i_ifnull, i_ifnonnull, i_getf, am_wr, i_putI, i_putZ, i_putR, i_iald, i_iast, i_aald, i_aast, i_alen, i_newi, i_newq, i_new, i_recv, i_iret, i_zret, i_lret, i_aret, i_vret, List.getElem?_cons_zero, List.getElem?_cons_succ, Option.bind_some, Option.toList_some, Option.toList_none, List.cons_append, List.nil_append, x_nI, am_put, am_put2, List.length_cons, List.length_nil, List.set_cons_zero, List.set_cons_succ, Nat.reduceAdd, Nat.reduceLT, Nat.reduceLeDiff, Nat.reduceEqDiff, Nat.add_left_cancel_iff, Nat.add_eq_left, Nat.left_eq_add, Nat.succ_ne_self, Nat.reduceSub, reduceIte, ite_self, eq_self, or_true, true_or, or_false, false_or, or_self, i10, not_true_eq_false, not_false_eq_true, x_call1, x_call2, x_call3, x_call4, x_call5, x_call6, x_sl0, x_sli, x_slr, x_sln, x_sll, am_ent, List.map_nil, List.map_cons, List.sum_nil, List.sum_cons, Value.category, and_true, true_and, and_self, Nat.zero_le, List.replicate_succ, List.replicate_zero, List.reduceReplicate, x_obj_set, x_row_set, x_len_set, x_obx, x_rox, x_rv, nI_1, ix_2, ix_3, ix_4, ix_5, ix_6, x_row h4, x_row h4B, x_ix (show i + 1 < L by omega) (show i + 1 < 2147483648 by omega), x_ix (show i + 2 < L by omega) (show i + 2 < 2147483648 by omega), x_ix (show i + 3 < L by omega) (show i + 3 < 2147483648 by omega), x_ix (show i + 4 < L by omega) (show i + 4 < 2147483648 by omega), x_ix (show i + 5 < L by omega) (show i + 5 < 2147483648 by omega), x_obj hC.2.1, ev, e1, x_obj hR.1.1, e2]
        exact hY
      | true =>
        obtain ⟨i', j', hi', hj', eI, eJ, hi0⟩ := adm_nI ca hs hv
        have l1 := hs.l1 hv
        rw [eI, eJ] at ca
        have ca2 : adm (sg_raw s v) (lN i') (lN j') = true := by
          rw [nI_l (by omega), nI_l (by omega)] at ca
          exact ca
        have ca3 : adm (sg_raw s v) (lN i') (nI j').toInt64 = true := by rw [nI_l (by omega)]; exact ca2
        cases cx : valb (s.2.2.2.1 v).2.1 (xs (i + 4)) with
        | false =>
          have e1 := c_putR (d := 7) hC hv ca cx
          have e2 := n_putR (d := 5) hR.1 hR.2.1 hR.2.2.2.2 hv hi' (by omega) ca2 cx
          refine ⟨A, I0, fun Y hY => ?_⟩
          have h4B := h4
          simp only [Nat.reduceAdd] at e1 e2
          simp only [sw_7, i_int, i_long, i_null, i_stat, i_iload, i_lload, i_aload, i_istore, i_astore, i_lstore, i_iinc, i_ii, i_idz, i_i, i_ll, i_lsh, i_i2l, i_l2i, i_lcmp, i_dup, i_pop, i_dup2, i_ifeq, i_ifne, i_iflt, i_ifge, i_ifgt, i_ifle, i_cmpeq, i_cmpne, i_cmplt, i_cmpge, i_cmpgt, i_cmple, i_ifnull, i_ifnonnull, i_getf, am_wr, i_putI, i_putZ, i_putR, i_iald, i_iast, i_aald, i_aast, i_alen, i_newi, i_newq, i_new, i_recv, i_iret, i_zret, i_lret, i_aret, i_vret, List.getElem?_cons_zero, List.getElem?_cons_succ, Option.bind_some, Option.toList_some, Option.toList_none, List.cons_append, List.nil_append, x_nI, am_put, am_put2, List.length_cons, List.length_nil, List.set_cons_zero, List.set_cons_succ, Nat.reduceAdd, Nat.reduceLT, Nat.reduceLeDiff, Nat.reduceEqDiff, Nat.add_left_cancel_iff, Nat.add_eq_left, Nat.left_eq_add, Nat.succ_ne_self, Nat.reduceSub, reduceIte, ite_self, eq_self, or_true, true_or, or_false, false_or, or_self, i10, not_true_eq_false, not_false_eq_true, x_call1, x_call2, x_call3, x_call4, x_call5, x_call6, x_sl0, x_sli, x_slr, x_sln, x_sll, am_ent, List.map_nil, List.map_cons, List.sum_nil, List.sum_cons, Value.category, and_true, true_and, and_self, Nat.zero_le, List.replicate_succ, List.replicate_zero, List.reduceReplicate, x_obj_set, x_row_set, x_len_set, x_obx, x_rox, x_rv, nI_1, ix_2, ix_3, ix_4, ix_5, ix_6, x_row h4, x_row h4B, x_ix (show i + 1 < L by omega) (show i + 1 < 2147483648 by omega), x_ix (show i + 2 < L by omega) (show i + 2 < 2147483648 by omega), x_ix (show i + 3 < L by omega) (show i + 3 < 2147483648 by omega), x_ix (show i + 4 < L by omega) (show i + 4 < 2147483648 by omega), x_ix (show i + 5 < L by omega) (show i + 5 < 2147483648 by omega), x_obj hC.2.1, ev, eI, eJ, e1, x_obj hR.1.1, e2]
          exact hY
        | true =>
          cases cg : (!(decide (sg_l0 s v = 0)) || decide (i' < s.2.2.2.2) || decide (sg_tot s (i' + 1) ≤ 800)) with
          | false =>
            obtain ⟨B, e1, cB, fB⟩ := c_putB (d := 2) hC hv hi' ca3 cx cg
            have hRB := hR.kept fB
            obtain ⟨C, S, e2, mC, sC, kC, fC⟩ := n_putB (d := 2) hRB.1 hRB.2.1 hRB.2.2.2.2 hv hi' (show j' < 2147483648 by omega) ca2 cx cg
            refine ⟨C, Inv.next h0 fB fC cB (hRB.next mC sC kC) hG hD, fun Y hY => ?_⟩
            have h4B := fr_4 h4 fB
            simp only [Nat.reduceAdd] at e1 e2
            simp only [sw_7, i_int, i_long, i_null, i_stat, i_iload, i_lload, i_aload, i_istore, i_astore, i_lstore, i_iinc, i_ii, i_idz, i_i, i_ll, i_lsh, i_i2l, i_l2i, i_lcmp, i_dup, i_pop, i_dup2, i_ifeq, i_ifne, i_iflt, i_ifge, i_ifgt, i_ifle, i_cmpeq, i_cmpne, i_cmplt, i_cmpge, i_cmpgt, i_cmple, i_ifnull, i_ifnonnull, i_getf, am_wr, i_putI, i_putZ, i_putR, i_iald, i_iast, i_aald, i_aast, i_alen, i_newi, i_newq, i_new, i_recv, i_iret, i_zret, i_lret, i_aret, i_vret, List.getElem?_cons_zero, List.getElem?_cons_succ, Option.bind_some, Option.toList_some, Option.toList_none, List.cons_append, List.nil_append, x_nI, am_put, am_put2, List.length_cons, List.length_nil, List.set_cons_zero, List.set_cons_succ, Nat.reduceAdd, Nat.reduceLT, Nat.reduceLeDiff, Nat.reduceEqDiff, Nat.add_left_cancel_iff, Nat.add_eq_left, Nat.left_eq_add, Nat.succ_ne_self, Nat.reduceSub, reduceIte, ite_self, eq_self, or_true, true_or, or_false, false_or, or_self, i10, not_true_eq_false, not_false_eq_true, x_call1, x_call2, x_call3, x_call4, x_call5, x_call6, x_sl0, x_sli, x_slr, x_sln, x_sll, am_ent, List.map_nil, List.map_cons, List.sum_nil, List.sum_cons, Value.category, and_true, true_and, and_self, Nat.zero_le, List.replicate_succ, List.replicate_zero, List.reduceReplicate, x_obj_set, x_row_set, x_len_set, x_obx, x_rox, x_rv, nI_1, ix_2, ix_3, ix_4, ix_5, ix_6, x_row h4, x_row h4B, x_ix (show i + 1 < L by omega) (show i + 1 < 2147483648 by omega), x_ix (show i + 2 < L by omega) (show i + 2 < 2147483648 by omega), x_ix (show i + 3 < L by omega) (show i + 3 < 2147483648 by omega), x_ix (show i + 4 < L by omega) (show i + 4 < 2147483648 by omega), x_ix (show i + 5 < L by omega) (show i + 5 < 2147483648 by omega), x_obj hC.2.1, ev, eI, eJ, e1, x_obj hRB.1.1, e2]
            exact hY
          | true =>
            have hp := put_pl hs hv ht hj' hi0 cg
            obtain ⟨B, ρ2, e1, cB, fB⟩ := c_put (d := 2) hC hv hi' (show j' < 2147483648 by omega) ca2 cx cg hp
            have hRB := hR.kept fB
            obtain ⟨C, S, e2, mC, sC, kC, fC⟩ := n_put (d := 2) hRB.1 hRB.2.1 hRB.2.2.2.2 hv hi' (show j' < 2147483648 by omega) ca2 cx cg hp
            refine ⟨C, Inv.next h0 fB fC cB (hRB.next mC sC kC) (Gd_setCe (Gd_grown hG)) hD, fun Y hY => ?_⟩
            have h4B := fr_4 h4 fB
            simp only [Nat.reduceAdd] at e1 e2
            simp only [sw_7, i_int, i_long, i_null, i_stat, i_iload, i_lload, i_aload, i_istore, i_astore, i_lstore, i_iinc, i_ii, i_idz, i_i, i_ll, i_lsh, i_i2l, i_l2i, i_lcmp, i_dup, i_pop, i_dup2, i_ifeq, i_ifne, i_iflt, i_ifge, i_ifgt, i_ifle, i_cmpeq, i_cmpne, i_cmplt, i_cmpge, i_cmpgt, i_cmple, i_ifnull, i_ifnonnull, i_getf, am_wr, i_putI, i_putZ, i_putR, i_iald, i_iast, i_aald, i_aast, i_alen, i_newi, i_newq, i_new, i_recv, i_iret, i_zret, i_lret, i_aret, i_vret, List.getElem?_cons_zero, List.getElem?_cons_succ, Option.bind_some, Option.toList_some, Option.toList_none, List.cons_append, List.nil_append, x_nI, am_put, am_put2, List.length_cons, List.length_nil, List.set_cons_zero, List.set_cons_succ, Nat.reduceAdd, Nat.reduceLT, Nat.reduceLeDiff, Nat.reduceEqDiff, Nat.add_left_cancel_iff, Nat.add_eq_left, Nat.left_eq_add, Nat.succ_ne_self, Nat.reduceSub, reduceIte, ite_self, eq_self, or_true, true_or, or_false, false_or, or_self, i10, not_true_eq_false, not_false_eq_true, x_call1, x_call2, x_call3, x_call4, x_call5, x_call6, x_sl0, x_sli, x_slr, x_sln, x_sll, am_ent, List.map_nil, List.map_cons, List.sum_nil, List.sum_cons, Value.category, and_true, true_and, and_self, Nat.zero_le, List.replicate_succ, List.replicate_zero, List.reduceReplicate, x_obj_set, x_row_set, x_len_set, x_obx, x_rox, x_rv, nI_1, ix_2, ix_3, ix_4, ix_5, ix_6, x_row h4, x_row h4B, x_ix (show i + 1 < L by omega) (show i + 1 < 2147483648 by omega), x_ix (show i + 2 < L by omega) (show i + 2 < 2147483648 by omega), x_ix (show i + 3 < L by omega) (show i + 3 < 2147483648 by omega), x_ix (show i + 4 < L by omega) (show i + 4 < 2147483648 by omega), x_ix (show i + 5 < L by omega) (show i + 5 < 2147483648 by omega), x_obj hC.2.1, ev, eI, eJ, e1, x_obj hRB.1.1, e2]
            exact hY
theorem lst_8 : LStep sw_8 := by
  intro L xs i A hL hi hI
  obtain ⟨h0, b, b', df, s, ρ, s', ρ', q, D, c, bs, c2, R, f, hC, hR, hG, hD⟩ := hI
  have h4 := h0.1
  have hs := hC.2.2.2.1.1
  have I0 : Inv L xs A := Inv.next h0 (am_fr.refl A) (am_fr.refl A) hC hR hG hD
  refine ⟨A, I0, fun Y hY => ?_⟩
  have h4B := h4
  cases df with
  | true =>
    have e1 := c_getM (d := 8) (v := xs (i + 1)) (i := xs (i + 2)) (j := xs (i + 3)) hC
    have e2 := n_getM (d := 8) (v := xs (i + 1)) (i := xs (i + 2)) (j := xs (i + 3)) hR.1 hR.2.2.2.2
    simp only [sw_8, i_int, i_long, i_null, i_stat, i_iload, i_lload, i_aload, i_istore, i_astore, i_lstore, i_iinc, i_ii, i_idz, i_i, i_ll, i_lsh, i_i2l, i_l2i, i_lcmp, i_dup, i_pop, i_dup2, i_ifeq, i_ifne, i_iflt, i_ifge, i_ifgt, i_ifle, i_cmpeq, i_cmpne, i_cmplt, i_cmpge, i_cmpgt, i_cmple, i_ifnull, i_ifnonnull, i_getf, am_wr, i_putI, i_putZ, i_putR, i_iald, i_iast, i_aald, i_aast, i_alen, i_newi, i_newq, i_new, i_recv, i_iret, i_zret, i_lret, i_aret, i_vret, List.getElem?_cons_zero, List.getElem?_cons_succ, Option.bind_some, Option.toList_some, Option.toList_none, List.cons_append, List.nil_append, x_nI, am_put, am_put2, List.length_cons, List.length_nil, List.set_cons_zero, List.set_cons_succ, Nat.reduceAdd, Nat.reduceLT, Nat.reduceLeDiff, Nat.reduceEqDiff, Nat.add_left_cancel_iff, Nat.add_eq_left, Nat.left_eq_add, Nat.succ_ne_self, Nat.reduceSub, reduceIte, ite_self, eq_self, or_true, true_or, or_false, false_or, or_self, i10, not_true_eq_false, not_false_eq_true, x_call1, x_call2, x_call3, x_call4, x_call5, x_call6, x_sl0, x_sli, x_slr, x_sln, x_sll, am_ent, List.map_nil, List.map_cons, List.sum_nil, List.sum_cons, Value.category, and_true, true_and, and_self, Nat.zero_le, List.replicate_succ, List.replicate_zero, List.reduceReplicate, x_obj_set, x_row_set, x_len_set, x_obx, x_rox, x_rv, nI_1, ix_2, ix_3, ix_4, ix_5, ix_6, x_row h4, x_row h4B, x_ix (show i + 1 < L by omega) (show i + 1 < 2147483648 by omega), x_ix (show i + 2 < L by omega) (show i + 2 < 2147483648 by omega), x_ix (show i + 3 < L by omega) (show i + 3 < 2147483648 by omega), x_ix (show i + 4 < L by omega) (show i + 4 < 2147483648 by omega), x_ix (show i + 5 < L by omega) (show i + 5 < 2147483648 by omega), x_obj hC.2.1, e1, x_obj hR.1.1, e2, lcmp_self]
    exact hY
  | false =>
    have ht := hG.2.2.2 rfl
    cases cv : isVb s (xs (i + 1)) with
    | false =>
      have e1 := c_getN (d := 7) (v := xs (i + 1)) (i := xs (i + 2)) (j := xs (i + 3)) hC cv
      have e2 := n_getN (d := 7) (v := xs (i + 1)) (i := xs (i + 2)) (j := xs (i + 3)) hR.1 hR.2.1 hR.2.2.2.2 cv
      simp only [Nat.reduceAdd] at e1 e2
      simp only [sw_8, i_int, i_long, i_null, i_stat, i_iload, i_lload, i_aload, i_istore, i_astore, i_lstore, i_iinc, i_ii, i_idz, i_i, i_ll, i_lsh, i_i2l, i_l2i, i_lcmp, i_dup, i_pop, i_dup2, i_ifeq, i_ifne, i_iflt, i_ifge, i_ifgt, i_ifle, i_cmpeq, i_cmpne, i_cmplt, i_cmpge, i_cmpgt, i_cmple, i_ifnull, i_ifnonnull, i_getf, am_wr, i_putI, i_putZ, i_putR, i_iald, i_iast, i_aald, i_aast, i_alen, i_newi, i_newq, i_new, i_recv, i_iret, i_zret, i_lret, i_aret, i_vret, List.getElem?_cons_zero, List.getElem?_cons_succ, Option.bind_some, Option.toList_some, Option.toList_none, List.cons_append, List.nil_append, x_nI, am_put, am_put2, List.length_cons, List.length_nil, List.set_cons_zero, List.set_cons_succ, Nat.reduceAdd, Nat.reduceLT, Nat.reduceLeDiff, Nat.reduceEqDiff, Nat.add_left_cancel_iff, Nat.add_eq_left, Nat.left_eq_add, Nat.succ_ne_self, Nat.reduceSub, reduceIte, ite_self, eq_self, or_true, true_or, or_false, false_or, or_self, i10, not_true_eq_false, not_false_eq_true, x_call1, x_call2, x_call3, x_call4, x_call5, x_call6, x_sl0, x_sli, x_slr, x_sln, x_sll, am_ent, List.map_nil, List.map_cons, List.sum_nil, List.sum_cons, Value.category, and_true, true_and, and_self, Nat.zero_le, List.replicate_succ, List.replicate_zero, List.reduceReplicate, x_obj_set, x_row_set, x_len_set, x_obx, x_rox, x_rv, nI_1, ix_2, ix_3, ix_4, ix_5, ix_6, x_row h4, x_row h4B, x_ix (show i + 1 < L by omega) (show i + 1 < 2147483648 by omega), x_ix (show i + 2 < L by omega) (show i + 2 < 2147483648 by omega), x_ix (show i + 3 < L by omega) (show i + 3 < 2147483648 by omega), x_ix (show i + 4 < L by omega) (show i + 4 < 2147483648 by omega), x_ix (show i + 5 < L by omega) (show i + 5 < 2147483648 by omega), x_obj hC.2.1, e1, x_obj hR.1.1, e2, lcmp_self]
      exact hY
    | true =>
      obtain ⟨v, hv, ev⟩ := isVb_nI cv hs
      cases ca : (adm (sg_raw s v) (xs (i + 2)).toInt64 (xs (i + 3)).toInt64 && (!(decide (sg_l0 s v = 0)) || decide ((xs (i + 2)).toInt64 < lN s.2.2.2.2))) with
      | false =>
        have e1 := c_getO (d := 6) hC hv ca
        have e2 := n_getO (d := 5) hR.1 hR.2.1 hR.2.2.2.2 hv ca
        simp only [Nat.reduceAdd] at e1 e2
        simp only [sw_8, i_int, i_long, i_null, i_stat, i_iload, i_lload, i_aload, i_istore, i_astore, i_lstore, i_iinc, i_ii, i_idz, i_i, i_ll, i_lsh, i_i2l, i_l2i, i_lcmp, i_dup, i_pop, i_dup2, i_ifeq, i_ifne, i_iflt, i_ifge, i_ifgt, i_ifle, i_cmpeq, i_cmpne, i_cmplt, i_cmpge, i_cmpgt, i_cmple, i_ifnull, i_ifnonnull, i_getf, am_wr, i_putI, i_putZ, i_putR, i_iald, i_iast, i_aald, i_aast, i_alen, i_newi, i_newq, i_new, i_recv, i_iret, i_zret, i_lret, i_aret, i_vret, List.getElem?_cons_zero, List.getElem?_cons_succ, Option.bind_some, Option.toList_some, Option.toList_none, List.cons_append, List.nil_append, x_nI, am_put, am_put2, List.length_cons, List.length_nil, List.set_cons_zero, List.set_cons_succ, Nat.reduceAdd, Nat.reduceLT, Nat.reduceLeDiff, Nat.reduceEqDiff, Nat.add_left_cancel_iff, Nat.add_eq_left, Nat.left_eq_add, Nat.succ_ne_self, Nat.reduceSub, reduceIte, ite_self, eq_self, or_true, true_or, or_false, false_or, or_self, i10, not_true_eq_false, not_false_eq_true, x_call1, x_call2, x_call3, x_call4, x_call5, x_call6, x_sl0, x_sli, x_slr, x_sln, x_sll, am_ent, List.map_nil, List.map_cons, List.sum_nil, List.sum_cons, Value.category, and_true, true_and, and_self, Nat.zero_le, List.replicate_succ, List.replicate_zero, List.reduceReplicate, x_obj_set, x_row_set, x_len_set, x_obx, x_rox, x_rv, nI_1, ix_2, ix_3, ix_4, ix_5, ix_6, x_row h4, x_row h4B, x_ix (show i + 1 < L by omega) (show i + 1 < 2147483648 by omega), x_ix (show i + 2 < L by omega) (show i + 2 < 2147483648 by omega), x_ix (show i + 3 < L by omega) (show i + 3 < 2147483648 by omega), x_ix (show i + 4 < L by omega) (show i + 4 < 2147483648 by omega), x_ix (show i + 5 < L by omega) (show i + 5 < 2147483648 by omega), x_obj hC.2.1, ev, e1, x_obj hR.1.1, e2, lcmp_self]
        exact hY
      | true =>
        obtain ⟨i', j', hi', hj', eI, eJ, hi0⟩ := adm_nI (Bool.and_eq_true _ _ ▸ ca).1 hs hv
        have l1 := hs.l1 hv
        have hr := hs.2.2.2.2
        rw [eI, eJ, nI_l (by omega), nI_l (by omega)] at ca
        have hp : i' * sg_l1 s v + j' < 800 := by
          by_cases c0 : sg_l0 s v = 0
          · have c5 := (Bool.and_eq_true _ _ ▸ ca).2
            simp only [c0, decide_true, Bool.not_true, Bool.false_or, decide_eq_true_eq] at c5
            exact place_lt hs hv ht hj' (Or.inl ⟨c0, (pk_lLT (by omega) (by omega)).mp c5⟩)
          · rcases hi0 with h3 | h3
            · exact absurd h3 c0
            · exact place_lt hs hv ht hj' (Or.inr ⟨c0, h3⟩)
        have e1 := c_get (d := 6) hC hv hi' (show j' < 2147483648 by omega) ca hp
        have e2 := n_get (d := 5) hR.1 hR.2.1 hR.2.2.2.2 hv hi' hp (show j' < 2147483648 by omega) ca
        simp only [Nat.reduceAdd] at e1 e2
        simp only [sw_8, i_int, i_long, i_null, i_stat, i_iload, i_lload, i_aload, i_istore, i_astore, i_lstore, i_iinc, i_ii, i_idz, i_i, i_ll, i_lsh, i_i2l, i_l2i, i_lcmp, i_dup, i_pop, i_dup2, i_ifeq, i_ifne, i_iflt, i_ifge, i_ifgt, i_ifle, i_cmpeq, i_cmpne, i_cmplt, i_cmpge, i_cmpgt, i_cmple, i_ifnull, i_ifnonnull, i_getf, am_wr, i_putI, i_putZ, i_putR, i_iald, i_iast, i_aald, i_aast, i_alen, i_newi, i_newq, i_new, i_recv, i_iret, i_zret, i_lret, i_aret, i_vret, List.getElem?_cons_zero, List.getElem?_cons_succ, Option.bind_some, Option.toList_some, Option.toList_none, List.cons_append, List.nil_append, x_nI, am_put, am_put2, List.length_cons, List.length_nil, List.set_cons_zero, List.set_cons_succ, Nat.reduceAdd, Nat.reduceLT, Nat.reduceLeDiff, Nat.reduceEqDiff, Nat.add_left_cancel_iff, Nat.add_eq_left, Nat.left_eq_add, Nat.succ_ne_self, Nat.reduceSub, reduceIte, ite_self, eq_self, or_true, true_or, or_false, false_or, or_self, i10, not_true_eq_false, not_false_eq_true, x_call1, x_call2, x_call3, x_call4, x_call5, x_call6, x_sl0, x_sli, x_slr, x_sln, x_sll, am_ent, List.map_nil, List.map_cons, List.sum_nil, List.sum_cons, Value.category, and_true, true_and, and_self, Nat.zero_le, List.replicate_succ, List.replicate_zero, List.reduceReplicate, x_obj_set, x_row_set, x_len_set, x_obx, x_rox, x_rv, nI_1, ix_2, ix_3, ix_4, ix_5, ix_6, x_row h4, x_row h4B, x_ix (show i + 1 < L by omega) (show i + 1 < 2147483648 by omega), x_ix (show i + 2 < L by omega) (show i + 2 < 2147483648 by omega), x_ix (show i + 3 < L by omega) (show i + 3 < 2147483648 by omega), x_ix (show i + 4 < L by omega) (show i + 4 < 2147483648 by omega), x_ix (show i + 5 < L by omega) (show i + 5 < 2147483648 by omega), x_obj hC.2.1, ev, eI, eJ, e1, x_obj hR.1.1, e2, lcmp_self]
        exact hY
theorem lst_9 : LStep sw_9 := by
  intro L xs i A hL hi hI
  obtain ⟨h0, b, b', df, s, ρ, s', ρ', q, D, c, bs, c2, R, f, hC, hR, hG, hD⟩ := hI
  have h4 := h0.1
  have key : ∀ k, k < 2 → xs (i + 1) = nI k → ∃ C, Inv L xs C ∧ ∀ Y, pev 9 263 [some (.ref 4), some (.ref 5), some (.ref 103), some (.int (nI (i + 6)))] [] C = some Y → sw_9 pev 9 [some (.ref 4), some (.ref 5), some (.ref 103), some (.int (nI i))] [] A = some Y := by
    intro k hk ek
    obtain ⟨B, e1, cB, fB⟩ := c_select (d := 7) (st := xs (i + 2)) (ct := xs (i + 3)) (sr := xs (i + 4)) hC hk
    have hRB := hR.kept fB
    obtain ⟨C, S, e2, mC, sC, kC, fC⟩ := n_select (d := 8) (st := xs (i + 2)) (ct := xs (i + 3)) (sr := xs (i + 4)) hRB.1 hRB.2.2.1 hk
    refine ⟨C, Inv.next h0 fB fC cB ⟨mC, hR.2.1.same (fun i i1 i2 => kC i (by omega)), sC, hR.2.2.2.1.same (kC 20 (by omega)) rfl, hR.2.2.2.2⟩ hG hD, fun Y hY => ?_⟩
    have h4B := fr_4 h4 fB
    simp only [Nat.reduceAdd] at e1
    simp only [sw_9, i_int, i_long, i_null, i_stat, i_iload, i_lload, i_aload, i_istore, i_astore, i_lstore, i_iinc, i_ii, i_idz, i_i, i_ll, i_lsh, i_i2l, i_l2i, i_lcmp, i_dup, i_pop, i_dup2, i_ifeq, i_ifne, i_iflt, i_ifge, i_ifgt, i_ifle, i_cmpeq, i_cmpne, i_cmplt, i_cmpge, i_cmpgt, i_cmple, i_ifnull, i_ifnonnull, i_getf, am_wr, i_putI, i_putZ, i_putR, i_iald, i_iast, i_aald, i_aast, i_alen, i_newi, i_newq, i_new, i_recv, i_iret, i_zret, i_lret, i_aret, i_vret, List.getElem?_cons_zero, List.getElem?_cons_succ, Option.bind_some, Option.toList_some, Option.toList_none, List.cons_append, List.nil_append, x_nI, am_put, am_put2, List.length_cons, List.length_nil, List.set_cons_zero, List.set_cons_succ, Nat.reduceAdd, Nat.reduceLT, Nat.reduceLeDiff, Nat.reduceEqDiff, Nat.add_left_cancel_iff, Nat.add_eq_left, Nat.left_eq_add, Nat.succ_ne_self, Nat.reduceSub, reduceIte, ite_self, eq_self, or_true, true_or, or_false, false_or, or_self, i10, not_true_eq_false, not_false_eq_true, x_call1, x_call2, x_call3, x_call4, x_call5, x_call6, x_sl0, x_sli, x_slr, x_sln, x_sll, am_ent, List.map_nil, List.map_cons, List.sum_nil, List.sum_cons, Value.category, and_true, true_and, and_self, Nat.zero_le, List.replicate_succ, List.replicate_zero, List.reduceReplicate, x_obj_set, x_row_set, x_len_set, x_obx, x_rox, x_rv, nI_1, ix_2, ix_3, ix_4, ix_5, ix_6, x_row h4, x_row h4B, x_ix (show i + 1 < L by omega) (show i + 1 < 2147483648 by omega), x_ix (show i + 2 < L by omega) (show i + 2 < 2147483648 by omega), x_ix (show i + 3 < L by omega) (show i + 3 < 2147483648 by omega), x_ix (show i + 4 < L by omega) (show i + 4 < 2147483648 by omega), x_ix (show i + 5 < L by omega) (show i + 5 < 2147483648 by omega), x_obj hC.2.1, ek, e1, x_obj hRB.1.1, e2]
    exact hY
  by_cases c0 : xs (i + 1) = 0
  · exact key 0 (by decide) c0
  · by_cases c1 : xs (i + 1) = 1
    · exact key 1 (by decide) c1
    · have e1 := c_selectN (A := A) (d := 8) (st := xs (i + 2)) (ct := xs (i + 3)) (sr := xs (i + 4)) c0 c1
      have e2 := n_selectN (A := A) (b := 103) (d := 8) (st := xs (i + 2)) (ct := xs (i + 3)) (sr := xs (i + 4)) c0 c1
      refine ⟨A, Inv.next h0 (am_fr.refl A) (am_fr.refl A) hC hR hG hD, fun Y hY => ?_⟩
      have h4B := h4
      simp only [sw_9, i_int, i_long, i_null, i_stat, i_iload, i_lload, i_aload, i_istore, i_astore, i_lstore, i_iinc, i_ii, i_idz, i_i, i_ll, i_lsh, i_i2l, i_l2i, i_lcmp, i_dup, i_pop, i_dup2, i_ifeq, i_ifne, i_iflt, i_ifge, i_ifgt, i_ifle, i_cmpeq, i_cmpne, i_cmplt, i_cmpge, i_cmpgt, i_cmple, i_ifnull, i_ifnonnull, i_getf, am_wr, i_putI, i_putZ, i_putR, i_iald, i_iast, i_aald, i_aast, i_alen, i_newi, i_newq, i_new, i_recv, i_iret, i_zret, i_lret, i_aret, i_vret, List.getElem?_cons_zero, List.getElem?_cons_succ, Option.bind_some, Option.toList_some, Option.toList_none, List.cons_append, List.nil_append, x_nI, am_put, am_put2, List.length_cons, List.length_nil, List.set_cons_zero, List.set_cons_succ, Nat.reduceAdd, Nat.reduceLT, Nat.reduceLeDiff, Nat.reduceEqDiff, Nat.add_left_cancel_iff, Nat.add_eq_left, Nat.left_eq_add, Nat.succ_ne_self, Nat.reduceSub, reduceIte, ite_self, eq_self, or_true, true_or, or_false, false_or, or_self, i10, not_true_eq_false, not_false_eq_true, x_call1, x_call2, x_call3, x_call4, x_call5, x_call6, x_sl0, x_sli, x_slr, x_sln, x_sll, am_ent, List.map_nil, List.map_cons, List.sum_nil, List.sum_cons, Value.category, and_true, true_and, and_self, Nat.zero_le, List.replicate_succ, List.replicate_zero, List.reduceReplicate, x_obj_set, x_row_set, x_len_set, x_obx, x_rox, x_rv, nI_1, ix_2, ix_3, ix_4, ix_5, ix_6, x_row h4, x_row h4B, x_ix (show i + 1 < L by omega) (show i + 1 < 2147483648 by omega), x_ix (show i + 2 < L by omega) (show i + 2 < 2147483648 by omega), x_ix (show i + 3 < L by omega) (show i + 3 < 2147483648 by omega), x_ix (show i + 4 < L by omega) (show i + 4 < 2147483648 by omega), x_ix (show i + 5 < L by omega) (show i + 5 < 2147483648 by omega), x_obj hC.2.1, e1, x_obj hR.1.1, e2]
      exact hY
theorem lst_10 : LStep sw_10 := by
  intro L xs i A hL hi hI
  obtain ⟨h0, b, b', df, s, ρ, s', ρ', q, D, c, bs, c2, R, f, hC, hR, hG, hD⟩ := hI
  have h4 := h0.1
  have hs := hC.2.2.2.1.1
  have I0 : Inv L xs A := Inv.next h0 (am_fr.refl A) (am_fr.refl A) hC hR hG hD
  cases df with
  | true =>
    have e1 := c_pSM (d := 8) (v := xs (i + 1)) (x := xs (i + 2)) (st := xs (i + 3)) hC
    have e2 := n_pSM (d := 8) (v := xs (i + 1)) (x := xs (i + 2)) (st := xs (i + 3)) hR.1 hR.2.2.2.2
    refine ⟨A, I0, fun Y hY => ?_⟩
    have h4B := h4
    simp only [sw_10, i_int, i_long, i_null, i_stat, i_iload, i_lload, i_aload, i_istore, i_astore, i_lstore, i_iinc, i_ii, i_idz, i_i, i_ll, i_lsh, i_i2l, i_l2i, i_lcmp, i_dup, i_pop, i_dup2, i_ifeq, i_ifne, i_iflt, i_ifge, i_ifgt, i_ifle, i_cmpeq, i_cmpne, i_cmplt, i_cmpge, i_cmpgt, i_cmple, i_ifnull, i_ifnonnull, i_getf, am_wr, i_putI, i_putZ, i_putR, i_iald, i_iast, i_aald, i_aast, i_alen, i_newi, i_newq, i_new, i_recv, i_iret, i_zret, i_lret, i_aret, i_vret, List.getElem?_cons_zero, List.getElem?_cons_succ, Option.bind_some, Option.toList_some, Option.toList_none, List.cons_append, List.nil_append, x_nI, am_put, am_put2, List.length_cons, List.length_nil, List.set_cons_zero, List.set_cons_succ, Nat.reduceAdd, Nat.reduceLT, Nat.reduceLeDiff, Nat.reduceEqDiff, Nat.add_left_cancel_iff, Nat.add_eq_left, Nat.left_eq_add, Nat.succ_ne_self, Nat.reduceSub, reduceIte, ite_self, eq_self, or_true, true_or, or_false, false_or, or_self, i10, not_true_eq_false, not_false_eq_true, x_call1, x_call2, x_call3, x_call4, x_call5, x_call6, x_sl0, x_sli, x_slr, x_sln, x_sll, am_ent, List.map_nil, List.map_cons, List.sum_nil, List.sum_cons, Value.category, and_true, true_and, and_self, Nat.zero_le, List.replicate_succ, List.replicate_zero, List.reduceReplicate, x_obj_set, x_row_set, x_len_set, x_obx, x_rox, x_rv, nI_1, ix_2, ix_3, ix_4, ix_5, ix_6, x_row h4, x_row h4B, x_ix (show i + 1 < L by omega) (show i + 1 < 2147483648 by omega), x_ix (show i + 2 < L by omega) (show i + 2 < 2147483648 by omega), x_ix (show i + 3 < L by omega) (show i + 3 < 2147483648 by omega), x_ix (show i + 4 < L by omega) (show i + 4 < 2147483648 by omega), x_ix (show i + 5 < L by omega) (show i + 5 < 2147483648 by omega), x_obj hC.2.1, e1, x_obj hR.1.1, e2]
    exact hY
  | false =>
    have ht := hG.2.2.2 rfl
    cases cv : isVb s (xs (i + 1)) with
    | false =>
      have e1 := c_pSN (d := 7) (v := xs (i + 1)) (x := xs (i + 2)) (st := xs (i + 3)) hC cv
      have e2 := n_pSN (d := 7) (v := xs (i + 1)) (x := xs (i + 2)) (st := xs (i + 3)) hR.1 hR.2.1 hR.2.2.2.2 cv
      refine ⟨A, I0, fun Y hY => ?_⟩
      have h4B := h4
      simp only [Nat.reduceAdd] at e1 e2
      simp only [sw_10, i_int, i_long, i_null, i_stat, i_iload, i_lload, i_aload, i_istore, i_astore, i_lstore, i_iinc, i_ii, i_idz, i_i, i_ll, i_lsh, i_i2l, i_l2i, i_lcmp, i_dup, i_pop, i_dup2, i_ifeq, i_ifne, i_iflt, i_ifge, i_ifgt, i_ifle, i_cmpeq, i_cmpne, i_cmplt, i_cmpge, i_cmpgt, i_cmple, i_ifnull, i_ifnonnull, i_getf, am_wr, i_putI, i_putZ, i_putR, i_iald, i_iast, i_aald, i_aast, i_alen, i_newi, i_newq, i_new, i_recv, i_iret, i_zret, i_lret, i_aret, i_vret, List.getElem?_cons_zero, List.getElem?_cons_succ, Option.bind_some, Option.toList_some, Option.toList_none, List.cons_append, List.nil_append, x_nI, am_put, am_put2, List.length_cons, List.length_nil, List.set_cons_zero, List.set_cons_succ, Nat.reduceAdd, Nat.reduceLT, Nat.reduceLeDiff, Nat.reduceEqDiff, Nat.add_left_cancel_iff, Nat.add_eq_left, Nat.left_eq_add, Nat.succ_ne_self, Nat.reduceSub, reduceIte, ite_self, eq_self, or_true, true_or, or_false, false_or, or_self, i10, not_true_eq_false, not_false_eq_true, x_call1, x_call2, x_call3, x_call4, x_call5, x_call6, x_sl0, x_sli, x_slr, x_sln, x_sll, am_ent, List.map_nil, List.map_cons, List.sum_nil, List.sum_cons, Value.category, and_true, true_and, and_self, Nat.zero_le, List.replicate_succ, List.replicate_zero, List.reduceReplicate, x_obj_set, x_row_set, x_len_set, x_obx, x_rox, x_rv, nI_1, ix_2, ix_3, ix_4, ix_5, ix_6, x_row h4, x_row h4B, x_ix (show i + 1 < L by omega) (show i + 1 < 2147483648 by omega), x_ix (show i + 2 < L by omega) (show i + 2 < 2147483648 by omega), x_ix (show i + 3 < L by omega) (show i + 3 < 2147483648 by omega), x_ix (show i + 4 < L by omega) (show i + 4 < 2147483648 by omega), x_ix (show i + 5 < L by omega) (show i + 5 < 2147483648 by omega), x_obj hC.2.1, e1, x_obj hR.1.1, e2]
      exact hY
    | true =>
      obtain ⟨v, hv, ev⟩ := isVb_nI cv hs
      obtain ⟨B, ρ2, e1, cB, fB⟩ := c_putSlab (d := 2) (x := xs (i + 2)) (st := xs (i + 3)) hC hR.2.2.1.ok hv ht
      have hRB := hR.kept fB
      obtain ⟨C, S, e2, mC, sC, kC, fC⟩ := n_putSlab (d := 2) (x := xs (i + 2)) (st := xs (i + 3)) hRB.1 hRB.2.1 hRB.2.2.1 hRB.2.2.2.2 hv ht
      refine ⟨C, Inv.next h0 fB fC cB (hRB.next mC sC kC) (Gd_pS hG) hD, fun Y hY => ?_⟩
      have h4B := fr_4 h4 fB
      simp only [Nat.reduceAdd] at e1 e2
      simp only [sw_10, i_int, i_long, i_null, i_stat, i_iload, i_lload, i_aload, i_istore, i_astore, i_lstore, i_iinc, i_ii, i_idz, i_i, i_ll, i_lsh, i_i2l, i_l2i, i_lcmp, i_dup, i_pop, i_dup2, i_ifeq, i_ifne, i_iflt, i_ifge, i_ifgt, i_ifle, i_cmpeq, i_cmpne, i_cmplt, i_cmpge, i_cmpgt, i_cmple, i_ifnull, i_ifnonnull, i_getf, am_wr, i_putI, i_putZ, i_putR, i_iald, i_iast, i_aald, i_aast, i_alen, i_newi, i_newq, i_new, i_recv, i_iret, i_zret, i_lret, i_aret, i_vret, List.getElem?_cons_zero, List.getElem?_cons_succ, Option.bind_some, Option.toList_some, Option.toList_none, List.cons_append, List.nil_append, x_nI, am_put, am_put2, List.length_cons, List.length_nil, List.set_cons_zero, List.set_cons_succ, Nat.reduceAdd, Nat.reduceLT, Nat.reduceLeDiff, Nat.reduceEqDiff, Nat.add_left_cancel_iff, Nat.add_eq_left, Nat.left_eq_add, Nat.succ_ne_self, Nat.reduceSub, reduceIte, ite_self, eq_self, or_true, true_or, or_false, false_or, or_self, i10, not_true_eq_false, not_false_eq_true, x_call1, x_call2, x_call3, x_call4, x_call5, x_call6, x_sl0, x_sli, x_slr, x_sln, x_sll, am_ent, List.map_nil, List.map_cons, List.sum_nil, List.sum_cons, Value.category, and_true, true_and, and_self, Nat.zero_le, List.replicate_succ, List.replicate_zero, List.reduceReplicate, x_obj_set, x_row_set, x_len_set, x_obx, x_rox, x_rv, nI_1, ix_2, ix_3, ix_4, ix_5, ix_6, x_row h4, x_row h4B, x_ix (show i + 1 < L by omega) (show i + 1 < 2147483648 by omega), x_ix (show i + 2 < L by omega) (show i + 2 < 2147483648 by omega), x_ix (show i + 3 < L by omega) (show i + 3 < 2147483648 by omega), x_ix (show i + 4 < L by omega) (show i + 4 < 2147483648 by omega), x_ix (show i + 5 < L by omega) (show i + 5 < 2147483648 by omega), x_obj hC.2.1, ev, e1, x_obj hRB.1.1, e2]
      exact hY
theorem lst_11 : LStep sw_11 := by
  intro L xs i A hL hi hI
  obtain ⟨h0, b, b', df, s, ρ, s', ρ', q, D, c, bs, c2, R, f, hC, hR, hG, hD⟩ := hI
  have h4 := h0.1
  have hs := hC.2.2.2.1.1
  refine ⟨A, Inv.next h0 (am_fr.refl A) (am_fr.refl A) hC hR hG hD, fun Y hY => ?_⟩
  have h4B := h4
  cases df with
  | true =>
    have e1 := c_gSM (d := 8) (v := xs (i + 1)) (n := xs (i + 2)) hC
    have e2 := n_gSM (d := 8) (v := xs (i + 1)) (n := xs (i + 2)) hR.1 hR.2.2.2.2
    simp only [sw_11, i_int, i_long, i_null, i_stat, i_iload, i_lload, i_aload, i_istore, i_astore, i_lstore, i_iinc, i_ii, i_idz, i_i, i_ll, i_lsh, i_i2l, i_l2i, i_lcmp, i_dup, i_pop, i_dup2, i_ifeq, i_ifne, i_iflt, i_ifge, i_ifgt, i_ifle, i_cmpeq, i_cmpne, i_cmplt, i_cmpge, i_cmpgt, i_cmple, i_ifnull, i_ifnonnull, i_getf, am_wr, i_putI, i_putZ, i_putR, i_iald, i_iast, i_aald, i_aast, i_alen, i_newi, i_newq, i_new, i_recv, i_iret, i_zret, i_lret, i_aret, i_vret, List.getElem?_cons_zero, List.getElem?_cons_succ, Option.bind_some, Option.toList_some, Option.toList_none, List.cons_append, List.nil_append, x_nI, am_put, am_put2, List.length_cons, List.length_nil, List.set_cons_zero, List.set_cons_succ, Nat.reduceAdd, Nat.reduceLT, Nat.reduceLeDiff, Nat.reduceEqDiff, Nat.add_left_cancel_iff, Nat.add_eq_left, Nat.left_eq_add, Nat.succ_ne_self, Nat.reduceSub, reduceIte, ite_self, eq_self, or_true, true_or, or_false, false_or, or_self, i10, not_true_eq_false, not_false_eq_true, x_call1, x_call2, x_call3, x_call4, x_call5, x_call6, x_sl0, x_sli, x_slr, x_sln, x_sll, am_ent, List.map_nil, List.map_cons, List.sum_nil, List.sum_cons, Value.category, and_true, true_and, and_self, Nat.zero_le, List.replicate_succ, List.replicate_zero, List.reduceReplicate, x_obj_set, x_row_set, x_len_set, x_obx, x_rox, x_rv, nI_1, ix_2, ix_3, ix_4, ix_5, ix_6, x_row h4, x_row h4B, x_ix (show i + 1 < L by omega) (show i + 1 < 2147483648 by omega), x_ix (show i + 2 < L by omega) (show i + 2 < 2147483648 by omega), x_ix (show i + 3 < L by omega) (show i + 3 < 2147483648 by omega), x_ix (show i + 4 < L by omega) (show i + 4 < 2147483648 by omega), x_ix (show i + 5 < L by omega) (show i + 5 < 2147483648 by omega), x_obj hC.2.1, e1, x_obj hR.1.1, e2, lcmp_self]
    exact hY
  | false =>
    have ht := hG.2.2.2 rfl
    cases cv : isVb s (xs (i + 1)) with
    | false =>
      have e1 := c_gSN (d := 7) (v := xs (i + 1)) (n := xs (i + 2)) hC cv
      have e2 := n_gSN (d := 7) (v := xs (i + 1)) (n := xs (i + 2)) hR.1 hR.2.1 hR.2.2.2.2 cv
      simp only [Nat.reduceAdd] at e1 e2
      simp only [sw_11, i_int, i_long, i_null, i_stat, i_iload, i_lload, i_aload, i_istore, i_astore, i_lstore, i_iinc, i_ii, i_idz, i_i, i_ll, i_lsh, i_i2l, i_l2i, i_lcmp, i_dup, i_pop, i_dup2, i_ifeq, i_ifne, i_iflt, i_ifge, i_ifgt, i_ifle, i_cmpeq, i_cmpne, i_cmplt, i_cmpge, i_cmpgt, i_cmple, i_ifnull, i_ifnonnull, i_getf, am_wr, i_putI, i_putZ, i_putR, i_iald, i_iast, i_aald, i_aast, i_alen, i_newi, i_newq, i_new, i_recv, i_iret, i_zret, i_lret, i_aret, i_vret, List.getElem?_cons_zero, List.getElem?_cons_succ, Option.bind_some, Option.toList_some, Option.toList_none, List.cons_append, List.nil_append, x_nI, am_put, am_put2, List.length_cons, List.length_nil, List.set_cons_zero, List.set_cons_succ, Nat.reduceAdd, Nat.reduceLT, Nat.reduceLeDiff, Nat.reduceEqDiff, Nat.add_left_cancel_iff, Nat.add_eq_left, Nat.left_eq_add, Nat.succ_ne_self, Nat.reduceSub, reduceIte, ite_self, eq_self, or_true, true_or, or_false, false_or, or_self, i10, not_true_eq_false, not_false_eq_true, x_call1, x_call2, x_call3, x_call4, x_call5, x_call6, x_sl0, x_sli, x_slr, x_sln, x_sll, am_ent, List.map_nil, List.map_cons, List.sum_nil, List.sum_cons, Value.category, and_true, true_and, and_self, Nat.zero_le, List.replicate_succ, List.replicate_zero, List.reduceReplicate, x_obj_set, x_row_set, x_len_set, x_obx, x_rox, x_rv, nI_1, ix_2, ix_3, ix_4, ix_5, ix_6, x_row h4, x_row h4B, x_ix (show i + 1 < L by omega) (show i + 1 < 2147483648 by omega), x_ix (show i + 2 < L by omega) (show i + 2 < 2147483648 by omega), x_ix (show i + 3 < L by omega) (show i + 3 < 2147483648 by omega), x_ix (show i + 4 < L by omega) (show i + 4 < 2147483648 by omega), x_ix (show i + 5 < L by omega) (show i + 5 < 2147483648 by omega), x_obj hC.2.1, e1, x_obj hR.1.1, e2, lcmp_self]
      exact hY
    | true =>
      obtain ⟨v, hv, ev⟩ := isVb_nI cv hs
      have e1 := c_getSlab (d := 5) (n := xs (i + 2)) hC hR.2.2.1.ok hv ht
      have e2 := n_getSlab (d := 4) (n := xs (i + 2)) hR.1 hR.2.1 hR.2.2.1 hR.2.2.2.2 hv ht
      simp only [Nat.reduceAdd] at e1 e2
      simp only [sw_11, i_int, i_long, i_null, i_stat, i_iload, i_lload, i_aload, i_istore, i_astore, i_lstore, i_iinc, i_ii, i_idz, i_i, i_ll, i_lsh, i_i2l, i_l2i, i_lcmp, i_dup, i_pop, i_dup2, i_ifeq, i_ifne, i_iflt, i_ifge, i_ifgt, i_ifle, i_cmpeq, i_cmpne, i_cmplt, i_cmpge, i_cmpgt, i_cmple, i_ifnull, i_ifnonnull, i_getf, am_wr, i_putI, i_putZ, i_putR, i_iald, i_iast, i_aald, i_aast, i_alen, i_newi, i_newq, i_new, i_recv, i_iret, i_zret, i_lret, i_aret, i_vret, List.getElem?_cons_zero, List.getElem?_cons_succ, Option.bind_some, Option.toList_some, Option.toList_none, List.cons_append, List.nil_append, x_nI, am_put, am_put2, List.length_cons, List.length_nil, List.set_cons_zero, List.set_cons_succ, Nat.reduceAdd, Nat.reduceLT, Nat.reduceLeDiff, Nat.reduceEqDiff, Nat.add_left_cancel_iff, Nat.add_eq_left, Nat.left_eq_add, Nat.succ_ne_self, Nat.reduceSub, reduceIte, ite_self, eq_self, or_true, true_or, or_false, false_or, or_self, i10, not_true_eq_false, not_false_eq_true, x_call1, x_call2, x_call3, x_call4, x_call5, x_call6, x_sl0, x_sli, x_slr, x_sln, x_sll, am_ent, List.map_nil, List.map_cons, List.sum_nil, List.sum_cons, Value.category, and_true, true_and, and_self, Nat.zero_le, List.replicate_succ, List.replicate_zero, List.reduceReplicate, x_obj_set, x_row_set, x_len_set, x_obx, x_rox, x_rv, nI_1, ix_2, ix_3, ix_4, ix_5, ix_6, x_row h4, x_row h4B, x_ix (show i + 1 < L by omega) (show i + 1 < 2147483648 by omega), x_ix (show i + 2 < L by omega) (show i + 2 < 2147483648 by omega), x_ix (show i + 3 < L by omega) (show i + 3 < 2147483648 by omega), x_ix (show i + 4 < L by omega) (show i + 4 < 2147483648 by omega), x_ix (show i + 5 < L by omega) (show i + 5 < 2147483648 by omega), x_obj hC.2.1, ev, e1, x_obj hR.1.1, e2, lcmp_self]
      exact hY
theorem lst_12 : LStep sw_12 := by
  intro L xs i A hL hi hI
  obtain ⟨h0, b, b', df, s, ρ, s', ρ', q, D, c, bs, c2, R, f, hC, hR, hG, hD⟩ := hI
  refine ⟨A, Inv.next h0 (am_fr.refl A) (am_fr.refl A) hC hR hG hD, fun Y hY => ?_⟩
  have e1 := c_records (d := 8) hC
  have e2 := n_records (d := 8) hR.1 hR.2.1
  simp only [sw_12, i_int, i_long, i_null, i_stat, i_iload, i_lload, i_aload, i_istore, i_astore, i_lstore, i_iinc, i_ii, i_idz, i_i, i_ll, i_lsh, i_i2l, i_l2i, i_lcmp, i_dup, i_pop, i_dup2, i_ifeq, i_ifne, i_iflt, i_ifge, i_ifgt, i_ifle, i_cmpeq, i_cmpne, i_cmplt, i_cmpge, i_cmpgt, i_cmple, i_ifnull, i_ifnonnull, i_getf, am_wr, i_putI, i_putZ, i_putR, i_iald, i_iast, i_aald, i_aast, i_alen, i_newi, i_newq, i_new, i_recv, i_iret, i_zret, i_lret, i_aret, i_vret, List.getElem?_cons_zero, List.getElem?_cons_succ, Option.bind_some, Option.toList_some, Option.toList_none, List.cons_append, List.nil_append, x_nI, am_put, am_put2, List.length_cons, List.length_nil, List.set_cons_zero, List.set_cons_succ, Nat.reduceAdd, Nat.reduceLT, Nat.reduceLeDiff, Nat.reduceEqDiff, Nat.add_left_cancel_iff, Nat.add_eq_left, Nat.left_eq_add, Nat.succ_ne_self, Nat.reduceSub, reduceIte, ite_self, eq_self, or_true, true_or, or_false, false_or, or_self, i10, not_true_eq_false, not_false_eq_true, x_call1, x_call2, x_call3, x_call4, x_call5, x_call6, x_sl0, x_sli, x_slr, x_sln, x_sll, am_ent, List.map_nil, List.map_cons, List.sum_nil, List.sum_cons, Value.category, and_true, true_and, and_self, Nat.zero_le, List.replicate_succ, List.replicate_zero, List.reduceReplicate, x_obj_set, x_row_set, x_len_set, x_obx, x_rox, x_rv, nI_1, ix_6, x_obj hC.2.1, e1, x_obj hR.1.1, e2]
  exact hY
theorem lst_13 : LStep sw_13 := by
  intro L xs i A hL hi hI
  obtain ⟨h0, b, b', df, s, ρ, s', ρ', q, D, c, bs, c2, R, f, hC, hR, hG, hD⟩ := hI
  refine ⟨A, Inv.next h0 (am_fr.refl A) (am_fr.refl A) hC hR hG hD, fun Y hY => ?_⟩
  have e1 := c_size (d := 3) hC
  have e2 := n_size (d := 3) hR.1 hR.2.1
  rw [hR.2.2.2.2] at e2
  simp only [Nat.reduceAdd] at e1 e2
  cases df with
  | true =>
    simp only [sw_13, i_int, i_long, i_null, i_stat, i_iload, i_lload, i_aload, i_istore, i_astore, i_lstore, i_iinc, i_ii, i_idz, i_i, i_ll, i_lsh, i_i2l, i_l2i, i_lcmp, i_dup, i_pop, i_dup2, i_ifeq, i_ifne, i_iflt, i_ifge, i_ifgt, i_ifle, i_cmpeq, i_cmpne, i_cmplt, i_cmpge, i_cmpgt, i_cmple, i_ifnull, i_ifnonnull, i_getf, am_wr, i_putI, i_putZ, i_putR, i_iald, i_iast, i_aald, i_aast, i_alen, i_newi, i_newq, i_new, i_recv, i_iret, i_zret, i_lret, i_aret, i_vret, List.getElem?_cons_zero, List.getElem?_cons_succ, Option.bind_some, Option.toList_some, Option.toList_none, List.cons_append, List.nil_append, x_nI, am_put, am_put2, List.length_cons, List.length_nil, List.set_cons_zero, List.set_cons_succ, Nat.reduceAdd, Nat.reduceLT, Nat.reduceLeDiff, Nat.reduceEqDiff, Nat.add_left_cancel_iff, Nat.add_eq_left, Nat.left_eq_add, Nat.succ_ne_self, Nat.reduceSub, reduceIte, ite_self, eq_self, or_true, true_or, or_false, false_or, or_self, i10, not_true_eq_false, not_false_eq_true, x_call1, x_call2, x_call3, x_call4, x_call5, x_call6, x_sl0, x_sli, x_slr, x_sln, x_sll, am_ent, List.map_nil, List.map_cons, List.sum_nil, List.sum_cons, Value.category, and_true, true_and, and_self, Nat.zero_le, List.replicate_succ, List.replicate_zero, List.reduceReplicate, x_obj_set, x_row_set, x_len_set, x_obx, x_rox, x_rv, nI_1, ix_6, x_obj hC.2.1, e1, x_obj hR.1.1, e2, Bool.not_true, Bool.false_eq_true]
    exact hY
  | false =>
    simp only [sw_13, i_int, i_long, i_null, i_stat, i_iload, i_lload, i_aload, i_istore, i_astore, i_lstore, i_iinc, i_ii, i_idz, i_i, i_ll, i_lsh, i_i2l, i_l2i, i_lcmp, i_dup, i_pop, i_dup2, i_ifeq, i_ifne, i_iflt, i_ifge, i_ifgt, i_ifle, i_cmpeq, i_cmpne, i_cmplt, i_cmpge, i_cmpgt, i_cmple, i_ifnull, i_ifnonnull, i_getf, am_wr, i_putI, i_putZ, i_putR, i_iald, i_iast, i_aald, i_aast, i_alen, i_newi, i_newq, i_new, i_recv, i_iret, i_zret, i_lret, i_aret, i_vret, List.getElem?_cons_zero, List.getElem?_cons_succ, Option.bind_some, Option.toList_some, Option.toList_none, List.cons_append, List.nil_append, x_nI, am_put, am_put2, List.length_cons, List.length_nil, List.set_cons_zero, List.set_cons_succ, Nat.reduceAdd, Nat.reduceLT, Nat.reduceLeDiff, Nat.reduceEqDiff, Nat.add_left_cancel_iff, Nat.add_eq_left, Nat.left_eq_add, Nat.succ_ne_self, Nat.reduceSub, reduceIte, ite_self, eq_self, or_true, true_or, or_false, false_or, or_self, i10, not_true_eq_false, not_false_eq_true, x_call1, x_call2, x_call3, x_call4, x_call5, x_call6, x_sl0, x_sli, x_slr, x_sln, x_sll, am_ent, List.map_nil, List.map_cons, List.sum_nil, List.sum_cons, Value.category, and_true, true_and, and_self, Nat.zero_le, List.replicate_succ, List.replicate_zero, List.reduceReplicate, x_obj_set, x_row_set, x_len_set, x_obx, x_rox, x_rv, nI_1, ix_6, x_obj hC.2.1, e1, x_obj hR.1.1, e2, Bool.not_false, Bool.false_eq_true]
    exact hY
theorem lst_14 : LStep sw_14 := by
  intro L xs i A hL hi hI
  obtain ⟨h0, b, b', df, s, ρ, s', ρ', q, D, c, bs, c2, R, f, hC, hR, hG, hD⟩ := hI
  have h4 := h0.1
  have h4B := h4
  refine ⟨A, Inv.next h0 (am_fr.refl A) (am_fr.refl A) hC hR hG hD, fun Y hY => ?_⟩
  have e1 := c_begin (d := 3) hC (xs (i + 1))
  have e2 := n_begin (d := 4) hR.1 hR.2.1 (xs (i + 1))
  rw [hR.2.2.2.2] at e2
  simp only [Nat.reduceAdd] at e1 e2
  cases df with
  | true =>
    simp only [sw_14, i_int, i_long, i_null, i_stat, i_iload, i_lload, i_aload, i_istore, i_astore, i_lstore, i_iinc, i_ii, i_idz, i_i, i_ll, i_lsh, i_i2l, i_l2i, i_lcmp, i_dup, i_pop, i_dup2, i_ifeq, i_ifne, i_iflt, i_ifge, i_ifgt, i_ifle, i_cmpeq, i_cmpne, i_cmplt, i_cmpge, i_cmpgt, i_cmple, i_ifnull, i_ifnonnull, i_getf, am_wr, i_putI, i_putZ, i_putR, i_iald, i_iast, i_aald, i_aast, i_alen, i_newi, i_newq, i_new, i_recv, i_iret, i_zret, i_lret, i_aret, i_vret, List.getElem?_cons_zero, List.getElem?_cons_succ, Option.bind_some, Option.toList_some, Option.toList_none, List.cons_append, List.nil_append, x_nI, am_put, am_put2, List.length_cons, List.length_nil, List.set_cons_zero, List.set_cons_succ, Nat.reduceAdd, Nat.reduceLT, Nat.reduceLeDiff, Nat.reduceEqDiff, Nat.add_left_cancel_iff, Nat.add_eq_left, Nat.left_eq_add, Nat.succ_ne_self, Nat.reduceSub, reduceIte, ite_self, eq_self, or_true, true_or, or_false, false_or, or_self, i10, not_true_eq_false, not_false_eq_true, x_call1, x_call2, x_call3, x_call4, x_call5, x_call6, x_sl0, x_sli, x_slr, x_sln, x_sll, am_ent, List.map_nil, List.map_cons, List.sum_nil, List.sum_cons, Value.category, and_true, true_and, and_self, Nat.zero_le, List.replicate_succ, List.replicate_zero, List.reduceReplicate, x_obj_set, x_row_set, x_len_set, x_obx, x_rox, x_rv, nI_1, ix_2, ix_3, ix_4, ix_5, ix_6, x_row h4, x_row h4B, x_ix (show i + 1 < L by omega) (show i + 1 < 2147483648 by omega), x_ix (show i + 2 < L by omega) (show i + 2 < 2147483648 by omega), x_ix (show i + 3 < L by omega) (show i + 3 < 2147483648 by omega), x_ix (show i + 4 < L by omega) (show i + 4 < 2147483648 by omega), x_ix (show i + 5 < L by omega) (show i + 5 < 2147483648 by omega), x_obj hC.2.1, e1, x_obj hR.1.1, e2, Bool.not_true, Bool.false_eq_true]
    exact hY
  | false =>
    simp only [sw_14, i_int, i_long, i_null, i_stat, i_iload, i_lload, i_aload, i_istore, i_astore, i_lstore, i_iinc, i_ii, i_idz, i_i, i_ll, i_lsh, i_i2l, i_l2i, i_lcmp, i_dup, i_pop, i_dup2, i_ifeq, i_ifne, i_iflt, i_ifge, i_ifgt, i_ifle, i_cmpeq, i_cmpne, i_cmplt, i_cmpge, i_cmpgt, i_cmple, i_ifnull, i_ifnonnull, i_getf, am_wr, i_putI, i_putZ, i_putR, i_iald, i_iast, i_aald, i_aast, i_alen, i_newi, i_newq, i_new, i_recv, i_iret, i_zret, i_lret, i_aret, i_vret, List.getElem?_cons_zero, List.getElem?_cons_succ, Option.bind_some, Option.toList_some, Option.toList_none, List.cons_append, List.nil_append, x_nI, am_put, am_put2, List.length_cons, List.length_nil, List.set_cons_zero, List.set_cons_succ, Nat.reduceAdd, Nat.reduceLT, Nat.reduceLeDiff, Nat.reduceEqDiff, Nat.add_left_cancel_iff, Nat.add_eq_left, Nat.left_eq_add, Nat.succ_ne_self, Nat.reduceSub, reduceIte, ite_self, eq_self, or_true, true_or, or_false, false_or, or_self, i10, not_true_eq_false, not_false_eq_true, x_call1, x_call2, x_call3, x_call4, x_call5, x_call6, x_sl0, x_sli, x_slr, x_sln, x_sll, am_ent, List.map_nil, List.map_cons, List.sum_nil, List.sum_cons, Value.category, and_true, true_and, and_self, Nat.zero_le, List.replicate_succ, List.replicate_zero, List.reduceReplicate, x_obj_set, x_row_set, x_len_set, x_obx, x_rox, x_rv, nI_1, ix_2, ix_3, ix_4, ix_5, ix_6, x_row h4, x_row h4B, x_ix (show i + 1 < L by omega) (show i + 1 < 2147483648 by omega), x_ix (show i + 2 < L by omega) (show i + 2 < 2147483648 by omega), x_ix (show i + 3 < L by omega) (show i + 3 < 2147483648 by omega), x_ix (show i + 4 < L by omega) (show i + 4 < 2147483648 by omega), x_ix (show i + 5 < L by omega) (show i + 5 < 2147483648 by omega), x_obj hC.2.1, e1, x_obj hR.1.1, e2, Bool.not_false, Bool.false_eq_true]
    exact hY
theorem lst_15 : LStep sw_15 := by
  intro L xs i A hL hi hI
  obtain ⟨h0, b, b', df, s, ρ, s', ρ', q, D, c, bs, c2, R, f, hC, hR, hG, hD⟩ := hI
  have h4 := h0.1
  have I0 : Inv L xs A := Inv.next h0 (am_fr.refl A) (am_fr.refl A) hC hR hG hD
  by_cases c0 : df = true ∨ xs (i + 1) < 0
  · have e1 := c_eightM (d := 8) (k := xs (i + 1)) hC (c0.elim Or.inl (fun h => Or.inr (Or.inl h)))
    have e2 := n_eightM (d := 8) (k := xs (i + 1)) hR.1 (c0.elim (fun h => Or.inl (by rw [hR.2.2.2.2, h]; rfl)) Or.inr)
    refine ⟨A, I0, fun Y hY => ?_⟩
    have h4B := h4
    simp only [sw_15, i_int, i_long, i_null, i_stat, i_iload, i_lload, i_aload, i_istore, i_astore, i_lstore, i_iinc, i_ii, i_idz, i_i, i_ll, i_lsh, i_i2l, i_l2i, i_lcmp, i_dup, i_pop, i_dup2, i_ifeq, i_ifne, i_iflt, i_ifge, i_ifgt, i_ifle, i_cmpeq, i_cmpne, i_cmplt, i_cmpge, i_cmpgt, i_cmple, i_ifnull, i_ifnonnull, i_getf, am_wr, i_putI, i_putZ, i_putR, i_iald, i_iast, i_aald, i_aast, i_alen, i_newi, i_newq, i_new, i_recv, i_iret, i_zret, i_lret, i_aret, i_vret, List.getElem?_cons_zero, List.getElem?_cons_succ, Option.bind_some, Option.toList_some, Option.toList_none, List.cons_append, List.nil_append, x_nI, am_put, am_put2, List.length_cons, List.length_nil, List.set_cons_zero, List.set_cons_succ, Nat.reduceAdd, Nat.reduceLT, Nat.reduceLeDiff, Nat.reduceEqDiff, Nat.add_left_cancel_iff, Nat.add_eq_left, Nat.left_eq_add, Nat.succ_ne_self, Nat.reduceSub, reduceIte, ite_self, eq_self, or_true, true_or, or_false, false_or, or_self, i10, not_true_eq_false, not_false_eq_true, x_call1, x_call2, x_call3, x_call4, x_call5, x_call6, x_sl0, x_sli, x_slr, x_sln, x_sll, am_ent, List.map_nil, List.map_cons, List.sum_nil, List.sum_cons, Value.category, and_true, true_and, and_self, Nat.zero_le, List.replicate_succ, List.replicate_zero, List.reduceReplicate, x_obj_set, x_row_set, x_len_set, x_obx, x_rox, x_rv, nI_1, ix_2, ix_3, ix_4, ix_5, ix_6, x_row h4, x_row h4B, x_ix (show i + 1 < L by omega) (show i + 1 < 2147483648 by omega), x_ix (show i + 2 < L by omega) (show i + 2 < 2147483648 by omega), x_ix (show i + 3 < L by omega) (show i + 3 < 2147483648 by omega), x_ix (show i + 4 < L by omega) (show i + 4 < 2147483648 by omega), x_ix (show i + 5 < L by omega) (show i + 5 < 2147483648 by omega), x_obj hC.2.1, e1, x_obj hR.1.1, e2, lcmp_self]
    exact hY
  · have cd : df = false := by
      cases df with
      | true => exact absurd (Or.inl rfl) c0
      | false => rfl
    subst cd
    have ht := hG.2.2.2 rfl
    obtain ⟨k, hk, ek⟩ := nI_of (fun h => c0 (Or.inr h))
    by_cases ck : k < 100
    · obtain ⟨B, e1, cB, fB⟩ := c_eight (d := 2) hC ht ck
      have hRB := hR.kept fB
      obtain ⟨C, S, e2, mC, tC⟩ := n_eight (d := 2) hRB.1 hRB.2.1 hG.1 ht hRB.2.2.2.2 (show k < 2147483648 by omega)
      refine ⟨C, Inv.next h0 fB tC.2 cB (show RX C S (sl f (img s).length) false s q D from ⟨mC, hR.2.1.to tC, hR.2.2.1.same (fun i _ _ => tC.1 i (by omega)), hR.2.2.2.1.same (tC.1 20 (by omega)) rfl, hR.2.2.2.2⟩) hG hD, fun Y hY => ?_⟩
      have h4B := fr_4 h4 fB
      simp only [Nat.reduceAdd] at e1 e2
      simp only [sw_15, i_int, i_long, i_null, i_stat, i_iload, i_lload, i_aload, i_istore, i_astore, i_lstore, i_iinc, i_ii, i_idz, i_i, i_ll, i_lsh, i_i2l, i_l2i, i_lcmp, i_dup, i_pop, i_dup2, i_ifeq, i_ifne, i_iflt, i_ifge, i_ifgt, i_ifle, i_cmpeq, i_cmpne, i_cmplt, i_cmpge, i_cmpgt, i_cmple, i_ifnull, i_ifnonnull, i_getf, am_wr, i_putI, i_putZ, i_putR, i_iald, i_iast, i_aald, i_aast, i_alen, i_newi, i_newq, i_new, i_recv, i_iret, i_zret, i_lret, i_aret, i_vret, List.getElem?_cons_zero, List.getElem?_cons_succ, Option.bind_some, Option.toList_some, Option.toList_none, List.cons_append, List.nil_append, x_nI, am_put, am_put2, List.length_cons, List.length_nil, List.set_cons_zero, List.set_cons_succ, Nat.reduceAdd, Nat.reduceLT, Nat.reduceLeDiff, Nat.reduceEqDiff, Nat.add_left_cancel_iff, Nat.add_eq_left, Nat.left_eq_add, Nat.succ_ne_self, Nat.reduceSub, reduceIte, ite_self, eq_self, or_true, true_or, or_false, false_or, or_self, i10, not_true_eq_false, not_false_eq_true, x_call1, x_call2, x_call3, x_call4, x_call5, x_call6, x_sl0, x_sli, x_slr, x_sln, x_sll, am_ent, List.map_nil, List.map_cons, List.sum_nil, List.sum_cons, Value.category, and_true, true_and, and_self, Nat.zero_le, List.replicate_succ, List.replicate_zero, List.reduceReplicate, x_obj_set, x_row_set, x_len_set, x_obx, x_rox, x_rv, nI_1, ix_2, ix_3, ix_4, ix_5, ix_6, x_row h4, x_row h4B, x_ix (show i + 1 < L by omega) (show i + 1 < 2147483648 by omega), x_ix (show i + 2 < L by omega) (show i + 2 < 2147483648 by omega), x_ix (show i + 3 < L by omega) (show i + 3 < 2147483648 by omega), x_ix (show i + 4 < L by omega) (show i + 4 < 2147483648 by omega), x_ix (show i + 5 < L by omega) (show i + 5 < 2147483648 by omega), x_obj hC.2.1, ek, e1, x_obj hRB.1.1, e2, lcmp_self]
      exact hY
    · have e1 := c_eightM (d := 8) (k := nI k) hC (Or.inr (Or.inr (nI_le (a := 100) (by omega) hk)))
      obtain ⟨C, S, e2, mC, tC⟩ := n_eight (d := 2) hR.1 hR.2.1 hG.1 ht hR.2.2.2.2 (show k < 2147483648 by omega)
      rw [v8_far (by rw [img_len]; omega) 8, show lN 0 = 0 from rfl] at e2
      refine ⟨C, Inv.next h0 (am_fr.refl A) tC.2 hC (show RX C S (sl f (img s).length) false s q D from ⟨mC, hR.2.1.to tC, hR.2.2.1.same (fun i _ _ => tC.1 i (by omega)), hR.2.2.2.1.same (tC.1 20 (by omega)) rfl, hR.2.2.2.2⟩) hG hD, fun Y hY => ?_⟩
      have h4B := h4
      simp only [Nat.reduceAdd] at e2
      simp only [sw_15, i_int, i_long, i_null, i_stat, i_iload, i_lload, i_aload, i_istore, i_astore, i_lstore, i_iinc, i_ii, i_idz, i_i, i_ll, i_lsh, i_i2l, i_l2i, i_lcmp, i_dup, i_pop, i_dup2, i_ifeq, i_ifne, i_iflt, i_ifge, i_ifgt, i_ifle, i_cmpeq, i_cmpne, i_cmplt, i_cmpge, i_cmpgt, i_cmple, i_ifnull, i_ifnonnull, i_getf, am_wr, i_putI, i_putZ, i_putR, i_iald, i_iast, i_aald, i_aast, i_alen, i_newi, i_newq, i_new, i_recv, i_iret, i_zret, i_lret, i_aret, i_vret, List.getElem?_cons_zero, List.getElem?_cons_succ, Option.bind_some, Option.toList_some, Option.toList_none, List.cons_append, List.nil_append, x_nI, am_put, am_put2, List.length_cons, List.length_nil, List.set_cons_zero, List.set_cons_succ, Nat.reduceAdd, Nat.reduceLT, Nat.reduceLeDiff, Nat.reduceEqDiff, Nat.add_left_cancel_iff, Nat.add_eq_left, Nat.left_eq_add, Nat.succ_ne_self, Nat.reduceSub, reduceIte, ite_self, eq_self, or_true, true_or, or_false, false_or, or_self, i10, not_true_eq_false, not_false_eq_true, x_call1, x_call2, x_call3, x_call4, x_call5, x_call6, x_sl0, x_sli, x_slr, x_sln, x_sll, am_ent, List.map_nil, List.map_cons, List.sum_nil, List.sum_cons, Value.category, and_true, true_and, and_self, Nat.zero_le, List.replicate_succ, List.replicate_zero, List.reduceReplicate, x_obj_set, x_row_set, x_len_set, x_obx, x_rox, x_rv, nI_1, ix_2, ix_3, ix_4, ix_5, ix_6, x_row h4, x_row h4B, x_ix (show i + 1 < L by omega) (show i + 1 < 2147483648 by omega), x_ix (show i + 2 < L by omega) (show i + 2 < 2147483648 by omega), x_ix (show i + 3 < L by omega) (show i + 3 < 2147483648 by omega), x_ix (show i + 4 < L by omega) (show i + 4 < 2147483648 by omega), x_ix (show i + 5 < L by omega) (show i + 5 < 2147483648 by omega), x_obj hC.2.1, ek, e1, x_obj hR.1.1, e2, lcmp_self]
      exact hY
theorem lst_16 : LStep sw_16 := by
  intro L xs i A hL hi hI
  obtain ⟨h0, b, b', df, s, ρ, s', ρ', q, D, c, bs, c2, R, f, hC, hR, hG, hD⟩ := hI
  have h4 := h0.1
  obtain ⟨B, e1, cB, fB⟩ := c_add (d := 7) (x := ((xs (i + 1)).toInt64 <<< ((32 : Int32).toInt64 &&& 63)) ||| ((xs (i + 2)).toInt64 &&& 4294967295)) (n := xs (i + 3)) hC
  have hRB := hR.kept fB
  obtain ⟨C, S, e2, mC, dC, kC, fC⟩ := n_add (d := 8) (x := ((xs (i + 1)).toInt64 <<< ((32 : Int32).toInt64 &&& 63)) ||| ((xs (i + 2)).toInt64 &&& 4294967295)) (n := xs (i + 3)) hRB.1 hRB.2.2.2.1
  simp only [Nat.reduceAdd] at e1
  refine ⟨C, ?_, fun Y hY => ?_⟩
  · cases ho : okA D.length (xs (i + 3)) with
    | true =>
      rw [ho] at mC dC cB
      exact Inv.next h0 fB fC cB (show RX C S (sdr f (D.length + (xs (i + 3)).toNatClampNeg)) df s q _ from ⟨mC, hR.2.1.same (fun i _ i2 => kC i (by omega)), hR.2.2.1.same (fun i _ i2 => kC i (by omega)), dC, hR.2.2.2.2⟩) hG (app_by hD (adl_lt _ _))
    | false =>
      rw [ho] at mC dC cB
      exact Inv.next h0 fB fC cB (show RX C S f df s q D from ⟨mC, hR.2.1.same (fun i _ i2 => kC i (by omega)), hR.2.2.1.same (fun i _ i2 => kC i (by omega)), dC, hR.2.2.2.2⟩) hG hD
  · have h4B := fr_4 h4 fB
    simp only [sw_16, i_int, i_long, i_null, i_stat, i_iload, i_lload, i_aload, i_istore, i_astore, i_lstore, i_iinc, i_ii, i_idz, i_i, i_ll, i_lsh, i_i2l, i_l2i, i_lcmp, i_dup, i_pop, i_dup2, i_ifeq, i_ifne, i_iflt, i_ifge, i_ifgt, i_ifle, i_cmpeq, i_cmpne, i_cmplt, i_cmpge, i_cmpgt, i_cmple, i_ifnull, i_ifnonnull, i_getf, am_wr, i_putI, i_putZ, i_putR, i_iald, i_iast, i_aald, i_aast, i_alen, i_newi, i_newq, i_new, i_recv, i_iret, i_zret, i_lret, i_aret, i_vret, List.getElem?_cons_zero, List.getElem?_cons_succ, Option.bind_some, Option.toList_some, Option.toList_none, List.cons_append, List.nil_append, x_nI, am_put, am_put2, List.length_cons, List.length_nil, List.set_cons_zero, List.set_cons_succ, Nat.reduceAdd, Nat.reduceLT, Nat.reduceLeDiff, Nat.reduceEqDiff, Nat.add_left_cancel_iff, Nat.add_eq_left, Nat.left_eq_add, Nat.succ_ne_self, Nat.reduceSub, reduceIte, ite_self, eq_self, or_true, true_or, or_false, false_or, or_self, i10, not_true_eq_false, not_false_eq_true, x_call1, x_call2, x_call3, x_call4, x_call5, x_call6, x_sl0, x_sli, x_slr, x_sln, x_sll, am_ent, List.map_nil, List.map_cons, List.sum_nil, List.sum_cons, Value.category, and_true, true_and, and_self, Nat.zero_le, List.replicate_succ, List.replicate_zero, List.reduceReplicate, x_obj_set, x_row_set, x_len_set, x_obx, x_rox, x_rv, nI_1, ix_2, ix_3, ix_4, ix_5, ix_6, x_row h4, x_row h4B, x_ix (show i + 1 < L by omega) (show i + 1 < 2147483648 by omega), x_ix (show i + 2 < L by omega) (show i + 2 < 2147483648 by omega), x_ix (show i + 3 < L by omega) (show i + 3 < 2147483648 by omega), x_ix (show i + 4 < L by omega) (show i + 4 < 2147483648 by omega), x_ix (show i + 5 < L by omega) (show i + 5 < 2147483648 by omega), x_obj hC.2.1, e1, x_obj hRB.1.1, e2]
    exact hY
theorem lst_17 : LStep sw_17 := by
  intro L xs i A hL hi hI
  obtain ⟨h0, b, b', df, s, ρ, s', ρ', q, D, c, bs, c2, R, f, hC, hR, hG, hD⟩ := hI
  have h4 := h0.1
  obtain ⟨B, e1, cB, fB⟩ := c_erase (d := 7) hC
  have hRB := hR.kept fB
  obtain ⟨C, e2, mC, fC⟩ := n_erase (d := 8) hRB.1
  simp only [Nat.reduceAdd] at e1
  refine ⟨C, Inv.next h0 fB fC cB (show RX C R (f.1, f.2.1, f.2.2.1, 0, f.2.2.2.2) df s q [] from ⟨mC, hR.2.1, hR.2.2.1, ⟨rfl, by decide, fun i hi => by simp at hi⟩, hR.2.2.2.2⟩) hG (fun y hy => (by cases hy)), fun Y hY => ?_⟩
  simp only [sw_17, i_int, i_long, i_null, i_stat, i_iload, i_lload, i_aload, i_istore, i_astore, i_lstore, i_iinc, i_ii, i_idz, i_i, i_ll, i_lsh, i_i2l, i_l2i, i_lcmp, i_dup, i_pop, i_dup2, i_ifeq, i_ifne, i_iflt, i_ifge, i_ifgt, i_ifle, i_cmpeq, i_cmpne, i_cmplt, i_cmpge, i_cmpgt, i_cmple, i_ifnull, i_ifnonnull, i_getf, am_wr, i_putI, i_putZ, i_putR, i_iald, i_iast, i_aald, i_aast, i_alen, i_newi, i_newq, i_new, i_recv, i_iret, i_zret, i_lret, i_aret, i_vret, List.getElem?_cons_zero, List.getElem?_cons_succ, Option.bind_some, Option.toList_some, Option.toList_none, List.cons_append, List.nil_append, x_nI, am_put, am_put2, List.length_cons, List.length_nil, List.set_cons_zero, List.set_cons_succ, Nat.reduceAdd, Nat.reduceLT, Nat.reduceLeDiff, Nat.reduceEqDiff, Nat.add_left_cancel_iff, Nat.add_eq_left, Nat.left_eq_add, Nat.succ_ne_self, Nat.reduceSub, reduceIte, ite_self, eq_self, or_true, true_or, or_false, false_or, or_self, i10, not_true_eq_false, not_false_eq_true, x_call1, x_call2, x_call3, x_call4, x_call5, x_call6, x_sl0, x_sli, x_slr, x_sln, x_sll, am_ent, List.map_nil, List.map_cons, List.sum_nil, List.sum_cons, Value.category, and_true, true_and, and_self, Nat.zero_le, List.replicate_succ, List.replicate_zero, List.reduceReplicate, x_obj_set, x_row_set, x_len_set, x_obx, x_rox, x_rv, nI_1, ix_6, x_obj hC.2.1, e1, x_obj hRB.1.1, e2]
  exact hY
/-- taking a draft over: both sides alike -/
def OpenOK : Prop := ∀ (A : am_H) (b b' : Nat) (df : Bool) (s : sg_S) (ρ : Nat → sg_R) (s' : sg_S) (ρ' : Nat → sg_R) (q : Nat → Nat × Nat × Nat) (D : List Nat) (c : Nat) (bs : List Nat) (c2 : Nat) (R : Nat → Nat → Int32) (f : mo_F), CX A b b' df s ρ s' ρ' q D c bs c2 → RX A R f df s q D → Gd s df → (∀ y ∈ D, y < 256) → ∃ (B C : am_H) (r : Int32) (b2 b2' : Nat) (df2 : Bool) (s2 : sg_S) (ρ2 : Nat → sg_R) (s2' : sg_S) (ρ2' : Nat → sg_R) (c3 : Nat) (bs2 : List Nat) (c4 : Nat) (S : Nat → Nat → Int32) (g : mo_F), pev 8 113 [some (.ref 5), none] [] A = some (some (.int r), B) ∧ am_fr atC A B ∧ pev 8 240 [some (.ref 103), none, none] [] B = some (some (.int r), C) ∧ am_fr (at21 103) B C ∧ CX B b2 b2' df2 s2 ρ2 s2' ρ2' q D c3 bs2 c4 ∧ RX C S g df2 s2 q D ∧ Gd s2 df2
theorem lst_18 (ho : OpenOK) : LStep sw_18 := by
  intro L xs i A hL hi hI
  obtain ⟨h0, b, b', df, s, ρ, s', ρ', q, D, c, bs, c2, R, f, hC, hR, hG, hD⟩ := hI
  obtain ⟨B, C, r, b2, b2', df2, s2, ρ2, s2', ρ2', c3, bs2, c4, S, g, e1, fB, e2, fC, cB, rC, gC⟩ := ho A b b' df s ρ s' ρ' q D c bs c2 R f hC hR hG hD
  have hRB := hR.kept fB
  refine ⟨C, Inv.next h0 fB fC cB rC gC hD, fun Y hY => ?_⟩
  simp only [sw_18, i_int, i_long, i_null, i_stat, i_iload, i_lload, i_aload, i_istore, i_astore, i_lstore, i_iinc, i_ii, i_idz, i_i, i_ll, i_lsh, i_i2l, i_l2i, i_lcmp, i_dup, i_pop, i_dup2, i_ifeq, i_ifne, i_iflt, i_ifge, i_ifgt, i_ifle, i_cmpeq, i_cmpne, i_cmplt, i_cmpge, i_cmpgt, i_cmple, i_ifnull, i_ifnonnull, i_getf, am_wr, i_putI, i_putZ, i_putR, i_iald, i_iast, i_aald, i_aast, i_alen, i_newi, i_newq, i_new, i_recv, i_iret, i_zret, i_lret, i_aret, i_vret, List.getElem?_cons_zero, List.getElem?_cons_succ, Option.bind_some, Option.toList_some, Option.toList_none, List.cons_append, List.nil_append, x_nI, am_put, am_put2, List.length_cons, List.length_nil, List.set_cons_zero, List.set_cons_succ, Nat.reduceAdd, Nat.reduceLT, Nat.reduceLeDiff, Nat.reduceEqDiff, Nat.add_left_cancel_iff, Nat.add_eq_left, Nat.left_eq_add, Nat.succ_ne_self, Nat.reduceSub, reduceIte, ite_self, eq_self, or_true, true_or, or_false, false_or, or_self, i10, not_true_eq_false, not_false_eq_true, x_call1, x_call2, x_call3, x_call4, x_call5, x_call6, x_sl0, x_sli, x_slr, x_sln, x_sll, am_ent, List.map_nil, List.map_cons, List.sum_nil, List.sum_cons, Value.category, and_true, true_and, and_self, Nat.zero_le, List.replicate_succ, List.replicate_zero, List.reduceReplicate, x_obj_set, x_row_set, x_len_set, x_obx, x_rox, x_rv, nI_1, ix_6, x_obj hC.2.1, e1, x_obj hRB.1.1, e2]
  exact hY
theorem law_loop (ho : OpenOK) {L : Nat} {xs : Nat → Int32} (hL : L ≤ 3072) : ∀ (m i : Nat), L + 6 < i + m → i ≤ L + 6 → ∀ A, Inv L xs A → ∃ A1, pev 9 263 [some (.ref 4), some (.ref 5), some (.ref 103), some (.int (nI i))] [] A = some (some (.int 1), A1) ∧ A1.1 ≤ 600005 ∧ A1.2.1 ≤ 7302250 := by
  intro m
  induction m with
  | zero => intro i h1 h2; omega
  | succ m ih =>
    intro i h1 h2 A hI
    have h4 := hI.1.1
    have e6 : (6 : Int32) = nI 6 := rfl
    by_cases c : i + 6 ≤ L
    · have cc : ¬ nI L - 6 < nI i := by
        rw [e6, pk_sub (by omega), o_lt (by omega) (by omega)]
        omega
      obtain ⟨j, hj, ej⟩ := pk_andE (xs i) (m := 31) 5 (by decide)
      have hn : ¬ nI j < 0 := nI_pos (by omega)
      by_cases cj : j < 19
      · have hg : ∃ g : am_B, [sw_0 pev 9, sw_1 pev 9, sw_2 pev 9, sw_3 pev 9, sw_4 pev 9, sw_5 pev 9, sw_6 pev 9, sw_7 pev 9, sw_8 pev 9, sw_9 pev 9, sw_10 pev 9, sw_11 pev 9, sw_12 pev 9, sw_13 pev 9, sw_14 pev 9, sw_15 pev 9, sw_16 pev 9, sw_17 pev 9, sw_18 pev 9][j]? = some (g pev 9) ∧ LStep g := by
          rcases (show j = 0 ∨ j = 1 ∨ j = 2 ∨ j = 3 ∨ j = 4 ∨ j = 5 ∨ j = 6 ∨ j = 7 ∨ j = 8 ∨ j = 9 ∨ j = 10 ∨ j = 11 ∨ j = 12 ∨ j = 13 ∨ j = 14 ∨ j = 15 ∨ j = 16 ∨ j = 17 ∨ j = 18 by omega) with rfl | rfl | rfl | rfl | rfl | rfl | rfl | rfl | rfl | rfl | rfl | rfl | rfl | rfl | rfl | rfl | rfl | rfl | rfl
          · exact ⟨sw_0, rfl, lst_0⟩
          · exact ⟨sw_1, rfl, lst_1⟩
          · exact ⟨sw_2, rfl, lst_2⟩
          · exact ⟨sw_3, rfl, lst_3⟩
          · exact ⟨sw_4, rfl, lst_4⟩
          · exact ⟨sw_5, rfl, lst_5⟩
          · exact ⟨sw_6, rfl, lst_6⟩
          · exact ⟨sw_7, rfl, lst_7⟩
          · exact ⟨sw_8, rfl, lst_8⟩
          · exact ⟨sw_9, rfl, lst_9⟩
          · exact ⟨sw_10, rfl, lst_10⟩
          · exact ⟨sw_11, rfl, lst_11⟩
          · exact ⟨sw_12, rfl, lst_12⟩
          · exact ⟨sw_13, rfl, lst_13⟩
          · exact ⟨sw_14, rfl, lst_14⟩
          · exact ⟨sw_15, rfl, lst_15⟩
          · exact ⟨sw_16, rfl, lst_16⟩
          · exact ⟨sw_17, rfl, lst_17⟩
          · exact ⟨sw_18, rfl, lst_18 ho⟩
        obtain ⟨g, eg, hg⟩ := hg
        obtain ⟨C, iC, kC⟩ := hg L xs i A hL c hI
        obtain ⟨A1, e1, r⟩ := ih (i + 6) (by omega) (by omega) C iC
        refine ⟨A1, ?_, r⟩
        refine e_263 ?_
        rw [law_sw]
        simp only [i_int, i_long, i_null, i_stat, i_iload, i_lload, i_aload, i_istore, i_astore, i_lstore, i_iinc, i_ii, i_idz, i_i, i_ll, i_lsh, i_i2l, i_l2i, i_lcmp, i_dup, i_pop, i_dup2, i_ifeq, i_ifne, i_iflt, i_ifge, i_ifgt, i_ifle, i_cmpeq, i_cmpne, i_cmplt, i_cmpge, i_cmpgt, i_cmple, i_ifnull, i_ifnonnull, i_getf, am_wr, i_putI, i_putZ, i_putR, i_iald, i_iast, i_aald, i_aast, i_alen, i_newi, i_newq, i_new, i_recv, i_iret, i_zret, i_lret, i_aret, i_vret, List.getElem?_cons_zero, List.getElem?_cons_succ, Option.bind_some, Option.toList_some, Option.toList_none, List.cons_append, List.nil_append, x_nI, am_put, am_put2, List.length_cons, List.length_nil, List.set_cons_zero, List.set_cons_succ, Nat.reduceAdd, Nat.reduceLT, Nat.reduceLeDiff, Nat.reduceEqDiff, Nat.add_left_cancel_iff, Nat.add_eq_left, Nat.left_eq_add, Nat.succ_ne_self, Nat.reduceSub, reduceIte, ite_self, eq_self, or_true, true_or, or_false, false_or, or_self, i10, not_true_eq_false, not_false_eq_true, x_call1, x_call2, x_call3, x_call4, x_call5, x_call6, x_sl0, x_sli, x_slr, x_sln, x_sll, am_ent, List.map_nil, List.map_cons, List.sum_nil, List.sum_cons, Value.category, and_true, true_and, and_self, Nat.zero_le, List.replicate_succ, List.replicate_zero, List.reduceReplicate, x_obj_set, x_row_set, x_len_set, x_obx, x_rox, x_rv, i_switch, x_len h4, cc, x_row h4, x_ix (show i < L by omega) (show i < 2147483648 by omega), ej, hn, nI_clamp (show j < 2 ^ 31 by omega), eg]
        exact kC _ e1
      · obtain ⟨A1, e1, r⟩ := ih (i + 6) (by omega) (by omega) A hI
        refine ⟨A1, ?_, r⟩
        have eg : [sw_0 pev 9, sw_1 pev 9, sw_2 pev 9, sw_3 pev 9, sw_4 pev 9, sw_5 pev 9, sw_6 pev 9, sw_7 pev 9, sw_8 pev 9, sw_9 pev 9, sw_10 pev 9, sw_11 pev 9, sw_12 pev 9, sw_13 pev 9, sw_14 pev 9, sw_15 pev 9, sw_16 pev 9, sw_17 pev 9, sw_18 pev 9][j]? = none := List.getElem?_eq_none (by simp; omega)
        refine e_263 ?_
        rw [law_sw]
        simp only [i_int, i_long, i_null, i_stat, i_iload, i_lload, i_aload, i_istore, i_astore, i_lstore, i_iinc, i_ii, i_idz, i_i, i_ll, i_lsh, i_i2l, i_l2i, i_lcmp, i_dup, i_pop, i_dup2, i_ifeq, i_ifne, i_iflt, i_ifge, i_ifgt, i_ifle, i_cmpeq, i_cmpne, i_cmplt, i_cmpge, i_cmpgt, i_cmple, i_ifnull, i_ifnonnull, i_getf, am_wr, i_putI, i_putZ, i_putR, i_iald, i_iast, i_aald, i_aast, i_alen, i_newi, i_newq, i_new, i_recv, i_iret, i_zret, i_lret, i_aret, i_vret, List.getElem?_cons_zero, List.getElem?_cons_succ, Option.bind_some, Option.toList_some, Option.toList_none, List.cons_append, List.nil_append, x_nI, am_put, am_put2, List.length_cons, List.length_nil, List.set_cons_zero, List.set_cons_succ, Nat.reduceAdd, Nat.reduceLT, Nat.reduceLeDiff, Nat.reduceEqDiff, Nat.add_left_cancel_iff, Nat.add_eq_left, Nat.left_eq_add, Nat.succ_ne_self, Nat.reduceSub, reduceIte, ite_self, eq_self, or_true, true_or, or_false, false_or, or_self, i10, not_true_eq_false, not_false_eq_true, x_call1, x_call2, x_call3, x_call4, x_call5, x_call6, x_sl0, x_sli, x_slr, x_sln, x_sll, am_ent, List.map_nil, List.map_cons, List.sum_nil, List.sum_cons, Value.category, and_true, true_and, and_self, Nat.zero_le, List.replicate_succ, List.replicate_zero, List.reduceReplicate, x_obj_set, x_row_set, x_len_set, x_obx, x_rox, x_rv, i_switch, x_len h4, cc, x_row h4, x_ix (show i < L by omega) (show i < 2147483648 by omega), ej, hn, nI_clamp (show j < 2 ^ 31 by omega), eg, ix_6]
        exact e1
    · have cc : nI L - 6 < nI i := by
        by_cases c5 : 6 ≤ L
        · rw [e6, pk_sub c5, o_lt (by omega) (by omega)]
          omega
        · exact Int32.lt_of_lt_of_le (pk_sneg (a := L) (b := 6) (by decide) (by omega)) (nI_pos' (by omega))
      refine ⟨A, ?_, hI.1.2⟩
      refine e_263 ?_
      rw [law_sw]
      simp only [i_int, i_long, i_null, i_stat, i_iload, i_lload, i_aload, i_istore, i_astore, i_lstore, i_iinc, i_ii, i_idz, i_i, i_ll, i_lsh, i_i2l, i_l2i, i_lcmp, i_dup, i_pop, i_dup2, i_ifeq, i_ifne, i_iflt, i_ifge, i_ifgt, i_ifle, i_cmpeq, i_cmpne, i_cmplt, i_cmpge, i_cmpgt, i_cmple, i_ifnull, i_ifnonnull, i_getf, am_wr, i_putI, i_putZ, i_putR, i_iald, i_iast, i_aald, i_aast, i_alen, i_newi, i_newq, i_new, i_recv, i_iret, i_zret, i_lret, i_aret, i_vret, List.getElem?_cons_zero, List.getElem?_cons_succ, Option.bind_some, Option.toList_some, Option.toList_none, List.cons_append, List.nil_append, x_nI, am_put, am_put2, List.length_cons, List.length_nil, List.set_cons_zero, List.set_cons_succ, Nat.reduceAdd, Nat.reduceLT, Nat.reduceLeDiff, Nat.reduceEqDiff, Nat.add_left_cancel_iff, Nat.add_eq_left, Nat.left_eq_add, Nat.succ_ne_self, Nat.reduceSub, reduceIte, ite_self, eq_self, or_true, true_or, or_false, false_or, or_self, i10, not_true_eq_false, not_false_eq_true, x_call1, x_call2, x_call3, x_call4, x_call5, x_call6, x_sl0, x_sli, x_slr, x_sln, x_sll, am_ent, List.map_nil, List.map_cons, List.sum_nil, List.sum_cons, Value.category, and_true, true_and, and_self, Nat.zero_le, List.replicate_succ, List.replicate_zero, List.reduceReplicate, x_obj_set, x_row_set, x_len_set, x_obx, x_rox, x_rv, x_len h4, cc]
