/-! the reference: attribute -/
theorem n_att131 {d b : Nat} {A : am_H} {R : Nat → Nat → Int32} {f : mo_F} {p : Nat} {v nm x y z : Int32} {t : Nat} (hM : MM b A R f) (hp : p < 36) : ∃ B, pev d 166 [some (.ref b), some (.int v), some (.int nm), some (.int (nI t)), some (.int x), some (.int y), some (.int (nI p)), some (.int z)] [] A = some (some (.int 0), B) ∧ MM b B (setR (setR (setR (setR R 10 (upd (R 10) p nm)) 11 (upd (R 11) p (nI t))) 12 (upd (R 12) p x)) 13 (upd (R 13) p y)) f ∧ am_fr (at21 b) A B := by
  have hb := hM.2.1
  have m1 := hM.set (i := 10) (by decide) (by decide) (upd (R 10) p nm)
  have m2 := m1.set (i := 11) (by decide) (by decide) (upd (R 11) p (nI t))
  have m3 := m2.set (i := 12) (by decide) (by decide) (upd (R 12) p x)
  have m4 := m3.set (i := 13) (by decide) (by decide) (upd (R 13) p y)
  refine ⟨_, ?_, m4, ((((am_fr.refl A).set ⟨by omega, by omega⟩).set ⟨by omega, by omega⟩).set ⟨by omega, by omega⟩).set ⟨by omega, by omega⟩⟩
  refine e_166 ?_; simp only [b_166, i_int, i_long, i_null, i_stat, i_iload, i_lload, i_aload, i_istore, i_astore, i_lstore, i_iinc, i_ii, i_idz, i_i, i_ll, i_lsh, i_i2l, i_l2i, i_lcmp, i_dup, i_pop, i_dup2, i_ifeq, i_ifne, i_iflt, i_ifge, i_ifgt, i_ifle, i_cmpeq, i_cmpne, i_cmplt, i_cmpge, i_cmpgt, i_cmple, i_ifnull, i_ifnonnull, i_getf, am_wr, i_putI, i_putZ, i_putR, i_iald, i_iast, i_aald, i_aast, i_alen, i_newi, i_newq, i_new, i_recv, i_iret, i_zret, i_lret, i_aret, i_vret, List.getElem?_cons_zero, List.getElem?_cons_succ, Option.bind_some, Option.toList_some, Option.toList_none, List.cons_append, List.nil_append, x_nI, am_put, List.length_cons, List.length_nil, List.set_cons_zero, List.set_cons_succ, Nat.reduceAdd, Nat.reduceLT, Nat.reduceLeDiff, Nat.reduceEqDiff, Nat.add_left_cancel_iff, Nat.add_eq_left, Nat.left_eq_add, Nat.succ_ne_self, Nat.reduceSub, reduceIte, ite_self, eq_self, or_true, true_or, or_false, false_or, or_self, i10, not_true_eq_false, not_false_eq_true, x_call1, x_call2, x_call3, x_call4, x_call5, x_call6, x_sl0, x_sli, x_slr, x_sln, x_sll, am_ent, List.map_nil, List.map_cons, List.sum_nil, List.sum_cons, Value.category, and_true, true_and, and_self, Nat.zero_le, List.replicate_succ, List.replicate_zero, List.reduceReplicate, x_obj_set, x_row_set, x_len_set, x_obx, x_rox, x_rv, x_obj hM.1, mo_obj, x_row (show A.2.2 (b + 10) = some (.inl (0, 36, R 10)) from hM.2.2 10 (by decide) (by decide)), x_row (show A.2.2 (b + 11) = some (.inl (0, 36, R 11)) from hM.2.2 11 (by decide) (by decide)), x_row (show A.2.2 (b + 12) = some (.inl (0, 36, R 12)) from hM.2.2 12 (by decide) (by decide)), x_row (show A.2.2 (b + 13) = some (.inl (0, 36, R 13)) from hM.2.2 13 (by decide) (by decide)), x_ix hp (show p < 2147483648 by omega), x_own (show 5 ≤ b + 10 by omega), x_own (show 5 ≤ b + 11 by omega), x_own (show 5 ≤ b + 12 by omega), x_own (show 5 ≤ b + 13 by omega)]
  rfl
theorem atR_eq (R : Nat → Nat → Int32) (h L : Nat) (c9 : Nat → Int32) (p : Nat) (nm : Int32) (t : Nat) (x y : Int32) : setR (setR (setR (setR (setR R 9 c9) 10 (upd (R 10) p nm)) 11 (upd (R 11) p (nI t))) 12 (upd (R 12) p x)) 13 (upd (R 13) p y) = atR R h L c9 p nm t x y := by
  funext r
  unfold setR atR
  rcases (show r = 9 ∨ r = 10 ∨ r = 11 ∨ r = 12 ∨ r = 13 ∨ (r ≠ 9 ∧ r ≠ 10 ∧ r ≠ 11 ∧ r ≠ 12 ∧ r ≠ 13) by omega) with rfl | rfl | rfl | rfl | rfl | ⟨n1, n2, n3, n4, n5⟩
  · rfl
  · rfl
  · rfl
  · rfl
  · rfl
  · rw [if_neg n5, if_neg n4, if_neg n3, if_neg n2, if_neg n1]
    split <;> first | rfl | (exact absurd rfl ‹_›)
theorem setR_same (R : Nat → Nat → Int32) (i : Nat) : setR R i (R i) = R := by
  funext r
  unfold setR
  by_cases c : r = i
  · subst c; simp
  · simp [c]
theorem n_att25 {d b L : Nat} {A : am_H} {R : Nat → Nat → Int32} {f : mo_F} {s : sg_S} {v nm ty x y : Int32} (hM : MM b A R f) (hS : MS R f.1 s) (hL : L ≤ s.2.2.1) (v1 : v + 1 = nI L) (v6 : nI (6 * f.1) + v + 1 = nI (6 * f.1 + L)) : ∃ B S, pev (d + 1) 165 [some (.ref b), some (.int v), some (.int nm), some (.int ty), some (.int x), some (.int y), none, none] [] A = some (some (.int (as_c (getAt s L) nm ty x y)), B) ∧ MM b B S f ∧ MS S f.1 (setAt s L (as_a (getAt s L) nm ty x y)) ∧ (∀ i, 14 ≤ i → S i = R i) ∧ am_fr (at21 b) A B := by
  have hh := hS.2.1
  have h5 := hS.1.2.2.1
  have hb := hM.2.1
  have hA := hS.lists hL
  have stay : MS R f.1 (setAt s L (getAt s L)) := MS_setAt hS (fun _ _ => rfl) (fun _ _ => rfl) (fun _ _ _ _ _ _ _ => rfl) hA
  unfold as_c as_a
  by_cases c1 : isNb nm = true
  · by_cases c2 : isTb ty = true
    · have c2' := c2
      simp only [isTb, Bool.and_eq_true, Bool.not_eq_true', decide_eq_false_iff_not] at c2'
      obtain ⟨ta, tb⟩ := c2'
      have tc : ty ≤ 4 := Int32.not_lt.mp tb
      obtain ⟨t, rfl, ht1, ht4⟩ := isTb_nI c2
      rw [nI_clamp (by omega), c1, c2]
      by_cases c3 : valb t x = true
      · by_cases c4 : valb t y = true
        · rw [c3, c4]
          have ef := n_find (d := d) (l := L) (nm := nm) hM hh (by omega) hA
          have ix6 := x_ix (show 6 * f.1 + L < 12 by omega) (show 6 * f.1 + L < 2147483648 by omega)
          have hcnt := hA.2.1
          have h3 := hA.1
          have f4 : ∀ z, pev d 168 [some (.int (nI t)), some (.int z)] [] A = some (some (.int (bz (valb t z))), A) := fun z => n_fits ht1 ht4 z
          have eqc : (nI (18 * f.1 + 3 * L + fnx (getAt s L) nm) = nI (3 * (6 * f.1 + L) + (getAt s L).1)) = (fnx (getAt s L) nm = (getAt s L).1) := by
            have hfl : fnx (getAt s L) nm ≤ 3 := by
              unfold fnx
              split
              · rename_i j hj
                have := (fnd_some hj).1
                omega
              · exact h3
            rw [o_eq (by omega) (by omega)]
            exact propext ⟨fun e => by omega, fun e => by omega⟩
          cases hf : fnd (getAt s L).2.1 nm (getAt s L).1 with
          | some k =>
            obtain ⟨hk, -⟩ := fnd_some hf
            have hfx : fnx (getAt s L) nm = k := by unfold fnx; rw [hf]
            rw [hfx] at ef eqc
            have m0 : MM b A (setR R 9 (R 9)) f := by rw [setR_same]; exact hM
            obtain ⟨B, e1, m1, f1⟩ := n_att131 (d := d + 1) (p := 18 * f.1 + 3 * L + k) (v := v) (nm := nm) (x := x) (y := y) (z := nI (6 * f.1 + L)) (t := t) hM (by omega)
            refine ⟨B, _, ?_, m1, ?_, fun i hi => ?_, f1⟩
            · have hne : ¬ k = (getAt s L).1 := by omega
              refine e_165 ?_; simp only [b_165, i_int, i_long, i_null, i_stat, i_iload, i_lload, i_aload, i_istore, i_astore, i_lstore, i_iinc, i_ii, i_idz, i_i, i_ll, i_lsh, i_i2l, i_l2i, i_lcmp, i_dup, i_pop, i_dup2, i_ifeq, i_ifne, i_iflt, i_ifge, i_ifgt, i_ifle, i_cmpeq, i_cmpne, i_cmplt, i_cmpge, i_cmpgt, i_cmple, i_ifnull, i_ifnonnull, i_getf, am_wr, i_putI, i_putZ, i_putR, i_iald, i_iast, i_aald, i_aast, i_alen, i_newi, i_newq, i_new, i_recv, i_iret, i_zret, i_lret, i_aret, i_vret, List.getElem?_cons_zero, List.getElem?_cons_succ, Option.bind_some, Option.toList_some, Option.toList_none, List.cons_append, List.nil_append, x_nI, am_put, List.length_cons, List.length_nil, List.set_cons_zero, List.set_cons_succ, Nat.reduceAdd, Nat.reduceLT, Nat.reduceLeDiff, Nat.reduceEqDiff, Nat.add_left_cancel_iff, Nat.add_eq_left, Nat.left_eq_add, Nat.succ_ne_self, Nat.reduceSub, reduceIte, ite_self, eq_self, or_true, true_or, or_false, false_or, or_self, i10, not_true_eq_false, not_false_eq_true, x_call1, x_call2, x_call3, x_call4, x_call5, x_call6, x_sl0, x_sli, x_slr, x_sln, x_sll, am_ent, List.map_nil, List.map_cons, List.sum_nil, List.sum_cons, Value.category, and_true, true_and, and_self, Nat.zero_le, List.replicate_succ, List.replicate_zero, List.reduceReplicate, x_obj_set, x_row_set, x_len_set, x_obx, x_rox, x_rv, n_isName, c1, bz_true, ta, tc, f4, c3, c4, v1, x_obj hM.1, ef, mo_obj, show (6 : Int32) = nI 6 from rfl, pk_mul, v6, show (3 : Int32) = nI 3 from rfl, x_row (show A.2.2 (b + 9) = some (.inl (0, 12, R 9)) from hM.2.2 9 (by decide) (by decide)), ix6, hcnt, nI_add, eqc, hne]
              exact e1
            · have := atR_MS (nm := nm) (x := x) (y := y) (c9 := R 9) (k := k) (n := (getAt s L).1) hS hL h3 hk (Or.inl rfl) hcnt (fun _ _ => rfl) ht1 ht4
              rw [← atR_eq, setR_same] at this
              exact this
            · rw [setR_ne (by omega), setR_ne (by omega), setR_ne (by omega), setR_ne (by omega)]
          | none =>
            have hfx : fnx (getAt s L) nm = (getAt s L).1 := by unfold fnx; rw [hf]
            rw [hfx] at ef eqc
            have e3 : (nI (getAt s L).1 = nI 3) = ((getAt s L).1 = 3) := o_eq (by omega) (by decide)
            by_cases c5 : (getAt s L).1 = 3
            · refine ⟨A, R, ?_, hM, ?_, fun _ _ => rfl, am_fr.refl A⟩
              · rw [c5] at ef hcnt eqc
                refine e_165 ?_; simp only [b_165, i_int, i_long, i_null, i_stat, i_iload, i_lload, i_aload, i_istore, i_astore, i_lstore, i_iinc, i_ii, i_idz, i_i, i_ll, i_lsh, i_i2l, i_l2i, i_lcmp, i_dup, i_pop, i_dup2, i_ifeq, i_ifne, i_iflt, i_ifge, i_ifgt, i_ifle, i_cmpeq, i_cmpne, i_cmplt, i_cmpge, i_cmpgt, i_cmple, i_ifnull, i_ifnonnull, i_getf, am_wr, i_putI, i_putZ, i_putR, i_iald, i_iast, i_aald, i_aast, i_alen, i_newi, i_newq, i_new, i_recv, i_iret, i_zret, i_lret, i_aret, i_vret, List.getElem?_cons_zero, List.getElem?_cons_succ, Option.bind_some, Option.toList_some, Option.toList_none, List.cons_append, List.nil_append, x_nI, am_put, List.length_cons, List.length_nil, List.set_cons_zero, List.set_cons_succ, Nat.reduceAdd, Nat.reduceLT, Nat.reduceLeDiff, Nat.reduceEqDiff, Nat.add_left_cancel_iff, Nat.add_eq_left, Nat.left_eq_add, Nat.succ_ne_self, Nat.reduceSub, reduceIte, ite_self, eq_self, or_true, true_or, or_false, false_or, or_self, i10, not_true_eq_false, not_false_eq_true, x_call1, x_call2, x_call3, x_call4, x_call5, x_call6, x_sl0, x_sli, x_slr, x_sln, x_sll, am_ent, List.map_nil, List.map_cons, List.sum_nil, List.sum_cons, Value.category, and_true, true_and, and_self, Nat.zero_le, List.replicate_succ, List.replicate_zero, List.reduceReplicate, x_obj_set, x_row_set, x_len_set, x_obx, x_rox, x_rv, n_isName, c1, bz_true, ta, tc, f4, c3, c4, v1, x_obj hM.1, ef, mo_obj, show (6 : Int32) = nI 6 from rfl, pk_mul, v6, show (3 : Int32) = nI 3 from rfl, x_row (show A.2.2 (b + 9) = some (.inl (0, 12, R 9)) from hM.2.2 9 (by decide) (by decide)), ix6, hcnt, nI_add, eqc, c5]
                simp
              · simp [c5]
                exact stay
            · have c5' : ¬ 3 ≤ (getAt s L).1 := by omega
              have m0 := hM.set (i := 9) (by decide) (by decide) (upd (R 9) (6 * f.1 + L) (nI ((getAt s L).1 + 1)))
              obtain ⟨B, e1, m1, f1⟩ := n_att131 (d := d + 1) (p := 18 * f.1 + 3 * L + (getAt s L).1) (v := v) (nm := nm) (x := x) (y := y) (z := nI (6 * f.1 + L)) (t := t) m0 (by omega)
              simp only [setR_ne (show (10 : Nat) ≠ 9 by decide), setR_ne (show (11 : Nat) ≠ 9 by decide), setR_ne (show (12 : Nat) ≠ 9 by decide), setR_ne (show (13 : Nat) ≠ 9 by decide)] at m1
              refine ⟨B, _, ?_, m1, ?_, fun i hi => ?_, ((am_fr.refl A).set ⟨by omega, by omega⟩).trans f1⟩
              · simp only [msz] at e1
                refine e_165 ?_; simp only [b_165, i_int, i_long, i_null, i_stat, i_iload, i_lload, i_aload, i_istore, i_astore, i_lstore, i_iinc, i_ii, i_idz, i_i, i_ll, i_lsh, i_i2l, i_l2i, i_lcmp, i_dup, i_pop, i_dup2, i_ifeq, i_ifne, i_iflt, i_ifge, i_ifgt, i_ifle, i_cmpeq, i_cmpne, i_cmplt, i_cmpge, i_cmpgt, i_cmple, i_ifnull, i_ifnonnull, i_getf, am_wr, i_putI, i_putZ, i_putR, i_iald, i_iast, i_aald, i_aast, i_alen, i_newi, i_newq, i_new, i_recv, i_iret, i_zret, i_lret, i_aret, i_vret, List.getElem?_cons_zero, List.getElem?_cons_succ, Option.bind_some, Option.toList_some, Option.toList_none, List.cons_append, List.nil_append, x_nI, am_put, List.length_cons, List.length_nil, List.set_cons_zero, List.set_cons_succ, Nat.reduceAdd, Nat.reduceLT, Nat.reduceLeDiff, Nat.reduceEqDiff, Nat.add_left_cancel_iff, Nat.add_eq_left, Nat.left_eq_add, Nat.succ_ne_self, Nat.reduceSub, reduceIte, ite_self, eq_self, or_true, true_or, or_false, false_or, or_self, i10, not_true_eq_false, not_false_eq_true, x_call1, x_call2, x_call3, x_call4, x_call5, x_call6, x_sl0, x_sli, x_slr, x_sln, x_sll, am_ent, List.map_nil, List.map_cons, List.sum_nil, List.sum_cons, Value.category, and_true, true_and, and_self, Nat.zero_le, List.replicate_succ, List.replicate_zero, List.reduceReplicate, x_obj_set, x_row_set, x_len_set, x_obx, x_rox, x_rv, n_isName, c1, bz_true, ta, tc, f4, c3, c4, v1, x_obj hM.1, ef, mo_obj, show (6 : Int32) = nI 6 from rfl, pk_mul, v6, show (3 : Int32) = nI 3 from rfl, x_row (show A.2.2 (b + 9) = some (.inl (0, 12, R 9)) from hM.2.2 9 (by decide) (by decide)), ix6, hcnt, nI_add, eqc, e3, c5, x_own (show 5 ≤ b + 9 by omega), nI_1]
                simp [c5']
                exact e1
              · rw [if_neg c5']
                have := atR_MS (nm := nm) (x := x) (y := y) (c9 := upd (R 9) (6 * f.1 + L) (nI ((getAt s L).1 + 1))) (k := (getAt s L).1) (n := (getAt s L).1 + 1) hS hL (by omega) (by omega) (Or.inr ⟨rfl, rfl⟩) pk_us (fun l hl => pk_un (by omega)) ht1 ht4
                rw [← atR_eq] at this
                exact this
              · rw [setR_ne (by omega), setR_ne (by omega), setR_ne (by omega), setR_ne (by omega), setR_ne (by omega)]
        · refine ⟨A, R, ?_, hM, by simp [c4]; exact stay, fun _ _ => rfl, am_fr.refl A⟩
          simp only [Bool.not_eq_true] at c4
          refine e_165 ?_; simp only [b_165, i_int, i_long, i_null, i_stat, i_iload, i_lload, i_aload, i_istore, i_astore, i_lstore, i_iinc, i_ii, i_idz, i_i, i_ll, i_lsh, i_i2l, i_l2i, i_lcmp, i_dup, i_pop, i_dup2, i_ifeq, i_ifne, i_iflt, i_ifge, i_ifgt, i_ifle, i_cmpeq, i_cmpne, i_cmplt, i_cmpge, i_cmpgt, i_cmple, i_ifnull, i_ifnonnull, i_getf, am_wr, i_putI, i_putZ, i_putR, i_iald, i_iast, i_aald, i_aast, i_alen, i_newi, i_newq, i_new, i_recv, i_iret, i_zret, i_lret, i_aret, i_vret, List.getElem?_cons_zero, List.getElem?_cons_succ, Option.bind_some, Option.toList_some, Option.toList_none, List.cons_append, List.nil_append, x_nI, am_put, List.length_cons, List.length_nil, List.set_cons_zero, List.set_cons_succ, Nat.reduceAdd, Nat.reduceLT, Nat.reduceLeDiff, Nat.reduceEqDiff, Nat.add_left_cancel_iff, Nat.add_eq_left, Nat.left_eq_add, Nat.succ_ne_self, Nat.reduceSub, reduceIte, ite_self, eq_self, or_true, true_or, or_false, false_or, or_self, i10, not_true_eq_false, not_false_eq_true, x_call1, x_call2, x_call3, x_call4, x_call5, x_call6, x_sl0, x_sli, x_slr, x_sln, x_sll, am_ent, List.map_nil, List.map_cons, List.sum_nil, List.sum_cons, Value.category, and_true, true_and, and_self, Nat.zero_le, List.replicate_succ, List.replicate_zero, List.reduceReplicate, x_obj_set, x_row_set, x_len_set, x_obx, x_rox, x_rv, n_isName, c1, bz_true, ta, tc, n_fits ht1 ht4, c3, c4, bz_false]
          simp
      · refine ⟨A, R, ?_, hM, by simp [c3]; exact stay, fun _ _ => rfl, am_fr.refl A⟩
        simp only [Bool.not_eq_true] at c3
        refine e_165 ?_; simp only [b_165, i_int, i_long, i_null, i_stat, i_iload, i_lload, i_aload, i_istore, i_astore, i_lstore, i_iinc, i_ii, i_idz, i_i, i_ll, i_lsh, i_i2l, i_l2i, i_lcmp, i_dup, i_pop, i_dup2, i_ifeq, i_ifne, i_iflt, i_ifge, i_ifgt, i_ifle, i_cmpeq, i_cmpne, i_cmplt, i_cmpge, i_cmpgt, i_cmple, i_ifnull, i_ifnonnull, i_getf, am_wr, i_putI, i_putZ, i_putR, i_iald, i_iast, i_aald, i_aast, i_alen, i_newi, i_newq, i_new, i_recv, i_iret, i_zret, i_lret, i_aret, i_vret, List.getElem?_cons_zero, List.getElem?_cons_succ, Option.bind_some, Option.toList_some, Option.toList_none, List.cons_append, List.nil_append, x_nI, am_put, List.length_cons, List.length_nil, List.set_cons_zero, List.set_cons_succ, Nat.reduceAdd, Nat.reduceLT, Nat.reduceLeDiff, Nat.reduceEqDiff, Nat.add_left_cancel_iff, Nat.add_eq_left, Nat.left_eq_add, Nat.succ_ne_self, Nat.reduceSub, reduceIte, ite_self, eq_self, or_true, true_or, or_false, false_or, or_self, i10, not_true_eq_false, not_false_eq_true, x_call1, x_call2, x_call3, x_call4, x_call5, x_call6, x_sl0, x_sli, x_slr, x_sln, x_sll, am_ent, List.map_nil, List.map_cons, List.sum_nil, List.sum_cons, Value.category, and_true, true_and, and_self, Nat.zero_le, List.replicate_succ, List.replicate_zero, List.reduceReplicate, x_obj_set, x_row_set, x_len_set, x_obx, x_rox, x_rv, n_isName, c1, bz_true, ta, tc, n_fits ht1 ht4, c3, bz_false]
        simp
    · refine ⟨A, R, ?_, hM, by simp [c2]; exact stay, fun _ _ => rfl, am_fr.refl A⟩
      simp only [Bool.not_eq_true] at c2
      by_cases ta : ty < 1
      · refine e_165 ?_; simp only [b_165, i_int, i_long, i_null, i_stat, i_iload, i_lload, i_aload, i_istore, i_astore, i_lstore, i_iinc, i_ii, i_idz, i_i, i_ll, i_lsh, i_i2l, i_l2i, i_lcmp, i_dup, i_pop, i_dup2, i_ifeq, i_ifne, i_iflt, i_ifge, i_ifgt, i_ifle, i_cmpeq, i_cmpne, i_cmplt, i_cmpge, i_cmpgt, i_cmple, i_ifnull, i_ifnonnull, i_getf, am_wr, i_putI, i_putZ, i_putR, i_iald, i_iast, i_aald, i_aast, i_alen, i_newi, i_newq, i_new, i_recv, i_iret, i_zret, i_lret, i_aret, i_vret, List.getElem?_cons_zero, List.getElem?_cons_succ, Option.bind_some, Option.toList_some, Option.toList_none, List.cons_append, List.nil_append, x_nI, am_put, List.length_cons, List.length_nil, List.set_cons_zero, List.set_cons_succ, Nat.reduceAdd, Nat.reduceLT, Nat.reduceLeDiff, Nat.reduceEqDiff, Nat.add_left_cancel_iff, Nat.add_eq_left, Nat.left_eq_add, Nat.succ_ne_self, Nat.reduceSub, reduceIte, ite_self, eq_self, or_true, true_or, or_false, false_or, or_self, i10, not_true_eq_false, not_false_eq_true, x_call1, x_call2, x_call3, x_call4, x_call5, x_call6, x_sl0, x_sli, x_slr, x_sln, x_sll, am_ent, List.map_nil, List.map_cons, List.sum_nil, List.sum_cons, Value.category, and_true, true_and, and_self, Nat.zero_le, List.replicate_succ, List.replicate_zero, List.reduceReplicate, x_obj_set, x_row_set, x_len_set, x_obx, x_rox, x_rv, n_isName, c1, bz_true, ta]
        simp [c2]
      · have tc : ¬ ty ≤ 4 := fun e => by
          have : isTb ty = true := by simp [isTb, ta, Int32.not_lt.mpr e]
          rw [c2] at this
          cases this
        refine e_165 ?_; simp only [b_165, i_int, i_long, i_null, i_stat, i_iload, i_lload, i_aload, i_istore, i_astore, i_lstore, i_iinc, i_ii, i_idz, i_i, i_ll, i_lsh, i_i2l, i_l2i, i_lcmp, i_dup, i_pop, i_dup2, i_ifeq, i_ifne, i_iflt, i_ifge, i_ifgt, i_ifle, i_cmpeq, i_cmpne, i_cmplt, i_cmpge, i_cmpgt, i_cmple, i_ifnull, i_ifnonnull, i_getf, am_wr, i_putI, i_putZ, i_putR, i_iald, i_iast, i_aald, i_aast, i_alen, i_newi, i_newq, i_new, i_recv, i_iret, i_zret, i_lret, i_aret, i_vret, List.getElem?_cons_zero, List.getElem?_cons_succ, Option.bind_some, Option.toList_some, Option.toList_none, List.cons_append, List.nil_append, x_nI, am_put, List.length_cons, List.length_nil, List.set_cons_zero, List.set_cons_succ, Nat.reduceAdd, Nat.reduceLT, Nat.reduceLeDiff, Nat.reduceEqDiff, Nat.add_left_cancel_iff, Nat.add_eq_left, Nat.left_eq_add, Nat.succ_ne_self, Nat.reduceSub, reduceIte, ite_self, eq_self, or_true, true_or, or_false, false_or, or_self, i10, not_true_eq_false, not_false_eq_true, x_call1, x_call2, x_call3, x_call4, x_call5, x_call6, x_sl0, x_sli, x_slr, x_sln, x_sll, am_ent, List.map_nil, List.map_cons, List.sum_nil, List.sum_cons, Value.category, and_true, true_and, and_self, Nat.zero_le, List.replicate_succ, List.replicate_zero, List.reduceReplicate, x_obj_set, x_row_set, x_len_set, x_obx, x_rox, x_rv, n_isName, c1, bz_true, ta, tc]
        simp [c2]
  · refine ⟨A, R, ?_, hM, by simp [c1]; exact stay, fun _ _ => rfl, am_fr.refl A⟩
    simp only [Bool.not_eq_true] at c1
    refine e_165 ?_; simp only [b_165, i_int, i_long, i_null, i_stat, i_iload, i_lload, i_aload, i_istore, i_astore, i_lstore, i_iinc, i_ii, i_idz, i_i, i_ll, i_lsh, i_i2l, i_l2i, i_lcmp, i_dup, i_pop, i_dup2, i_ifeq, i_ifne, i_iflt, i_ifge, i_ifgt, i_ifle, i_cmpeq, i_cmpne, i_cmplt, i_cmpge, i_cmpgt, i_cmple, i_ifnull, i_ifnonnull, i_getf, am_wr, i_putI, i_putZ, i_putR, i_iald, i_iast, i_aald, i_aast, i_alen, i_newi, i_newq, i_new, i_recv, i_iret, i_zret, i_lret, i_aret, i_vret, List.getElem?_cons_zero, List.getElem?_cons_succ, Option.bind_some, Option.toList_some, Option.toList_none, List.cons_append, List.nil_append, x_nI, am_put, List.length_cons, List.length_nil, List.set_cons_zero, List.set_cons_succ, Nat.reduceAdd, Nat.reduceLT, Nat.reduceLeDiff, Nat.reduceEqDiff, Nat.add_left_cancel_iff, Nat.add_eq_left, Nat.left_eq_add, Nat.succ_ne_self, Nat.reduceSub, reduceIte, ite_self, eq_self, or_true, true_or, or_false, false_or, or_self, i10, not_true_eq_false, not_false_eq_true, x_call1, x_call2, x_call3, x_call4, x_call5, x_call6, x_sl0, x_sli, x_slr, x_sln, x_sll, am_ent, List.map_nil, List.map_cons, List.sum_nil, List.sum_cons, Value.category, and_true, true_and, and_self, Nat.zero_le, List.replicate_succ, List.replicate_zero, List.reduceReplicate, x_obj_set, x_row_set, x_len_set, x_obx, x_rox, x_rv, n_isName, c1, bz_false]
    simp
