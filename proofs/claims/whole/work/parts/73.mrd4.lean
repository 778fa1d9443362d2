/-! the reference reads a variable -/
def MHn (R : Nat → Nat → Int32) (h n4 : Nat) (s : sg_S) : Prop := STv s ∧ h < 2 ∧ (R 1 h = nI s.1.1 ∧ R 4 h = nI n4) ∧ (∀ k, k < s.1.1 → R 2 (4 * h + k) = s.1.2.1 k ∧ R 3 (4 * h + k) = nI (s.1.2.2 k)) ∧ MA R h 0 s.2.1 ∧ ∀ v, v < s.2.2.1 → R 5 (5 * h + v) = (s.2.2.2.1 v).1 ∧ R 6 (5 * h + v) = nI (s.2.2.2.1 v).2.1 ∧ R 7 (5 * h + v) = nI (s.2.2.2.1 v).2.2.1 ∧ (∀ k, k < (s.2.2.2.1 v).2.2.1 → R 8 (10 * h + 2 * v + k) = nI ((s.2.2.2.1 v).2.2.2.1 k)) ∧ MA R h (v + 1) (s.2.2.2.1 v).2.2.2.2.1
/-- what one axis says: refused, or dimension dk -/
theorem n_rax {d b h v k nax nd c : Nat} {A : am_H} {R : Nat → Nat → Int32} {f : mo_F} {D : List Nat} {ro : Bool} {len : Nat → Nat} {o5 : Option Value} (hh : h < 2) (hv : v < 5) (hnax : nax ≤ 2) (hk : k < nax) (hnd : nd ≤ 4) (hM : MM b A R (sat f c ro)) (hD : MDr R f D) (h7 : R 7 (5 * h + v) = nI nax) (h1 : R 1 h = nI nd) (h3 : ∀ j, j < nd → R 3 (4 * h + j) = nI (len j) ∧ len j ≤ 8) (hc : c < 500000) : ∃ B, am_fr (at21 b) A B ∧ ((MM b B R (sat f (c + 4) (rn D c 4 ro)) ∧ pev (d + 1) 255 [some (.ref b), some (.int (nI h)), some (.int (nI v)), some (.int (nI (5 * h + v))), some (.int (nI k)), o5] [] A = some (some (.int 0), B) ∧ ∀ dk, dk < nd → (k = 1 → len dk ≠ 0) → rx D c 4 ro ≠ nI dk) ∨ ∃ dk, dk < nd ∧ (k = 1 → len dk ≠ 0) ∧ rx D c 4 ro = nI dk ∧ MM b B (setR R 8 (upd (R 8) (10 * h + 2 * v + k) (nI dk))) (sat f (c + 4) (rn D c 4 ro)) ∧ ∀ Y, pev (d + 1) 255 [some (.ref b), some (.int (nI h)), some (.int (nI v)), some (.int (nI (5 * h + v))), some (.int (nI (k + 1))), some (.int (nI dk))] [] B = some Y → pev (d + 1) 255 [some (.ref b), some (.int (nI h)), some (.int (nI v)), some (.int (nI (5 * h + v))), some (.int (nI k)), o5] [] A = some Y) := by
  have hb := hM.2.1
  obtain ⟨B1, e1, m1, f1⟩ := n_read (d := d) (w := 4) (by decide) (by omega) hM hD
  have hcn : ¬ nI nax ≤ nI k := nI_ge (by omega) (by omega)
  have ix7 := x_ix (show 5 * h + v < 10 by omega) (show 5 * h + v < 2147483648 by omega)
  have r1 : B1.2.2 (b + 1) = some (.inl (0, 2, R 1)) := m1.2.2 1 (by decide) (by decide)
  have r3 : B1.2.2 (b + 3) = some (.inl (0, 8, R 3)) := m1.2.2 3 (by decide) (by decide)
  have r8 : B1.2.2 (b + 8) = some (.inl (0, 20, R 8)) := m1.2.2 8 (by decide) (by decide)
  have e1' : pev d 244 [some (.ref b), some (.int 4), none, none] [] A = some (some (.int (rx D c 4 ro)), B1) := e1
  have ixh := x_ix hh (show h < 2147483648 by omega)
  by_cases c1 : rx D c 4 ro < 0
  · refine ⟨B1, f1, Or.inl ⟨m1, ?_, fun dk hdk _ e => ?_⟩⟩
    · refine e_255 ?_; simp only [b_255, i_int, i_long, i_null, i_stat, i_iload, i_lload, i_aload, i_istore, i_astore, i_lstore, i_iinc, i_ii, i_idz, i_i, i_ll, i_lsh, i_i2l, i_l2i, i_lcmp, i_dup, i_pop, i_dup2, i_ifeq, i_ifne, i_iflt, i_ifge, i_ifgt, i_ifle, i_cmpeq, i_cmpne, i_cmplt, i_cmpge, i_cmpgt, i_cmple, i_ifnull, i_ifnonnull, i_getf, am_wr, i_putI, i_putZ, i_putR, i_iald, i_iast, i_aald, i_aast, i_alen, i_newi, i_newq, i_new, i_recv, i_iret, i_zret, i_lret, i_aret, i_vret, List.getElem?_cons_zero, List.getElem?_cons_succ, Option.bind_some, Option.toList_some, Option.toList_none, List.cons_append, List.nil_append, x_nI, am_put, am_put2, List.length_cons, List.length_nil, List.set_cons_zero, List.set_cons_succ, Nat.reduceAdd, Nat.reduceLT, Nat.reduceLeDiff, Nat.reduceEqDiff, Nat.add_left_cancel_iff, Nat.add_eq_left, Nat.left_eq_add, Nat.succ_ne_self, Nat.reduceSub, reduceIte, ite_self, eq_self, or_true, true_or, or_false, false_or, or_self, i10, not_true_eq_false, not_false_eq_true, x_call1, x_call2, x_call3, x_call4, x_call5, x_call6, x_sl0, x_sli, x_slr, x_sln, x_sll, am_ent, List.map_nil, List.map_cons, List.sum_nil, List.sum_cons, Value.category, and_true, true_and, and_self, Nat.zero_le, List.replicate_succ, List.replicate_zero, List.reduceReplicate, x_obj_set, x_row_set, x_len_set, x_obx, x_rox, x_rv, x_obj hM.1, mo_obj, sat, x_row (show A.2.2 (b + 7) = some (.inl (0, 10, R 7)) from hM.2.2 7 (by decide) (by decide)), ix7, h7, hcn, e1', c1]
    · rw [e] at c1
      exact nI_pos (by omega) c1
  · by_cases c2 : nI nd ≤ rx D c 4 ro
    · refine ⟨B1, f1, Or.inl ⟨m1, ?_, fun dk hdk _ e => ?_⟩⟩
      · refine e_255 ?_; simp only [b_255, i_int, i_long, i_null, i_stat, i_iload, i_lload, i_aload, i_istore, i_astore, i_lstore, i_iinc, i_ii, i_idz, i_i, i_ll, i_lsh, i_i2l, i_l2i, i_lcmp, i_dup, i_pop, i_dup2, i_ifeq, i_ifne, i_iflt, i_ifge, i_ifgt, i_ifle, i_cmpeq, i_cmpne, i_cmplt, i_cmpge, i_cmpgt, i_cmple, i_ifnull, i_ifnonnull, i_getf, am_wr, i_putI, i_putZ, i_putR, i_iald, i_iast, i_aald, i_aast, i_alen, i_newi, i_newq, i_new, i_recv, i_iret, i_zret, i_lret, i_aret, i_vret, List.getElem?_cons_zero, List.getElem?_cons_succ, Option.bind_some, Option.toList_some, Option.toList_none, List.cons_append, List.nil_append, x_nI, am_put, am_put2, List.length_cons, List.length_nil, List.set_cons_zero, List.set_cons_succ, Nat.reduceAdd, Nat.reduceLT, Nat.reduceLeDiff, Nat.reduceEqDiff, Nat.add_left_cancel_iff, Nat.add_eq_left, Nat.left_eq_add, Nat.succ_ne_self, Nat.reduceSub, reduceIte, ite_self, eq_self, or_true, true_or, or_false, false_or, or_self, i10, not_true_eq_false, not_false_eq_true, x_call1, x_call2, x_call3, x_call4, x_call5, x_call6, x_sl0, x_sli, x_slr, x_sln, x_sll, am_ent, List.map_nil, List.map_cons, List.sum_nil, List.sum_cons, Value.category, and_true, true_and, and_self, Nat.zero_le, List.replicate_succ, List.replicate_zero, List.reduceReplicate, x_obj_set, x_row_set, x_len_set, x_obx, x_rox, x_rv, x_obj hM.1, mo_obj, sat, x_row (show A.2.2 (b + 7) = some (.inl (0, 10, R 7)) from hM.2.2 7 (by decide) (by decide)), ix7, h7, hcn, e1', c1, x_obj m1.1, x_row r1, ixh, h1, c2]
      · rw [e] at c2
        exact nI_ge hdk (by omega) c2
    · obtain ⟨dk, hdk0, edk⟩ := nI_of c1
      have hdk : dk < nd := by
        rw [edk, o_le (by omega) hdk0] at c2
        omega
      rw [edk] at e1' c1 c2
      obtain ⟨l1, l8⟩ := h3 dk hdk
      have e44 : (4 : Int32) * nI h + nI dk = nI (4 * h + dk) := by rw [show (4 : Int32) = nI 4 from rfl, pk_mul, nI_add]
      have e28 : (2 : Int32) * nI (5 * h + v) + nI k = nI (10 * h + 2 * v + k) := by
        rw [show (2 : Int32) = nI 2 from rfl, pk_mul, nI_add]
        congr 1
        omega
      have w1 := m1.set (i := 8) (by decide) (by decide) (upd (R 8) (10 * h + 2 * v + k) (nI dk))
      have ek : (nI k = (1 : Int32)) = (k = 1) := o_eq (b := 1) (by omega) (by decide)
      have ez : (nI (len dk) = (0 : Int32)) = (len dk = 0) := o_eq (b := 0) (by omega) (by decide)
      by_cases ck : k = 1
      · have ekT : (nI k = (1 : Int32)) = True := by rw [ek]; exact eq_true ck
        by_cases cz : len dk = 0
        · have ezT : (nI (len dk) = (0 : Int32)) = True := by rw [ez]; exact eq_true cz
          refine ⟨B1, f1, Or.inl ⟨m1, ?_, fun dj hdj hlen e => ?_⟩⟩
          · refine e_255 ?_; simp only [b_255, i_int, i_long, i_null, i_stat, i_iload, i_lload, i_aload, i_istore, i_astore, i_lstore, i_iinc, i_ii, i_idz, i_i, i_ll, i_lsh, i_i2l, i_l2i, i_lcmp, i_dup, i_pop, i_dup2, i_ifeq, i_ifne, i_iflt, i_ifge, i_ifgt, i_ifle, i_cmpeq, i_cmpne, i_cmplt, i_cmpge, i_cmpgt, i_cmple, i_ifnull, i_ifnonnull, i_getf, am_wr, i_putI, i_putZ, i_putR, i_iald, i_iast, i_aald, i_aast, i_alen, i_newi, i_newq, i_new, i_recv, i_iret, i_zret, i_lret, i_aret, i_vret, List.getElem?_cons_zero, List.getElem?_cons_succ, Option.bind_some, Option.toList_some, Option.toList_none, List.cons_append, List.nil_append, x_nI, am_put, am_put2, List.length_cons, List.length_nil, List.set_cons_zero, List.set_cons_succ, Nat.reduceAdd, Nat.reduceLT, Nat.reduceLeDiff, Nat.reduceEqDiff, Nat.add_left_cancel_iff, Nat.add_eq_left, Nat.left_eq_add, Nat.succ_ne_self, Nat.reduceSub, reduceIte, ite_self, eq_self, or_true, true_or, or_false, false_or, or_self, i10, not_true_eq_false, not_false_eq_true, x_call1, x_call2, x_call3, x_call4, x_call5, x_call6, x_sl0, x_sli, x_slr, x_sln, x_sll, am_ent, List.map_nil, List.map_cons, List.sum_nil, List.sum_cons, Value.category, and_true, true_and, and_self, Nat.zero_le, List.replicate_succ, List.replicate_zero, List.reduceReplicate, x_obj_set, x_row_set, x_len_set, x_obx, x_rox, x_rv, x_obj hM.1, mo_obj, sat, x_row (show A.2.2 (b + 7) = some (.inl (0, 10, R 7)) from hM.2.2 7 (by decide) (by decide)), ix7, h7, hcn, e1', c1, x_obj m1.1, x_row r1, ixh, h1, c2, ekT, x_row r3, e44, x_ix (show 4 * h + dk < 8 by omega) (show 4 * h + dk < 2147483648 by omega), l1, ezT]
          · have : dj = dk := (nI_eq (by omega) (by omega)).mp (e.symm.trans edk)
            rw [this] at hlen
            exact hlen ck cz
        · refine ⟨_, f1.trans ((am_fr.refl B1).set ⟨by omega, by omega⟩), Or.inr ⟨dk, hdk, fun _ => cz, edk, w1, fun Y hY => ?_⟩⟩
          have hY' := hY
          refine e_255 ?_; simp only [b_255, i_int, i_long, i_null, i_stat, i_iload, i_lload, i_aload, i_istore, i_astore, i_lstore, i_iinc, i_ii, i_idz, i_i, i_ll, i_lsh, i_i2l, i_l2i, i_lcmp, i_dup, i_pop, i_dup2, i_ifeq, i_ifne, i_iflt, i_ifge, i_ifgt, i_ifle, i_cmpeq, i_cmpne, i_cmplt, i_cmpge, i_cmpgt, i_cmple, i_ifnull, i_ifnonnull, i_getf, am_wr, i_putI, i_putZ, i_putR, i_iald, i_iast, i_aald, i_aast, i_alen, i_newi, i_newq, i_new, i_recv, i_iret, i_zret, i_lret, i_aret, i_vret, List.getElem?_cons_zero, List.getElem?_cons_succ, Option.bind_some, Option.toList_some, Option.toList_none, List.cons_append, List.nil_append, x_nI, am_put, am_put2, List.length_cons, List.length_nil, List.set_cons_zero, List.set_cons_succ, Nat.reduceAdd, Nat.reduceLT, Nat.reduceLeDiff, Nat.reduceEqDiff, Nat.add_left_cancel_iff, Nat.add_eq_left, Nat.left_eq_add, Nat.succ_ne_self, Nat.reduceSub, reduceIte, ite_self, eq_self, or_true, true_or, or_false, false_or, or_self, i10, not_true_eq_false, not_false_eq_true, x_call1, x_call2, x_call3, x_call4, x_call5, x_call6, x_sl0, x_sli, x_slr, x_sln, x_sll, am_ent, List.map_nil, List.map_cons, List.sum_nil, List.sum_cons, Value.category, and_true, true_and, and_self, Nat.zero_le, List.replicate_succ, List.replicate_zero, List.reduceReplicate, x_obj_set, x_row_set, x_len_set, x_obx, x_rox, x_rv, x_obj hM.1, mo_obj, sat, x_row (show A.2.2 (b + 7) = some (.inl (0, 10, R 7)) from hM.2.2 7 (by decide) (by decide)), ix7, h7, hcn, e1', c1, x_obj m1.1, x_row r1, ixh, h1, c2, ekT, x_row r3, e44, x_ix (show 4 * h + dk < 8 by omega) (show 4 * h + dk < 2147483648 by omega), l1, ez, cz, x_row r8, e28, x_ix (show 10 * h + 2 * v + k < 20 by omega) (show 10 * h + 2 * v + k < 2147483648 by omega), x_own (show 5 ≤ b + 8 by omega), nI_1]
          exact hY'
      · refine ⟨_, f1.trans ((am_fr.refl B1).set ⟨by omega, by omega⟩), Or.inr ⟨dk, hdk, fun e => absurd e ck, edk, w1, fun Y hY => ?_⟩⟩
        refine e_255 ?_; simp only [b_255, i_int, i_long, i_null, i_stat, i_iload, i_lload, i_aload, i_istore, i_astore, i_lstore, i_iinc, i_ii, i_idz, i_i, i_ll, i_lsh, i_i2l, i_l2i, i_lcmp, i_dup, i_pop, i_dup2, i_ifeq, i_ifne, i_iflt, i_ifge, i_ifgt, i_ifle, i_cmpeq, i_cmpne, i_cmplt, i_cmpge, i_cmpgt, i_cmple, i_ifnull, i_ifnonnull, i_getf, am_wr, i_putI, i_putZ, i_putR, i_iald, i_iast, i_aald, i_aast, i_alen, i_newi, i_newq, i_new, i_recv, i_iret, i_zret, i_lret, i_aret, i_vret, List.getElem?_cons_zero, List.getElem?_cons_succ, Option.bind_some, Option.toList_some, Option.toList_none, List.cons_append, List.nil_append, x_nI, am_put, am_put2, List.length_cons, List.length_nil, List.set_cons_zero, List.set_cons_succ, Nat.reduceAdd, Nat.reduceLT, Nat.reduceLeDiff, Nat.reduceEqDiff, Nat.add_left_cancel_iff, Nat.add_eq_left, Nat.left_eq_add, Nat.succ_ne_self, Nat.reduceSub, reduceIte, ite_self, eq_self, or_true, true_or, or_false, false_or, or_self, i10, not_true_eq_false, not_false_eq_true, x_call1, x_call2, x_call3, x_call4, x_call5, x_call6, x_sl0, x_sli, x_slr, x_sln, x_sll, am_ent, List.map_nil, List.map_cons, List.sum_nil, List.sum_cons, Value.category, and_true, true_and, and_self, Nat.zero_le, List.replicate_succ, List.replicate_zero, List.reduceReplicate, x_obj_set, x_row_set, x_len_set, x_obx, x_rox, x_rv, x_obj hM.1, mo_obj, sat, x_row (show A.2.2 (b + 7) = some (.inl (0, 10, R 7)) from hM.2.2 7 (by decide) (by decide)), ix7, h7, hcn, e1', c1, x_obj m1.1, x_row r1, ixh, h1, c2, ek, ck, x_row r8, e28, x_ix (show 10 * h + 2 * v + k < 20 by omega) (show 10 * h + 2 * v + k < 2147483648 by omega), x_own (show 5 ≤ b + 8 by omega), nI_1]
        exact hY
/-- behind the axes: list, type, two words passed over -/
theorem n_rtail {d b h v nax c : Nat} {A : am_H} {R : Nat → Nat → Int32} {f : mo_F} {D : List Nat} {ro : Bool} {o5 : Option Value} (hh : h < 2) (hv : v < 5) (hnax : nax ≤ 2) (hDb : ∀ i, D.getD i 0 < 256) (hM : MM b A R (sat f c ro)) (hD : MDr R f D) (h7 : R 7 (5 * h + v) = nI nax) (hc4 : c % 4 = 0) (hc : c < 400000) : ∃ B R1 ok a2 t c2 ro2 x, LK h (v + 1) R R1 ∧ MM b B (setR R1 6 (upd (R1 6) (5 * h + v) x)) (sat f c2 ro2) ∧ am_fr (at21 b) A B ∧ pev (d + 3) 255 [some (.ref b), some (.int (nI h)), some (.int (nI v)), some (.int (nI (5 * h + v))), some (.int (nI nax)), o5] [] A = some (some (.int (bz ok)), B) ∧ c2 ≤ c + 140 ∧ (ok = true → MA R1 h (v + 1) a2 ∧ AV a2 ∧ (1 ≤ t ∧ t ≤ 4) ∧ x = nI t ∧ c2 = c + sg_ls a2 + 12) ∧ ∀ a0 ty p q, AV a0 → 1 ≤ ty → ty ≤ 4 → seg D c (im_a a0 ++ wrd ty ++ wrd p ++ wrd q) → ro = false → ok = true ∧ MA R1 h (v + 1) a0 ∧ x = nI ty ∧ ro2 = false ∧ c2 = c + sg_ls a0 + 12 := by
  have hb := hM.2.1
  obtain ⟨B1, R1, ok, a2, c1, ro1, e1, m1, k1, f1, k2, k3, k4⟩ := n_rlist (d := d) (l := v + 1) hh (by omega) hDb hM hD hc4 (by omega)
  have ix7 := x_ix (show 5 * h + v < 10 by omega) (show 5 * h + v < 2147483648 by omega)
  have hle : nI nax ≤ nI nax := nI_le (Nat.le_refl _) (by omega)
  have hD1 : MDr R1 f D := hD.same (k1.1 20 (by omega)) rfl
  have ev1 : nI v + 1 = nI (v + 1) := nI_1 v
  cases ok with
  | false =>
    refine ⟨B1, R1, false, a2, 0, c1, ro1, R1 6 (5 * h + v), k1, ?_, f1, ?_, by omega, fun e => (by cases e), fun a0 ty p q h1 h2 h3 h4 h5 => absurd (k4 a0 h1 (seg_l (seg_l (seg_l h4))) h5).1 (by decide)⟩
    · have e : upd (R1 6) (5 * h + v) (R1 6 (5 * h + v)) = R1 6 := funext fun j => by
        by_cases cj : j = 5 * h + v
        · rw [cj, pk_us]
        · rw [pk_un cj]
      rw [e, setR_same]
      exact m1
    · refine e_255 ?_; simp only [b_255, i_int, i_long, i_null, i_stat, i_iload, i_lload, i_aload, i_istore, i_astore, i_lstore, i_iinc, i_ii, i_idz, i_i, i_ll, i_lsh, i_i2l, i_l2i, i_lcmp, i_dup, i_pop, i_dup2, i_ifeq, i_ifne, i_iflt, i_ifge, i_ifgt, i_ifle, i_cmpeq, i_cmpne, i_cmplt, i_cmpge, i_cmpgt, i_cmple, i_ifnull, i_ifnonnull, i_getf, am_wr, i_putI, i_putZ, i_putR, i_iald, i_iast, i_aald, i_aast, i_alen, i_newi, i_newq, i_new, i_recv, i_iret, i_zret, i_lret, i_aret, i_vret, List.getElem?_cons_zero, List.getElem?_cons_succ, Option.bind_some, Option.toList_some, Option.toList_none, List.cons_append, List.nil_append, x_nI, am_put, am_put2, List.length_cons, List.length_nil, List.set_cons_zero, List.set_cons_succ, Nat.reduceAdd, Nat.reduceLT, Nat.reduceLeDiff, Nat.reduceEqDiff, Nat.add_left_cancel_iff, Nat.add_eq_left, Nat.left_eq_add, Nat.succ_ne_self, Nat.reduceSub, reduceIte, ite_self, eq_self, or_true, true_or, or_false, false_or, or_self, i10, not_true_eq_false, not_false_eq_true, x_call1, x_call2, x_call3, x_call4, x_call5, x_call6, x_sl0, x_sli, x_slr, x_sln, x_sll, am_ent, List.map_nil, List.map_cons, List.sum_nil, List.sum_cons, Value.category, and_true, true_and, and_self, Nat.zero_le, List.replicate_succ, List.replicate_zero, List.reduceReplicate, x_obj_set, x_row_set, x_len_set, x_obx, x_rox, x_rv, x_obj hM.1, mo_obj, sat, x_row (show A.2.2 (b + 7) = some (.inl (0, 10, R 7)) from hM.2.2 7 (by decide) (by decide)), ix7, h7, hle, ev1, e1, bz_false]
      all_goals rfl
  | true =>
    obtain ⟨z1, z2, z3⟩ := k3 rfl
    obtain ⟨B2, e2, m2, f2⟩ := n_read (d := d + 2) (w := 4) (by decide) (by omega) m1 hD1
    have w2 := m2.set (i := 6) (by decide) (by decide) (upd (R1 6) (5 * h + v) (rx D c1 4 ro1))
    obtain ⟨B3, e3, m3, f3⟩ := n_read (d := d + 2) (w := 4) (by decide) (by omega) w2 (hD1.same rfl rfl)
    obtain ⟨B4, e4, m4, f4⟩ := n_read (d := d + 2) (w := 4) (by decide) (by omega) m3 (hD1.same rfl rfl)
    have F4 : am_fr (at21 b) A B4 := ((f1.trans f2).trans ((am_fr.refl B2).set (p := b + 6) ⟨by omega, by omega⟩)).trans (f3.trans f4)
    have r6 : B2.2.2 (b + 6) = some (.inl (0, 10, R1 6)) := m2.2.2 6 (by decide) (by decide)
    have s6 : B4.2.2 (b + 6) = some (.inl (0, 10, upd (R1 6) (5 * h + v) (rx D c1 4 ro1))) := m4.2.2 6 (by decide) (by decide)
    have e2' : pev (d + 2) 244 [some (.ref b), some (.int 4), none, none] [] B1 = some (some (.int (rx D c1 4 ro1)), B2) := e2
    have e3' : pev (d + 2) 244 [some (.ref b), some (.int 4), none, none] [] (am_set B2 (b + 6) (.inl (0, 10, upd (R1 6) (5 * h + v) (rx D c1 4 ro1)))) = some (some (.int (rx D (c1 + 4) 4 (rn D c1 4 ro1))), B3) := e3
    have e4' : pev (d + 2) 244 [some (.ref b), some (.int 4), none, none] [] B3 = some (some (.int (rx D (c1 + 4 + 4) 4 (rn D (c1 + 4) 4 (rn D c1 4 ro1)))), B4) := e4
    have hx : ∀ a0 ty p q, AV a0 → 1 ≤ ty → ty ≤ 4 → seg D c (im_a a0 ++ wrd ty ++ wrd p ++ wrd q) → ro = false → MA R1 h (v + 1) a0 ∧ rx D c1 4 ro1 = nI ty ∧ rn D (c1 + 4 + 4) 4 (rn D (c1 + 4) 4 (rn D c1 4 ro1)) = false ∧ c1 = c + sg_ls a0 := by
      intro a0 ty p q h1 h2 h3 h4 h5
      obtain ⟨j1, j2, j3, j4⟩ := k4 a0 h1 (seg_l (seg_l (seg_l h4))) h5
      have hlen := h4.1
      simp only [List.length_append, im_a_len, wrd_len] at hlen
      have sg := seg_r (seg_l (seg_l h4))
      rw [im_a_len, ← j4] at sg
      subst j3
      refine ⟨j2, ?_, ?_, j4⟩
      · rw [rx_of (by omega)]
        exact rd_wrd sg
      · rw [rn_of (show c1 + 4 ≤ D.length by omega), rn_of (show c1 + 4 + 4 ≤ D.length by omega), rn_of (by omega)]
    by_cases c0 : rx D c1 4 ro1 < 1
    · refine ⟨B4, R1, false, a2, 0, _, _, rx D c1 4 ro1, k1, m4, F4, ?_, by omega, fun e => (by cases e), fun a0 ty p q h1 h2 h3 h4 h5 => ?_⟩
      · refine e_255 ?_; simp only [b_255, i_int, i_long, i_null, i_stat, i_iload, i_lload, i_aload, i_istore, i_astore, i_lstore, i_iinc, i_ii, i_idz, i_i, i_ll, i_lsh, i_i2l, i_l2i, i_lcmp, i_dup, i_pop, i_dup2, i_ifeq, i_ifne, i_iflt, i_ifge, i_ifgt, i_ifle, i_cmpeq, i_cmpne, i_cmplt, i_cmpge, i_cmpgt, i_cmple, i_ifnull, i_ifnonnull, i_getf, am_wr, i_putI, i_putZ, i_putR, i_iald, i_iast, i_aald, i_aast, i_alen, i_newi, i_newq, i_new, i_recv, i_iret, i_zret, i_lret, i_aret, i_vret, List.getElem?_cons_zero, List.getElem?_cons_succ, Option.bind_some, Option.toList_some, Option.toList_none, List.cons_append, List.nil_append, x_nI, am_put, am_put2, List.length_cons, List.length_nil, List.set_cons_zero, List.set_cons_succ, Nat.reduceAdd, Nat.reduceLT, Nat.reduceLeDiff, Nat.reduceEqDiff, Nat.add_left_cancel_iff, Nat.add_eq_left, Nat.left_eq_add, Nat.succ_ne_self, Nat.reduceSub, reduceIte, ite_self, eq_self, or_true, true_or, or_false, false_or, or_self, i10, not_true_eq_false, not_false_eq_true, x_call1, x_call2, x_call3, x_call4, x_call5, x_call6, x_sl0, x_sli, x_slr, x_sln, x_sll, am_ent, List.map_nil, List.map_cons, List.sum_nil, List.sum_cons, Value.category, and_true, true_and, and_self, Nat.zero_le, List.replicate_succ, List.replicate_zero, List.reduceReplicate, x_obj_set, x_row_set, x_len_set, x_obx, x_rox, x_rv, x_obj hM.1, mo_obj, sat, x_row (show A.2.2 (b + 7) = some (.inl (0, 10, R 7)) from hM.2.2 7 (by decide) (by decide)), ix7, h7, hle, ev1, e1, bz_true, x_obj m1.1, e2', x_obj m2.1, x_row r6, x_own (show 5 ≤ b + 6 by omega), e3', x_obj m3.1, e4', x_obj m4.1, x_row s6, pk_us, c0]
        all_goals rfl
      · obtain ⟨-, x2, -, -⟩ := hx a0 ty p q h1 h2 h3 h4 h5
        rw [x2] at c0
        exact absurd c0 (nI_nlt (b := 1) h2 (by omega))
    · by_cases c4 : (4 : Int32) < rx D c1 4 ro1
      · refine ⟨B4, R1, false, a2, 0, _, _, rx D c1 4 ro1, k1, m4, F4, ?_, by omega, fun e => (by cases e), fun a0 ty p q h1 h2 h3 h4 h5 => ?_⟩
        · refine e_255 ?_; simp only [b_255, i_int, i_long, i_null, i_stat, i_iload, i_lload, i_aload, i_istore, i_astore, i_lstore, i_iinc, i_ii, i_idz, i_i, i_ll, i_lsh, i_i2l, i_l2i, i_lcmp, i_dup, i_pop, i_dup2, i_ifeq, i_ifne, i_iflt, i_ifge, i_ifgt, i_ifle, i_cmpeq, i_cmpne, i_cmplt, i_cmpge, i_cmpgt, i_cmple, i_ifnull, i_ifnonnull, i_getf, am_wr, i_putI, i_putZ, i_putR, i_iald, i_iast, i_aald, i_aast, i_alen, i_newi, i_newq, i_new, i_recv, i_iret, i_zret, i_lret, i_aret, i_vret, List.getElem?_cons_zero, List.getElem?_cons_succ, Option.bind_some, Option.toList_some, Option.toList_none, List.cons_append, List.nil_append, x_nI, am_put, am_put2, List.length_cons, List.length_nil, List.set_cons_zero, List.set_cons_succ, Nat.reduceAdd, Nat.reduceLT, Nat.reduceLeDiff, Nat.reduceEqDiff, Nat.add_left_cancel_iff, Nat.add_eq_left, Nat.left_eq_add, Nat.succ_ne_self, Nat.reduceSub, reduceIte, ite_self, eq_self, or_true, true_or, or_false, false_or, or_self, i10, not_true_eq_false, not_false_eq_true, x_call1, x_call2, x_call3, x_call4, x_call5, x_call6, x_sl0, x_sli, x_slr, x_sln, x_sll, am_ent, List.map_nil, List.map_cons, List.sum_nil, List.sum_cons, Value.category, and_true, true_and, and_self, Nat.zero_le, List.replicate_succ, List.replicate_zero, List.reduceReplicate, x_obj_set, x_row_set, x_len_set, x_obx, x_rox, x_rv, x_obj hM.1, mo_obj, sat, x_row (show A.2.2 (b + 7) = some (.inl (0, 10, R 7)) from hM.2.2 7 (by decide) (by decide)), ix7, h7, hle, ev1, e1, bz_true, x_obj m1.1, e2', x_obj m2.1, x_row r6, x_own (show 5 ≤ b + 6 by omega), e3', x_obj m3.1, e4', x_obj m4.1, x_row s6, pk_us, c0, c4]
          all_goals rfl
        · obtain ⟨-, x2, -, -⟩ := hx a0 ty p q h1 h2 h3 h4 h5
          rw [x2] at c4
          exact absurd c4 (nI_nlt (a := 4) h3 (by decide))
      · have cn : ¬ rx D c1 4 ro1 < 0 := fun e => c0 (Int32.lt_trans e (by decide))
        obtain ⟨t, t4, et⟩ := nI_of2 (M := 4) (n := 4) rfl cn (Int32.not_lt.mp c4)
        have t1 : 1 ≤ t := by
          rcases Nat.eq_zero_or_pos t with h0 | h0
          · rw [et, h0] at c0
            exact absurd (by decide) c0
          · exact h0
        refine ⟨B4, R1, true, a2, t, _, _, rx D c1 4 ro1, k1, m4, F4, ?_, by omega, fun _ => ⟨z1, z2, ⟨t1, t4⟩, et, by omega⟩, fun a0 ty p q h1 h2 h3 h4 h5 => ?_⟩
        · refine e_255 ?_; simp only [b_255, i_int, i_long, i_null, i_stat, i_iload, i_lload, i_aload, i_istore, i_astore, i_lstore, i_iinc, i_ii, i_idz, i_i, i_ll, i_lsh, i_i2l, i_l2i, i_lcmp, i_dup, i_pop, i_dup2, i_ifeq, i_ifne, i_iflt, i_ifge, i_ifgt, i_ifle, i_cmpeq, i_cmpne, i_cmplt, i_cmpge, i_cmpgt, i_cmple, i_ifnull, i_ifnonnull, i_getf, am_wr, i_putI, i_putZ, i_putR, i_iald, i_iast, i_aald, i_aast, i_alen, i_newi, i_newq, i_new, i_recv, i_iret, i_zret, i_lret, i_aret, i_vret, List.getElem?_cons_zero, List.getElem?_cons_succ, Option.bind_some, Option.toList_some, Option.toList_none, List.cons_append, List.nil_append, x_nI, am_put, am_put2, List.length_cons, List.length_nil, List.set_cons_zero, List.set_cons_succ, Nat.reduceAdd, Nat.reduceLT, Nat.reduceLeDiff, Nat.reduceEqDiff, Nat.add_left_cancel_iff, Nat.add_eq_left, Nat.left_eq_add, Nat.succ_ne_self, Nat.reduceSub, reduceIte, ite_self, eq_self, or_true, true_or, or_false, false_or, or_self, i10, not_true_eq_false, not_false_eq_true, x_call1, x_call2, x_call3, x_call4, x_call5, x_call6, x_sl0, x_sli, x_slr, x_sln, x_sll, am_ent, List.map_nil, List.map_cons, List.sum_nil, List.sum_cons, Value.category, and_true, true_and, and_self, Nat.zero_le, List.replicate_succ, List.replicate_zero, List.reduceReplicate, x_obj_set, x_row_set, x_len_set, x_obx, x_rox, x_rv, x_obj hM.1, mo_obj, sat, x_row (show A.2.2 (b + 7) = some (.inl (0, 10, R 7)) from hM.2.2 7 (by decide) (by decide)), ix7, h7, hle, ev1, e1, bz_true, x_obj m1.1, e2', x_obj m2.1, x_row r6, x_own (show 5 ≤ b + 6 by omega), e3', x_obj m3.1, e4', x_obj m4.1, x_row s6, pk_us, c0, c4]
          all_goals rfl
        · obtain ⟨y1, y2, y3, y4⟩ := hx a0 ty p q h1 h2 h3 h4 h5
          exact ⟨rfl, y1, y2, y3, by omega⟩
