/-! the reference reads numbers -/
def sat (f : mo_F) (c : Nat) (ro : Bool) : mo_F := (f.1, f.2.1, f.2.2.1, f.2.2.2.1, c, ro)
def rn (D : List Nat) (c w : Nat) (ro : Bool) : Bool := ro || decide (D.length < c + w)
def rx (D : List Nat) (c w : Nat) (ro : Bool) : Int32 := if rn D c w ro = true then 0 else rd D c w
theorem rn_f {D : List Nat} {c w : Nat} {ro : Bool} (h : rn D c w ro = false) : ro = false ∧ c + w ≤ D.length := by
  unfold rn at h
  rw [Bool.or_eq_false_iff, decide_eq_false_iff_not] at h
  exact ⟨h.1, by omega⟩
theorem rn_of {D : List Nat} {c w : Nat} (h : c + w ≤ D.length) : rn D c w false = false := by
  unfold rn
  simp
  omega
theorem rx_of {D : List Nat} {c w : Nat} (h : c + w ≤ D.length) : rx D c w false = rd D c w := by
  unfold rx
  rw [rn_of h]
  rfl
theorem rn_rn (D : List Nat) (c w z : Nat) (ro : Bool) : rn D (c + w) z (rn D c w ro) = rn D c (w + z) ro := by
  unfold rn
  rw [Bool.or_assoc]
  congr 1
  rw [Bool.eq_iff_iff, Bool.or_eq_true, decide_eq_true_eq, decide_eq_true_eq, decide_eq_true_eq]
  omega
theorem n_read33 {d b c w : Nat} {R : Nat → Nat → Int32} {f : mo_F} {D : List Nat} {ro : Bool} (hw : w ≤ 4) (hc : c < 1000000) (hD : MDr R f D) (hro : ro = false → c + w ≤ D.length) : ∀ (m k : Nat), k + m = w → ∀ {A : am_H}, MM b A R (sat f c ro) → ∃ B, pev d 245 [some (.ref b), some (.int (nI w)), some (.int (if ro = true then 0 else rd D c k)), some (.int (nI k))] [] A = some (some (.int (if ro = true then 0 else rd D c w)), B) ∧ MM b B R (sat f (c + w) ro) ∧ am_fr (at21 b) A B := by
  intro m
  induction m with
  | zero =>
    intro k hk A hM
    have hkw : k = w := by omega
    subst hkw
    have hb := hM.2.1
    refine ⟨_, ?_, hM.obj (sat f (c + k) ro), (am_fr.refl A).set ⟨by omega, by omega⟩⟩
    refine e_245 ?_; simp only [b_245, i_int, i_long, i_null, i_stat, i_iload, i_lload, i_aload, i_istore, i_astore, i_lstore, i_iinc, i_ii, i_idz, i_i, i_ll, i_lsh, i_i2l, i_l2i, i_lcmp, i_dup, i_pop, i_dup2, i_ifeq, i_ifne, i_iflt, i_ifge, i_ifgt, i_ifle, i_cmpeq, i_cmpne, i_cmplt, i_cmpge, i_cmpgt, i_cmple, i_ifnull, i_ifnonnull, i_getf, am_wr, i_putI, i_putZ, i_putR, i_iald, i_iast, i_aald, i_aast, i_alen, i_newi, i_newq, i_new, i_recv, i_iret, i_zret, i_lret, i_aret, i_vret, List.getElem?_cons_zero, List.getElem?_cons_succ, Option.bind_some, Option.toList_some, Option.toList_none, List.cons_append, List.nil_append, x_nI, am_put, am_put2, List.length_cons, List.length_nil, List.set_cons_zero, List.set_cons_succ, Nat.reduceAdd, Nat.reduceLT, Nat.reduceLeDiff, Nat.reduceEqDiff, Nat.add_left_cancel_iff, Nat.add_eq_left, Nat.left_eq_add, Nat.succ_ne_self, Nat.reduceSub, reduceIte, ite_self, eq_self, or_true, true_or, or_false, false_or, or_self, i10, not_true_eq_false, not_false_eq_true, x_call1, x_call2, x_call3, x_call4, x_call5, x_call6, x_sl0, x_sli, x_slr, x_sln, x_sll, am_ent, List.map_nil, List.map_cons, List.sum_nil, List.sum_cons, Value.category, and_true, true_and, and_self, Nat.zero_le, List.replicate_succ, List.replicate_zero, List.reduceReplicate, x_obj_set, x_row_set, x_len_set, x_obx, x_rox, x_rv, show nI k ≤ nI k from nI_le (Nat.le_refl _) (by omega), x_obj hM.1, mo_obj, sat, nI_add, x_own hb]
    all_goals rfl
  | succ m ih =>
    intro k hk A hM
    have hcn : ¬ nI w ≤ nI k := nI_ge (by omega) (by omega)
    obtain ⟨B, e1, r⟩ := ih (k + 1) (by omega) hM
    refine ⟨B, ?_, r⟩
    cases ro with
    | true =>
      simp only [if_true] at e1 ⊢
      refine e_245 ?_; simp only [b_245, i_int, i_long, i_null, i_stat, i_iload, i_lload, i_aload, i_istore, i_astore, i_lstore, i_iinc, i_ii, i_idz, i_i, i_ll, i_lsh, i_i2l, i_l2i, i_lcmp, i_dup, i_pop, i_dup2, i_ifeq, i_ifne, i_iflt, i_ifge, i_ifgt, i_ifle, i_cmpeq, i_cmpne, i_cmplt, i_cmpge, i_cmpgt, i_cmple, i_ifnull, i_ifnonnull, i_getf, am_wr, i_putI, i_putZ, i_putR, i_iald, i_iast, i_aald, i_aast, i_alen, i_newi, i_newq, i_new, i_recv, i_iret, i_zret, i_lret, i_aret, i_vret, List.getElem?_cons_zero, List.getElem?_cons_succ, Option.bind_some, Option.toList_some, Option.toList_none, List.cons_append, List.nil_append, x_nI, am_put, am_put2, List.length_cons, List.length_nil, List.set_cons_zero, List.set_cons_succ, Nat.reduceAdd, Nat.reduceLT, Nat.reduceLeDiff, Nat.reduceEqDiff, Nat.add_left_cancel_iff, Nat.add_eq_left, Nat.left_eq_add, Nat.succ_ne_self, Nat.reduceSub, reduceIte, ite_self, eq_self, or_true, true_or, or_false, false_or, or_self, i10, not_true_eq_false, not_false_eq_true, x_call1, x_call2, x_call3, x_call4, x_call5, x_call6, x_sl0, x_sli, x_slr, x_sln, x_sll, am_ent, List.map_nil, List.map_cons, List.sum_nil, List.sum_cons, Value.category, and_true, true_and, and_self, Nat.zero_le, List.replicate_succ, List.replicate_zero, List.reduceReplicate, x_obj_set, x_row_set, x_len_set, x_obx, x_rox, x_rv, hcn, x_obj hM.1, mo_obj, sat, bz_true, nI_1, show (0 : Int32) <<< ((8 : Int32) &&& 31) ||| 0 = 0 by decide]
      exact e1
    | false =>
      have hl := hro rfl
      have h8 := hD.2.1
      have hv := hD.2.2 (c + k) (by omega)
      simp only [Bool.false_eq_true, if_false] at e1 ⊢
      rw [rd] at e1
      refine e_245 ?_; simp only [b_245, i_int, i_long, i_null, i_stat, i_iload, i_lload, i_aload, i_istore, i_astore, i_lstore, i_iinc, i_ii, i_idz, i_i, i_ll, i_lsh, i_i2l, i_l2i, i_lcmp, i_dup, i_pop, i_dup2, i_ifeq, i_ifne, i_iflt, i_ifge, i_ifgt, i_ifle, i_cmpeq, i_cmpne, i_cmplt, i_cmpge, i_cmpgt, i_cmple, i_ifnull, i_ifnonnull, i_getf, am_wr, i_putI, i_putZ, i_putR, i_iald, i_iast, i_aald, i_aast, i_alen, i_newi, i_newq, i_new, i_recv, i_iret, i_zret, i_lret, i_aret, i_vret, List.getElem?_cons_zero, List.getElem?_cons_succ, Option.bind_some, Option.toList_some, Option.toList_none, List.cons_append, List.nil_append, x_nI, am_put, am_put2, List.length_cons, List.length_nil, List.set_cons_zero, List.set_cons_succ, Nat.reduceAdd, Nat.reduceLT, Nat.reduceLeDiff, Nat.reduceEqDiff, Nat.add_left_cancel_iff, Nat.add_eq_left, Nat.left_eq_add, Nat.succ_ne_self, Nat.reduceSub, reduceIte, ite_self, eq_self, or_true, true_or, or_false, false_or, or_self, i10, not_true_eq_false, not_false_eq_true, x_call1, x_call2, x_call3, x_call4, x_call5, x_call6, x_sl0, x_sli, x_slr, x_sln, x_sll, am_ent, List.map_nil, List.map_cons, List.sum_nil, List.sum_cons, Value.category, and_true, true_and, and_self, Nat.zero_le, List.replicate_succ, List.replicate_zero, List.reduceReplicate, x_obj_set, x_row_set, x_len_set, x_obx, x_rox, x_rv, hcn, x_obj hM.1, mo_obj, sat, bz_false, x_row (show A.2.2 (b + 20) = some (.inl (0, 800, R 20)) from hM.2.2 20 (by decide) (by decide)), nI_add, x_ix (show c + k < 800 by omega) (show c + k < 2147483648 by omega), hv, nI_1]
      exact e1
theorem MDr.sat {R : Nat → Nat → Int32} {f : mo_F} {D : List Nat} (h : MDr R f D) (c : Nat) (ro : Bool) : MDr R (sat f c ro) D := h
theorem n_read {d b c w : Nat} {A : am_H} {R : Nat → Nat → Int32} {f : mo_F} {D : List Nat} {ro : Bool} (hw : w ≤ 4) (hc : c < 900000) (hM : MM b A R (sat f c ro)) (hD : MDr R f D) : ∃ B, pev d 244 [some (.ref b), some (.int (nI w)), none, none] [] A = some (some (.int (rx D c w ro)), B) ∧ MM b B R (sat f (c + w) (rn D c w ro)) ∧ am_fr (at21 b) A B := by
  have hb := hM.2.1
  have h8 := hD.2.1
  have h1 := hD.1
  have m1 := hM.obj (sat f c (rn D c w ro))
  obtain ⟨B, e1, mB, fB⟩ := n_read33 (d := d) (b := b) hw (by omega) hD (fun e => (rn_f e).2) w 0 (by omega) m1
  refine ⟨B, ?_, mB, ((am_fr.refl A).set ⟨by omega, by omega⟩).trans fB⟩
  have e0 : (if rn D c w ro = true then (0 : Int32) else rd D c 0) = 0 := by
    split <;> rfl
  rw [e0] at e1
  have ec : (nI (c + w) ≤ nI f.2.2.2.1) = (c + w ≤ D.length) := by rw [h1]; exact o_le (by omega) (by omega)
  cases ro with
  | true =>
    refine e_244 ?_; simp only [b_244, i_int, i_long, i_null, i_stat, i_iload, i_lload, i_aload, i_istore, i_astore, i_lstore, i_iinc, i_ii, i_idz, i_i, i_ll, i_lsh, i_i2l, i_l2i, i_lcmp, i_dup, i_pop, i_dup2, i_ifeq, i_ifne, i_iflt, i_ifge, i_ifgt, i_ifle, i_cmpeq, i_cmpne, i_cmplt, i_cmpge, i_cmpgt, i_cmple, i_ifnull, i_ifnonnull, i_getf, am_wr, i_putI, i_putZ, i_putR, i_iald, i_iast, i_aald, i_aast, i_alen, i_newi, i_newq, i_new, i_recv, i_iret, i_zret, i_lret, i_aret, i_vret, List.getElem?_cons_zero, List.getElem?_cons_succ, Option.bind_some, Option.toList_some, Option.toList_none, List.cons_append, List.nil_append, x_nI, am_put, am_put2, List.length_cons, List.length_nil, List.set_cons_zero, List.set_cons_succ, Nat.reduceAdd, Nat.reduceLT, Nat.reduceLeDiff, Nat.reduceEqDiff, Nat.add_left_cancel_iff, Nat.add_eq_left, Nat.left_eq_add, Nat.succ_ne_self, Nat.reduceSub, reduceIte, ite_self, eq_self, or_true, true_or, or_false, false_or, or_self, i10, not_true_eq_false, not_false_eq_true, x_call1, x_call2, x_call3, x_call4, x_call5, x_call6, x_sl0, x_sli, x_slr, x_sln, x_sll, am_ent, List.map_nil, List.map_cons, List.sum_nil, List.sum_cons, Value.category, and_true, true_and, and_self, Nat.zero_le, List.replicate_succ, List.replicate_zero, List.reduceReplicate, x_obj_set, x_row_set, x_len_set, x_obx, x_rox, x_rv, x_obj hM.1, mo_obj, sat, bz_true, x_own hb]
    exact e1
  | false =>
    by_cases c0 : c + w ≤ D.length
    · rw [rn_of c0] at e1
      unfold rx
      rw [rn_of c0]
      refine e_244 ?_; simp only [b_244, i_int, i_long, i_null, i_stat, i_iload, i_lload, i_aload, i_istore, i_astore, i_lstore, i_iinc, i_ii, i_idz, i_i, i_ll, i_lsh, i_i2l, i_l2i, i_lcmp, i_dup, i_pop, i_dup2, i_ifeq, i_ifne, i_iflt, i_ifge, i_ifgt, i_ifle, i_cmpeq, i_cmpne, i_cmplt, i_cmpge, i_cmpgt, i_cmple, i_ifnull, i_ifnonnull, i_getf, am_wr, i_putI, i_putZ, i_putR, i_iald, i_iast, i_aald, i_aast, i_alen, i_newi, i_newq, i_new, i_recv, i_iret, i_zret, i_lret, i_aret, i_vret, List.getElem?_cons_zero, List.getElem?_cons_succ, Option.bind_some, Option.toList_some, Option.toList_none, List.cons_append, List.nil_append, x_nI, am_put, am_put2, List.length_cons, List.length_nil, List.set_cons_zero, List.set_cons_succ, Nat.reduceAdd, Nat.reduceLT, Nat.reduceLeDiff, Nat.reduceEqDiff, Nat.add_left_cancel_iff, Nat.add_eq_left, Nat.left_eq_add, Nat.succ_ne_self, Nat.reduceSub, reduceIte, ite_self, eq_self, or_true, true_or, or_false, false_or, or_self, i10, not_true_eq_false, not_false_eq_true, x_call1, x_call2, x_call3, x_call4, x_call5, x_call6, x_sl0, x_sli, x_slr, x_sln, x_sll, am_ent, List.map_nil, List.map_cons, List.sum_nil, List.sum_cons, Value.category, and_true, true_and, and_self, Nat.zero_le, List.replicate_succ, List.replicate_zero, List.reduceReplicate, x_obj_set, x_row_set, x_len_set, x_obx, x_rox, x_rv, x_obj hM.1, mo_obj, sat, bz_false, nI_add, ec, c0, x_own hb]
      exact e1
    · have hr : rn D c w false = true := by unfold rn; simp; omega
      rw [hr] at e1
      unfold rx
      rw [hr]
      refine e_244 ?_; simp only [b_244, i_int, i_long, i_null, i_stat, i_iload, i_lload, i_aload, i_istore, i_astore, i_lstore, i_iinc, i_ii, i_idz, i_i, i_ll, i_lsh, i_i2l, i_l2i, i_lcmp, i_dup, i_pop, i_dup2, i_ifeq, i_ifne, i_iflt, i_ifge, i_ifgt, i_ifle, i_cmpeq, i_cmpne, i_cmplt, i_cmpge, i_cmpgt, i_cmple, i_ifnull, i_ifnonnull, i_getf, am_wr, i_putI, i_putZ, i_putR, i_iald, i_iast, i_aald, i_aast, i_alen, i_newi, i_newq, i_new, i_recv, i_iret, i_zret, i_lret, i_aret, i_vret, List.getElem?_cons_zero, List.getElem?_cons_succ, Option.bind_some, Option.toList_some, Option.toList_none, List.cons_append, List.nil_append, x_nI, am_put, am_put2, List.length_cons, List.length_nil, List.set_cons_zero, List.set_cons_succ, Nat.reduceAdd, Nat.reduceLT, Nat.reduceLeDiff, Nat.reduceEqDiff, Nat.add_left_cancel_iff, Nat.add_eq_left, Nat.left_eq_add, Nat.succ_ne_self, Nat.reduceSub, reduceIte, ite_self, eq_self, or_true, true_or, or_false, false_or, or_self, i10, not_true_eq_false, not_false_eq_true, x_call1, x_call2, x_call3, x_call4, x_call5, x_call6, x_sl0, x_sli, x_slr, x_sln, x_sll, am_ent, List.map_nil, List.map_cons, List.sum_nil, List.sum_cons, Value.category, and_true, true_and, and_self, Nat.zero_le, List.replicate_succ, List.replicate_zero, List.reduceReplicate, x_obj_set, x_row_set, x_len_set, x_obx, x_rox, x_rv, x_obj hM.1, mo_obj, sat, bz_false, nI_add, ec, c0, x_own hb]
      exact e1
theorem n_readOf {d b c t : Nat} {A : am_H} {R : Nat → Nat → Int32} {f : mo_F} {D : List Nat} {ro : Bool} (h1 : 1 ≤ t) (h4 : t ≤ 4) (hc : c < 900000) (hM : MM b A R (sat f c ro)) (hD : MDr R f D) : ∃ B, pev (d + 1) 253 [some (.ref b), some (.int (nI t)), none] [] A = some (some (.int (vof t (rx D c (wd t) ro))), B) ∧ MM b B R (sat f (c + wd t) (rn D c (wd t) ro)) ∧ am_fr (at21 b) A B := by
  obtain ⟨B, e1, mB, fB⟩ := n_read (d := d) (w := wd t) (wd_le t) hc hM hD
  refine ⟨B, ?_, mB, fB⟩
  have e0 : (nI t = (1 : Int32)) = (t = 1) := o_eq (b := 1) (by omega) (by decide)
  have e3 : (nI t = (3 : Int32)) = (t = 3) := o_eq (b := 3) (by omega) (by decide)
  refine e_253 ?_; simp only [b_253, i_int, i_long, i_null, i_stat, i_iload, i_lload, i_aload, i_istore, i_astore, i_lstore, i_iinc, i_ii, i_idz, i_i, i_ll, i_lsh, i_i2l, i_l2i, i_lcmp, i_dup, i_pop, i_dup2, i_ifeq, i_ifne, i_iflt, i_ifge, i_ifgt, i_ifle, i_cmpeq, i_cmpne, i_cmplt, i_cmpge, i_cmpgt, i_cmple, i_ifnull, i_ifnonnull, i_getf, am_wr, i_putI, i_putZ, i_putR, i_iald, i_iast, i_aald, i_aast, i_alen, i_newi, i_newq, i_new, i_recv, i_iret, i_zret, i_lret, i_aret, i_vret, List.getElem?_cons_zero, List.getElem?_cons_succ, Option.bind_some, Option.toList_some, Option.toList_none, List.cons_append, List.nil_append, x_nI, am_put, am_put2, List.length_cons, List.length_nil, List.set_cons_zero, List.set_cons_succ, Nat.reduceAdd, Nat.reduceLT, Nat.reduceLeDiff, Nat.reduceEqDiff, Nat.add_left_cancel_iff, Nat.add_eq_left, Nat.left_eq_add, Nat.succ_ne_self, Nat.reduceSub, reduceIte, ite_self, eq_self, or_true, true_or, or_false, false_or, or_self, i10, not_true_eq_false, not_false_eq_true, x_call1, x_call2, x_call3, x_call4, x_call5, x_call6, x_sl0, x_sli, x_slr, x_sln, x_sll, am_ent, List.map_nil, List.map_cons, List.sum_nil, List.sum_cons, Value.category, and_true, true_and, and_self, Nat.zero_le, List.replicate_succ, List.replicate_zero, List.reduceReplicate, x_obj_set, x_row_set, x_len_set, x_obx, x_rox, x_rv, n_bytes (show t < 1000 by omega), x_obj hM.1, e1, e0, e3]
  unfold vof
  by_cases g1 : t = 1
  · simp [g1]
  · by_cases g3 : t = 3
    · simp [g3]
    · simp [g1, g3]
/-- the name of eight bytes at c -/
def nx (D : List Nat) (c : Nat) (ro : Bool) : Int32 := if rn D c 8 ro = true then 0 else nmr (rd D (c + 4) 4)
theorem n_readName {d b c : Nat} {A : am_H} {R : Nat → Nat → Int32} {f : mo_F} {D : List Nat} {ro : Bool} (hc : c < 800000) (hM : MM b A R (sat f c ro)) (hD : MDr R f D) : ∃ B, pev (d + 1) 249 [some (.ref b)] [] A = some (some (.int (nx D c ro)), B) ∧ MM b B R (sat f (c + 8) (rn D c 8 ro)) ∧ am_fr (at21 b) A B := by
  obtain ⟨B1, e1, m1, f1⟩ := n_read (d := d) (w := 4) (by decide) (by omega) hM hD
  obtain ⟨B2, e2, m2, f2⟩ := n_read (d := d) (w := 4) (by decide) (by omega) m1 hD
  rw [rn_rn] at m2
  refine ⟨B2, ?_, m2, f1.trans f2⟩
  have e3 : (rx D (c + 4) 4 (rn D c 4 ro) >>> ((24 : Int32) &&& 31)) &&& 255 = nx D c ro := by
    rw [nmr_eq]
    unfold rx nx
    rw [rn_rn]
    split
    · decide
    · rfl
  refine e_249 ?_; simp only [b_249, i_int, i_long, i_null, i_stat, i_iload, i_lload, i_aload, i_istore, i_astore, i_lstore, i_iinc, i_ii, i_idz, i_i, i_ll, i_lsh, i_i2l, i_l2i, i_lcmp, i_dup, i_pop, i_dup2, i_ifeq, i_ifne, i_iflt, i_ifge, i_ifgt, i_ifle, i_cmpeq, i_cmpne, i_cmplt, i_cmpge, i_cmpgt, i_cmple, i_ifnull, i_ifnonnull, i_getf, am_wr, i_putI, i_putZ, i_putR, i_iald, i_iast, i_aald, i_aast, i_alen, i_newi, i_newq, i_new, i_recv, i_iret, i_zret, i_lret, i_aret, i_vret, List.getElem?_cons_zero, List.getElem?_cons_succ, Option.bind_some, Option.toList_some, Option.toList_none, List.cons_append, List.nil_append, x_nI, am_put, am_put2, List.length_cons, List.length_nil, List.set_cons_zero, List.set_cons_succ, Nat.reduceAdd, Nat.reduceLT, Nat.reduceLeDiff, Nat.reduceEqDiff, Nat.add_left_cancel_iff, Nat.add_eq_left, Nat.left_eq_add, Nat.succ_ne_self, Nat.reduceSub, reduceIte, ite_self, eq_self, or_true, true_or, or_false, false_or, or_self, i10, not_true_eq_false, not_false_eq_true, x_call1, x_call2, x_call3, x_call4, x_call5, x_call6, x_sl0, x_sli, x_slr, x_sln, x_sll, am_ent, List.map_nil, List.map_cons, List.sum_nil, List.sum_cons, Value.category, and_true, true_and, and_self, Nat.zero_le, List.replicate_succ, List.replicate_zero, List.reduceReplicate, x_obj_set, x_row_set, x_len_set, x_obx, x_rox, x_rv, x_obj hM.1, show (4 : Int32) = nI 4 from rfl, e1, x_obj m1.1, e2, e3]
theorem n_readCount {d b c mo : Nat} {A : am_H} {R : Nat → Nat → Int32} {f : mo_F} {D : List Nat} {ro : Bool} (hm : mo < 1000) (hc : c < 800000) (hM : MM b A R (sat f c ro)) (hD : MDr R f D) : ∃ B v, pev (d + 1) 248 [some (.ref b), some (.int (nI mo)), none] [] A = some (some (.int v), B) ∧ MM b B R (sat f (c + 8) (rn D c 8 ro)) ∧ am_fr (at21 b) A B ∧ ((v = -1 ∧ (rn D c 8 ro = false → ∀ n, n ≤ mo → rd D (c + 4) 4 ≠ nI n)) ∨ ∃ n, n ≤ mo ∧ v = nI n ∧ rn D c 8 ro = false ∧ rd D (c + 4) 4 = nI n) := by
  obtain ⟨B1, e1, m1, f1⟩ := n_read (d := d) (w := 4) (by decide) (by omega) hM hD
  obtain ⟨B2, e2, m2, f2⟩ := n_read (d := d) (w := 4) (by decide) (by omega) m1 hD
  rw [rn_rn] at m2
  cases hr : rn D c 8 ro with
  | true =>
    refine ⟨B2, -1, ?_, by rw [← hr]; exact m2, f1.trans f2, Or.inl ⟨rfl, fun e => (by cases e)⟩⟩
    have hr8 : rn D c (4 + 4) ro = true := hr
    refine e_248 ?_; simp only [b_248, i_int, i_long, i_null, i_stat, i_iload, i_lload, i_aload, i_istore, i_astore, i_lstore, i_iinc, i_ii, i_idz, i_i, i_ll, i_lsh, i_i2l, i_l2i, i_lcmp, i_dup, i_pop, i_dup2, i_ifeq, i_ifne, i_iflt, i_ifge, i_ifgt, i_ifle, i_cmpeq, i_cmpne, i_cmplt, i_cmpge, i_cmpgt, i_cmple, i_ifnull, i_ifnonnull, i_getf, am_wr, i_putI, i_putZ, i_putR, i_iald, i_iast, i_aald, i_aast, i_alen, i_newi, i_newq, i_new, i_recv, i_iret, i_zret, i_lret, i_aret, i_vret, List.getElem?_cons_zero, List.getElem?_cons_succ, Option.bind_some, Option.toList_some, Option.toList_none, List.cons_append, List.nil_append, x_nI, am_put, am_put2, List.length_cons, List.length_nil, List.set_cons_zero, List.set_cons_succ, Nat.reduceAdd, Nat.reduceLT, Nat.reduceLeDiff, Nat.reduceEqDiff, Nat.add_left_cancel_iff, Nat.add_eq_left, Nat.left_eq_add, Nat.succ_ne_self, Nat.reduceSub, reduceIte, ite_self, eq_self, or_true, true_or, or_false, false_or, or_self, i10, not_true_eq_false, not_false_eq_true, x_call1, x_call2, x_call3, x_call4, x_call5, x_call6, x_sl0, x_sli, x_slr, x_sln, x_sll, am_ent, List.map_nil, List.map_cons, List.sum_nil, List.sum_cons, Value.category, and_true, true_and, and_self, Nat.zero_le, List.replicate_succ, List.replicate_zero, List.reduceReplicate, x_obj_set, x_row_set, x_len_set, x_obx, x_rox, x_rv, x_obj hM.1, show (4 : Int32) = nI 4 from rfl, e1, x_obj m1.1, e2, x_obj m2.1, mo_obj, sat, hr8, bz_true]
  | false =>
    have hr8 : rn D c (4 + 4) ro = false := hr
    have ev : rx D (c + 4) 4 (rn D c 4 ro) = rd D (c + 4) 4 := by
      unfold rx
      rw [rn_rn, hr8]
      rfl
    rw [ev] at e2
    by_cases c1 : rd D (c + 4) 4 < 0
    · refine ⟨B2, -1, ?_, by rw [← hr]; exact m2, f1.trans f2, Or.inl ⟨rfl, fun _ n hn e => ?_⟩⟩
      · refine e_248 ?_; simp only [b_248, i_int, i_long, i_null, i_stat, i_iload, i_lload, i_aload, i_istore, i_astore, i_lstore, i_iinc, i_ii, i_idz, i_i, i_ll, i_lsh, i_i2l, i_l2i, i_lcmp, i_dup, i_pop, i_dup2, i_ifeq, i_ifne, i_iflt, i_ifge, i_ifgt, i_ifle, i_cmpeq, i_cmpne, i_cmplt, i_cmpge, i_cmpgt, i_cmple, i_ifnull, i_ifnonnull, i_getf, am_wr, i_putI, i_putZ, i_putR, i_iald, i_iast, i_aald, i_aast, i_alen, i_newi, i_newq, i_new, i_recv, i_iret, i_zret, i_lret, i_aret, i_vret, List.getElem?_cons_zero, List.getElem?_cons_succ, Option.bind_some, Option.toList_some, Option.toList_none, List.cons_append, List.nil_append, x_nI, am_put, am_put2, List.length_cons, List.length_nil, List.set_cons_zero, List.set_cons_succ, Nat.reduceAdd, Nat.reduceLT, Nat.reduceLeDiff, Nat.reduceEqDiff, Nat.add_left_cancel_iff, Nat.add_eq_left, Nat.left_eq_add, Nat.succ_ne_self, Nat.reduceSub, reduceIte, ite_self, eq_self, or_true, true_or, or_false, false_or, or_self, i10, not_true_eq_false, not_false_eq_true, x_call1, x_call2, x_call3, x_call4, x_call5, x_call6, x_sl0, x_sli, x_slr, x_sln, x_sll, am_ent, List.map_nil, List.map_cons, List.sum_nil, List.sum_cons, Value.category, and_true, true_and, and_self, Nat.zero_le, List.replicate_succ, List.replicate_zero, List.reduceReplicate, x_obj_set, x_row_set, x_len_set, x_obx, x_rox, x_rv, x_obj hM.1, show (4 : Int32) = nI 4 from rfl, e1, x_obj m1.1, e2, x_obj m2.1, mo_obj, sat, hr8, bz_false, c1]
      · rw [e] at c1
        exact nI_pos (by omega) c1
    · by_cases c2 : rd D (c + 4) 4 ≤ nI mo
      · obtain ⟨n, hn, en⟩ := nI_of2 (M := nI mo) (n := mo) (nI_toInt (by omega)) c1 c2
        refine ⟨B2, rd D (c + 4) 4, ?_, by rw [← hr]; exact m2, f1.trans f2, Or.inr ⟨n, hn, en, rfl, en⟩⟩
        refine e_248 ?_; simp only [b_248, i_int, i_long, i_null, i_stat, i_iload, i_lload, i_aload, i_istore, i_astore, i_lstore, i_iinc, i_ii, i_idz, i_i, i_ll, i_lsh, i_i2l, i_l2i, i_lcmp, i_dup, i_pop, i_dup2, i_ifeq, i_ifne, i_iflt, i_ifge, i_ifgt, i_ifle, i_cmpeq, i_cmpne, i_cmplt, i_cmpge, i_cmpgt, i_cmple, i_ifnull, i_ifnonnull, i_getf, am_wr, i_putI, i_putZ, i_putR, i_iald, i_iast, i_aald, i_aast, i_alen, i_newi, i_newq, i_new, i_recv, i_iret, i_zret, i_lret, i_aret, i_vret, List.getElem?_cons_zero, List.getElem?_cons_succ, Option.bind_some, Option.toList_some, Option.toList_none, List.cons_append, List.nil_append, x_nI, am_put, am_put2, List.length_cons, List.length_nil, List.set_cons_zero, List.set_cons_succ, Nat.reduceAdd, Nat.reduceLT, Nat.reduceLeDiff, Nat.reduceEqDiff, Nat.add_left_cancel_iff, Nat.add_eq_left, Nat.left_eq_add, Nat.succ_ne_self, Nat.reduceSub, reduceIte, ite_self, eq_self, or_true, true_or, or_false, false_or, or_self, i10, not_true_eq_false, not_false_eq_true, x_call1, x_call2, x_call3, x_call4, x_call5, x_call6, x_sl0, x_sli, x_slr, x_sln, x_sll, am_ent, List.map_nil, List.map_cons, List.sum_nil, List.sum_cons, Value.category, and_true, true_and, and_self, Nat.zero_le, List.replicate_succ, List.replicate_zero, List.reduceReplicate, x_obj_set, x_row_set, x_len_set, x_obx, x_rox, x_rv, x_obj hM.1, show (4 : Int32) = nI 4 from rfl, e1, x_obj m1.1, e2, x_obj m2.1, mo_obj, sat, hr8, bz_false, c1, c2]
      · refine ⟨B2, -1, ?_, by rw [← hr]; exact m2, f1.trans f2, Or.inl ⟨rfl, fun _ n hn e => ?_⟩⟩
        · refine e_248 ?_; simp only [b_248, i_int, i_long, i_null, i_stat, i_iload, i_lload, i_aload, i_istore, i_astore, i_lstore, i_iinc, i_ii, i_idz, i_i, i_ll, i_lsh, i_i2l, i_l2i, i_lcmp, i_dup, i_pop, i_dup2, i_ifeq, i_ifne, i_iflt, i_ifge, i_ifgt, i_ifle, i_cmpeq, i_cmpne, i_cmplt, i_cmpge, i_cmpgt, i_cmple, i_ifnull, i_ifnonnull, i_getf, am_wr, i_putI, i_putZ, i_putR, i_iald, i_iast, i_aald, i_aast, i_alen, i_newi, i_newq, i_new, i_recv, i_iret, i_zret, i_lret, i_aret, i_vret, List.getElem?_cons_zero, List.getElem?_cons_succ, Option.bind_some, Option.toList_some, Option.toList_none, List.cons_append, List.nil_append, x_nI, am_put, am_put2, List.length_cons, List.length_nil, List.set_cons_zero, List.set_cons_succ, Nat.reduceAdd, Nat.reduceLT, Nat.reduceLeDiff, Nat.reduceEqDiff, Nat.add_left_cancel_iff, Nat.add_eq_left, Nat.left_eq_add, Nat.succ_ne_self, Nat.reduceSub, reduceIte, ite_self, eq_self, or_true, true_or, or_false, false_or, or_self, i10, not_true_eq_false, not_false_eq_true, x_call1, x_call2, x_call3, x_call4, x_call5, x_call6, x_sl0, x_sli, x_slr, x_sln, x_sll, am_ent, List.map_nil, List.map_cons, List.sum_nil, List.sum_cons, Value.category, and_true, true_and, and_self, Nat.zero_le, List.replicate_succ, List.replicate_zero, List.reduceReplicate, x_obj_set, x_row_set, x_len_set, x_obx, x_rox, x_rv, x_obj hM.1, show (4 : Int32) = nI 4 from rfl, e1, x_obj m1.1, e2, x_obj m2.1, mo_obj, sat, hr8, bz_false, c1, c2]
        · rw [e] at c2
          exact c2 (nI_le hn (by omega))
/-! the half that stands is kept -/
def KH (g : Nat) (R S : Nat → Nat → Int32) : Prop := (∀ i, 1 ≤ i → i ≤ 15 → ∀ j, g * (msz i / 2) ≤ j → j < g * (msz i / 2) + msz i / 2 → S i j = R i j) ∧ ∀ i, 16 ≤ i → S i = R i
theorem KH.refl (g : Nat) (R : Nat → Nat → Int32) : KH g R R := ⟨fun _ _ _ _ _ _ => rfl, fun _ _ => rfl⟩
theorem KH.trans {g : Nat} {R S T : Nat → Nat → Int32} (h1 : KH g R S) (h2 : KH g S T) : KH g R T := ⟨fun i i1 i2 j j1 j2 => (h2.1 i i1 i2 j j1 j2).trans (h1.1 i i1 i2 j j1 j2), fun i hi => (h2.2 i hi).trans (h1.2 i hi)⟩
theorem KH.upd {g i j : Nat} {R S : Nat → Nat → Int32} (x : Int32) (h : KH g R S) (i1 : 1 ≤ i) (i2 : i ≤ 15) (hj : j < g * (msz i / 2) ∨ g * (msz i / 2) + msz i / 2 ≤ j) : KH g R (setR S i (upd (S i) j x)) := by
  refine ⟨fun k k1 k2 l l1 l2 => ?_, fun k hk => by rw [setR_ne (by omega)]; exact h.2 k hk⟩
  by_cases c : k = i
  · subst c
    rw [setR_self, pk_un (by omega)]
    exact h.1 k k1 k2 l l1 l2
  · rw [setR_ne c]
    exact h.1 k k1 k2 l l1 l2
theorem MA.half {g l : Nat} {R S : Nat → Nat → Int32} {a : sg_A} (h : MA R g l a) (hk : KH g R S) (hl : l < 6) : MA S g l a := by
  obtain ⟨h1, h2, h3⟩ := h
  refine ⟨h1, ?_, fun k hk2 => ?_⟩
  · rw [hk.1 9 (by decide) (by decide) (6 * g + l) (by show g * 6 ≤ _; omega) (by show _ < g * 6 + 6; omega)]
    exact h2
  · have e : ∀ i, 10 ≤ i → i ≤ 13 → S i (18 * g + 3 * l + k) = R i (18 * g + 3 * l + k) := fun i i1 i2 => by
      have em : msz i / 2 = 18 := by
        rcases (show i = 10 ∨ i = 11 ∨ i = 12 ∨ i = 13 by omega) with rfl | rfl | rfl | rfl <;> rfl
      exact hk.1 i (by omega) (by omega) _ (by rw [em]; omega) (by rw [em]; omega)
    rw [e 10 (by decide) (by decide), e 11 (by decide) (by decide), e 12 (by decide) (by decide), e 13 (by decide) (by decide)]
    exact h3 k hk2
theorem MS.half {g : Nat} {R S : Nat → Nat → Int32} {s : sg_S} (h : MS R g s) (hk : KH g R S) : MS S g s := by
  obtain ⟨g1, g2, g3, g4, g5, g6⟩ := h
  have h4 := g1.1
  have h5 := g1.2.2.1
  refine ⟨g1, g2, ?_, fun j hj => ?_, g5.half hk (by decide), fun v hv => ?_⟩
  · rw [hk.1 1 (by decide) (by decide) g (by show g * 1 ≤ g; omega) (by show g < g * 1 + 1; omega), hk.1 4 (by decide) (by decide) g (by show g * 1 ≤ g; omega) (by show g < g * 1 + 1; omega), hk.1 14 (by decide) (by decide) g (by show g * 1 ≤ g; omega) (by show g < g * 1 + 1; omega)]
    exact g3
  · rw [hk.1 2 (by decide) (by decide) (4 * g + j) (by show g * 4 ≤ _; omega) (by show _ < g * 4 + 4; omega), hk.1 3 (by decide) (by decide) (4 * g + j) (by show g * 4 ≤ _; omega) (by show _ < g * 4 + 4; omega)]
    exact g4 j hj
  · obtain ⟨w1, w2, w3, w4, w5, w6⟩ := g6 v hv
    have e5 : ∀ i, 5 ≤ i → i ≤ 7 → S i (5 * g + v) = R i (5 * g + v) := fun i i1 i2 => by
      have em : msz i / 2 = 5 := by
        rcases (show i = 5 ∨ i = 6 ∨ i = 7 by omega) with rfl | rfl | rfl <;> rfl
      exact hk.1 i (by omega) (by omega) _ (by rw [em]; omega) (by rw [em]; omega)
    have x2 := (g1.2.2.2.1 v hv).2.1
    rw [e5 5 (by decide) (by decide), e5 6 (by decide) (by decide), e5 7 (by decide) (by decide)]
    refine ⟨w1, w2, w3, fun k hk2 => ?_, w5.half hk (by omega), fun k hk2 => ?_⟩
    · rw [hk.1 8 (by decide) (by decide) (10 * g + 2 * v + k) (by show g * 10 ≤ _; omega) (by show _ < g * 10 + 10; omega)]
      exact w4 k hk2
    · rw [hk.1 15 (by decide) (by decide) (800 * (5 * g + v) + k) (by show g * 4000 ≤ _; omega) (by show _ < g * 4000 + 4000; omega)]
      exact w6 k hk2
