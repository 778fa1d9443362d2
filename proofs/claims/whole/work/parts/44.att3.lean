/-! the reference: attribute and drop -/
theorem v1_m1 : (-1 : Int32) + 1 = nI 0 := by decide
theorem v6_m1 (n : Nat) : nI n + (-1) + 1 = nI (n + 0) := by
  rw [Nat.add_zero, Int32.add_assoc, show (-1 : Int32) + 1 = 0 by decide, Int32.add_zero]
theorem n_attribute {d b : Nat} {A : am_H} {R : Nat → Nat → Int32} {f : mo_F} {s : sg_S} {v nm ty x y : Int32} {L : Nat} (hM : MM b A R f) (hS : MS R f.1 s) (hd : f.2.1 = false) (hv : (v = -1 ∧ L = 0) ∨ (∃ k, k < s.2.2.1 ∧ v = nI k ∧ L = k + 1)) : ∃ B S, pev (d + 1) 164 [some (.ref b), some (.int v), some (.int nm), some (.int ty), some (.int x), some (.int y), none, none] [] A = some (some (.int (as_c (getAt s L) nm ty x y)), B) ∧ MM b B S f ∧ MS S f.1 (setAt s L (as_a (getAt s L) nm ty x y)) ∧ (∀ i, 14 ≤ i → S i = R i) ∧ am_fr (at21 b) A B := by
  rcases hv with ⟨rfl, rfl⟩ | ⟨k, hk, rfl, rfl⟩
  · obtain ⟨B, S, e1, r⟩ := n_att25 (d := d) (nm := nm) (ty := ty) (x := x) (y := y) hM hS (Nat.zero_le _) v1_m1 (v6_m1 _)
    refine ⟨B, S, ?_, r⟩
    refine e_164 ?_; simp only [b_164, i_int, i_long, i_null, i_stat, i_iload, i_lload, i_aload, i_istore, i_astore, i_lstore, i_iinc, i_ii, i_idz, i_i, i_ll, i_lsh, i_i2l, i_l2i, i_lcmp, i_dup, i_pop, i_dup2, i_ifeq, i_ifne, i_iflt, i_ifge, i_ifgt, i_ifle, i_cmpeq, i_cmpne, i_cmplt, i_cmpge, i_cmpgt, i_cmple, i_ifnull, i_ifnonnull, i_getf, am_wr, i_putI, i_putZ, i_putR, i_iald, i_iast, i_aald, i_aast, i_alen, i_newi, i_newq, i_new, i_recv, i_iret, i_zret, i_lret, i_aret, i_vret, List.getElem?_cons_zero, List.getElem?_cons_succ, Option.bind_some, Option.toList_some, Option.toList_none, List.cons_append, List.nil_append, x_nI, am_put, List.length_cons, List.length_nil, List.set_cons_zero, List.set_cons_succ, Nat.reduceAdd, Nat.reduceLT, Nat.reduceLeDiff, Nat.reduceEqDiff, Nat.add_left_cancel_iff, Nat.add_eq_left, Nat.left_eq_add, Nat.succ_ne_self, Nat.reduceSub, reduceIte, ite_self, eq_self, or_true, true_or, or_false, false_or, or_self, i10, not_true_eq_false, not_false_eq_true, x_call1, x_call2, x_call3, x_call4, x_call5, x_call6, x_sl0, x_sli, x_slr, x_sln, x_sll, am_ent, List.map_nil, List.map_cons, List.sum_nil, List.sum_cons, Value.category, and_true, true_and, and_self, Nat.zero_le, List.replicate_succ, List.replicate_zero, List.reduceReplicate, x_obj_set, x_row_set, x_len_set, x_obx, x_rox, x_rv, x_obj hM.1, mo_obj, hd, bz_false]
    exact e1
  · have h5 := hS.1.2.2.1
    obtain ⟨B, S, e1, r⟩ := n_att25 (d := d) (nm := nm) (ty := ty) (x := x) (y := y) hM hS (L := k + 1) (by omega) (nI_1 k) (by rw [nI_add, nI_1]; rfl)
    refine ⟨B, S, ?_, r⟩
    have ev := n_isVariable (d := d) hM hS (nI k)
    have hvb : isVb s (nI k) = true := by simp [isVb, nI_pos (show k < 2 ^ 31 by omega), nI_lt hk (show s.2.2.1 < 2 ^ 31 by omega)]
    rw [hvb] at ev
    refine e_164 ?_; simp only [b_164, i_int, i_long, i_null, i_stat, i_iload, i_lload, i_aload, i_istore, i_astore, i_lstore, i_iinc, i_ii, i_idz, i_i, i_ll, i_lsh, i_i2l, i_l2i, i_lcmp, i_dup, i_pop, i_dup2, i_ifeq, i_ifne, i_iflt, i_ifge, i_ifgt, i_ifle, i_cmpeq, i_cmpne, i_cmplt, i_cmpge, i_cmpgt, i_cmple, i_ifnull, i_ifnonnull, i_getf, am_wr, i_putI, i_putZ, i_putR, i_iald, i_iast, i_aald, i_aast, i_alen, i_newi, i_newq, i_new, i_recv, i_iret, i_zret, i_lret, i_aret, i_vret, List.getElem?_cons_zero, List.getElem?_cons_succ, Option.bind_some, Option.toList_some, Option.toList_none, List.cons_append, List.nil_append, x_nI, am_put, List.length_cons, List.length_nil, List.set_cons_zero, List.set_cons_succ, Nat.reduceAdd, Nat.reduceLT, Nat.reduceLeDiff, Nat.reduceEqDiff, Nat.add_left_cancel_iff, Nat.add_eq_left, Nat.left_eq_add, Nat.succ_ne_self, Nat.reduceSub, reduceIte, ite_self, eq_self, or_true, true_or, or_false, false_or, or_self, i10, not_true_eq_false, not_false_eq_true, x_call1, x_call2, x_call3, x_call4, x_call5, x_call6, x_sl0, x_sli, x_slr, x_sln, x_sll, am_ent, List.map_nil, List.map_cons, List.sum_nil, List.sum_cons, Value.category, and_true, true_and, and_self, Nat.zero_le, List.replicate_succ, List.replicate_zero, List.reduceReplicate, x_obj_set, x_row_set, x_len_set, x_obx, x_rox, x_rv, x_obj hM.1, mo_obj, hd, bz_false, bz_true, nI_ne_m1 (show k < 1000 by omega), ev]
    exact e1
theorem n_attributeN {d b : Nat} {A : am_H} {R : Nat → Nat → Int32} {f : mo_F} {s : sg_S} {v nm ty x y : Int32} (hM : MM b A R f) (hS : MS R f.1 s) (hd : f.2.1 = false) (hv : v ≠ -1) (hb : isVb s v = false) : pev (d + 1) 164 [some (.ref b), some (.int v), some (.int nm), some (.int ty), some (.int x), some (.int y), none, none] [] A = some (some (.int (-3)), A) := by
  have ev := n_isVariable (d := d) hM hS v
  rw [hb] at ev
  refine e_164 ?_; simp only [b_164, i_int, i_long, i_null, i_stat, i_iload, i_lload, i_aload, i_istore, i_astore, i_lstore, i_iinc, i_ii, i_idz, i_i, i_ll, i_lsh, i_i2l, i_l2i, i_lcmp, i_dup, i_pop, i_dup2, i_ifeq, i_ifne, i_iflt, i_ifge, i_ifgt, i_ifle, i_cmpeq, i_cmpne, i_cmplt, i_cmpge, i_cmpgt, i_cmple, i_ifnull, i_ifnonnull, i_getf, am_wr, i_putI, i_putZ, i_putR, i_iald, i_iast, i_aald, i_aast, i_alen, i_newi, i_newq, i_new, i_recv, i_iret, i_zret, i_lret, i_aret, i_vret, List.getElem?_cons_zero, List.getElem?_cons_succ, Option.bind_some, Option.toList_some, Option.toList_none, List.cons_append, List.nil_append, x_nI, am_put, List.length_cons, List.length_nil, List.set_cons_zero, List.set_cons_succ, Nat.reduceAdd, Nat.reduceLT, Nat.reduceLeDiff, Nat.reduceEqDiff, Nat.add_left_cancel_iff, Nat.add_eq_left, Nat.left_eq_add, Nat.succ_ne_self, Nat.reduceSub, reduceIte, ite_self, eq_self, or_true, true_or, or_false, false_or, or_self, i10, not_true_eq_false, not_false_eq_true, x_call1, x_call2, x_call3, x_call4, x_call5, x_call6, x_sl0, x_sli, x_slr, x_sln, x_sll, am_ent, List.map_nil, List.map_cons, List.sum_nil, List.sum_cons, Value.category, and_true, true_and, and_self, Nat.zero_le, List.replicate_succ, List.replicate_zero, List.reduceReplicate, x_obj_set, x_row_set, x_len_set, x_obx, x_rox, x_rv, x_obj hM.1, mo_obj, hd, bz_false, hv, ev]
theorem n_attributeM {d b : Nat} {A : am_H} {R : Nat → Nat → Int32} {f : mo_F} {v nm ty x y : Int32} (hM : MM b A R f) (hd : f.2.1 = true) : pev d 164 [some (.ref b), some (.int v), some (.int nm), some (.int ty), some (.int x), some (.int y), none, none] [] A = some (some (.int (-1)), A) := by
  refine e_164 ?_; simp only [b_164, i_int, i_long, i_null, i_stat, i_iload, i_lload, i_aload, i_istore, i_astore, i_lstore, i_iinc, i_ii, i_idz, i_i, i_ll, i_lsh, i_i2l, i_l2i, i_lcmp, i_dup, i_pop, i_dup2, i_ifeq, i_ifne, i_iflt, i_ifge, i_ifgt, i_ifle, i_cmpeq, i_cmpne, i_cmplt, i_cmpge, i_cmpgt, i_cmple, i_ifnull, i_ifnonnull, i_getf, am_wr, i_putI, i_putZ, i_putR, i_iald, i_iast, i_aald, i_aast, i_alen, i_newi, i_newq, i_new, i_recv, i_iret, i_zret, i_lret, i_aret, i_vret, List.getElem?_cons_zero, List.getElem?_cons_succ, Option.bind_some, Option.toList_some, Option.toList_none, List.cons_append, List.nil_append, x_nI, am_put, List.length_cons, List.length_nil, List.set_cons_zero, List.set_cons_succ, Nat.reduceAdd, Nat.reduceLT, Nat.reduceLeDiff, Nat.reduceEqDiff, Nat.add_left_cancel_iff, Nat.add_eq_left, Nat.left_eq_add, Nat.succ_ne_self, Nat.reduceSub, reduceIte, ite_self, eq_self, or_true, true_or, or_false, false_or, or_self, i10, not_true_eq_false, not_false_eq_true, x_call1, x_call2, x_call3, x_call4, x_call5, x_call6, x_sl0, x_sli, x_slr, x_sln, x_sll, am_ent, List.map_nil, List.map_cons, List.sum_nil, List.sum_cons, Value.category, and_true, true_and, and_self, Nat.zero_le, List.replicate_succ, List.replicate_zero, List.reduceReplicate, x_obj_set, x_row_set, x_len_set, x_obx, x_rox, x_rv, x_obj hM.1, mo_obj, hd, bz_true]
theorem le_pred {a m : Nat} (ha : a < 1000) (hm : m < 1000) : (nI a ≤ nI m - 1) = (a < m) := by
  cases m with
  | zero =>
    have : ¬ nI a ≤ nI 0 - 1 := fun e => nI_pos (show a < 2 ^ 31 by omega) (Int32.lt_of_le_of_lt e (by decide))
    exact propext ⟨fun e => absurd e this, fun e => by omega⟩
  | succ m =>
    rw [nI_pred, o_le (by omega) (by omega)]
    exact propext ⟨fun e => by omega, fun e => by omega⟩
theorem upd_off (g : Nat → Int32) (p k : Nat) (z : Int32) : (fun i => upd g (p + k) z (p + i)) = upd (fun i => g (p + i)) k z := by
  funext i
  unfold upd
  by_cases c : i = k
  · simp [c]
  · rw [if_neg (by omega), if_neg c]
def shR (R : Nat → Nat → Int32) (p k : Nat) : Nat → Nat → Int32 := setR (setR (setR (setR R 10 (upd (R 10) (p + k) (R 10 (p + k + 1)))) 11 (upd (R 11) (p + k) (R 11 (p + k + 1)))) 12 (upd (R 12) (p + k) (R 12 (p + k + 1)))) 13 (upd (R 13) (p + k) (R 13 (p + k + 1)))
theorem shR_row {R : Nat → Nat → Int32} {p k i : Nat} (h1 : 10 ≤ i) (h2 : i ≤ 13) : shR R p k i = upd (R i) (p + k) (R i (p + k + 1)) := by
  rcases (show i = 10 ∨ i = 11 ∨ i = 12 ∨ i = 13 by omega) with rfl | rfl | rfl | rfl <;> rfl
theorem shR_ne {R : Nat → Nat → Int32} {p k i : Nat} (h : i < 10 ∨ 13 < i) : shR R p k i = R i := by
  unfold shR
  rw [setR_ne (by omega), setR_ne (by omega), setR_ne (by omega), setR_ne (by omega)]
theorem n_drop75 {d b p n pl l : Nat} {v nm : Int32} {R0 : Nat → Nat → Int32} {F : Nat → Nat → Int32} {f : mo_F} (hn : n ≤ 3) (hp : p + 3 ≤ 36) (hl : l < 12) (hpl : pl < n) (hcnt : R0 9 l = nI n) : ∀ (m k : Nat), k + 1 + m = n → pl ≤ k → ∀ {A : am_H} {R : Nat → Nat → Int32}, MM b A R f → (∀ i, i < 10 ∨ 13 < i → R i = R0 i) → (∀ i, 10 ≤ i → i ≤ 13 → ∀ q, q < p ∨ p + 3 ≤ q → R i q = R0 i q) → (∀ i, 10 ≤ i → i ≤ 13 → rsh (F i) (fun j => R i (p + j)) n pl (k + 1)) → ∃ B S, pev d 174 [some (.ref b), some (.int v), some (.int nm), some (.int (nI (p + pl))), some (.int (nI l)), some (.int (nI (p + n) - 1)), some (.int (nI (p + k)))] [] A = some (some (.int 0), B) ∧ MM b B (setR S 9 (upd (R0 9) l (nI (n - 1)))) f ∧ (∀ i, i < 10 ∨ 13 < i → S i = R0 i) ∧ (∀ i, 10 ≤ i → i ≤ 13 → ∀ q, q < p ∨ p + 3 ≤ q → S i q = R0 i q) ∧ (∀ i, 10 ≤ i → i ≤ 13 → rsh (F i) (fun j => S i (p + j)) n pl n) ∧ am_fr (at21 b) A B := by
  intro m
  induction m with
  | zero =>
    intro k hk hpk A R hM h1 h2 h3
    have hb := hM.2.1
    have hkn : k + 1 = n := by omega
    have m1 := hM.set (i := 9) (by decide) (by decide) (upd (R 9) l (nI (n - 1)))
    rw [h1 9 (by omega)] at m1
    refine ⟨_, R, ?_, m1, h1, h2, by rw [hkn] at h3; exact h3, (am_fr.refl A).set ⟨by omega, by omega⟩⟩
    have hc : nI (p + n) - 1 ≤ nI (p + k) := by
      rw [show p + n = p + k + 1 by omega, nI_pred]
      exact nI_le (Nat.le_refl _) (by omega)
    have r9 : A.2.2 (b + 9) = some (.inl (0, 12, R0 9)) := by rw [← h1 9 (by omega)]; exact hM.2.2 9 (by decide) (by decide)
    refine e_174 ?_; simp only [b_174, i_int, i_long, i_null, i_stat, i_iload, i_lload, i_aload, i_istore, i_astore, i_lstore, i_iinc, i_ii, i_idz, i_i, i_ll, i_lsh, i_i2l, i_l2i, i_lcmp, i_dup, i_pop, i_dup2, i_ifeq, i_ifne, i_iflt, i_ifge, i_ifgt, i_ifle, i_cmpeq, i_cmpne, i_cmplt, i_cmpge, i_cmpgt, i_cmple, i_ifnull, i_ifnonnull, i_getf, am_wr, i_putI, i_putZ, i_putR, i_iald, i_iast, i_aald, i_aast, i_alen, i_newi, i_newq, i_new, i_recv, i_iret, i_zret, i_lret, i_aret, i_vret, List.getElem?_cons_zero, List.getElem?_cons_succ, Option.bind_some, Option.toList_some, Option.toList_none, List.cons_append, List.nil_append, x_nI, am_put, List.length_cons, List.length_nil, List.set_cons_zero, List.set_cons_succ, Nat.reduceAdd, Nat.reduceLT, Nat.reduceLeDiff, Nat.reduceEqDiff, Nat.add_left_cancel_iff, Nat.add_eq_left, Nat.left_eq_add, Nat.succ_ne_self, Nat.reduceSub, reduceIte, ite_self, eq_self, or_true, true_or, or_false, false_or, or_self, i10, not_true_eq_false, not_false_eq_true, x_call1, x_call2, x_call3, x_call4, x_call5, x_call6, x_sl0, x_sli, x_slr, x_sln, x_sll, am_ent, List.map_nil, List.map_cons, List.sum_nil, List.sum_cons, Value.category, and_true, true_and, and_self, Nat.zero_le, List.replicate_succ, List.replicate_zero, List.reduceReplicate, x_obj_set, x_row_set, x_len_set, x_obx, x_rox, x_rv, hc, x_obj hM.1, mo_obj, x_row r9, x_ix hl (show l < 2147483648 by omega), hcnt, show nI n - 1 = nI (n - 1) from pk_sub (b := 1) (by omega), x_own (show 5 ≤ b + 9 by omega)]
    rfl
  | succ m ih =>
    intro k hk hpk A R hM h1 h2 h3
    have hb := hM.2.1
    have m1 := hM.set (i := 10) (by decide) (by decide) (upd (R 10) (p + k) (R 10 (p + k + 1)))
    have m2 := m1.set (i := 11) (by decide) (by decide) (upd (R 11) (p + k) (R 11 (p + k + 1)))
    have m3 := m2.set (i := 12) (by decide) (by decide) (upd (R 12) (p + k) (R 12 (p + k + 1)))
    have m4 := m3.set (i := 13) (by decide) (by decide) (upd (R 13) (p + k) (R 13 (p + k + 1)))
    have m5 : MM b _ (shR R p k) f := m4
    obtain ⟨B, S, e1, y1, y2, y3, y4, f1⟩ := ih (k + 1) (by omega) (by omega) m5 (fun i hi => by rw [shR_ne hi]; exact h1 i hi) (fun i i1 i2 q hq => by rw [shR_row i1 i2, pk_un (by omega)]; exact h2 i i1 i2 q hq) (fun i i1 i2 => by
      have := rsh_step (h3 i i1 i2) (by omega) hpk
      rw [shR_row i1 i2, upd_off]
      exact this)
    refine ⟨B, S, ?_, y1, y2, y3, y4, (((((am_fr.refl A).set ⟨by omega, by omega⟩).set ⟨by omega, by omega⟩).set ⟨by omega, by omega⟩).set ⟨by omega, by omega⟩).trans f1⟩
    have hc : ¬ nI (p + n) - 1 ≤ nI (p + k) := by
      rw [show p + n = p + n - 1 + 1 by omega, nI_pred]
      exact nI_ge (by omega) (by omega)
    simp only [msz] at e1
    refine e_174 ?_; simp only [b_174, i_int, i_long, i_null, i_stat, i_iload, i_lload, i_aload, i_istore, i_astore, i_lstore, i_iinc, i_ii, i_idz, i_i, i_ll, i_lsh, i_i2l, i_l2i, i_lcmp, i_dup, i_pop, i_dup2, i_ifeq, i_ifne, i_iflt, i_ifge, i_ifgt, i_ifle, i_cmpeq, i_cmpne, i_cmplt, i_cmpge, i_cmpgt, i_cmple, i_ifnull, i_ifnonnull, i_getf, am_wr, i_putI, i_putZ, i_putR, i_iald, i_iast, i_aald, i_aast, i_alen, i_newi, i_newq, i_new, i_recv, i_iret, i_zret, i_lret, i_aret, i_vret, List.getElem?_cons_zero, List.getElem?_cons_succ, Option.bind_some, Option.toList_some, Option.toList_none, List.cons_append, List.nil_append, x_nI, am_put, List.length_cons, List.length_nil, List.set_cons_zero, List.set_cons_succ, Nat.reduceAdd, Nat.reduceLT, Nat.reduceLeDiff, Nat.reduceEqDiff, Nat.add_left_cancel_iff, Nat.add_eq_left, Nat.left_eq_add, Nat.succ_ne_self, Nat.reduceSub, reduceIte, ite_self, eq_self, or_true, true_or, or_false, false_or, or_self, i10, not_true_eq_false, not_false_eq_true, x_call1, x_call2, x_call3, x_call4, x_call5, x_call6, x_sl0, x_sli, x_slr, x_sln, x_sll, am_ent, List.map_nil, List.map_cons, List.sum_nil, List.sum_cons, Value.category, and_true, true_and, and_self, Nat.zero_le, List.replicate_succ, List.replicate_zero, List.reduceReplicate, x_obj_set, x_row_set, x_len_set, x_obx, x_rox, x_rv, hc, x_obj hM.1, mo_obj, x_row (show A.2.2 (b + 10) = some (.inl (0, 36, R 10)) from hM.2.2 10 (by decide) (by decide)), x_row (show A.2.2 (b + 11) = some (.inl (0, 36, R 11)) from hM.2.2 11 (by decide) (by decide)), x_row (show A.2.2 (b + 12) = some (.inl (0, 36, R 12)) from hM.2.2 12 (by decide) (by decide)), x_row (show A.2.2 (b + 13) = some (.inl (0, 36, R 13)) from hM.2.2 13 (by decide) (by decide)), nI_1, x_ix (show p + k < 36 by omega) (show p + k < 2147483648 by omega), x_ix (show p + k + 1 < 36 by omega) (show p + k + 1 < 2147483648 by omega), x_own (show 5 ≤ b + 10 by omega), x_own (show 5 ≤ b + 11 by omega), x_own (show 5 ≤ b + 12 by omega), x_own (show 5 ≤ b + 13 by omega)]
    exact e1
