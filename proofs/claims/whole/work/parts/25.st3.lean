/-! the store: what holds a cell, growing, new dimensions -/
def at45 (b : Nat) : Nat → Prop := fun q => b ≤ q ∧ q < b + 45
theorem k_holds {d b v : Nat} {A : am_H} {s : sg_S} {ρ : Nat → sg_R} (h : ST b A s ρ) (hv : v < s.2.2.1) (i j : Int64) : pev (d + 1) 63 [some (.ref b), some (.ref (b + 5 + 7 * v)), some (.long i), none, some (.long j), none] [] A = some (some (.int (bz (adm (sg_raw s v) i j && (!(decide (sg_l0 s v = 0)) || decide (i < lN s.2.2.2.2))))), A) := by
  have hs := h.1
  have ev := k_admits (d := d) (h.var hv) (by have := hs.l0 hv; simp only [sg_raw]; omega) (by have := hs.l1 hv; simp only [sg_raw]; omega) i j
  obtain ⟨gg, q0, -⟩ := h.var hv
  obtain ⟨-, -, ⟨g1, g2, g3, q, a0, a1, a2, a3, a4, a5, a6, a7⟩, -⟩ := id h
  have h8 := hs.2.2.2.2
  cases ca : adm (sg_raw s v) i j with
  | false =>
    rw [ca] at ev
    refine e_63 ?_; simp only [b_63, i_int, i_long, i_null, i_stat, i_iload, i_lload, i_aload, i_istore, i_astore, i_lstore, i_iinc, i_ii, i_idz, i_i, i_ll, i_lsh, i_i2l, i_l2i, i_lcmp, i_dup, i_pop, i_dup2, i_ifeq, i_ifne, i_iflt, i_ifge, i_ifgt, i_ifle, i_cmpeq, i_cmpne, i_cmplt, i_cmpge, i_cmpgt, i_cmple, i_ifnull, i_ifnonnull, i_getf, am_wr, i_putI, i_putZ, i_putR, i_iald, i_iast, i_aald, i_aast, i_alen, i_newi, i_newq, i_new, i_recv, i_iret, i_zret, i_lret, i_aret, i_vret, List.getElem?_cons_zero, List.getElem?_cons_succ, Option.bind_some, Option.toList_some, Option.toList_none, List.cons_append, List.nil_append, x_nI, am_put, am_put2, List.length_cons, List.length_nil, List.set_cons_zero, List.set_cons_succ, Nat.reduceAdd, Nat.reduceLT, Nat.reduceLeDiff, Nat.reduceEqDiff, Nat.add_left_cancel_iff, Nat.add_eq_left, Nat.left_eq_add, Nat.succ_ne_self, Nat.reduceSub, reduceIte, ite_self, eq_self, or_true, true_or, or_false, false_or, or_self, i10, not_true_eq_false, not_false_eq_true, x_call1, x_call2, x_call3, x_call4, x_call5, x_call6, x_sl0, x_sli, x_slr, x_sln, x_sll, am_ent, List.map_nil, List.map_cons, List.sum_nil, List.sum_cons, Value.category, and_true, true_and, and_self, Nat.zero_le, List.replicate_succ, List.replicate_zero, List.reduceReplicate, x_obj_set, x_row_set, x_len_set, x_obx, x_rox, x_rv, x_obj q0, ev, bz_false]
    simp [bz]
  | true =>
    rw [ca] at ev
    by_cases c : sg_l0 s v = 0
    · refine e_63 ?_; simp only [b_63, i_int, i_long, i_null, i_stat, i_iload, i_lload, i_aload, i_istore, i_astore, i_lstore, i_iinc, i_ii, i_idz, i_i, i_ll, i_lsh, i_i2l, i_l2i, i_lcmp, i_dup, i_pop, i_dup2, i_ifeq, i_ifne, i_iflt, i_ifge, i_ifgt, i_ifle, i_cmpeq, i_cmpne, i_cmplt, i_cmpge, i_cmpgt, i_cmple, i_ifnull, i_ifnonnull, i_getf, am_wr, i_putI, i_putZ, i_putR, i_iald, i_iast, i_aald, i_aast, i_alen, i_newi, i_newq, i_new, i_recv, i_iret, i_zret, i_lret, i_aret, i_vret, List.getElem?_cons_zero, List.getElem?_cons_succ, Option.bind_some, Option.toList_some, Option.toList_none, List.cons_append, List.nil_append, x_nI, am_put, am_put2, List.length_cons, List.length_nil, List.set_cons_zero, List.set_cons_succ, Nat.reduceAdd, Nat.reduceLT, Nat.reduceLeDiff, Nat.reduceEqDiff, Nat.add_left_cancel_iff, Nat.add_eq_left, Nat.left_eq_add, Nat.succ_ne_self, Nat.reduceSub, reduceIte, ite_self, eq_self, or_true, true_or, or_false, false_or, or_self, i10, not_true_eq_false, not_false_eq_true, x_call1, x_call2, x_call3, x_call4, x_call5, x_call6, x_sl0, x_sli, x_slr, x_sln, x_sll, am_ent, List.map_nil, List.map_cons, List.sum_nil, List.sum_cons, Value.category, and_true, true_and, and_self, Nat.zero_le, List.replicate_succ, List.replicate_zero, List.reduceReplicate, x_obj_set, x_row_set, x_len_set, x_obx, x_rox, x_rv, x_obj q0, ev, bz_true, sg_raw, c, decide_true, x_obj a0, lg_cmp_ge, nI_l (show s.2.2.2.2 < 2 ^ 31 by omega)]
      by_cases c2 : lN s.2.2.2.2 ≤ i
      · have c3 : ¬ i < lN s.2.2.2.2 := Int64.not_lt.mpr c2
        simp [c2, c3, bz]
      · have c3 : i < lN s.2.2.2.2 := Int64.not_le.mp c2
        simp [c2, c3, bz]
    · refine e_63 ?_; simp only [b_63, i_int, i_long, i_null, i_stat, i_iload, i_lload, i_aload, i_istore, i_astore, i_lstore, i_iinc, i_ii, i_idz, i_i, i_ll, i_lsh, i_i2l, i_l2i, i_lcmp, i_dup, i_pop, i_dup2, i_ifeq, i_ifne, i_iflt, i_ifge, i_ifgt, i_ifle, i_cmpeq, i_cmpne, i_cmplt, i_cmpge, i_cmpgt, i_cmple, i_ifnull, i_ifnonnull, i_getf, am_wr, i_putI, i_putZ, i_putR, i_iald, i_iast, i_aald, i_aast, i_alen, i_newi, i_newq, i_new, i_recv, i_iret, i_zret, i_lret, i_aret, i_vret, List.getElem?_cons_zero, List.getElem?_cons_succ, Option.bind_some, Option.toList_some, Option.toList_none, List.cons_append, List.nil_append, x_nI, am_put, am_put2, List.length_cons, List.length_nil, List.set_cons_zero, List.set_cons_succ, Nat.reduceAdd, Nat.reduceLT, Nat.reduceLeDiff, Nat.reduceEqDiff, Nat.add_left_cancel_iff, Nat.add_eq_left, Nat.left_eq_add, Nat.succ_ne_self, Nat.reduceSub, reduceIte, ite_self, eq_self, or_true, true_or, or_false, false_or, or_self, i10, not_true_eq_false, not_false_eq_true, x_call1, x_call2, x_call3, x_call4, x_call5, x_call6, x_sl0, x_sli, x_slr, x_sln, x_sll, am_ent, List.map_nil, List.map_cons, List.sum_nil, List.sum_cons, Value.category, and_true, true_and, and_self, Nat.zero_le, List.replicate_succ, List.replicate_zero, List.reduceReplicate, x_obj_set, x_row_set, x_len_set, x_obx, x_rox, x_rv, x_obj q0, ev, bz_true, sg_raw, c, decide_false, bz_false, x_obj a0]
      simp [bz]
theorem rs_pos {s : sg_S} (h : STv s) {v : Nat} (hv : v < s.2.2.1) (hg : sg_l0 s v = 0) : 1 ≤ sg_rs s := by
  have h1 := (h.2.2.2.1 v hv).2.2.2
  have hw := wd_pos (s.2.2.2.1 v).2.1
  have hp : 1 ≤ sg_l1 s v * wd (s.2.2.2.1 v).2.1 := Nat.mul_le_mul h1 hw
  have key : ∀ f : Nat → Nat, 1 ≤ f v → 1 ≤ sg_sum f s.2.2.1 := fun f hf => by
    have h2 : sg_sum f (v + 1) ≤ sg_sum f s.2.2.1 := sg_sum_mono (by omega)
    rw [sg_sum] at h2
    omega
  unfold sg_rs
  split
  · exact key _ (by rw [if_pos hg]; exact hp)
  · refine key _ ?_
    rw [if_pos hg]
    unfold sg_ps
    rw [sg_cn_rec hg]
    exact Nat.le_trans hp (pad4_ge _)
def setRec (s : sg_S) (r : Nat) : sg_S := (s.1, s.2.1, s.2.2.1, s.2.2.2.1, r)
theorem k_growToHold {d b v i : Nat} {A : am_H} {s : sg_S} {ρ : Nat → sg_R} (hst : am_St A) (h : ST b A s ρ) (hv : v < s.2.2.1) (hi : i < 100000000000) : ∃ B, pev (d + 5) 60 [some (.ref b), some (.ref (b + 5 + 7 * v)), some (.long (lN i)), none] [] A = some (some (.int (bz (!(decide (sg_l0 s v = 0)) || decide (i < s.2.2.2.2) || decide (sg_tot s (i + 1) ≤ 800)))), B) ∧ ST b B (if sg_l0 s v = 0 ∧ s.2.2.2.2 ≤ i ∧ sg_tot s (i + 1) ≤ 800 then setRec s (i + 1) else s) ρ ∧ am_fr (fun q => q = b) A B := by
  have hs := h.1
  have e1 := k_imageBytes (d := d) (r := i + 1) hst h
  obtain ⟨gg, q0, -⟩ := h.var hv
  obtain ⟨-, hb, ⟨g1, g2, g3, q, a0, a1, a2, a3, a4, a5, a6, a7⟩, hA, hV, hR⟩ := id h
  have h8 := hs.2.2.2.2
  by_cases c : sg_l0 s v = 0
  · have ec : (lN s.2.2.2.2 ≤ lN i) = (s.2.2.2.2 ≤ i) := propext (pk_lLE (by omega) (by omega))
    by_cases c2 : s.2.2.2.2 ≤ i
    · have b1 := h.hs_le
      have b2 := pb_le hs false (Nat.le_refl s.2.2.1)
      have b3 := rs_le hs
      rw [pb_f] at b2
      have b4 : (i + 1) * sg_rs s ≤ 100000000000 * 1280 := Nat.mul_le_mul (by omega) b3
      have et : sg_tot s (i + 1) = sg_hs s + sg_pf s s.2.2.1 + (i + 1) * sg_rs s := rfl
      have ec3 : (lN (sg_tot s (i + 1)) ≤ (800 : Int64)) = (sg_tot s (i + 1) ≤ 800) := propext (pk_lLE (b := 800) (by omega) (by decide))
      have ei : lN i + 1 = lN (i + 1) := lN_1 i
      by_cases c3 : sg_tot s (i + 1) ≤ 800
      · have hr1 := rs_pos hs hv c
        have hi8 : i + 1 ≤ 800 := by
          have : (i + 1) * 1 ≤ (i + 1) * sg_rs s := Nat.mul_le_mul_left _ hr1
          omega
        have F : am_fr (fun q => q = b) A (am_set A b (.inr (.inr (3, [.int (nI (i + 1)), .int (nI s.1.1), .ref (b + 1), .ref (b + 2), .int (nI s.2.2.1), .ref (b + 3), .ref (b + 4), .ref (b + 40)])))) := (am_fr.refl A).set rfl
        refine ⟨_, ?_, ?_, F⟩
        · refine e_60 ?_; simp only [b_60, i_int, i_long, i_null, i_stat, i_iload, i_lload, i_aload, i_istore, i_astore, i_lstore, i_iinc, i_ii, i_idz, i_i, i_ll, i_lsh, i_i2l, i_l2i, i_lcmp, i_dup, i_pop, i_dup2, i_ifeq, i_ifne, i_iflt, i_ifge, i_ifgt, i_ifle, i_cmpeq, i_cmpne, i_cmplt, i_cmpge, i_cmpgt, i_cmple, i_ifnull, i_ifnonnull, i_getf, am_wr, i_putI, i_putZ, i_putR, i_iald, i_iast, i_aald, i_aast, i_alen, i_newi, i_newq, i_new, i_recv, i_iret, i_zret, i_lret, i_aret, i_vret, List.getElem?_cons_zero, List.getElem?_cons_succ, Option.bind_some, Option.toList_some, Option.toList_none, List.cons_append, List.nil_append, x_nI, am_put, am_put2, List.length_cons, List.length_nil, List.set_cons_zero, List.set_cons_succ, Nat.reduceAdd, Nat.reduceLT, Nat.reduceLeDiff, Nat.reduceEqDiff, Nat.add_left_cancel_iff, Nat.add_eq_left, Nat.left_eq_add, Nat.succ_ne_self, Nat.reduceSub, reduceIte, ite_self, eq_self, or_true, true_or, or_false, false_or, or_self, i10, not_true_eq_false, not_false_eq_true, x_call1, x_call2, x_call3, x_call4, x_call5, x_call6, x_sl0, x_sli, x_slr, x_sln, x_sll, am_ent, List.map_nil, List.map_cons, List.sum_nil, List.sum_cons, Value.category, and_true, true_and, and_self, Nat.zero_le, List.replicate_succ, List.replicate_zero, List.reduceReplicate, x_obj_set, x_row_set, x_len_set, x_obx, x_rox, x_rv, x_obj q0, sg_raw, c, decide_true, bz_true, x_obj a0, lg_cmp_ge, lg_cmp_le, nI_l (show s.2.2.2.2 < 2 ^ 31 by omega), ec, c2, ei, e1, ec3, c3, lN_i, x_own hb]
          simp [bz]
        · rw [if_pos ⟨c, c2, c3⟩]
          refine ⟨⟨hs.1, hs.2.1, hs.2.2.1, hs.2.2.2.1, (by show i + 1 < 2147483648; omega)⟩, hb, ⟨g1, g2, g3, q, x_set_self _ _ _, (F.2.2 _ (by omega)).trans a1, (F.2.2 _ (by omega)).trans a2, (F.2.2 _ (by omega)).trans a3, (F.2.2 _ (by omega)).trans a4, a5, a6, a7⟩, hA.kept F (fun q q1 q2 q3 => by omega), fun v hv => (hV v hv).kept F (fun q q1 q2 q3 => by omega), hR⟩
      · refine ⟨A, ?_, by rw [if_neg (fun e => c3 e.2.2)]; exact h, am_fr.refl A⟩
        have c4 : ¬ i < s.2.2.2.2 := by omega
        refine e_60 ?_; simp only [b_60, i_int, i_long, i_null, i_stat, i_iload, i_lload, i_aload, i_istore, i_astore, i_lstore, i_iinc, i_ii, i_idz, i_i, i_ll, i_lsh, i_i2l, i_l2i, i_lcmp, i_dup, i_pop, i_dup2, i_ifeq, i_ifne, i_iflt, i_ifge, i_ifgt, i_ifle, i_cmpeq, i_cmpne, i_cmplt, i_cmpge, i_cmpgt, i_cmple, i_ifnull, i_ifnonnull, i_getf, am_wr, i_putI, i_putZ, i_putR, i_iald, i_iast, i_aald, i_aast, i_alen, i_newi, i_newq, i_new, i_recv, i_iret, i_zret, i_lret, i_aret, i_vret, List.getElem?_cons_zero, List.getElem?_cons_succ, Option.bind_some, Option.toList_some, Option.toList_none, List.cons_append, List.nil_append, x_nI, am_put, am_put2, List.length_cons, List.length_nil, List.set_cons_zero, List.set_cons_succ, Nat.reduceAdd, Nat.reduceLT, Nat.reduceLeDiff, Nat.reduceEqDiff, Nat.add_left_cancel_iff, Nat.add_eq_left, Nat.left_eq_add, Nat.succ_ne_self, Nat.reduceSub, reduceIte, ite_self, eq_self, or_true, true_or, or_false, false_or, or_self, i10, not_true_eq_false, not_false_eq_true, x_call1, x_call2, x_call3, x_call4, x_call5, x_call6, x_sl0, x_sli, x_slr, x_sln, x_sll, am_ent, List.map_nil, List.map_cons, List.sum_nil, List.sum_cons, Value.category, and_true, true_and, and_self, Nat.zero_le, List.replicate_succ, List.replicate_zero, List.reduceReplicate, x_obj_set, x_row_set, x_len_set, x_obx, x_rox, x_rv, x_obj q0, sg_raw, c, decide_true, bz_true, x_obj a0, lg_cmp_ge, lg_cmp_le, nI_l (show s.2.2.2.2 < 2 ^ 31 by omega), ec, c2, ei, e1, ec3, c3]
        simp [bz, c4]
    · refine ⟨A, ?_, by rw [if_neg (fun e => c2 e.2.1)]; exact h, am_fr.refl A⟩
      have c4 : i < s.2.2.2.2 := by omega
      refine e_60 ?_; simp only [b_60, i_int, i_long, i_null, i_stat, i_iload, i_lload, i_aload, i_istore, i_astore, i_lstore, i_iinc, i_ii, i_idz, i_i, i_ll, i_lsh, i_i2l, i_l2i, i_lcmp, i_dup, i_pop, i_dup2, i_ifeq, i_ifne, i_iflt, i_ifge, i_ifgt, i_ifle, i_cmpeq, i_cmpne, i_cmplt, i_cmpge, i_cmpgt, i_cmple, i_ifnull, i_ifnonnull, i_getf, am_wr, i_putI, i_putZ, i_putR, i_iald, i_iast, i_aald, i_aast, i_alen, i_newi, i_newq, i_new, i_recv, i_iret, i_zret, i_lret, i_aret, i_vret, List.getElem?_cons_zero, List.getElem?_cons_succ, Option.bind_some, Option.toList_some, Option.toList_none, List.cons_append, List.nil_append, x_nI, am_put, am_put2, List.length_cons, List.length_nil, List.set_cons_zero, List.set_cons_succ, Nat.reduceAdd, Nat.reduceLT, Nat.reduceLeDiff, Nat.reduceEqDiff, Nat.add_left_cancel_iff, Nat.add_eq_left, Nat.left_eq_add, Nat.succ_ne_self, Nat.reduceSub, reduceIte, ite_self, eq_self, or_true, true_or, or_false, false_or, or_self, i10, not_true_eq_false, not_false_eq_true, x_call1, x_call2, x_call3, x_call4, x_call5, x_call6, x_sl0, x_sli, x_slr, x_sln, x_sll, am_ent, List.map_nil, List.map_cons, List.sum_nil, List.sum_cons, Value.category, and_true, true_and, and_self, Nat.zero_le, List.replicate_succ, List.replicate_zero, List.reduceReplicate, x_obj_set, x_row_set, x_len_set, x_obx, x_rox, x_rv, x_obj q0, sg_raw, c, decide_true, bz_true, x_obj a0, lg_cmp_ge, nI_l (show s.2.2.2.2 < 2 ^ 31 by omega), ec, c2]
      simp [bz, c4]
  · refine ⟨A, ?_, by rw [if_neg (fun e => c e.1)]; exact h, am_fr.refl A⟩
    refine e_60 ?_; simp only [b_60, i_int, i_long, i_null, i_stat, i_iload, i_lload, i_aload, i_istore, i_astore, i_lstore, i_iinc, i_ii, i_idz, i_i, i_ll, i_lsh, i_i2l, i_l2i, i_lcmp, i_dup, i_pop, i_dup2, i_ifeq, i_ifne, i_iflt, i_ifge, i_ifgt, i_ifle, i_cmpeq, i_cmpne, i_cmplt, i_cmpge, i_cmpgt, i_cmple, i_ifnull, i_ifnonnull, i_getf, am_wr, i_putI, i_putZ, i_putR, i_iald, i_iast, i_aald, i_aast, i_alen, i_newi, i_newq, i_new, i_recv, i_iret, i_zret, i_lret, i_aret, i_vret, List.getElem?_cons_zero, List.getElem?_cons_succ, Option.bind_some, Option.toList_some, Option.toList_none, List.cons_append, List.nil_append, x_nI, am_put, am_put2, List.length_cons, List.length_nil, List.set_cons_zero, List.set_cons_succ, Nat.reduceAdd, Nat.reduceLT, Nat.reduceLeDiff, Nat.reduceEqDiff, Nat.add_left_cancel_iff, Nat.add_eq_left, Nat.left_eq_add, Nat.succ_ne_self, Nat.reduceSub, reduceIte, ite_self, eq_self, or_true, true_or, or_false, false_or, or_self, i10, not_true_eq_false, not_false_eq_true, x_call1, x_call2, x_call3, x_call4, x_call5, x_call6, x_sl0, x_sli, x_slr, x_sln, x_sll, am_ent, List.map_nil, List.map_cons, List.sum_nil, List.sum_cons, Value.category, and_true, true_and, and_self, Nat.zero_le, List.replicate_succ, List.replicate_zero, List.reduceReplicate, x_obj_set, x_row_set, x_len_set, x_obx, x_rox, x_rv, x_obj q0, sg_raw, c, decide_false, bz_false]
    simp [bz]
def anyN (p : Nat → Bool) : Nat → Bool
  | 0 => false
  | n + 1 => anyN p n || p n
theorem anyN_of {p : Nat → Bool} {k n : Nat} (hk : k < n) (hp : p k = true) : anyN p n = true := by
  induction n with
  | zero => omega
  | succ n ih =>
    rw [anyN]
    rcases Nat.lt_or_ge k n with h | h
    · rw [ih h, Bool.true_or]
    · rw [show n = k by omega, hp, Bool.or_true]
theorem anyN_iff {p : Nat → Bool} {n : Nat} : anyN p n = true ↔ ∃ k, k < n ∧ p k = true := by
  constructor
  · intro h
    induction n with
    | zero => cases h
    | succ n ih =>
      rw [anyN, Bool.or_eq_true] at h
      rcases h with h | h
      · obtain ⟨k, h1, h2⟩ := ih h
        exact ⟨k, by omega, h2⟩
      · exact ⟨n, by omega, h⟩
  · rintro ⟨k, h1, h2⟩
    exact anyN_of h1 h2
def hasG (s : sg_S) : Bool := anyN (fun k => decide (s.1.2.2 k = 0)) s.1.1
theorem k_hasGrowing1 {d b : Nat} {A : am_H} {s : sg_S} {ρ : Nat → sg_R} (h : ST b A s ρ) : ∀ (m k : Nat), k + m = s.1.1 → anyN (fun k => decide (s.1.2.2 k = 0)) k = false → pev d 14 [some (.ref b), some (.int (nI k))] [] A = some (some (.int (bz (hasG s))), A) := by
  obtain ⟨hs, -, ⟨g1, g2, g3, q, a0, a1, a2, a3, a4, a5, a6, a7⟩, -⟩ := id h
  have h4 := hs.1
  intro m
  induction m with
  | zero =>
    intro k hk hn
    have hka : k = s.1.1 := by omega
    subst hka
    have : hasG s = false := hn
    refine e_14 ?_; simp only [b_14, i_int, i_long, i_null, i_stat, i_iload, i_lload, i_aload, i_istore, i_astore, i_lstore, i_iinc, i_ii, i_idz, i_i, i_ll, i_lsh, i_i2l, i_l2i, i_lcmp, i_dup, i_pop, i_dup2, i_ifeq, i_ifne, i_iflt, i_ifge, i_ifgt, i_ifle, i_cmpeq, i_cmpne, i_cmplt, i_cmpge, i_cmpgt, i_cmple, i_ifnull, i_ifnonnull, i_getf, am_wr, i_putI, i_putZ, i_putR, i_iald, i_iast, i_aald, i_aast, i_alen, i_newi, i_newq, i_new, i_recv, i_iret, i_zret, i_lret, i_aret, i_vret, List.getElem?_cons_zero, List.getElem?_cons_succ, Option.bind_some, Option.toList_some, Option.toList_none, List.cons_append, List.nil_append, x_nI, am_put, am_put2, List.length_cons, List.length_nil, List.set_cons_zero, List.set_cons_succ, Nat.reduceAdd, Nat.reduceLT, Nat.reduceLeDiff, Nat.reduceEqDiff, Nat.add_left_cancel_iff, Nat.add_eq_left, Nat.left_eq_add, Nat.succ_ne_self, Nat.reduceSub, reduceIte, ite_self, eq_self, or_true, true_or, or_false, false_or, or_self, i10, not_true_eq_false, not_false_eq_true, x_call1, x_call2, x_call3, x_call4, x_call5, x_call6, x_sl0, x_sli, x_slr, x_sln, x_sll, am_ent, List.map_nil, List.map_cons, List.sum_nil, List.sum_cons, Value.category, and_true, true_and, and_self, Nat.zero_le, List.replicate_succ, List.replicate_zero, List.reduceReplicate, x_obj_set, x_row_set, x_len_set, x_obx, x_rox, x_rv, x_obj a0, show nI s.1.1 ≤ nI s.1.1 from nI_le (Nat.le_refl _) (by omega), this, bz_false]
  | succ m ih =>
    intro k hk hn
    have hc : ¬ nI s.1.1 ≤ nI k := nI_ge (by omega) (by omega)
    have ez : (nI (s.1.2.2 k) = (0 : Int32)) = (s.1.2.2 k = 0) := o_eq (b := 0) (by have := hs.2.1 k (by omega); omega) (by decide)
    by_cases c : s.1.2.2 k = 0
    · have : hasG s = true := anyN_of (show k < s.1.1 by omega) (by simp [c])
      refine e_14 ?_; simp only [b_14, i_int, i_long, i_null, i_stat, i_iload, i_lload, i_aload, i_istore, i_astore, i_lstore, i_iinc, i_ii, i_idz, i_i, i_ll, i_lsh, i_i2l, i_l2i, i_lcmp, i_dup, i_pop, i_dup2, i_ifeq, i_ifne, i_iflt, i_ifge, i_ifgt, i_ifle, i_cmpeq, i_cmpne, i_cmplt, i_cmpge, i_cmpgt, i_cmple, i_ifnull, i_ifnonnull, i_getf, am_wr, i_putI, i_putZ, i_putR, i_iald, i_iast, i_aald, i_aast, i_alen, i_newi, i_newq, i_new, i_recv, i_iret, i_zret, i_lret, i_aret, i_vret, List.getElem?_cons_zero, List.getElem?_cons_succ, Option.bind_some, Option.toList_some, Option.toList_none, List.cons_append, List.nil_append, x_nI, am_put, am_put2, List.length_cons, List.length_nil, List.set_cons_zero, List.set_cons_succ, Nat.reduceAdd, Nat.reduceLT, Nat.reduceLeDiff, Nat.reduceEqDiff, Nat.add_left_cancel_iff, Nat.add_eq_left, Nat.left_eq_add, Nat.succ_ne_self, Nat.reduceSub, reduceIte, ite_self, eq_self, or_true, true_or, or_false, false_or, or_self, i10, not_true_eq_false, not_false_eq_true, x_call1, x_call2, x_call3, x_call4, x_call5, x_call6, x_sl0, x_sli, x_slr, x_sln, x_sll, am_ent, List.map_nil, List.map_cons, List.sum_nil, List.sum_cons, Value.category, and_true, true_and, and_self, Nat.zero_le, List.replicate_succ, List.replicate_zero, List.reduceReplicate, x_obj_set, x_row_set, x_len_set, x_obx, x_rox, x_rv, x_obj a0, hc, x_row a2, x_ix (show k < 4 by omega) (show k < 2147483648 by omega), (a6 k (show k < s.1.1 by omega)).2, c, nI_0, this, bz_true]
    · have e1 := ih (k + 1) (by omega) (by rw [anyN, hn]; simp [c])
      refine e_14 ?_; simp only [b_14, i_int, i_long, i_null, i_stat, i_iload, i_lload, i_aload, i_istore, i_astore, i_lstore, i_iinc, i_ii, i_idz, i_i, i_ll, i_lsh, i_i2l, i_l2i, i_lcmp, i_dup, i_pop, i_dup2, i_ifeq, i_ifne, i_iflt, i_ifge, i_ifgt, i_ifle, i_cmpeq, i_cmpne, i_cmplt, i_cmpge, i_cmpgt, i_cmple, i_ifnull, i_ifnonnull, i_getf, am_wr, i_putI, i_putZ, i_putR, i_iald, i_iast, i_aald, i_aast, i_alen, i_newi, i_newq, i_new, i_recv, i_iret, i_zret, i_lret, i_aret, i_vret, List.getElem?_cons_zero, List.getElem?_cons_succ, Option.bind_some, Option.toList_some, Option.toList_none, List.cons_append, List.nil_append, x_nI, am_put, am_put2, List.length_cons, List.length_nil, List.set_cons_zero, List.set_cons_succ, Nat.reduceAdd, Nat.reduceLT, Nat.reduceLeDiff, Nat.reduceEqDiff, Nat.add_left_cancel_iff, Nat.add_eq_left, Nat.left_eq_add, Nat.succ_ne_self, Nat.reduceSub, reduceIte, ite_self, eq_self, or_true, true_or, or_false, false_or, or_self, i10, not_true_eq_false, not_false_eq_true, x_call1, x_call2, x_call3, x_call4, x_call5, x_call6, x_sl0, x_sli, x_slr, x_sln, x_sll, am_ent, List.map_nil, List.map_cons, List.sum_nil, List.sum_cons, Value.category, and_true, true_and, and_self, Nat.zero_le, List.replicate_succ, List.replicate_zero, List.reduceReplicate, x_obj_set, x_row_set, x_len_set, x_obx, x_rox, x_rv, x_obj a0, hc, x_row a2, x_ix (show k < 4 by omega) (show k < 2147483648 by omega), (a6 k (show k < s.1.1 by omega)).2, ez, c, nI_1]
      exact e1
theorem k_hasGrowing {d b : Nat} {A : am_H} {s : sg_S} {ρ : Nat → sg_R} (h : ST b A s ρ) : pev d 13 [some (.ref b), none] [] A = some (some (.int (bz (hasG s))), A) := by
  refine e_13 ?_; simp only [b_13, i_int, i_long, i_null, i_stat, i_iload, i_lload, i_aload, i_istore, i_astore, i_lstore, i_iinc, i_ii, i_idz, i_i, i_ll, i_lsh, i_i2l, i_l2i, i_lcmp, i_dup, i_pop, i_dup2, i_ifeq, i_ifne, i_iflt, i_ifge, i_ifgt, i_ifle, i_cmpeq, i_cmpne, i_cmplt, i_cmpge, i_cmpgt, i_cmple, i_ifnull, i_ifnonnull, i_getf, am_wr, i_putI, i_putZ, i_putR, i_iald, i_iast, i_aald, i_aast, i_alen, i_newi, i_newq, i_new, i_recv, i_iret, i_zret, i_lret, i_aret, i_vret, List.getElem?_cons_zero, List.getElem?_cons_succ, Option.bind_some, Option.toList_some, Option.toList_none, List.cons_append, List.nil_append, x_nI, am_put, am_put2, List.length_cons, List.length_nil, List.set_cons_zero, List.set_cons_succ, Nat.reduceAdd, Nat.reduceLT, Nat.reduceLeDiff, Nat.reduceEqDiff, Nat.add_left_cancel_iff, Nat.add_eq_left, Nat.left_eq_add, Nat.succ_ne_self, Nat.reduceSub, reduceIte, ite_self, eq_self, or_true, true_or, or_false, false_or, or_self, i10, not_true_eq_false, not_false_eq_true, x_call1, x_call2, x_call3, x_call4, x_call5, x_call6, x_sl0, x_sli, x_slr, x_sln, x_sll, am_ent, List.map_nil, List.map_cons, List.sum_nil, List.sum_cons, Value.category, and_true, true_and, and_self, Nat.zero_le, List.replicate_succ, List.replicate_zero, List.reduceReplicate, x_obj_set, x_row_set, x_len_set, x_obx, x_rox, x_rv]
  exact k_hasGrowing1 h s.1.1 0 (by omega) rfl
def addD (s : sg_S) (nm : Int32) (ln : Nat) : sg_S := ((s.1.1 + 1, upd s.1.2.1 s.1.1 nm, fun j => if j = s.1.1 then ln else s.1.2.2 j), s.2)
theorem addD_l0 {s : sg_S} {nm : Int32} {ln v : Nat} (h : STv s) (hv : v < s.2.2.1) : sg_l0 (addD s nm ln) v = sg_l0 s v := by
  have h3 := (h.2.2.2.1 v hv).2.2.1
  unfold sg_l0 addD
  by_cases c : 0 < (s.2.2.2.1 v).2.2.1
  · have := h3 0 c
    simp only [c, if_true]
    rw [if_neg (by omega)]
  · simp only [c, if_false]
theorem addD_l1 {s : sg_S} {nm : Int32} {ln v : Nat} (h : STv s) (hv : v < s.2.2.1) : sg_l1 (addD s nm ln) v = sg_l1 s v := by
  have h3 := (h.2.2.2.1 v hv).2.2.1
  unfold sg_l1 addD
  by_cases c : 1 < (s.2.2.2.1 v).2.2.1
  · have := h3 1 c
    simp only [c, if_true]
    rw [if_neg (by omega)]
  · simp only [c, if_false]
theorem addD_raw {s : sg_S} {nm : Int32} {ln v : Nat} (h : STv s) (hv : v < s.2.2.1) : sg_raw (addD s nm ln) v = sg_raw s v := by
  unfold sg_raw
  rw [addD_l0 h hv, addD_l1 h hv]
  rfl
theorem addD_v {s : sg_S} {nm : Int32} {ln : Nat} (h : STv s) (h4 : s.1.1 < 4) (hl : ln ≤ 8) : STv (addD s nm ln) := by
  refine ⟨by show s.1.1 + 1 ≤ 4; omega, fun k hk => ?_, h.2.2.1, fun v hv => ?_, h.2.2.2.2⟩
  · show (if k = s.1.1 then ln else s.1.2.2 k) ≤ 8
    split
    · exact hl
    · have hk2 : k < s.1.1 + 1 := hk
      exact h.2.1 k (by omega)
  · obtain ⟨q1, q2, q3, q4⟩ := h.2.2.2.1 v hv
    refine ⟨q1, q2, fun k hk => ?_, by rw [addD_l1 h hv]; exact q4⟩
    have : (s.2.2.2.1 v).2.2.2.1 k < s.1.1 := q3 k hk
    show (s.2.2.2.1 v).2.2.2.1 k < s.1.1 + 1
    omega
theorem k_defineDim60 {d b : Nat} {A : am_H} {s : sg_S} {ρ : Nat → sg_R} {nm : Int32} {ln : Nat} (h : ST b A s ρ) (h4 : s.1.1 < 4) (hl : ln ≤ 8) : ∃ B, pev d 9 [some (.ref b), some (.int nm), some (.int (nI ln))] [] A = some (some (.int (nI s.1.1)), B) ∧ ST b B (addD s nm ln) ρ ∧ am_fr (at45 b) A B := by
  obtain ⟨hs, hb, ⟨g1, g2, g3, q, a0, a1, a2, a3, a4, a5, a6, a7⟩, hA, hV, hR⟩ := id h
  have F : am_fr (fun q => b ≤ q ∧ q < b + 3) A (am_set (am_set (am_set A (b + 1) (.inl (0, 4, upd g1 s.1.1 nm))) (b + 2) (.inl (0, 4, upd g2 s.1.1 (nI ln)))) b (.inr (.inr (3, [.int (nI s.2.2.2.2), .int (nI (s.1.1 + 1)), .ref (b + 1), .ref (b + 2), .int (nI s.2.2.1), .ref (b + 3), .ref (b + 4), .ref (b + 40)])))) := (((am_fr.refl A).set ⟨by omega, by omega⟩).set ⟨by omega, by omega⟩).set ⟨by omega, by omega⟩
  refine ⟨_, ?_, ⟨addD_v hs h4 hl, hb, ⟨upd g1 s.1.1 nm, upd g2 s.1.1 (nI ln), g3, q, x_set_self _ _ _, by simp [x_set], by simp [x_set], (F.2.2 _ (by omega)).trans a3, (F.2.2 _ (by omega)).trans a4, a5, fun k hk => ?_, a7⟩, hA.kept F (fun q q1 q2 q3 => by omega), fun v hv => (hV v hv).kept F (fun q q1 q2 q3 => by omega), fun v hv => (hR v hv).trans (addD_raw hs hv).symm⟩, F.mono (fun q hq => ⟨hq.1, by omega⟩)⟩
  · refine e_9 ?_; simp only [b_9, i_int, i_long, i_null, i_stat, i_iload, i_lload, i_aload, i_istore, i_astore, i_lstore, i_iinc, i_ii, i_idz, i_i, i_ll, i_lsh, i_i2l, i_l2i, i_lcmp, i_dup, i_pop, i_dup2, i_ifeq, i_ifne, i_iflt, i_ifge, i_ifgt, i_ifle, i_cmpeq, i_cmpne, i_cmplt, i_cmpge, i_cmpgt, i_cmple, i_ifnull, i_ifnonnull, i_getf, am_wr, i_putI, i_putZ, i_putR, i_iald, i_iast, i_aald, i_aast, i_alen, i_newi, i_newq, i_new, i_recv, i_iret, i_zret, i_lret, i_aret, i_vret, List.getElem?_cons_zero, List.getElem?_cons_succ, Option.bind_some, Option.toList_some, Option.toList_none, List.cons_append, List.nil_append, x_nI, am_put, am_put2, List.length_cons, List.length_nil, List.set_cons_zero, List.set_cons_succ, Nat.reduceAdd, Nat.reduceLT, Nat.reduceLeDiff, Nat.reduceEqDiff, Nat.add_left_cancel_iff, Nat.add_eq_left, Nat.left_eq_add, Nat.succ_ne_self, Nat.reduceSub, reduceIte, ite_self, eq_self, or_true, true_or, or_false, false_or, or_self, i10, not_true_eq_false, not_false_eq_true, x_call1, x_call2, x_call3, x_call4, x_call5, x_call6, x_sl0, x_sli, x_slr, x_sln, x_sll, am_ent, List.map_nil, List.map_cons, List.sum_nil, List.sum_cons, Value.category, and_true, true_and, and_self, Nat.zero_le, List.replicate_succ, List.replicate_zero, List.reduceReplicate, x_obj_set, x_row_set, x_len_set, x_obx, x_rox, x_rv, x_obj a0, x_row a1, x_row a2, x_ix (show s.1.1 < 4 by omega) (show s.1.1 < 2147483648 by omega), x_own (show 5 ≤ b + 1 by omega), x_own (show 5 ≤ b + 2 by omega), x_own hb, nI_1, nI_pred]
    rfl
  · have hk2 : k < s.1.1 + 1 := hk
    by_cases he : k = s.1.1
    · subst he
      simp [addD, upd]
    · have := a6 k (by omega)
      simp only [addD, pk_un he, if_neg he]
      exact this
def dd_c (s : sg_S) (nm ln : Int32) : Int32 := if !isNb nm || decide (ln < 0) || decide (8 < ln) then -2 else if (fnd s.1.2.1 nm s.1.1).isSome then -4 else if decide (4 ≤ s.1.1) || (decide (ln = 0) && hasG s) then -5 else nI s.1.1
def dd_s (s : sg_S) (nm ln : Int32) : sg_S := if !isNb nm || decide (ln < 0) || decide (8 < ln) then s else if (fnd s.1.2.1 nm s.1.1).isSome then s else if decide (4 ≤ s.1.1) || (decide (ln = 0) && hasG s) then s else addD s nm ln.toNatClampNeg
theorem k_defineDimension {d b : Nat} {A : am_H} {s : sg_S} {ρ : Nat → sg_R} {nm ln : Int32} (h : ST b A s ρ) : ∃ B, pev (d + 1) 8 [some (.ref b), some (.int nm), some (.int ln)] [] A = some (some (.int (dd_c s nm ln)), B) ∧ ST b B (dd_s s nm ln) ρ ∧ am_fr (at45 b) A B := by
  obtain ⟨hs, hb, ⟨g1, g2, g3, q, a0, a1, a2, a3, a4, a5, a6, a7⟩, hA, hV, hR⟩ := id h
  have h4 := hs.1
  unfold dd_c dd_s
  by_cases c1 : isNb nm = true
  · by_cases c2 : ln < 0
    · refine ⟨A, ?_, by simp [c2]; exact h, am_fr.refl A⟩
      refine e_8 ?_; simp only [b_8, i_int, i_long, i_null, i_stat, i_iload, i_lload, i_aload, i_istore, i_astore, i_lstore, i_iinc, i_ii, i_idz, i_i, i_ll, i_lsh, i_i2l, i_l2i, i_lcmp, i_dup, i_pop, i_dup2, i_ifeq, i_ifne, i_iflt, i_ifge, i_ifgt, i_ifle, i_cmpeq, i_cmpne, i_cmplt, i_cmpge, i_cmpgt, i_cmple, i_ifnull, i_ifnonnull, i_getf, am_wr, i_putI, i_putZ, i_putR, i_iald, i_iast, i_aald, i_aast, i_alen, i_newi, i_newq, i_new, i_recv, i_iret, i_zret, i_lret, i_aret, i_vret, List.getElem?_cons_zero, List.getElem?_cons_succ, Option.bind_some, Option.toList_some, Option.toList_none, List.cons_append, List.nil_append, x_nI, am_put, am_put2, List.length_cons, List.length_nil, List.set_cons_zero, List.set_cons_succ, Nat.reduceAdd, Nat.reduceLT, Nat.reduceLeDiff, Nat.reduceEqDiff, Nat.add_left_cancel_iff, Nat.add_eq_left, Nat.left_eq_add, Nat.succ_ne_self, Nat.reduceSub, reduceIte, ite_self, eq_self, or_true, true_or, or_false, false_or, or_self, i10, not_true_eq_false, not_false_eq_true, x_call1, x_call2, x_call3, x_call4, x_call5, x_call6, x_sl0, x_sli, x_slr, x_sln, x_sll, am_ent, List.map_nil, List.map_cons, List.sum_nil, List.sum_cons, Value.category, and_true, true_and, and_self, Nat.zero_le, List.replicate_succ, List.replicate_zero, List.reduceReplicate, x_obj_set, x_row_set, x_len_set, x_obx, x_rox, x_rv, k_isName, c1, bz_true, c2]
      simp
    · by_cases c3 : 8 < ln
      · refine ⟨A, ?_, by simp [c3]; exact h, am_fr.refl A⟩
        have c3' : ¬ ln ≤ 8 := Int32.not_le.mpr c3
        refine e_8 ?_; simp only [b_8, i_int, i_long, i_null, i_stat, i_iload, i_lload, i_aload, i_istore, i_astore, i_lstore, i_iinc, i_ii, i_idz, i_i, i_ll, i_lsh, i_i2l, i_l2i, i_lcmp, i_dup, i_pop, i_dup2, i_ifeq, i_ifne, i_iflt, i_ifge, i_ifgt, i_ifle, i_cmpeq, i_cmpne, i_cmplt, i_cmpge, i_cmpgt, i_cmple, i_ifnull, i_ifnonnull, i_getf, am_wr, i_putI, i_putZ, i_putR, i_iald, i_iast, i_aald, i_aast, i_alen, i_newi, i_newq, i_new, i_recv, i_iret, i_zret, i_lret, i_aret, i_vret, List.getElem?_cons_zero, List.getElem?_cons_succ, Option.bind_some, Option.toList_some, Option.toList_none, List.cons_append, List.nil_append, x_nI, am_put, am_put2, List.length_cons, List.length_nil, List.set_cons_zero, List.set_cons_succ, Nat.reduceAdd, Nat.reduceLT, Nat.reduceLeDiff, Nat.reduceEqDiff, Nat.add_left_cancel_iff, Nat.add_eq_left, Nat.left_eq_add, Nat.succ_ne_self, Nat.reduceSub, reduceIte, ite_self, eq_self, or_true, true_or, or_false, false_or, or_self, i10, not_true_eq_false, not_false_eq_true, x_call1, x_call2, x_call3, x_call4, x_call5, x_call6, x_sl0, x_sli, x_slr, x_sln, x_sll, am_ent, List.map_nil, List.map_cons, List.sum_nil, List.sum_cons, Value.category, and_true, true_and, and_self, Nat.zero_le, List.replicate_succ, List.replicate_zero, List.reduceReplicate, x_obj_set, x_row_set, x_len_set, x_obx, x_rox, x_rv, k_isName, c1, bz_true, c2, c3']
        simp [c3]
      · have c3' : ln ≤ 8 := Int32.not_lt.mp c3
        obtain ⟨n, hn, rfl⟩ := nI_of2 (M := 8) (n := 8) rfl c2 c3'
        rw [nI_clamp (by omega)]
        have hpl : pev d 11 [some (.int nm), some (.ref (b + 1)), some (.int (nI s.1.1)), none] [] A = some (some (.int (pI (fnd s.1.2.1 nm s.1.1))), A) := by
          rw [k_placeOf a1 (by omega) (by decide), fnd_congr (fun j hj => (a6 j hj).1)]
        cases hf : fnd s.1.2.1 nm s.1.1 with
        | some k =>
          rw [hf] at hpl
          obtain ⟨hk, -⟩ := fnd_some hf
          refine ⟨A, ?_, by simp [c1, c2, c3]; exact h, am_fr.refl A⟩
          have hc : ¬ nI k < 0 := nI_pos (by omega)
          refine e_8 ?_; simp only [b_8, i_int, i_long, i_null, i_stat, i_iload, i_lload, i_aload, i_istore, i_astore, i_lstore, i_iinc, i_ii, i_idz, i_i, i_ll, i_lsh, i_i2l, i_l2i, i_lcmp, i_dup, i_pop, i_dup2, i_ifeq, i_ifne, i_iflt, i_ifge, i_ifgt, i_ifle, i_cmpeq, i_cmpne, i_cmplt, i_cmpge, i_cmpgt, i_cmple, i_ifnull, i_ifnonnull, i_getf, am_wr, i_putI, i_putZ, i_putR, i_iald, i_iast, i_aald, i_aast, i_alen, i_newi, i_newq, i_new, i_recv, i_iret, i_zret, i_lret, i_aret, i_vret, List.getElem?_cons_zero, List.getElem?_cons_succ, Option.bind_some, Option.toList_some, Option.toList_none, List.cons_append, List.nil_append, x_nI, am_put, am_put2, List.length_cons, List.length_nil, List.set_cons_zero, List.set_cons_succ, Nat.reduceAdd, Nat.reduceLT, Nat.reduceLeDiff, Nat.reduceEqDiff, Nat.add_left_cancel_iff, Nat.add_eq_left, Nat.left_eq_add, Nat.succ_ne_self, Nat.reduceSub, reduceIte, ite_self, eq_self, or_true, true_or, or_false, false_or, or_self, i10, not_true_eq_false, not_false_eq_true, x_call1, x_call2, x_call3, x_call4, x_call5, x_call6, x_sl0, x_sli, x_slr, x_sln, x_sll, am_ent, List.map_nil, List.map_cons, List.sum_nil, List.sum_cons, Value.category, and_true, true_and, and_self, Nat.zero_le, List.replicate_succ, List.replicate_zero, List.reduceReplicate, x_obj_set, x_row_set, x_len_set, x_obx, x_rox, x_rv, k_isName, c1, bz_true, c2, c3', x_obj a0, hpl, pI, hc]
          simp [c3]
        | none =>
          rw [hf] at hpl
          have hc : (-1 : Int32) < 0 := by decide
          by_cases c4 : 4 ≤ s.1.1
          · refine ⟨A, ?_, by simp [c1, c2, c3, c4]; exact h, am_fr.refl A⟩
            have hc4 : (4 : Int32) ≤ nI s.1.1 := nI_le (a := 4) c4 (by omega)
            refine e_8 ?_; simp only [b_8, i_int, i_long, i_null, i_stat, i_iload, i_lload, i_aload, i_istore, i_astore, i_lstore, i_iinc, i_ii, i_idz, i_i, i_ll, i_lsh, i_i2l, i_l2i, i_lcmp, i_dup, i_pop, i_dup2, i_ifeq, i_ifne, i_iflt, i_ifge, i_ifgt, i_ifle, i_cmpeq, i_cmpne, i_cmplt, i_cmpge, i_cmpgt, i_cmple, i_ifnull, i_ifnonnull, i_getf, am_wr, i_putI, i_putZ, i_putR, i_iald, i_iast, i_aald, i_aast, i_alen, i_newi, i_newq, i_new, i_recv, i_iret, i_zret, i_lret, i_aret, i_vret, List.getElem?_cons_zero, List.getElem?_cons_succ, Option.bind_some, Option.toList_some, Option.toList_none, List.cons_append, List.nil_append, x_nI, am_put, am_put2, List.length_cons, List.length_nil, List.set_cons_zero, List.set_cons_succ, Nat.reduceAdd, Nat.reduceLT, Nat.reduceLeDiff, Nat.reduceEqDiff, Nat.add_left_cancel_iff, Nat.add_eq_left, Nat.left_eq_add, Nat.succ_ne_self, Nat.reduceSub, reduceIte, ite_self, eq_self, or_true, true_or, or_false, false_or, or_self, i10, not_true_eq_false, not_false_eq_true, x_call1, x_call2, x_call3, x_call4, x_call5, x_call6, x_sl0, x_sli, x_slr, x_sln, x_sll, am_ent, List.map_nil, List.map_cons, List.sum_nil, List.sum_cons, Value.category, and_true, true_and, and_self, Nat.zero_le, List.replicate_succ, List.replicate_zero, List.reduceReplicate, x_obj_set, x_row_set, x_len_set, x_obx, x_rox, x_rv, k_isName, c1, bz_true, c2, c3', x_obj a0, hpl, pI, hc, hc4]
            simp [c3, c4]
          · have hc4 : ¬ (4 : Int32) ≤ nI s.1.1 := nI_ge (b := 4) (by omega) (by decide)
            have ez : (nI n = (0 : Int32)) = (n = 0) := o_eq (b := 0) (by omega) (by decide)
            by_cases c5 : n = 0 ∧ hasG s = true
            · obtain ⟨rfl, c6⟩ := c5
              have hg := k_hasGrowing (d := d) h
              refine ⟨A, ?_, by simp [c1, c2, c3, c4, c6, nI_0]; exact h, am_fr.refl A⟩
              refine e_8 ?_; simp only [b_8, i_int, i_long, i_null, i_stat, i_iload, i_lload, i_aload, i_istore, i_astore, i_lstore, i_iinc, i_ii, i_idz, i_i, i_ll, i_lsh, i_i2l, i_l2i, i_lcmp, i_dup, i_pop, i_dup2, i_ifeq, i_ifne, i_iflt, i_ifge, i_ifgt, i_ifle, i_cmpeq, i_cmpne, i_cmplt, i_cmpge, i_cmpgt, i_cmple, i_ifnull, i_ifnonnull, i_getf, am_wr, i_putI, i_putZ, i_putR, i_iald, i_iast, i_aald, i_aast, i_alen, i_newi, i_newq, i_new, i_recv, i_iret, i_zret, i_lret, i_aret, i_vret, List.getElem?_cons_zero, List.getElem?_cons_succ, Option.bind_some, Option.toList_some, Option.toList_none, List.cons_append, List.nil_append, x_nI, am_put, am_put2, List.length_cons, List.length_nil, List.set_cons_zero, List.set_cons_succ, Nat.reduceAdd, Nat.reduceLT, Nat.reduceLeDiff, Nat.reduceEqDiff, Nat.add_left_cancel_iff, Nat.add_eq_left, Nat.left_eq_add, Nat.succ_ne_self, Nat.reduceSub, reduceIte, ite_self, eq_self, or_true, true_or, or_false, false_or, or_self, i10, not_true_eq_false, not_false_eq_true, x_call1, x_call2, x_call3, x_call4, x_call5, x_call6, x_sl0, x_sli, x_slr, x_sln, x_sll, am_ent, List.map_nil, List.map_cons, List.sum_nil, List.sum_cons, Value.category, and_true, true_and, and_self, Nat.zero_le, List.replicate_succ, List.replicate_zero, List.reduceReplicate, x_obj_set, x_row_set, x_len_set, x_obx, x_rox, x_rv, k_isName, c1, bz_true, c2, c3', x_obj a0, hpl, pI, hc, hc4, ez, hg, c6]
              simp [c3, c4, nI_0]
            · obtain ⟨B, e1, b1, f1⟩ := k_defineDim60 (d := d + 1) (nm := nm) (ln := n) h (by omega) hn
              have c7 : (decide (nI n = (0 : Int32)) && hasG s) = false := by
                by_cases c8 : n = 0
                · have : hasG s = false := by
                    cases hh : hasG s
                    · rfl
                    · exact absurd ⟨c8, hh⟩ c5
                  simp [this]
                · simp [ez, c8]
              refine ⟨B, ?_, by simp only [c1, c2, c3, c4, c7]; simpa using b1, f1⟩
              by_cases c8 : n = 0
              · have c9 : hasG s = false := by
                  cases hh : hasG s
                  · rfl
                  · exact absurd ⟨c8, hh⟩ c5
                have hg := k_hasGrowing (d := d) h
                refine e_8 ?_; simp only [b_8, i_int, i_long, i_null, i_stat, i_iload, i_lload, i_aload, i_istore, i_astore, i_lstore, i_iinc, i_ii, i_idz, i_i, i_ll, i_lsh, i_i2l, i_l2i, i_lcmp, i_dup, i_pop, i_dup2, i_ifeq, i_ifne, i_iflt, i_ifge, i_ifgt, i_ifle, i_cmpeq, i_cmpne, i_cmplt, i_cmpge, i_cmpgt, i_cmple, i_ifnull, i_ifnonnull, i_getf, am_wr, i_putI, i_putZ, i_putR, i_iald, i_iast, i_aald, i_aast, i_alen, i_newi, i_newq, i_new, i_recv, i_iret, i_zret, i_lret, i_aret, i_vret, List.getElem?_cons_zero, List.getElem?_cons_succ, Option.bind_some, Option.toList_some, Option.toList_none, List.cons_append, List.nil_append, x_nI, am_put, am_put2, List.length_cons, List.length_nil, List.set_cons_zero, List.set_cons_succ, Nat.reduceAdd, Nat.reduceLT, Nat.reduceLeDiff, Nat.reduceEqDiff, Nat.add_left_cancel_iff, Nat.add_eq_left, Nat.left_eq_add, Nat.succ_ne_self, Nat.reduceSub, reduceIte, ite_self, eq_self, or_true, true_or, or_false, false_or, or_self, i10, not_true_eq_false, not_false_eq_true, x_call1, x_call2, x_call3, x_call4, x_call5, x_call6, x_sl0, x_sli, x_slr, x_sln, x_sll, am_ent, List.map_nil, List.map_cons, List.sum_nil, List.sum_cons, Value.category, and_true, true_and, and_self, Nat.zero_le, List.replicate_succ, List.replicate_zero, List.reduceReplicate, x_obj_set, x_row_set, x_len_set, x_obx, x_rox, x_rv, k_isName, c1, bz_true, c2, c3', x_obj a0, hpl, pI, hc, hc4, ez, c8, hg, c9, bz_false]
                rw [c8] at e1
                simp [c3, c4, nI_0]
                simpa [nI_0] using e1
              · refine e_8 ?_; simp only [b_8, i_int, i_long, i_null, i_stat, i_iload, i_lload, i_aload, i_istore, i_astore, i_lstore, i_iinc, i_ii, i_idz, i_i, i_ll, i_lsh, i_i2l, i_l2i, i_lcmp, i_dup, i_pop, i_dup2, i_ifeq, i_ifne, i_iflt, i_ifge, i_ifgt, i_ifle, i_cmpeq, i_cmpne, i_cmplt, i_cmpge, i_cmpgt, i_cmple, i_ifnull, i_ifnonnull, i_getf, am_wr, i_putI, i_putZ, i_putR, i_iald, i_iast, i_aald, i_aast, i_alen, i_newi, i_newq, i_new, i_recv, i_iret, i_zret, i_lret, i_aret, i_vret, List.getElem?_cons_zero, List.getElem?_cons_succ, Option.bind_some, Option.toList_some, Option.toList_none, List.cons_append, List.nil_append, x_nI, am_put, am_put2, List.length_cons, List.length_nil, List.set_cons_zero, List.set_cons_succ, Nat.reduceAdd, Nat.reduceLT, Nat.reduceLeDiff, Nat.reduceEqDiff, Nat.add_left_cancel_iff, Nat.add_eq_left, Nat.left_eq_add, Nat.succ_ne_self, Nat.reduceSub, reduceIte, ite_self, eq_self, or_true, true_or, or_false, false_or, or_self, i10, not_true_eq_false, not_false_eq_true, x_call1, x_call2, x_call3, x_call4, x_call5, x_call6, x_sl0, x_sli, x_slr, x_sln, x_sll, am_ent, List.map_nil, List.map_cons, List.sum_nil, List.sum_cons, Value.category, and_true, true_and, and_self, Nat.zero_le, List.replicate_succ, List.replicate_zero, List.reduceReplicate, x_obj_set, x_row_set, x_len_set, x_obx, x_rox, x_rv, k_isName, c1, bz_true, c2, c3', x_obj a0, hpl, pI, hc, hc4, ez, c8]
                simp [c3, c4, ez, c8]
                exact e1
  · refine ⟨A, ?_, by simp [c1]; exact h, am_fr.refl A⟩
    simp only [Bool.not_eq_true] at c1
    refine e_8 ?_; simp only [b_8, i_int, i_long, i_null, i_stat, i_iload, i_lload, i_aload, i_istore, i_astore, i_lstore, i_iinc, i_ii, i_idz, i_i, i_ll, i_lsh, i_i2l, i_l2i, i_lcmp, i_dup, i_pop, i_dup2, i_ifeq, i_ifne, i_iflt, i_ifge, i_ifgt, i_ifle, i_cmpeq, i_cmpne, i_cmplt, i_cmpge, i_cmpgt, i_cmple, i_ifnull, i_ifnonnull, i_getf, am_wr, i_putI, i_putZ, i_putR, i_iald, i_iast, i_aald, i_aast, i_alen, i_newi, i_newq, i_new, i_recv, i_iret, i_zret, i_lret, i_aret, i_vret, List.getElem?_cons_zero, List.getElem?_cons_succ, Option.bind_some, Option.toList_some, Option.toList_none, List.cons_append, List.nil_append, x_nI, am_put, am_put2, List.length_cons, List.length_nil, List.set_cons_zero, List.set_cons_succ, Nat.reduceAdd, Nat.reduceLT, Nat.reduceLeDiff, Nat.reduceEqDiff, Nat.add_left_cancel_iff, Nat.add_eq_left, Nat.left_eq_add, Nat.succ_ne_self, Nat.reduceSub, reduceIte, ite_self, eq_self, or_true, true_or, or_false, false_or, or_self, i10, not_true_eq_false, not_false_eq_true, x_call1, x_call2, x_call3, x_call4, x_call5, x_call6, x_sl0, x_sli, x_slr, x_sln, x_sll, am_ent, List.map_nil, List.map_cons, List.sum_nil, List.sum_cons, Value.category, and_true, true_and, and_self, Nat.zero_le, List.replicate_succ, List.replicate_zero, List.reduceReplicate, x_obj_set, x_row_set, x_len_set, x_obx, x_rox, x_rv, k_isName, c1, bz_false]
    simp
