/-! the reference: growing; the cells put -/
theorem MS_rec {R : Nat → Nat → Int32} {h r : Nat} {s : sg_S} (hS : MS R h s) (hr : r < 2147483648) : MS (setR R 14 (upd (R 14) h (nI r))) h (setRec s r) := by
  obtain ⟨g1, g2, g3, g4, g5, g6⟩ := hS
  refine ⟨⟨g1.1, g1.2.1, g1.2.2.1, g1.2.2.2.1, hr⟩, g2, ?_, fun j hj => ?_, g5.same (fun i i1 i2 => setR_ne (by omega)), fun v hv => ?_⟩
  · rw [setR_ne (by decide), setR_ne (by decide), setR_self]
    exact ⟨g3.1, g3.2.1, pk_us⟩
  · rw [setR_ne (by decide), setR_ne (by decide)]
    exact g4 j hj
  · obtain ⟨w1, w2, w3, w4, w5, w6⟩ := g6 v hv
    rw [setR_ne (by decide), setR_ne (by decide), setR_ne (by decide), setR_ne (by decide), setR_ne (by decide)]
    exact ⟨w1, w2, w3, w4, w5.same (fun i i1 i2 => setR_ne (by omega)), w6⟩
theorem n_grow {d b v i : Nat} {A : am_H} {R : Nat → Nat → Int32} {f : mo_F} {s : sg_S} (hM : MM b A R f) (hS : MS R f.1 s) (hv : v < s.2.2.1) (hi : i < 100000000000) : ∃ B S, pev (d + 5) 200 [some (.ref b), some (.int (nI v)), some (.long (lN i)), none] [] A = some (some (.int (bz (!(decide (sg_l0 s v = 0)) || decide (i < s.2.2.2.2) || decide (sg_tot s (i + 1) ≤ 800)))), B) ∧ MM b B S f ∧ MS S f.1 (if sg_l0 s v = 0 ∧ s.2.2.2.2 ≤ i ∧ sg_tot s (i + 1) ≤ 800 then setRec s (i + 1) else s) ∧ (∀ j, 15 ≤ j → S j = R j) ∧ am_fr (at21 b) A B := by
  have hs := hS.1
  have hh := hS.2.1
  have hb := hM.2.1
  have h8 := hs.2.2.2.2
  have er := n_isRecord (d := d + 3) hM hS hv
  have et := n_total (d := d) (r := i + 1) hM hS
  have ixh := x_ix hh (show f.1 < 2147483648 by omega)
  by_cases c : sg_l0 s v = 0
  · simp only [c, decide_true] at er
    have ec : (lN s.2.2.2.2 ≤ lN i) = (s.2.2.2.2 ≤ i) := propext (pk_lLE (by omega) (by omega))
    by_cases c2 : s.2.2.2.2 ≤ i
    · have b1 := hS.hs_le
      have b2 := pb_le hs false (Nat.le_refl s.2.2.1)
      have b3 := rs_le hs
      rw [pb_f] at b2
      have b4 : (i + 1) * sg_rs s ≤ 100000000000 * 1280 := Nat.mul_le_mul (by omega) b3
      have ett : sg_tot s (i + 1) = sg_hs s + sg_pf s s.2.2.1 + (i + 1) * sg_rs s := rfl
      have ec3 : (lN (sg_tot s (i + 1)) ≤ (800 : Int64)) = (sg_tot s (i + 1) ≤ 800) := propext (pk_lLE (b := 800) (by omega) (by decide))
      have ei : lN i + 1 = lN (i + 1) := lN_1 i
      by_cases c3 : sg_tot s (i + 1) ≤ 800
      · have hr1 := rs_pos hs hv c
        have hi8 : i + 1 ≤ 800 := by
          have : (i + 1) * 1 ≤ (i + 1) * sg_rs s := Nat.mul_le_mul_left _ hr1
          omega
        have m1 := hM.set (i := 14) (by decide) (by decide) (upd (R 14) f.1 (nI (i + 1)))
        refine ⟨_, _, ?_, m1, by rw [if_pos ⟨c, c2, c3⟩]; exact MS_rec hS (by omega), fun j hj => setR_ne (by omega), (am_fr.refl A).set ⟨by omega, by omega⟩⟩
        refine e_200 ?_; simp only [b_200, i_int, i_long, i_null, i_stat, i_iload, i_lload, i_aload, i_istore, i_astore, i_lstore, i_iinc, i_ii, i_idz, i_i, i_ll, i_lsh, i_i2l, i_l2i, i_lcmp, i_dup, i_pop, i_dup2, i_ifeq, i_ifne, i_iflt, i_ifge, i_ifgt, i_ifle, i_cmpeq, i_cmpne, i_cmplt, i_cmpge, i_cmpgt, i_cmple, i_ifnull, i_ifnonnull, i_getf, am_wr, i_putI, i_putZ, i_putR, i_iald, i_iast, i_aald, i_aast, i_alen, i_newi, i_newq, i_new, i_recv, i_iret, i_zret, i_lret, i_aret, i_vret, List.getElem?_cons_zero, List.getElem?_cons_succ, Option.bind_some, Option.toList_some, Option.toList_none, List.cons_append, List.nil_append, x_nI, am_put, am_put2, List.length_cons, List.length_nil, List.set_cons_zero, List.set_cons_succ, Nat.reduceAdd, Nat.reduceLT, Nat.reduceLeDiff, Nat.reduceEqDiff, Nat.add_left_cancel_iff, Nat.add_eq_left, Nat.left_eq_add, Nat.succ_ne_self, Nat.reduceSub, reduceIte, ite_self, eq_self, or_true, true_or, or_false, false_or, or_self, i10, not_true_eq_false, not_false_eq_true, x_call1, x_call2, x_call3, x_call4, x_call5, x_call6, x_sl0, x_sli, x_slr, x_sln, x_sll, am_ent, List.map_nil, List.map_cons, List.sum_nil, List.sum_cons, Value.category, and_true, true_and, and_self, Nat.zero_le, List.replicate_succ, List.replicate_zero, List.reduceReplicate, x_obj_set, x_row_set, x_len_set, x_obx, x_rox, x_rv, x_obj hM.1, mo_obj, er, bz_true, x_row (show A.2.2 (b + 14) = some (.inl (0, 2, R 14)) from hM.2.2 14 (by decide) (by decide)), ixh, hS.2.2.1.2.2, nI_l (show s.2.2.2.2 < 2 ^ 31 by omega), lg_cmp_ge, lg_cmp_le, ec, c2, ei, et, ec3, c3, lN_i, nI_1, x_own (show 5 ≤ b + 14 by omega)]
        simp [bz]
        rfl
      · refine ⟨A, R, ?_, hM, by rw [if_neg (fun e => c3 e.2.2)]; exact hS, fun _ _ => rfl, am_fr.refl A⟩
        have c4 : ¬ i < s.2.2.2.2 := by omega
        refine e_200 ?_; simp only [b_200, i_int, i_long, i_null, i_stat, i_iload, i_lload, i_aload, i_istore, i_astore, i_lstore, i_iinc, i_ii, i_idz, i_i, i_ll, i_lsh, i_i2l, i_l2i, i_lcmp, i_dup, i_pop, i_dup2, i_ifeq, i_ifne, i_iflt, i_ifge, i_ifgt, i_ifle, i_cmpeq, i_cmpne, i_cmplt, i_cmpge, i_cmpgt, i_cmple, i_ifnull, i_ifnonnull, i_getf, am_wr, i_putI, i_putZ, i_putR, i_iald, i_iast, i_aald, i_aast, i_alen, i_newi, i_newq, i_new, i_recv, i_iret, i_zret, i_lret, i_aret, i_vret, List.getElem?_cons_zero, List.getElem?_cons_succ, Option.bind_some, Option.toList_some, Option.toList_none, List.cons_append, List.nil_append, x_nI, am_put, am_put2, List.length_cons, List.length_nil, List.set_cons_zero, List.set_cons_succ, Nat.reduceAdd, Nat.reduceLT, Nat.reduceLeDiff, Nat.reduceEqDiff, Nat.add_left_cancel_iff, Nat.add_eq_left, Nat.left_eq_add, Nat.succ_ne_self, Nat.reduceSub, reduceIte, ite_self, eq_self, or_true, true_or, or_false, false_or, or_self, i10, not_true_eq_false, not_false_eq_true, x_call1, x_call2, x_call3, x_call4, x_call5, x_call6, x_sl0, x_sli, x_slr, x_sln, x_sll, am_ent, List.map_nil, List.map_cons, List.sum_nil, List.sum_cons, Value.category, and_true, true_and, and_self, Nat.zero_le, List.replicate_succ, List.replicate_zero, List.reduceReplicate, x_obj_set, x_row_set, x_len_set, x_obx, x_rox, x_rv, x_obj hM.1, mo_obj, er, bz_true, x_row (show A.2.2 (b + 14) = some (.inl (0, 2, R 14)) from hM.2.2 14 (by decide) (by decide)), ixh, hS.2.2.1.2.2, nI_l (show s.2.2.2.2 < 2 ^ 31 by omega), lg_cmp_ge, lg_cmp_le, ec, c2, ei, et, ec3, c3]
        simp [bz, c, c4]
    · refine ⟨A, R, ?_, hM, by rw [if_neg (fun e => c2 e.2.1)]; exact hS, fun _ _ => rfl, am_fr.refl A⟩
      have c4 : i < s.2.2.2.2 := by omega
      refine e_200 ?_; simp only [b_200, i_int, i_long, i_null, i_stat, i_iload, i_lload, i_aload, i_istore, i_astore, i_lstore, i_iinc, i_ii, i_idz, i_i, i_ll, i_lsh, i_i2l, i_l2i, i_lcmp, i_dup, i_pop, i_dup2, i_ifeq, i_ifne, i_iflt, i_ifge, i_ifgt, i_ifle, i_cmpeq, i_cmpne, i_cmplt, i_cmpge, i_cmpgt, i_cmple, i_ifnull, i_ifnonnull, i_getf, am_wr, i_putI, i_putZ, i_putR, i_iald, i_iast, i_aald, i_aast, i_alen, i_newi, i_newq, i_new, i_recv, i_iret, i_zret, i_lret, i_aret, i_vret, List.getElem?_cons_zero, List.getElem?_cons_succ, Option.bind_some, Option.toList_some, Option.toList_none, List.cons_append, List.nil_append, x_nI, am_put, am_put2, List.length_cons, List.length_nil, List.set_cons_zero, List.set_cons_succ, Nat.reduceAdd, Nat.reduceLT, Nat.reduceLeDiff, Nat.reduceEqDiff, Nat.add_left_cancel_iff, Nat.add_eq_left, Nat.left_eq_add, Nat.succ_ne_self, Nat.reduceSub, reduceIte, ite_self, eq_self, or_true, true_or, or_false, false_or, or_self, i10, not_true_eq_false, not_false_eq_true, x_call1, x_call2, x_call3, x_call4, x_call5, x_call6, x_sl0, x_sli, x_slr, x_sln, x_sll, am_ent, List.map_nil, List.map_cons, List.sum_nil, List.sum_cons, Value.category, and_true, true_and, and_self, Nat.zero_le, List.replicate_succ, List.replicate_zero, List.reduceReplicate, x_obj_set, x_row_set, x_len_set, x_obx, x_rox, x_rv, x_obj hM.1, mo_obj, er, bz_true, x_row (show A.2.2 (b + 14) = some (.inl (0, 2, R 14)) from hM.2.2 14 (by decide) (by decide)), ixh, hS.2.2.1.2.2, nI_l (show s.2.2.2.2 < 2 ^ 31 by omega), lg_cmp_ge, ec, c2]
      simp [bz, c4]
  · simp only [c, decide_false] at er
    refine ⟨A, R, ?_, hM, by rw [if_neg (fun e => c e.1)]; exact hS, fun _ _ => rfl, am_fr.refl A⟩
    refine e_200 ?_; simp only [b_200, i_int, i_long, i_null, i_stat, i_iload, i_lload, i_aload, i_istore, i_astore, i_lstore, i_iinc, i_ii, i_idz, i_i, i_ll, i_lsh, i_i2l, i_l2i, i_lcmp, i_dup, i_pop, i_dup2, i_ifeq, i_ifne, i_iflt, i_ifge, i_ifgt, i_ifle, i_cmpeq, i_cmpne, i_cmplt, i_cmpge, i_cmpgt, i_cmple, i_ifnull, i_ifnonnull, i_getf, am_wr, i_putI, i_putZ, i_putR, i_iald, i_iast, i_aald, i_aast, i_alen, i_newi, i_newq, i_new, i_recv, i_iret, i_zret, i_lret, i_aret, i_vret, List.getElem?_cons_zero, List.getElem?_cons_succ, Option.bind_some, Option.toList_some, Option.toList_none, List.cons_append, List.nil_append, x_nI, am_put, am_put2, List.length_cons, List.length_nil, List.set_cons_zero, List.set_cons_succ, Nat.reduceAdd, Nat.reduceLT, Nat.reduceLeDiff, Nat.reduceEqDiff, Nat.add_left_cancel_iff, Nat.add_eq_left, Nat.left_eq_add, Nat.succ_ne_self, Nat.reduceSub, reduceIte, ite_self, eq_self, or_true, true_or, or_false, false_or, or_self, i10, not_true_eq_false, not_false_eq_true, x_call1, x_call2, x_call3, x_call4, x_call5, x_call6, x_sl0, x_sli, x_slr, x_sln, x_sll, am_ent, List.map_nil, List.map_cons, List.sum_nil, List.sum_cons, Value.category, and_true, true_and, and_self, Nat.zero_le, List.replicate_succ, List.replicate_zero, List.reduceReplicate, x_obj_set, x_row_set, x_len_set, x_obx, x_rox, x_rv, x_obj hM.1, mo_obj, er, bz_false]
    simp [bz, c]
/-- one cell of variable v changed -/
def setCe (s : sg_S) (v : Nat) (ce : Nat → Int32) : sg_S := (s.1, s.2.1, s.2.2.1, (fun u => if u = v then ((s.2.2.2.1 u).1, (s.2.2.2.1 u).2.1, (s.2.2.2.1 u).2.2.1, (s.2.2.2.1 u).2.2.2.1, (s.2.2.2.1 u).2.2.2.2.1, ce) else s.2.2.2.1 u), s.2.2.2.2)
theorem setCe_var (s : sg_S) (v : Nat) (ce : Nat → Int32) (u : Nat) : ((setCe s v ce).2.2.2.1 u).1 = (s.2.2.2.1 u).1 ∧ ((setCe s v ce).2.2.2.1 u).2.1 = (s.2.2.2.1 u).2.1 ∧ ((setCe s v ce).2.2.2.1 u).2.2.1 = (s.2.2.2.1 u).2.2.1 ∧ ((setCe s v ce).2.2.2.1 u).2.2.2.1 = (s.2.2.2.1 u).2.2.2.1 ∧ ((setCe s v ce).2.2.2.1 u).2.2.2.2.1 = (s.2.2.2.1 u).2.2.2.2.1 ∧ ((setCe s v ce).2.2.2.1 u).2.2.2.2.2 = if u = v then ce else (s.2.2.2.1 u).2.2.2.2.2 := by
  by_cases c : u = v
  · simp [setCe, c]
  · simp [setCe, c]
theorem setCe_l0 (s : sg_S) (v : Nat) (ce : Nat → Int32) (u : Nat) : sg_l0 (setCe s v ce) u = sg_l0 s u := by
  obtain ⟨-, -, h3, h4, -⟩ := setCe_var s v ce u
  unfold sg_l0
  rw [h3, h4]
  rfl
theorem setCe_l1 (s : sg_S) (v : Nat) (ce : Nat → Int32) (u : Nat) : sg_l1 (setCe s v ce) u = sg_l1 s u := by
  obtain ⟨-, -, h3, h4, -⟩ := setCe_var s v ce u
  unfold sg_l1
  rw [h3, h4]
  rfl
theorem setCe_v {s : sg_S} (h : STv s) (v : Nat) (ce : Nat → Int32) : STv (setCe s v ce) := by
  refine ⟨h.1, h.2.1, h.2.2.1, fun u hu => ?_, h.2.2.2.2⟩
  obtain ⟨-, v2, v3, v4, -⟩ := setCe_var s v ce u
  rw [v2, v3, v4, setCe_l1]
  exact h.2.2.2.1 u hu
theorem MS_cell {R : Nat → Nat → Int32} {h v p : Nat} {s : sg_S} {x : Int32} (hS : MS R h s) (hv : v < s.2.2.1) (hp : p < 800) : MS (setR R 15 (upd (R 15) (800 * (5 * h + v) + p) x)) h (setCe s v (upd (s.2.2.2.1 v).2.2.2.2.2 p x)) := by
  obtain ⟨g1, g2, g3, g4, g5, g6⟩ := hS
  refine ⟨setCe_v g1 v _, g2, ?_, fun j hj => ?_, g5.same (fun i i1 i2 => setR_ne (by omega)), fun u hu => ?_⟩
  · rw [setR_ne (by decide), setR_ne (by decide), setR_ne (by decide)]
    exact g3
  · rw [setR_ne (by decide), setR_ne (by decide)]
    exact g4 j hj
  · obtain ⟨w1, w2, w3, w4, w5, w6⟩ := g6 u hu
    obtain ⟨v1, v2, v3, v4, v5, v6⟩ := setCe_var s v (upd (s.2.2.2.1 v).2.2.2.2.2 p x) u
    rw [v1, v2, v3, v4, v5, v6, setR_ne (by decide), setR_ne (by decide), setR_ne (by decide), setR_ne (by decide), setR_self]
    refine ⟨w1, w2, w3, w4, w5.same (fun i i1 i2 => setR_ne (by omega)), fun k hk => ?_⟩
    by_cases c : u = v
    · subst c
      rw [if_pos rfl]
      by_cases c2 : k = p
      · subst c2
        rw [pk_us, pk_us]
      · rw [pk_un (by omega), pk_un c2]
        exact w6 k hk
    · rw [if_neg c, pk_un (by omega)]
      exact w6 k hk
