/-! the reference: readHeader -/
theorem MHn.ms {R : Nat → Nat → Int32} {h r : Nat} {s : sg_S} (hH : MHn R h s.2.2.1 s) (h14 : R 14 h = nI r) (hr : r < 2147483648) : MS R h (setAll (setRec s r) (fun v k => R 15 (800 * (5 * h + v) + k))) := by
  obtain ⟨g1, g2, g3, g4, g5, g6⟩ := hH
  refine ⟨⟨g1.1, g1.2.1, g1.2.2.1, g1.2.2.2.1, hr⟩, g2, ⟨g3.1, g3.2, h14⟩, g4, g5, fun v hv => ?_⟩
  obtain ⟨w1, w2, w3, w4, w5⟩ := g6 v hv
  exact ⟨w1, w2, w3, w4, w5, fun k _ => rfl⟩
/-- bytes of the first n variables in the header -/
def vhs (s : sg_S) (n : Nat) : Nat := sg_sum (fun v => 24 + 4 * (s.2.2.2.1 v).2.2.1 + sg_ls (s.2.2.2.1 v).2.2.2.2.1) n
theorem MHn.four {R : Nat → Nat → Int32} {h n4 m : Nat} {s : sg_S} (hH : MHn R h n4 s) : MHn (setR R 4 (upd (R 4) h (nI m))) h m s := by
  obtain ⟨g1, g2, g3, g4, g5, g6⟩ := hH
  refine ⟨g1, g2, ⟨?_, ?_⟩, fun k hk => ?_, g5.same (fun i i1 i2 => setR_ne (by omega)), fun v hv => ?_⟩
  · rw [setR_ne (by decide)]; exact g3.1
  · rw [setR_self, pk_us]
  · rw [setR_ne (by decide), setR_ne (by decide)]; exact g4 k hk
  · obtain ⟨w1, w2, w3, w4, w5⟩ := g6 v hv
    rw [setR_ne (by decide), setR_ne (by decide), setR_ne (by decide), setR_ne (by decide)]
    exact ⟨w1, w2, w3, w4, w5.same (fun i i1 i2 => setR_ne (by omega))⟩
theorem n_h55 {d b h n c0 : Nat} {f : mo_F} {D : List Nat} (T : Option sg_S) (hh : h < 2) (hn : n ≤ 5) (hDb : ∀ i, D.getD i 0 < 256) (hc04 : c0 % 4 = 0) (hT0 : ∀ t0, T = some t0 → HP t0 ∧ STv t0 ∧ t0.2.2.1 = n ∧ (∀ v, v < n → nrm t0 v) ∧ seg D c0 (sg_cat (im_v t0) n)) : ∀ (m v : Nat), v + m = n → ∀ {A : am_H} {R : Nat → Nat → Int32} {c : Nat} {ro : Bool} {s : sg_S}, MHn R h v s → HP s → s.2.2.1 = v → MM b A R (sat f c ro) → MDr R f D → c = c0 + vhs s v → c + 170 * m < 200000 → (∀ t0, T = some t0 → s = cutV t0 v ∧ ro = false) → ∃ B S ok s2 c2 ro2, MM b B S (sat f c2 ro2) ∧ KH (1 - h) R S ∧ S 14 = R 14 ∧ am_fr (at21 b) A B ∧ (ok = false → pev (d + 4) 243 [some (.ref b), some (.int (nI h)), some (.int (nI n)), some (.int (nI v))] [] A = some (some (.int 0), B)) ∧ (ok = true → (∀ Y, pev (d + 4) 243 [some (.ref b), some (.int (nI h)), some (.int (nI n)), some (.int (nI n))] [] B = some Y → pev (d + 4) 243 [some (.ref b), some (.int (nI h)), some (.int (nI n)), some (.int (nI v))] [] A = some Y) ∧ MHn S h n s2 ∧ HP s2 ∧ s2.2.2.1 = n ∧ s2.1 = s.1 ∧ s2.2.1 = s.2.1 ∧ s2.2.2.2.2 = s.2.2.2.2 ∧ c2 = c0 + vhs s2 n) ∧ ∀ t0, T = some t0 → ok = true ∧ s2 = cutV t0 n ∧ ro2 = false := by
  intro m
  induction m with
  | zero =>
    intro v hv A R c ro s hH hP hnv hM hD hcc hc hT
    have e : v = n := by omega
    subst e
    exact ⟨A, R, true, s, c, ro, hM, KH.refl _ _, rfl, am_fr.refl A, fun e => (by cases e), fun _ => ⟨fun Y hY => hY, hH, hP, hnv, rfl, rfl, rfl, hcc⟩, fun t0 e => ⟨rfl, hT t0 e⟩⟩
  | succ m ih =>
    intro v hv A R c ro s hH hP hnv hM hD hcc hc hT
    have hb := hM.2.1
    have hcn : ¬ nI n ≤ nI v := nI_ge (by omega) (by omega)
    have v4 : ∀ (t : sg_S) (k : Nat), vhs t k % 4 = 0 := fun t k => sum_mod (fun j _ => by have := sg_ls_mod (t.2.2.2.1 j).2.2.2.2.1; omega)
    have hc4 : c % 4 = 0 := by have := v4 s v; omega
    obtain ⟨B1, S1, ok, s1, c1, ro1, e1, q1, q2, q3, q4, q5, q6, q7⟩ := n_rvar (d := d) (D := D) T hH hP hnv (by omega) hDb hM hD hc4 (by omega) (fun t0 e => by
      obtain ⟨k1, k2, k3, k4, k5⟩ := hT0 t0 e
      obtain ⟨m1, m2⟩ := hT t0 e
      have hs := seg_cat k5 (show v < n by omega)
      have ev : vhs s v = (sg_cat (im_v t0) v).length := by
        rw [m1, sg_cat_len]
        exact sg_sum_congr (fun j _ => (im_v_len t0 j).symm)
      rw [← ev, ← hcc] at hs
      exact ⟨k1, k2, by omega, k4 v (by omega), m1, hs, m2⟩)
    cases ok with
    | false =>
      refine ⟨B1, S1, false, s1, c1, ro1, q1, q2, q3.1, q4, fun _ => ?_, fun e => (by cases e), fun t0 e => absurd (q7 t0 e).1 (by decide)⟩
      refine e_243 ?_; simp only [b_243, i_int, i_long, i_null, i_stat, i_iload, i_lload, i_aload, i_istore, i_astore, i_lstore, i_iinc, i_ii, i_idz, i_i, i_ll, i_lsh, i_i2l, i_l2i, i_lcmp, i_dup, i_pop, i_dup2, i_ifeq, i_ifne, i_iflt, i_ifge, i_ifgt, i_ifle, i_cmpeq, i_cmpne, i_cmplt, i_cmpge, i_cmpgt, i_cmple, i_ifnull, i_ifnonnull, i_getf, am_wr, i_putI, i_putZ, i_putR, i_iald, i_iast, i_aald, i_aast, i_alen, i_newi, i_newq, i_new, i_recv, i_iret, i_zret, i_lret, i_aret, i_vret, List.getElem?_cons_zero, List.getElem?_cons_succ, Option.bind_some, Option.toList_some, Option.toList_none, List.cons_append, List.nil_append, x_nI, am_put, am_put2, List.length_cons, List.length_nil, List.set_cons_zero, List.set_cons_succ, Nat.reduceAdd, Nat.reduceLT, Nat.reduceLeDiff, Nat.reduceEqDiff, Nat.add_left_cancel_iff, Nat.add_eq_left, Nat.left_eq_add, Nat.succ_ne_self, Nat.reduceSub, reduceIte, ite_self, eq_self, or_true, true_or, or_false, false_or, or_self, i10, not_true_eq_false, not_false_eq_true, x_call1, x_call2, x_call3, x_call4, x_call5, x_call6, x_sl0, x_sli, x_slr, x_sln, x_sll, am_ent, List.map_nil, List.map_cons, List.sum_nil, List.sum_cons, Value.category, and_true, true_and, and_self, Nat.zero_le, List.replicate_succ, List.replicate_zero, List.reduceReplicate, x_obj_set, x_row_set, x_len_set, x_obx, x_rox, x_rv, hcn, x_obj hM.1, e1, bz_false]
    | true =>
      obtain ⟨z1, z2, z3, z4⟩ := q6 rfl
      have w1 := q1.set (i := 4) (by decide) (by decide) (upd (S1 4) h (nI (v + 1)))
      have hH2 : MHn (setR S1 4 (upd (S1 4) h (nI (v + 1)))) h (v + 1) s1 := z1.four
      have evh : vhs s1 (v + 1) = vhs s v + (24 + 4 * (s1.2.2.2.1 v).2.2.1 + sg_ls (s1.2.2.2.1 v).2.2.2.2.1) := by
        show sg_sum _ (v + 1) = _
        rw [sg_sum]
        congr 1
        exact sg_sum_congr (fun u hu => by rw [z3.2.2.2.2 u hu])
      have k4 : KH (1 - h) R (setR S1 4 (upd (S1 4) h (nI (v + 1)))) := q2.upd (i := 4) (j := h) (nI (v + 1)) (by decide) (by decide) (by show _ < (1 - h) * 1 ∨ (1 - h) * 1 + 1 ≤ _; omega)
      obtain ⟨C, S, ok2, s2, c2, ro2, r1, r2, r3, r4, r5, r6, r7⟩ := ih (v + 1) (by omega) hH2 z2 z3.2.2.1 w1 ((hD.same (q2.2 20 (by decide)) rfl).same rfl rfl) (by omega) (by omega) (fun t0 e => ⟨(q7 t0 e).2.1, (q7 t0 e).2.2.1⟩)
      have rr4 : B1.2.2 (b + 4) = some (.inl (0, 2, S1 4)) := q1.2.2 4 (by decide) (by decide)
      have ixh := x_ix hh (show h < 2147483648 by omega)
      refine ⟨C, S, ok2, s2, c2, ro2, r1, k4.trans r2, r3.trans ((setR_ne (by decide)).trans q3.1), (q4.trans ((am_fr.refl B1).set ⟨by omega, by omega⟩)).trans r4, fun e => ?_, fun e => ?_, r7⟩
      · have e2 := r5 e
        refine e_243 ?_; simp only [b_243, i_int, i_long, i_null, i_stat, i_iload, i_lload, i_aload, i_istore, i_astore, i_lstore, i_iinc, i_ii, i_idz, i_i, i_ll, i_lsh, i_i2l, i_l2i, i_lcmp, i_dup, i_pop, i_dup2, i_ifeq, i_ifne, i_iflt, i_ifge, i_ifgt, i_ifle, i_cmpeq, i_cmpne, i_cmplt, i_cmpge, i_cmpgt, i_cmple, i_ifnull, i_ifnonnull, i_getf, am_wr, i_putI, i_putZ, i_putR, i_iald, i_iast, i_aald, i_aast, i_alen, i_newi, i_newq, i_new, i_recv, i_iret, i_zret, i_lret, i_aret, i_vret, List.getElem?_cons_zero, List.getElem?_cons_succ, Option.bind_some, Option.toList_some, Option.toList_none, List.cons_append, List.nil_append, x_nI, am_put, am_put2, List.length_cons, List.length_nil, List.set_cons_zero, List.set_cons_succ, Nat.reduceAdd, Nat.reduceLT, Nat.reduceLeDiff, Nat.reduceEqDiff, Nat.add_left_cancel_iff, Nat.add_eq_left, Nat.left_eq_add, Nat.succ_ne_self, Nat.reduceSub, reduceIte, ite_self, eq_self, or_true, true_or, or_false, false_or, or_self, i10, not_true_eq_false, not_false_eq_true, x_call1, x_call2, x_call3, x_call4, x_call5, x_call6, x_sl0, x_sli, x_slr, x_sln, x_sll, am_ent, List.map_nil, List.map_cons, List.sum_nil, List.sum_cons, Value.category, and_true, true_and, and_self, Nat.zero_le, List.replicate_succ, List.replicate_zero, List.reduceReplicate, x_obj_set, x_row_set, x_len_set, x_obx, x_rox, x_rv, hcn, x_obj hM.1, e1, bz_true, x_obj q1.1, mo_obj, x_row rr4, ixh, x_own (show 5 ≤ b + 4 by omega), nI_1]
        exact e2
      · obtain ⟨y1, y2, y3, y4, y5, y6, y7, y8⟩ := r6 e
        refine ⟨fun Y hY => ?_, y2, y3, y4, y5.trans z3.1, y6.trans z3.2.1, y7.trans z3.2.2.2.1, y8⟩
        have e2 := y1 Y hY
        refine e_243 ?_; simp only [b_243, i_int, i_long, i_null, i_stat, i_iload, i_lload, i_aload, i_istore, i_astore, i_lstore, i_iinc, i_ii, i_idz, i_i, i_ll, i_lsh, i_i2l, i_l2i, i_lcmp, i_dup, i_pop, i_dup2, i_ifeq, i_ifne, i_iflt, i_ifge, i_ifgt, i_ifle, i_cmpeq, i_cmpne, i_cmplt, i_cmpge, i_cmpgt, i_cmple, i_ifnull, i_ifnonnull, i_getf, am_wr, i_putI, i_putZ, i_putR, i_iald, i_iast, i_aald, i_aast, i_alen, i_newi, i_newq, i_new, i_recv, i_iret, i_zret, i_lret, i_aret, i_vret, List.getElem?_cons_zero, List.getElem?_cons_succ, Option.bind_some, Option.toList_some, Option.toList_none, List.cons_append, List.nil_append, x_nI, am_put, am_put2, List.length_cons, List.length_nil, List.set_cons_zero, List.set_cons_succ, Nat.reduceAdd, Nat.reduceLT, Nat.reduceLeDiff, Nat.reduceEqDiff, Nat.add_left_cancel_iff, Nat.add_eq_left, Nat.left_eq_add, Nat.succ_ne_self, Nat.reduceSub, reduceIte, ite_self, eq_self, or_true, true_or, or_false, false_or, or_self, i10, not_true_eq_false, not_false_eq_true, x_call1, x_call2, x_call3, x_call4, x_call5, x_call6, x_sl0, x_sli, x_slr, x_sln, x_sll, am_ent, List.map_nil, List.map_cons, List.sum_nil, List.sum_cons, Value.category, and_true, true_and, and_self, Nat.zero_le, List.replicate_succ, List.replicate_zero, List.reduceReplicate, x_obj_set, x_row_set, x_len_set, x_obx, x_rox, x_rv, hcn, x_obj hM.1, e1, bz_true, x_obj q1.1, mo_obj, x_row rr4, ixh, x_own (show 5 ≤ b + 4 by omega), nI_1]
        exact e2
/-- what the header says in the end -/
theorem n_hend {d b h n : Nat} {A : am_H} {R : Nat → Nat → Int32} {f : mo_F} {c : Nat} {ro : Bool} {s : sg_S} {x : Int32} (hn : n ≤ 5) (hH : MHn R h n s) (hnv : s.2.2.1 = n) (hM : MM b A R (sat f c ro)) (hx : R 14 h = x) : pev (d + 4) 243 [some (.ref b), some (.int (nI h)), some (.int (nI n)), some (.int (nI n))] [] A = some (some (.int (bz (!ro && !decide (x < 0) && (decide (x = 0) || decide (0 < sg_nr s))))), A) := by
  have hh := hH.2.1
  have hle : nI n ≤ nI n := nI_le (Nat.le_refl _) (by omega)
  have hn0 : ¬ nI n < 0 := nI_pos (by omega)
  have ixh := x_ix hh (show h < 2147483648 by omega)
  cases ro with
  | true =>
    refine e_243 ?_; simp only [b_243, i_int, i_long, i_null, i_stat, i_iload, i_lload, i_aload, i_istore, i_astore, i_lstore, i_iinc, i_ii, i_idz, i_i, i_ll, i_lsh, i_i2l, i_l2i, i_lcmp, i_dup, i_pop, i_dup2, i_ifeq, i_ifne, i_iflt, i_ifge, i_ifgt, i_ifle, i_cmpeq, i_cmpne, i_cmplt, i_cmpge, i_cmpgt, i_cmple, i_ifnull, i_ifnonnull, i_getf, am_wr, i_putI, i_putZ, i_putR, i_iald, i_iast, i_aald, i_aast, i_alen, i_newi, i_newq, i_new, i_recv, i_iret, i_zret, i_lret, i_aret, i_vret, List.getElem?_cons_zero, List.getElem?_cons_succ, Option.bind_some, Option.toList_some, Option.toList_none, List.cons_append, List.nil_append, x_nI, am_put, am_put2, List.length_cons, List.length_nil, List.set_cons_zero, List.set_cons_succ, Nat.reduceAdd, Nat.reduceLT, Nat.reduceLeDiff, Nat.reduceEqDiff, Nat.add_left_cancel_iff, Nat.add_eq_left, Nat.left_eq_add, Nat.succ_ne_self, Nat.reduceSub, reduceIte, ite_self, eq_self, or_true, true_or, or_false, false_or, or_self, i10, not_true_eq_false, not_false_eq_true, x_call1, x_call2, x_call3, x_call4, x_call5, x_call6, x_sl0, x_sli, x_slr, x_sln, x_sll, am_ent, List.map_nil, List.map_cons, List.sum_nil, List.sum_cons, Value.category, and_true, true_and, and_self, Nat.zero_le, List.replicate_succ, List.replicate_zero, List.reduceReplicate, x_obj_set, x_row_set, x_len_set, x_obx, x_rox, x_rv, hle, hn0, x_obj hM.1, mo_obj, sat, bz_true]
    all_goals rfl
  | false =>
    by_cases c1 : x < 0
    · refine e_243 ?_; simp only [b_243, i_int, i_long, i_null, i_stat, i_iload, i_lload, i_aload, i_istore, i_astore, i_lstore, i_iinc, i_ii, i_idz, i_i, i_ll, i_lsh, i_i2l, i_l2i, i_lcmp, i_dup, i_pop, i_dup2, i_ifeq, i_ifne, i_iflt, i_ifge, i_ifgt, i_ifle, i_cmpeq, i_cmpne, i_cmplt, i_cmpge, i_cmpgt, i_cmple, i_ifnull, i_ifnonnull, i_getf, am_wr, i_putI, i_putZ, i_putR, i_iald, i_iast, i_aald, i_aast, i_alen, i_newi, i_newq, i_new, i_recv, i_iret, i_zret, i_lret, i_aret, i_vret, List.getElem?_cons_zero, List.getElem?_cons_succ, Option.bind_some, Option.toList_some, Option.toList_none, List.cons_append, List.nil_append, x_nI, am_put, am_put2, List.length_cons, List.length_nil, List.set_cons_zero, List.set_cons_succ, Nat.reduceAdd, Nat.reduceLT, Nat.reduceLeDiff, Nat.reduceEqDiff, Nat.add_left_cancel_iff, Nat.add_eq_left, Nat.left_eq_add, Nat.succ_ne_self, Nat.reduceSub, reduceIte, ite_self, eq_self, or_true, true_or, or_false, false_or, or_self, i10, not_true_eq_false, not_false_eq_true, x_call1, x_call2, x_call3, x_call4, x_call5, x_call6, x_sl0, x_sli, x_slr, x_sln, x_sll, am_ent, List.map_nil, List.map_cons, List.sum_nil, List.sum_cons, Value.category, and_true, true_and, and_self, Nat.zero_le, List.replicate_succ, List.replicate_zero, List.reduceReplicate, x_obj_set, x_row_set, x_len_set, x_obx, x_rox, x_rv, hle, hn0, x_obj hM.1, mo_obj, sat, bz_false, x_row (show A.2.2 (b + 14) = some (.inl (0, 2, R 14)) from hM.2.2 14 (by decide) (by decide)), ixh, hx, c1]
      simp [bz]
    · by_cases c2 : x = 0
      · refine e_243 ?_; simp only [b_243, i_int, i_long, i_null, i_stat, i_iload, i_lload, i_aload, i_istore, i_astore, i_lstore, i_iinc, i_ii, i_idz, i_i, i_ll, i_lsh, i_i2l, i_l2i, i_lcmp, i_dup, i_pop, i_dup2, i_ifeq, i_ifne, i_iflt, i_ifge, i_ifgt, i_ifle, i_cmpeq, i_cmpne, i_cmplt, i_cmpge, i_cmpgt, i_cmple, i_ifnull, i_ifnonnull, i_getf, am_wr, i_putI, i_putZ, i_putR, i_iald, i_iast, i_aald, i_aast, i_alen, i_newi, i_newq, i_new, i_recv, i_iret, i_zret, i_lret, i_aret, i_vret, List.getElem?_cons_zero, List.getElem?_cons_succ, Option.bind_some, Option.toList_some, Option.toList_none, List.cons_append, List.nil_append, x_nI, am_put, am_put2, List.length_cons, List.length_nil, List.set_cons_zero, List.set_cons_succ, Nat.reduceAdd, Nat.reduceLT, Nat.reduceLeDiff, Nat.reduceEqDiff, Nat.add_left_cancel_iff, Nat.add_eq_left, Nat.left_eq_add, Nat.succ_ne_self, Nat.reduceSub, reduceIte, ite_self, eq_self, or_true, true_or, or_false, false_or, or_self, i10, not_true_eq_false, not_false_eq_true, x_call1, x_call2, x_call3, x_call4, x_call5, x_call6, x_sl0, x_sli, x_slr, x_sln, x_sll, am_ent, List.map_nil, List.map_cons, List.sum_nil, List.sum_cons, Value.category, and_true, true_and, and_self, Nat.zero_le, List.replicate_succ, List.replicate_zero, List.reduceReplicate, x_obj_set, x_row_set, x_len_set, x_obx, x_rox, x_rv, hle, hn0, x_obj hM.1, mo_obj, sat, bz_false, x_row (show A.2.2 (b + 14) = some (.inl (0, 2, R 14)) from hM.2.2 14 (by decide) (by decide)), ixh, hx, c1, c2]
        simp [bz]
      · obtain ⟨r, hr, rfl⟩ := nI_of c1
        subst hnv
        have hS := hH.ms hx (by omega)
        have en := n_recordVariables (d := d + 1) hM hS
        have en2 : sg_nr (setAll (setRec s r) (fun v k => R 15 (800 * (5 * h + v) + k))) = sg_nr s := rfl
        rw [en2] at en
        have hnr := sg_nr_le s
        by_cases c3 : 0 < sg_nr s
        · have c4 : ¬ nI (sg_nr s) ≤ 0 := nI_nle c3 (by omega)
          refine e_243 ?_; simp only [b_243, i_int, i_long, i_null, i_stat, i_iload, i_lload, i_aload, i_istore, i_astore, i_lstore, i_iinc, i_ii, i_idz, i_i, i_ll, i_lsh, i_i2l, i_l2i, i_lcmp, i_dup, i_pop, i_dup2, i_ifeq, i_ifne, i_iflt, i_ifge, i_ifgt, i_ifle, i_cmpeq, i_cmpne, i_cmplt, i_cmpge, i_cmpgt, i_cmple, i_ifnull, i_ifnonnull, i_getf, am_wr, i_putI, i_putZ, i_putR, i_iald, i_iast, i_aald, i_aast, i_alen, i_newi, i_newq, i_new, i_recv, i_iret, i_zret, i_lret, i_aret, i_vret, List.getElem?_cons_zero, List.getElem?_cons_succ, Option.bind_some, Option.toList_some, Option.toList_none, List.cons_append, List.nil_append, x_nI, am_put, am_put2, List.length_cons, List.length_nil, List.set_cons_zero, List.set_cons_succ, Nat.reduceAdd, Nat.reduceLT, Nat.reduceLeDiff, Nat.reduceEqDiff, Nat.add_left_cancel_iff, Nat.add_eq_left, Nat.left_eq_add, Nat.succ_ne_self, Nat.reduceSub, reduceIte, ite_self, eq_self, or_true, true_or, or_false, false_or, or_self, i10, not_true_eq_false, not_false_eq_true, x_call1, x_call2, x_call3, x_call4, x_call5, x_call6, x_sl0, x_sli, x_slr, x_sln, x_sll, am_ent, List.map_nil, List.map_cons, List.sum_nil, List.sum_cons, Value.category, and_true, true_and, and_self, Nat.zero_le, List.replicate_succ, List.replicate_zero, List.reduceReplicate, x_obj_set, x_row_set, x_len_set, x_obx, x_rox, x_rv, hle, hn0, x_obj hM.1, mo_obj, sat, bz_false, x_row (show A.2.2 (b + 14) = some (.inl (0, 2, R 14)) from hM.2.2 14 (by decide) (by decide)), ixh, hx, c1, c2, en, c4]
          simp [bz, c3]
        · have c4 : nI (sg_nr s) ≤ 0 := by rw [show sg_nr s = 0 by omega]; decide
          refine e_243 ?_; simp only [b_243, i_int, i_long, i_null, i_stat, i_iload, i_lload, i_aload, i_istore, i_astore, i_lstore, i_iinc, i_ii, i_idz, i_i, i_ll, i_lsh, i_i2l, i_l2i, i_lcmp, i_dup, i_pop, i_dup2, i_ifeq, i_ifne, i_iflt, i_ifge, i_ifgt, i_ifle, i_cmpeq, i_cmpne, i_cmplt, i_cmpge, i_cmpgt, i_cmple, i_ifnull, i_ifnonnull, i_getf, am_wr, i_putI, i_putZ, i_putR, i_iald, i_iast, i_aald, i_aast, i_alen, i_newi, i_newq, i_new, i_recv, i_iret, i_zret, i_lret, i_aret, i_vret, List.getElem?_cons_zero, List.getElem?_cons_succ, Option.bind_some, Option.toList_some, Option.toList_none, List.cons_append, List.nil_append, x_nI, am_put, am_put2, List.length_cons, List.length_nil, List.set_cons_zero, List.set_cons_succ, Nat.reduceAdd, Nat.reduceLT, Nat.reduceLeDiff, Nat.reduceEqDiff, Nat.add_left_cancel_iff, Nat.add_eq_left, Nat.left_eq_add, Nat.succ_ne_self, Nat.reduceSub, reduceIte, ite_self, eq_self, or_true, true_or, or_false, false_or, or_self, i10, not_true_eq_false, not_false_eq_true, x_call1, x_call2, x_call3, x_call4, x_call5, x_call6, x_sl0, x_sli, x_slr, x_sln, x_sll, am_ent, List.map_nil, List.map_cons, List.sum_nil, List.sum_cons, Value.category, and_true, true_and, and_self, Nat.zero_le, List.replicate_succ, List.replicate_zero, List.reduceReplicate, x_obj_set, x_row_set, x_len_set, x_obx, x_rox, x_rv, hle, hn0, x_obj hM.1, mo_obj, sat, bz_false, x_row (show A.2.2 (b + 14) = some (.inl (0, 2, R 14)) from hM.2.2 14 (by decide) (by decide)), ixh, hx, c1, c2, en, c4]
          simp [bz, c3]
theorem n_header {d b h : Nat} {A : am_H} {R : Nat → Nat → Int32} {f : mo_F} {D : List Nat} (T : Option sg_S) (hh : h < 2) (hDb : ∀ i, D.getD i 0 < 256) (hM : MM b A R f) (hD : MDr R f D) (hT : ∀ t0, T = some t0 → WT D t0) : ∃ B S ok t c2 ro2, pev (d + 4) 242 [some (.ref b), some (.int (nI h)), none, none] [] A = some (some (.int (bz ok)), B) ∧ MM b B S (sat f c2 ro2) ∧ KH (1 - h) R S ∧ am_fr (at21 b) A B ∧ (ok = true → MHn S h t.2.2.1 t ∧ HP t ∧ S 14 h = nI t.2.2.2.2 ∧ ro2 = false ∧ c2 = sg_hs t ∧ (t.2.2.2.2 = 0 ∨ 0 < sg_nr t)) ∧ ∀ t0, T = some t0 → ok = true ∧ t = t0 := by
  have hb := hM.2.1
  have ixh := x_ix hh (show h < 2147483648 by omega)
  have w0 := hM.obj (sat f 4 f.2.2.2.2.2)
  have w1 := w0.obj (sat f 4 false)
  obtain ⟨B1, e1, m1, f1⟩ := n_read (d := d + 3) (w := 4) (by decide) (by omega) w1 hD
  have w2 := m1.set (i := 14) (by decide) (by decide) (upd (R 14) h (rx D 4 4 false))
  have w3 := w2.set (i := 4) (by decide) (by decide) (upd (R 4) h 0)
  have k3 : KH (1 - h) R (setR (setR R 14 (upd (R 14) h (rx D 4 4 false))) 4 (upd (R 4) h 0)) := ((KH.refl (1 - h) R).upd (i := 14) (j := h) _ (by decide) (by decide) (by show _ < (1 - h) * 1 ∨ (1 - h) * 1 + 1 ≤ _; omega)).upd (i := 4) (j := h) 0 (by decide) (by decide) (by show _ < (1 - h) * 1 ∨ (1 - h) * 1 + 1 ≤ _; omega)
  have F3 : am_fr (at21 b) A (am_set (am_set B1 (b + 14) (.inl (0, msz 14, upd (R 14) h (rx D 4 4 false)))) (b + 4) (.inl (0, msz 4, upd (R 4) h 0))) := ((((am_fr.refl A).set ⟨by omega, by omega⟩).set ⟨by omega, by omega⟩).trans f1).trans (((am_fr.refl B1).set ⟨by omega, by omega⟩).set ⟨by omega, by omega⟩)
  have hD3 : MDr (setR (setR R 14 (upd (R 14) h (rx D 4 4 false))) 4 (upd (R 4) h 0)) f D := hD.same rfl rfl
  obtain ⟨B4, S4, ok4, dd, c4, ro4, e4, q1, q2, q3, q4, q5, q6, q7⟩ := n_rdim (d := d + 1) hh w3 hD3 (by omega)
  have r14 : B1.2.2 (b + 14) = some (.inl (0, 2, R 14)) := m1.2.2 14 (by decide) (by decide)
  have r4 : B1.2.2 (b + 4) = some (.inl (0, 2, R 4)) := m1.2.2 4 (by decide) (by decide)
  have e1' : pev (d + 3) 244 [some (.ref b), some (.int 4), none, none] [] (am_set (am_set A b (.inr (.inr (6, [.int (nI f.1), .int (bz f.2.1), .ref (b + 1), .ref (b + 2), .ref (b + 3), .ref (b + 4), .ref (b + 5), .ref (b + 6), .ref (b + 7), .ref (b + 8), .ref (b + 9), .ref (b + 10), .ref (b + 11), .ref (b + 12), .ref (b + 13), .ref (b + 14), .ref (b + 15), .ref (b + 16), .ref (b + 17), .ref (b + 18), .ref (b + 19), .int (nI f.2.2.1), .ref (b + 20), .int (nI f.2.2.2.1), .int 4, .int (bz f.2.2.2.2.2)])))) b (.inr (.inr (6, [.int (nI f.1), .int (bz f.2.1), .ref (b + 1), .ref (b + 2), .ref (b + 3), .ref (b + 4), .ref (b + 5), .ref (b + 6), .ref (b + 7), .ref (b + 8), .ref (b + 9), .ref (b + 10), .ref (b + 11), .ref (b + 12), .ref (b + 13), .ref (b + 14), .ref (b + 15), .ref (b + 16), .ref (b + 17), .ref (b + 18), .ref (b + 19), .int (nI f.2.2.1), .ref (b + 20), .int (nI f.2.2.2.1), .int 4, .int 0])))) = some (some (.int (rx D 4 4 false)), B1) := e1
  have e4' : pev (d + 3) 246 [some (.ref b), some (.int (nI h)), none, none, none, none] [] (am_set (am_set B1 (b + 14) (.inl (0, 2, upd (R 14) h (rx D 4 4 false)))) (b + 4) (.inl (0, 2, upd (R 4) h 0))) = some (some (.int (bz ok4)), B4) := e4
  have hxW : ∀ t0, T = some t0 → 8 ≤ D.length ∧ rx D 4 4 false = nI t0.2.2.2.2 ∧ ok4 = true ∧ PD S4 h t0.1 ∧ ro4 = false ∧ c4 = 16 + 12 * t0.1.1 := by
    intro t0 e
    have w := hT t0 e
    obtain ⟨p1, p2, p3, p4⟩ := im_h_parts w.2.2.2.1
    have hl := p2.1
    have h8 : 8 ≤ D.length := by omega
    have hr4 : rn D 4 4 false = false := rn_of (by omega)
    obtain ⟨z1, z2, z3, z4⟩ := q7 t0 w.1 w.2.1 p2 hr4
    exact ⟨h8, by rw [rx_of (by omega)]; exact p1, z1, z2, z3, by omega⟩
  cases ok4 with
  | false =>
    refine ⟨B4, S4, false, s00, c4, ro4, ?_, q1, k3.trans q2, F3.trans q4, fun e => (by cases e), fun t0 e => absurd (hxW t0 e).2.2.1 (by decide)⟩
    refine e_242 ?_; simp only [b_242, i_int, i_long, i_null, i_stat, i_iload, i_lload, i_aload, i_istore, i_astore, i_lstore, i_iinc, i_ii, i_idz, i_i, i_ll, i_lsh, i_i2l, i_l2i, i_lcmp, i_dup, i_pop, i_dup2, i_ifeq, i_ifne, i_iflt, i_ifge, i_ifgt, i_ifle, i_cmpeq, i_cmpne, i_cmplt, i_cmpge, i_cmpgt, i_cmple, i_ifnull, i_ifnonnull, i_getf, am_wr, i_putI, i_putZ, i_putR, i_iald, i_iast, i_aald, i_aast, i_alen, i_newi, i_newq, i_new, i_recv, i_iret, i_zret, i_lret, i_aret, i_vret, List.getElem?_cons_zero, List.getElem?_cons_succ, Option.bind_some, Option.toList_some, Option.toList_none, List.cons_append, List.nil_append, x_nI, am_put, am_put2, List.length_cons, List.length_nil, List.set_cons_zero, List.set_cons_succ, Nat.reduceAdd, Nat.reduceLT, Nat.reduceLeDiff, Nat.reduceEqDiff, Nat.add_left_cancel_iff, Nat.add_eq_left, Nat.left_eq_add, Nat.succ_ne_self, Nat.reduceSub, reduceIte, ite_self, eq_self, or_true, true_or, or_false, false_or, or_self, i10, not_true_eq_false, not_false_eq_true, x_call1, x_call2, x_call3, x_call4, x_call5, x_call6, x_sl0, x_sli, x_slr, x_sln, x_sll, am_ent, List.map_nil, List.map_cons, List.sum_nil, List.sum_cons, Value.category, and_true, true_and, and_self, Nat.zero_le, List.replicate_succ, List.replicate_zero, List.reduceReplicate, x_obj_set, x_row_set, x_len_set, x_obx, x_rox, x_rv, x_obj hM.1, mo_obj, x_own hb, e1', x_obj m1.1, sat, x_row r14, ixh, x_own (show 5 ≤ b + 14 by omega), x_row r4, x_own (show 5 ≤ b + 4 by omega), e4', bz_false]
    all_goals rfl
  | true =>
    obtain ⟨z1, z2, z3, z4⟩ := q6 rfl
    obtain ⟨B5, S5, ok5, a5, c5, ro5, e5, l1, l2, l3, l4, l5, l6⟩ := n_rlist (d := d + 1) (l := 0) hh (by decide) hDb q1 (hD3.same (q3 20 (by decide)) rfl) (by omega) (by omega)
    rw [nI_0] at e5
    have S514 : S5 14 h = rx D 4 4 false := by
      rw [l2.1 14 (by omega), q3 14 (by decide), setR_ne (by decide), setR_self, pk_us]
    have S54 : S5 4 h = nI 0 := by
      rw [l2.1 4 (by omega), q3 4 (by decide), setR_self, pk_us]
      rfl
    have hD5 : MDr S5 f D := (hD3.same (q3 20 (by decide)) rfl).same (l2.1 20 (by omega)) rfl
    have kh5 : KH (1 - h) R S5 := (k3.trans q2).trans (l2.kh hh (by decide))
    have fr5 : am_fr (at21 b) A B5 := (F3.trans q4).trans l3
    cases ok5 with
    | false =>
      refine ⟨B5, S5, false, s00, c5, ro5, ?_, l1, kh5, fr5, fun e => (by cases e), fun t0 e => ?_⟩
      · refine e_242 ?_; simp only [b_242, i_int, i_long, i_null, i_stat, i_iload, i_lload, i_aload, i_istore, i_astore, i_lstore, i_iinc, i_ii, i_idz, i_i, i_ll, i_lsh, i_i2l, i_l2i, i_lcmp, i_dup, i_pop, i_dup2, i_ifeq, i_ifne, i_iflt, i_ifge, i_ifgt, i_ifle, i_cmpeq, i_cmpne, i_cmplt, i_cmpge, i_cmpgt, i_cmple, i_ifnull, i_ifnonnull, i_getf, am_wr, i_putI, i_putZ, i_putR, i_iald, i_iast, i_aald, i_aast, i_alen, i_newi, i_newq, i_new, i_recv, i_iret, i_zret, i_lret, i_aret, i_vret, List.getElem?_cons_zero, List.getElem?_cons_succ, Option.bind_some, Option.toList_some, Option.toList_none, List.cons_append, List.nil_append, x_nI, am_put, am_put2, List.length_cons, List.length_nil, List.set_cons_zero, List.set_cons_succ, Nat.reduceAdd, Nat.reduceLT, Nat.reduceLeDiff, Nat.reduceEqDiff, Nat.add_left_cancel_iff, Nat.add_eq_left, Nat.left_eq_add, Nat.succ_ne_self, Nat.reduceSub, reduceIte, ite_self, eq_self, or_true, true_or, or_false, false_or, or_self, i10, not_true_eq_false, not_false_eq_true, x_call1, x_call2, x_call3, x_call4, x_call5, x_call6, x_sl0, x_sli, x_slr, x_sln, x_sll, am_ent, List.map_nil, List.map_cons, List.sum_nil, List.sum_cons, Value.category, and_true, true_and, and_self, Nat.zero_le, List.replicate_succ, List.replicate_zero, List.reduceReplicate, x_obj_set, x_row_set, x_len_set, x_obx, x_rox, x_rv, x_obj hM.1, mo_obj, x_own hb, e1', x_obj m1.1, sat, x_row r14, ixh, x_own (show 5 ≤ b + 14 by omega), x_row r4, x_own (show 5 ≤ b + 4 by omega), e4', bz_true, x_obj q1.1, e5, bz_false]
        all_goals rfl
      · have w := hT t0 e
        obtain ⟨-, -, -, -, y5, y6⟩ := hxW t0 e
        have hsg := (im_h_parts w.2.2.2.1).2.2.1
        rw [← y6] at hsg
        exact absurd (l6 _ w.1.2.2.2.2.1 hsg y5).1 (by decide)
    | true =>
      obtain ⟨b1, b2, b3⟩ := l5 rfl
      -- dimensions and list of the store read, or of the wanted one
      obtain ⟨d5, a6, hd1, hd2, hd3, hd4, ha1, ha2, hc5, hw⟩ : ∃ (d5 : sg_D) (a6 : sg_A), PD S5 h d5 ∧ VD d5 ∧ sg_sum (fun k => if d5.2.2 k = 0 then 1 else 0) d5.1 ≤ 1 ∧ True ∧ MA S5 h 0 a6 ∧ AV a6 ∧ c5 = 16 + 12 * d5.1 + sg_ls a6 ∧ ∀ t0, T = some t0 → d5 = t0.1 ∧ a6 = t0.2.1 ∧ ro5 = false := by
        have pd5 : ∀ dx, PD S4 h dx → PD S5 h dx := fun dx hp => by
          obtain ⟨p1, p2, p3⟩ := hp
          refine ⟨by rw [l2.1 1 (by omega)]; exact p1, p2, fun k hk => ?_⟩
          rw [l2.1 2 (by omega), l2.1 3 (by omega)]
          exact p3 k hk
        cases T with
        | none => exact ⟨dd, a5, pd5 _ z1, z2, z3, trivial, b1, b2, by omega, fun t0 e => (by cases e)⟩
        | some t0 =>
          have w := hT t0 rfl
          obtain ⟨-, -, -, y4, y5, y6⟩ := hxW t0 rfl
          have hsg := (im_h_parts w.2.2.2.1).2.2.1
          rw [← y6] at hsg
          obtain ⟨j1, j2, j3, j4⟩ := l6 _ w.1.2.2.2.2.1 hsg y5
          exact ⟨t0.1, t0.2.1, pd5 _ y4, ⟨w.1.1.1, w.1.2.1⟩, w.1.2.2.2.1, trivial, j2, w.1.2.2.2.2.1, by omega, fun t1 e => by cases e; exact ⟨rfl, rfl, j3⟩⟩
      have r5 : B5.2.2 (b + 4) = some (.inl (0, 2, S5 4)) := l1.2.2 4 (by decide) (by decide)
      obtain ⟨B6, v, e6, m6, f6, hv⟩ := n_readCount (d := d + 2) (mo := 5) (by decide) (by have := hd1.2.1; have := ls_le (a := a6) ha1.1; omega) l1 hD5
      have e6' : pev (d + 3) 248 [some (.ref b), some (.int 5), none] [] B5 = some (some (.int v), B6) := e6
      have hls := ls_le (a := a6) ha1.1
      have hd14 := hd1.2.1
      have fr6 : am_fr (at21 b) A B6 := fr5.trans f6
      have hx6 : ∀ t0, T = some t0 → rn D c5 8 ro5 = false ∧ rd D (c5 + 4) 4 = nI t0.2.2.1 ∧ seg D (c5 + 8) (sg_cat (im_v t0) t0.2.2.1) ∧ t0.2.2.1 ≤ 5 := by
        intro t0 e
        have w := hT t0 e
        obtain ⟨y1, y2, y3⟩ := hw t0 e
        have hsg := (im_h_parts w.2.2.2.1).2.2.2
        rw [← y1, ← y2] at hsg
        rw [← hc5] at hsg
        have hl := (seg_l hsg).1
        rw [hea_len] at hl
        have s1 := seg_l hsg
        unfold hea at s1
        have r1 := seg_r s1
        have r2 := seg_r hsg
        rw [wrd_len] at r1
        rw [hea_len] at r2
        subst y3
        exact ⟨rn_of hl, rd_wrd r1, r2, w.2.1.2.2.1⟩
      rcases hv with ⟨rfl, hno⟩ | ⟨n, hn, rfl, hr0, hrd⟩
      · refine ⟨B6, S5, false, s00, _, _, ?_, m6, kh5, fr6, fun e => (by cases e), fun t0 e => ?_⟩
        · have k2 : pev (d + 4) 243 [some (.ref b), some (.int (nI h)), some (.int (-1)), some (.int 0)] [] B6 = some (some (.int 0), B6) := by
            refine e_243 ?_; simp only [b_243, i_int, i_long, i_null, i_stat, i_iload, i_lload, i_aload, i_istore, i_astore, i_lstore, i_iinc, i_ii, i_idz, i_i, i_ll, i_lsh, i_i2l, i_l2i, i_lcmp, i_dup, i_pop, i_dup2, i_ifeq, i_ifne, i_iflt, i_ifge, i_ifgt, i_ifle, i_cmpeq, i_cmpne, i_cmplt, i_cmpge, i_cmpgt, i_cmple, i_ifnull, i_ifnonnull, i_getf, am_wr, i_putI, i_putZ, i_putR, i_iald, i_iast, i_aald, i_aast, i_alen, i_newi, i_newq, i_new, i_recv, i_iret, i_zret, i_lret, i_aret, i_vret, List.getElem?_cons_zero, List.getElem?_cons_succ, Option.bind_some, Option.toList_some, Option.toList_none, List.cons_append, List.nil_append, x_nI, am_put, am_put2, List.length_cons, List.length_nil, List.set_cons_zero, List.set_cons_succ, Nat.reduceAdd, Nat.reduceLT, Nat.reduceLeDiff, Nat.reduceEqDiff, Nat.add_left_cancel_iff, Nat.add_eq_left, Nat.left_eq_add, Nat.succ_ne_self, Nat.reduceSub, reduceIte, ite_self, eq_self, or_true, true_or, or_false, false_or, or_self, i10, not_true_eq_false, not_false_eq_true, x_call1, x_call2, x_call3, x_call4, x_call5, x_call6, x_sl0, x_sli, x_slr, x_sln, x_sll, am_ent, List.map_nil, List.map_cons, List.sum_nil, List.sum_cons, Value.category, and_true, true_and, and_self, Nat.zero_le, List.replicate_succ, List.replicate_zero, List.reduceReplicate, x_obj_set, x_row_set, x_len_set, x_obx, x_rox, x_rv, show (-1 : Int32) ≤ 0 by decide, show (-1 : Int32) < 0 by decide]
          refine e_242 ?_; simp only [b_242, i_int, i_long, i_null, i_stat, i_iload, i_lload, i_aload, i_istore, i_astore, i_lstore, i_iinc, i_ii, i_idz, i_i, i_ll, i_lsh, i_i2l, i_l2i, i_lcmp, i_dup, i_pop, i_dup2, i_ifeq, i_ifne, i_iflt, i_ifge, i_ifgt, i_ifle, i_cmpeq, i_cmpne, i_cmplt, i_cmpge, i_cmpgt, i_cmple, i_ifnull, i_ifnonnull, i_getf, am_wr, i_putI, i_putZ, i_putR, i_iald, i_iast, i_aald, i_aast, i_alen, i_newi, i_newq, i_new, i_recv, i_iret, i_zret, i_lret, i_aret, i_vret, List.getElem?_cons_zero, List.getElem?_cons_succ, Option.bind_some, Option.toList_some, Option.toList_none, List.cons_append, List.nil_append, x_nI, am_put, am_put2, List.length_cons, List.length_nil, List.set_cons_zero, List.set_cons_succ, Nat.reduceAdd, Nat.reduceLT, Nat.reduceLeDiff, Nat.reduceEqDiff, Nat.add_left_cancel_iff, Nat.add_eq_left, Nat.left_eq_add, Nat.succ_ne_self, Nat.reduceSub, reduceIte, ite_self, eq_self, or_true, true_or, or_false, false_or, or_self, i10, not_true_eq_false, not_false_eq_true, x_call1, x_call2, x_call3, x_call4, x_call5, x_call6, x_sl0, x_sli, x_slr, x_sln, x_sll, am_ent, List.map_nil, List.map_cons, List.sum_nil, List.sum_cons, Value.category, and_true, true_and, and_self, Nat.zero_le, List.replicate_succ, List.replicate_zero, List.reduceReplicate, x_obj_set, x_row_set, x_len_set, x_obx, x_rox, x_rv, x_obj hM.1, mo_obj, x_own hb, e1', x_obj m1.1, sat, x_row r14, ixh, x_own (show 5 ≤ b + 14 by omega), x_row r4, x_own (show 5 ≤ b + 4 by omega), e4', bz_true, x_obj q1.1, e5, x_obj l1.1, e6']
          exact k2
        · obtain ⟨x1, x2, x3, x4⟩ := hx6 t0 e
          exact absurd x2 (hno x1 _ x4)
      · -- the store before its variables
        obtain ⟨s5, hs5, hs5v, hs5w⟩ : ∃ s5 : sg_S, (s5.1 = d5 ∧ s5.2.1 = a6 ∧ s5.2.2.1 = 0 ∧ s5.2.2.2.2 = 0) ∧ True ∧ ∀ t0, T = some t0 → s5 = cutV t0 0 := by
          cases T with
          | none => exact ⟨(d5, a6, 0, s00.2.2.2.1, 0), ⟨rfl, rfl, rfl, rfl⟩, trivial, fun t0 e => (by cases e)⟩
          | some t0 =>
            obtain ⟨y1, y2, -⟩ := hw t0 rfl
            exact ⟨(d5, a6, 0, t0.2.2.2.1, 0), ⟨rfl, rfl, rfl, rfl⟩, trivial, fun t1 e => by cases e; rw [y1, y2]; rfl⟩
        obtain ⟨i1, i2, i3, i4⟩ := hs5
        have hH5 : MHn S5 h 0 s5 := by
          refine ⟨⟨by rw [i1]; exact hd1.2.1, fun k hk => ?_, by rw [i3]; decide, fun v hv => by omega, by rw [i4]; decide⟩, hh, ⟨by rw [i1]; exact hd1.1, S54⟩, fun k hk => ?_, by rw [i2]; exact ha1, fun v hv => by omega⟩
          · rw [i1] at hk ⊢
            exact (hd1.2.2 k hk).2.2
          · rw [i1] at hk ⊢
            exact ⟨(hd1.2.2 k hk).1, (hd1.2.2 k hk).2.1⟩
        have hP5 : HP s5 := by
          refine ⟨⟨fun k hk => ?_, fun k hk => ?_, fun v hv => by omega⟩, ?_, fun i j hi => by omega, ?_, by rw [i2]; exact ha2, fun v hv => by omega⟩
          · rw [i1] at hk ⊢
            exact hd2.1 k hk
          · rw [i2] at hk ⊢
            exact (ha2.1 k hk).1
          · rw [i1]
            exact hd2.2
          · rw [i1]
            exact hd3
        have hnx : ∀ t0, T = some t0 → t0.2.2.1 = n := fun t0 e => (nI_eq (by have := (hx6 t0 e).2.2.2; omega) (by omega)).mp ((hx6 t0 e).2.1.symm.trans hrd)
        rw [hr0] at m6
        have lsm := sg_ls_mod a6
        obtain ⟨C, S, ok7, s7, c7, ro7, y1, y2, y3, y4, y5, y6, y7⟩ := n_h55 (d := d) (b := b) (f := f) (D := D) (c0 := c5 + 8) T hh hn hDb (by omega) (fun t0 e => by
          have w := hT t0 e
          have hn0 := hnx t0 e
          have hsg := (hx6 t0 e).2.2.1
          rw [hn0] at hsg
          exact ⟨w.1, w.2.1, hn0, fun v hv => w.2.2.1 v (by omega), hsg⟩) n 0 (by omega) hH5 hP5 i3 m6 hD5 (by show _ = c5 + 8 + sg_sum _ 0; rw [sg_sum]) (by omega) (fun t0 e => ⟨hs5w t0 e, rfl⟩)
        have kh7 : KH (1 - h) R S := kh5.trans y2
        have fr7 : am_fr (at21 b) A C := fr6.trans y4
        have pre : ∀ Y, pev (d + 4) 243 [some (.ref b), some (.int (nI h)), some (.int (nI n)), some (.int (nI 0))] [] B6 = some Y → pev (d + 4) 242 [some (.ref b), some (.int (nI h)), none, none] [] A = some Y := fun Y hY => by
          refine e_242 ?_; simp only [b_242, i_int, i_long, i_null, i_stat, i_iload, i_lload, i_aload, i_istore, i_astore, i_lstore, i_iinc, i_ii, i_idz, i_i, i_ll, i_lsh, i_i2l, i_l2i, i_lcmp, i_dup, i_pop, i_dup2, i_ifeq, i_ifne, i_iflt, i_ifge, i_ifgt, i_ifle, i_cmpeq, i_cmpne, i_cmplt, i_cmpge, i_cmpgt, i_cmple, i_ifnull, i_ifnonnull, i_getf, am_wr, i_putI, i_putZ, i_putR, i_iald, i_iast, i_aald, i_aast, i_alen, i_newi, i_newq, i_new, i_recv, i_iret, i_zret, i_lret, i_aret, i_vret, List.getElem?_cons_zero, List.getElem?_cons_succ, Option.bind_some, Option.toList_some, Option.toList_none, List.cons_append, List.nil_append, x_nI, am_put, am_put2, List.length_cons, List.length_nil, List.set_cons_zero, List.set_cons_succ, Nat.reduceAdd, Nat.reduceLT, Nat.reduceLeDiff, Nat.reduceEqDiff, Nat.add_left_cancel_iff, Nat.add_eq_left, Nat.left_eq_add, Nat.succ_ne_self, Nat.reduceSub, reduceIte, ite_self, eq_self, or_true, true_or, or_false, false_or, or_self, i10, not_true_eq_false, not_false_eq_true, x_call1, x_call2, x_call3, x_call4, x_call5, x_call6, x_sl0, x_sli, x_slr, x_sln, x_sll, am_ent, List.map_nil, List.map_cons, List.sum_nil, List.sum_cons, Value.category, and_true, true_and, and_self, Nat.zero_le, List.replicate_succ, List.replicate_zero, List.reduceReplicate, x_obj_set, x_row_set, x_len_set, x_obx, x_rox, x_rv, x_obj hM.1, mo_obj, x_own hb, e1', x_obj m1.1, sat, x_row r14, ixh, x_own (show 5 ≤ b + 14 by omega), x_row r4, x_own (show 5 ≤ b + 4 by omega), e4', bz_true, x_obj q1.1, e5, x_obj l1.1, e6']
          exact hY
        cases ok7 with
        | false => exact ⟨C, S, false, s00, c7, ro7, pre _ (y5 rfl), y1, kh7, fr7, fun e => (by cases e), fun t0 e => absurd (y7 t0 e).1 (by decide)⟩
        | true =>
          obtain ⟨g1, g2, g3, g4, g5, g6, g7, g8⟩ := y6 rfl
          have hS14 : S 14 h = rx D 4 4 false := by rw [y3]; exact S514
          have en := n_hend (d := d) (x := rx D 4 4 false) hn g2 g4 y1 hS14
          have efin := pre _ (g1 _ en)
          cases hfin : (!ro7 && !decide (rx D 4 4 false < 0) && (decide (rx D 4 4 false = 0) || decide (0 < sg_nr s7))) with
          | false =>
            rw [hfin] at efin
            refine ⟨C, S, false, s00, c7, ro7, efin, y1, kh7, fr7, fun e => (by cases e), fun t0 e => ?_⟩
            have w := hT t0 e
            obtain ⟨o1, o2, o3⟩ := y7 t0 e
            obtain ⟨-, x2, -⟩ := hxW t0 e
            have enr : sg_nr s7 = sg_nr t0 := by
              rw [o2, ← hnx t0 e]
              rfl
            have hr := w.2.1.2.2.2.2
            have hneg : ¬ nI t0.2.2.2.2 < 0 := nI_pos (by omega)
            rw [x2, o3, enr] at hfin
            rcases w.2.2.2.2.2 with h0 | h0
            · have hz : nI t0.2.2.2.2 = 0 := by rw [h0]; rfl
              simp [hz] at hfin
            · simp [hneg, h0] at hfin
          | true =>
            rw [hfin] at efin
            simp only [Bool.and_eq_true, Bool.not_eq_true', decide_eq_false_iff_not, Bool.or_eq_true, decide_eq_true_eq] at hfin
            obtain ⟨⟨o1, o2⟩, o3⟩ := hfin
            obtain ⟨r, hr, er⟩ := nI_of o2
            refine ⟨C, S, true, setRec s7 r, c7, ro7, efin, y1, kh7, fr7, fun _ => ⟨?_, g3, ?_, o1, ?_, ?_⟩, fun t0 e => ⟨rfl, ?_⟩⟩
            · obtain ⟨x1, x2, x3, x4, x5, x6⟩ := g2
              show MHn S h s7.2.2.1 _
              rw [g4]
              exact ⟨⟨x1.1, x1.2.1, x1.2.2.1, x1.2.2.2.1, by show r < 2147483648; omega⟩, x2, x3, x4, x5, x6⟩
            · rw [hS14, er]
              rfl
            · show c7 = sg_hs s7
              rw [g8, sg_hs, g4, g5, g6, i1, i2]
              show _ = 24 + 12 * d5.1 + sg_ls a6 + vhs s7 n
              omega
            · show r = 0 ∨ 0 < sg_nr s7
              rcases o3 with h0 | h0
              · refine Or.inl ?_
                rw [er] at h0
                exact (nI_eq (b := 0) hr (by decide)).mp h0
              · exact Or.inr h0
            · obtain ⟨o4, o5, o6⟩ := y7 t0 e
              have w := hT t0 e
              have hrr : r = t0.2.2.2.2 := (nI_eq hr (by have := w.2.1.2.2.2.2; omega)).mp (er.symm.trans (hxW t0 e).2.1)
              rw [o5, hrr, ← hnx t0 e]
              rfl
