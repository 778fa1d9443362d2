/-! the law from its beginning -/
theorem law_ok : am_Law := by
  intro L xs hL
  have a5 : (am_A0 L xs).1 = 5 := rfl
  have p5 : (am_new (am_A0 L xs) 8 (.inr (.inr (5, dvX5)))).2.2 5 = some (.inr (.inr (5, dvX5))) := by rw [x_new, a5, if_pos rfl]
  have r5 : (am_new (am_A0 L xs) 8 (.inr (.inr (5, dvX5)))).1 = 6 := by rw [x_new1, a5]
  have lo : ∀ q, q < 5 → (am_new (am_A0 L xs) 8 (.inr (.inr (5, dvX5)))).2.2 q = (am_A0 L xs).2.2 q := fun q hq => by rw [x_new, a5, if_neg (by omega)]
  have st : am_St (am_new (am_A0 L xs) 8 (.inr (.inr (5, dvX5)))) := ⟨(lo 0 (by decide)).trans rfl, (lo 1 (by decide)).trans rfl, (lo 2 (by decide)).trans rfl, (lo 3 (by decide)).trans rfl⟩
  obtain ⟨B, e1, cB, t1, u1, l1⟩ := i_SI (d := 4) p5 r5 st
  have p103 : (am_new B 26 (.inr (.inr (6, dvX6)))).2.2 103 = some (.inr (.inr (6, dvX6))) := by rw [x_new, t1, if_pos rfl]
  have r103 : (am_new B 26 (.inr (.inr (6, dvX6)))).1 = 104 := by rw [x_new1, t1]
  obtain ⟨e2, mC, t2, u2, l2⟩ := i_MO (d := 7) p103 r103
  have lB : ∀ q, q < 103 → (hMO (am_new B 26 (.inr (.inr (6, dvX6))))).2.2 q = B.2.2 q := fun q hq => by rw [l2 q hq, x_new, t1, if_neg (by omega)]
  have hI : Inv L xs (hMO (am_new B 26 (.inr (.inr (6, dvX6))))) := by
    refine ⟨⟨?_, by omega, ?_⟩, 6, 51, true, s00, fun _ => v00, s00, fun _ => v00, fun _ => (0, 1, 1), [], 0, [], 0, rMO, (0, false, 0, 0, 0, false), ?_, ⟨mC, ?_, ?_, ⟨rfl, by decide, fun i hi => absurd hi (Nat.not_lt_zero i)⟩, rfl⟩, ?_, fun y hy => (by cases hy)⟩
    · rw [lB 4 (by decide), l1 4 (by decide), lo 4 (by decide)]
      rfl
    · rw [u2, x_new2, u1, x_new2]
      show 0 + 8 + 9951 + 26 + 9834 ≤ 7302250
      decide
    · exact cB.kept (P := fun q => 103 ≤ q) (B := (B.1, B.2.1, (hMO (am_new B 26 (.inr (.inr (6, dvX6))))).2.2)) ⟨rfl, rfl, fun q hq => lB q (by omega)⟩ (fun z hz => hz)
    · refine ⟨⟨by decide, fun k hk => absurd hk (Nat.not_lt_zero k), by decide, fun v hv => absurd hv (Nat.not_lt_zero v), by decide⟩, by decide, ⟨rfl, rfl, rfl⟩, fun k hk => absurd hk (Nat.not_lt_zero k), ⟨by decide, rfl, fun k hk => absurd hk (Nat.not_lt_zero k)⟩, fun v hv => absurd hv (Nat.not_lt_zero v)⟩
    · intro k hk
      rcases (show k = 0 ∨ k = 1 by omega) with rfl | rfl <;> exact ⟨rfl, rfl, rfl, by decide, by decide, by decide, by decide, by decide⟩
    · exact ⟨⟨fun k hk => absurd hk (Nat.not_lt_zero k), fun k hk => absurd hk (Nat.not_lt_zero k), fun v hv => absurd hv (Nat.not_lt_zero v)⟩, fun i j hi => absurd hi (Nat.not_lt_zero i), fun i j hi => absurd hi (Nat.not_lt_zero i), fun e => (by cases e)⟩
  obtain ⟨A1, e3, r⟩ := law_loop open_ok hL (L + 7) 0 (by omega) (by omega) _ hI
  refine ⟨A1, ?_, r⟩
  have o5 : B.2.2 5 = some (.inr (.inr (5, co_fs 6 51 true))) := cB.2.1
  simp only [Nat.reduceAdd] at e1 e2
  refine e_262 ?_; simp only [b_262, i_int, i_long, i_null, i_stat, i_iload, i_lload, i_aload, i_istore, i_astore, i_lstore, i_iinc, i_ii, i_idz, i_i, i_ll, i_lsh, i_i2l, i_l2i, i_lcmp, i_dup, i_pop, i_dup2, i_ifeq, i_ifne, i_iflt, i_ifge, i_ifgt, i_ifle, i_cmpeq, i_cmpne, i_cmplt, i_cmpge, i_cmpgt, i_cmple, i_ifnull, i_ifnonnull, i_getf, am_wr, i_putI, i_putZ, i_putR, i_iald, i_iast, i_aald, i_aast, i_alen, i_newi, i_newq, i_new, i_recv, i_iret, i_zret, i_lret, i_aret, i_vret, List.getElem?_cons_zero, List.getElem?_cons_succ, Option.bind_some, Option.toList_some, Option.toList_none, List.cons_append, List.nil_append, x_nI, am_put, am_put2, List.length_cons, List.length_nil, List.set_cons_zero, List.set_cons_succ, Nat.reduceAdd, Nat.reduceLT, Nat.reduceLeDiff, Nat.reduceEqDiff, Nat.add_left_cancel_iff, Nat.add_eq_left, Nat.left_eq_add, Nat.succ_ne_self, Nat.reduceSub, reduceIte, ite_self, eq_self, or_true, true_or, or_false, false_or, or_self, i10, not_true_eq_false, not_false_eq_true, x_call1, x_call2, x_call3, x_call4, x_call5, x_call6, x_sl0, x_sli, x_slr, x_sln, x_sll, am_ent, List.map_nil, List.map_cons, List.sum_nil, List.sum_cons, Value.category, and_true, true_and, and_self, Nat.zero_le, List.replicate_succ, List.replicate_zero, List.reduceReplicate, x_obj_set, x_row_set, x_len_set, x_obx, x_rox, x_rv, x_obj_new, a5, e1, t1, e2]
  exact e3
