/-! the reference: put, get -/
theorem adm_nI {s : sg_S} {v : Nat} {i j : Int32} (h : adm (sg_raw s v) i.toInt64 j.toInt64 = true) (hs : STv s) (hv : v < s.2.2.1) : ∃ i' j' : Nat, i' < 2147483648 ∧ j' < sg_l1 s v ∧ i = nI i' ∧ j = nI j' ∧ (sg_l0 s v = 0 ∨ i' < sg_l0 s v) := by
  simp only [adm, sg_raw, Bool.and_eq_true, Bool.or_eq_true, Bool.not_eq_true', decide_eq_false_iff_not, decide_eq_true_eq] at h
  obtain ⟨⟨h1, h2⟩, h3, h4⟩ := h
  have l0 := hs.l0 hv
  have l1 := hs.l1 hv
  have n1 : ¬ i < 0 := fun e => h1 (by
    rw [Int64.lt_iff_toInt_lt, Int32.toInt_toInt64]
    exact Int32.lt_iff_toInt_lt.mp e)
  have n2 : ¬ j < 0 := fun e => h3 (by
    rw [Int64.lt_iff_toInt_lt, Int32.toInt_toInt64]
    exact Int32.lt_iff_toInt_lt.mp e)
  obtain ⟨i', hi, rfl⟩ := nI_of n1
  obtain ⟨j', hj, rfl⟩ := nI_of n2
  rw [nI_l hj] at h4
  rw [nI_l hi] at h2
  have h5 := (pk_lLT (a := j') (b := sg_l1 s v) (by omega) (by omega)).mp (of_decide_eq_true h4)
  refine ⟨i', j', by omega, h5, rfl, rfl, ?_⟩
  rcases h2 with h2 | h2
  · exact Or.inl h2
  · exact Or.inr ((pk_lLT (a := i') (b := sg_l0 s v) (by omega) (by omega)).mp (of_decide_eq_true h2))
theorem place_lt {s : sg_S} {v i j : Nat} (hs : STv s) (hv : v < s.2.2.1) (ht : sg_tot s s.2.2.2.2 ≤ 800) (hj : j < sg_l1 s v) (hi : (sg_l0 s v = 0 ∧ i < s.2.2.2.2) ∨ (sg_l0 s v ≠ 0 ∧ i < sg_l0 s v)) : i * sg_l1 s v + j < 800 := by
  have l0 := hs.l0 hv
  have l1 := hs.l1 hv
  rcases hi with ⟨h1, h2⟩ | ⟨h1, h2⟩
  · have h3 := cells_fit hs ht v hv h1
    have h4 : (i + 1) * sg_l1 s v ≤ s.2.2.2.2 * sg_l1 s v := Nat.mul_le_mul_right _ (by omega)
    rw [Nat.succ_mul] at h4
    omega
  · have h4 : (i + 1) * sg_l1 s v ≤ 8 * 8 := Nat.mul_le_mul (by omega) l1
    rw [Nat.succ_mul] at h4
    omega
theorem n_get {d b v i j : Nat} {A : am_H} {R : Nat → Nat → Int32} {f : mo_F} {s : sg_S} (hM : MM b A R f) (hS : MS R f.1 s) (hd : f.2.1 = true) (hv : v < s.2.2.1) (hi : i < 2147483648) (hp : i * sg_l1 s v + j < 800) (hj : j < 2147483648) (ha : (adm (sg_raw s v) (lN i) (lN j) && (!(decide (sg_l0 s v = 0)) || decide (lN i < lN s.2.2.2.2))) = true) : pev (d + 3) 202 [some (.ref b), some (.int (nI v)), some (.int (nI i)), some (.int (nI j))] [] A = some (some (.long ((s.2.2.2.1 v).2.2.2.2.2 (i * sg_l1 s v + j)).toInt64), A) := by
  have hh := hS.2.1
  have h5 := hS.1.2.2.1
  have ev := n_isVariable (d := d + 2) hM hS (nI v)
  have hvb : isVb s (nI v) = true := by simp [isVb, nI_pos (show v < 2 ^ 31 by omega), nI_lt hv (show s.2.2.1 < 2 ^ 31 by omega)]
  rw [hvb] at ev
  have et := n_there (d := d) (g := false) hM hS hv (lN i) (lN j)
  rw [Bool.false_or, ha, bz_false] at et
  have ec := n_cellAt (d := d + 1) (i := i) (j := j) hM hS hv
  have w6 := (hS.2.2.2.2.2 v hv).2.2.2.2.2 (i * sg_l1 s v + j) hp
  rw [← Nat.add_assoc] at w6
  refine e_202 ?_; simp only [b_202, i_int, i_long, i_null, i_stat, i_iload, i_lload, i_aload, i_istore, i_astore, i_lstore, i_iinc, i_ii, i_idz, i_i, i_ll, i_lsh, i_i2l, i_l2i, i_lcmp, i_dup, i_pop, i_dup2, i_ifeq, i_ifne, i_iflt, i_ifge, i_ifgt, i_ifle, i_cmpeq, i_cmpne, i_cmplt, i_cmpge, i_cmpgt, i_cmple, i_ifnull, i_ifnonnull, i_getf, am_wr, i_putI, i_putZ, i_putR, i_iald, i_iast, i_aald, i_aast, i_alen, i_newi, i_newq, i_new, i_recv, i_iret, i_zret, i_lret, i_aret, i_vret, List.getElem?_cons_zero, List.getElem?_cons_succ, Option.bind_some, Option.toList_some, Option.toList_none, List.cons_append, List.nil_append, x_nI, am_put, List.length_cons, List.length_nil, List.set_cons_zero, List.set_cons_succ, Nat.reduceAdd, Nat.reduceLT, Nat.reduceLeDiff, Nat.reduceEqDiff, Nat.add_left_cancel_iff, Nat.add_eq_left, Nat.left_eq_add, Nat.succ_ne_self, Nat.reduceSub, reduceIte, ite_self, eq_self, or_true, true_or, or_false, false_or, or_self, i10, not_true_eq_false, not_false_eq_true, x_call1, x_call2, x_call3, x_call4, x_call5, x_call6, x_sl0, x_sli, x_slr, x_sln, x_sll, am_ent, List.map_nil, List.map_cons, List.sum_nil, List.sum_cons, Value.category, and_true, true_and, and_self, Nat.zero_le, List.replicate_succ, List.replicate_zero, List.reduceReplicate, x_obj_set, x_row_set, x_len_set, x_obx, x_rox, x_rv, x_obj hM.1, mo_obj, hd, bz_true, ev, nI_l (show i < 2 ^ 31 by omega), nI_l (show j < 2 ^ 31 by omega), et, ec, x_row (show A.2.2 (b + 15) = some (.inl (0, 8000, R 15)) from hM.2.2 15 (by decide) (by decide)), x_ix (show 800 * (5 * f.1 + v) + i * sg_l1 s v + j < 8000 by omega) (show 800 * (5 * f.1 + v) + i * sg_l1 s v + j < 2147483648 by omega), w6]
theorem setRec_l1 (s : sg_S) (r v : Nat) : sg_l1 (setRec s r) v = sg_l1 s v := rfl
theorem setRec_l0 (s : sg_S) (r v : Nat) : sg_l0 (setRec s r) v = sg_l0 s v := rfl
def grown (s : sg_S) (v i : Nat) : sg_S := if sg_l0 s v = 0 ∧ s.2.2.2.2 ≤ i ∧ sg_tot s (i + 1) ≤ 800 then setRec s (i + 1) else s
theorem grown_l1 (s : sg_S) (v i u : Nat) : sg_l1 (grown s v i) u = sg_l1 s u := by
  unfold grown
  split <;> rfl
theorem grown_nv (s : sg_S) (v i : Nat) : (grown s v i).2.2.1 = s.2.2.1 ∧ (grown s v i).2.2.2.1 = s.2.2.2.1 := by
  unfold grown
  split <;> exact ⟨rfl, rfl⟩
theorem n_put {d b v i j : Nat} {A : am_H} {R : Nat → Nat → Int32} {f : mo_F} {s : sg_S} {x : Int32} (hM : MM b A R f) (hS : MS R f.1 s) (hd : f.2.1 = true) (hv : v < s.2.2.1) (hi : i < 2147483648) (hj : j < 2147483648) (ha : adm (sg_raw s v) (lN i) (lN j) = true) (hx : valb (s.2.2.2.1 v).2.1 x = true) (hg : (!(decide (sg_l0 s v = 0)) || decide (i < s.2.2.2.2) || decide (sg_tot s (i + 1) ≤ 800)) = true) (hp : i * sg_l1 s v + j < 800) : ∃ B S, pev (d + 6) 198 [some (.ref b), some (.int (nI v)), some (.int (nI i)), some (.int (nI j)), some (.int x)] [] A = some (some (.int 0), B) ∧ MM b B S f ∧ MS S f.1 (setCe (grown s v i) v (upd (s.2.2.2.1 v).2.2.2.2.2 (i * sg_l1 s v + j) x)) ∧ (∀ k, 16 ≤ k → S k = R k) ∧ am_fr (at21 b) A B := by
  have hh := hS.2.1
  have h5 := hS.1.2.2.1
  have hb := hM.2.1
  obtain ⟨⟨t1, t4⟩, -⟩ := hS.1.2.2.2.1 v hv
  have ev := n_isVariable (d := d + 5) hM hS (nI v)
  have hvb : isVb s (nI v) = true := by simp [isVb, nI_pos (show v < 2 ^ 31 by omega), nI_lt hv (show s.2.2.1 < 2 ^ 31 by omega)]
  rw [hvb] at ev
  have et := n_there (d := d + 3) (g := true) hM hS hv (lN i) (lN j)
  rw [ha, Bool.true_or, Bool.true_or, Bool.true_and, bz_true] at et
  have w2 := (hS.2.2.2.2.2 v hv).2.1
  obtain ⟨B, S, eg, mB, sB, kB, fB⟩ := n_grow (d := d) (i := i) hM hS hv (by omega)
  rw [hg, bz_true] at eg
  have sB' : MS S f.1 (grown s v i) := sB
  have hv' : v < (grown s v i).2.2.1 := by rw [(grown_nv s v i).1]; exact hv
  have ec := n_cellAt (d := d + 4) (i := i) (j := j) mB sB' hv'
  rw [grown_l1] at ec
  have m1 := mB.set (i := 15) (by decide) (by decide) (upd (S 15) (800 * (5 * f.1 + v) + (i * sg_l1 s v + j)) x)
  have s1 := MS_cell (x := x) sB' hv' hp
  rw [(grown_nv s v i).2] at s1
  refine ⟨_, _, ?_, m1, s1, fun k hk => by rw [setR_ne (by omega)]; exact kB k (by omega), fB.set ⟨by omega, by omega⟩⟩
  have r15 : B.2.2 (b + 15) = some (.inl (0, 8000, S 15)) := mB.2.2 15 (by decide) (by decide)
  rw [← Nat.add_assoc]
  refine e_198 ?_; simp only [b_198, i_int, i_long, i_null, i_stat, i_iload, i_lload, i_aload, i_istore, i_astore, i_lstore, i_iinc, i_ii, i_idz, i_i, i_ll, i_lsh, i_i2l, i_l2i, i_lcmp, i_dup, i_pop, i_dup2, i_ifeq, i_ifne, i_iflt, i_ifge, i_ifgt, i_ifle, i_cmpeq, i_cmpne, i_cmplt, i_cmpge, i_cmpgt, i_cmple, i_ifnull, i_ifnonnull, i_getf, am_wr, i_putI, i_putZ, i_putR, i_iald, i_iast, i_aald, i_aast, i_alen, i_newi, i_newq, i_new, i_recv, i_iret, i_zret, i_lret, i_aret, i_vret, List.getElem?_cons_zero, List.getElem?_cons_succ, Option.bind_some, Option.toList_some, Option.toList_none, List.cons_append, List.nil_append, x_nI, am_put, List.length_cons, List.length_nil, List.set_cons_zero, List.set_cons_succ, Nat.reduceAdd, Nat.reduceLT, Nat.reduceLeDiff, Nat.reduceEqDiff, Nat.add_left_cancel_iff, Nat.add_eq_left, Nat.left_eq_add, Nat.succ_ne_self, Nat.reduceSub, reduceIte, ite_self, eq_self, or_true, true_or, or_false, false_or, or_self, i10, not_true_eq_false, not_false_eq_true, x_call1, x_call2, x_call3, x_call4, x_call5, x_call6, x_sl0, x_sli, x_slr, x_sln, x_sll, am_ent, List.map_nil, List.map_cons, List.sum_nil, List.sum_cons, Value.category, and_true, true_and, and_self, Nat.zero_le, List.replicate_succ, List.replicate_zero, List.reduceReplicate, x_obj_set, x_row_set, x_len_set, x_obx, x_rox, x_rv, x_obj hM.1, mo_obj, hd, bz_true, ev, nI_l (show i < 2 ^ 31 by omega), nI_l (show j < 2 ^ 31 by omega), et, x_row (show A.2.2 (b + 6) = some (.inl (0, 10, R 6)) from hM.2.2 6 (by decide) (by decide)), show (5 : Int32) = nI 5 from rfl, pk_mul, nI_add, x_ix (show 5 * f.1 + v < 10 by omega) (show 5 * f.1 + v < 2147483648 by omega), w2, n_fits t1 t4, hx, eg, x_obj mB.1, ec, x_row r15, x_ix (show 800 * (5 * f.1 + v) + i * sg_l1 s v + j < 8000 by omega) (show 800 * (5 * f.1 + v) + i * sg_l1 s v + j < 2147483648 by omega), x_own (show 5 ≤ b + 15 by omega)]
  rfl
