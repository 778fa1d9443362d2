/-! the reference: putSlab, getSlab -/
theorem qs_setCe (s : sg_S) (v : Nat) (ce : Nat → Int32) (q : Nat → Nat × Nat × Nat) (u k : Nat) : qs (setCe s v ce) q u k = qs s q u k := by
  unfold qs
  rw [(setCe_var s v ce u).2.2.1]
theorem setCe_twice (s : sg_S) (v : Nat) (c1 c2 : Nat → Int32) : setCe (setCe s v c1) v c2 = setCe s v c2 := by
  unfold setCe
  simp only
  congr 1
  congr 1
  congr 1
  congr 1
  funext u
  by_cases c : u = v <;> simp [c]
theorem setCe_cells (s : sg_S) (v : Nat) (ce : Nat → Int32) : ((setCe s v ce).2.2.2.1 v).2.2.2.2.2 = ce := by
  rw [(setCe_var s v ce v).2.2.2.2.2, if_pos rfl]
theorem n_pS119 {d b v n : Nat} {f : mo_F} {s : sg_S} {q : Nat → Nat × Nat × Nat} {ce : Nat → Int32} {x st : Int32} (hv : v < s.2.2.1) (hn : n = (qs s q v 0).2.1 * (qs s q v 1).2.1) (hpl : ∀ a b, a < (qs s q v 0).2.1 → b < (qs s q v 1).2.1 → ((qs s q v 0).1 + a * (qs s q v 0).2.2) * sg_l1 s v + ((qs s q v 1).1 + b * (qs s q v 1).2.2) < 800) : ∀ (m k : Nat), k + m = n → ∀ {A : am_H} {R : Nat → Nat → Int32}, MM b A R f → MS R f.1 (setCe s v (slb ce (qs s q v 0).1 (qs s q v 0).2.2 (qs s q v 1).1 (qs s q v 1).2.2 (qs s q v 1).2.1 (sg_l1 s v) x st k)) → MSel R q → ∃ B S, pev (d + 2) 207 [some (.ref b), some (.int (nI v)), some (.int x), some (.int st), some (.int (nI n)), some (.int (nI k))] [] A = some (some (.int (nI n)), B) ∧ MM b B S f ∧ MS S f.1 (setCe s v (slb ce (qs s q v 0).1 (qs s q v 0).2.2 (qs s q v 1).1 (qs s q v 1).2.2 (qs s q v 1).2.1 (sg_l1 s v) x st n)) ∧ (∀ i, i ≠ 15 → S i = R i) ∧ am_fr (at21 b) A B := by
  intro m
  induction m with
  | zero =>
    intro k hk A R hM hS hQ
    have hkn : k = n := by omega
    subst hkn
    have q0 := qs_ok hQ.ok s v (k := 0) (by decide)
    have q1 := qs_ok hQ.ok s v (k := 1) (by decide)
    have hn64 : k ≤ 8 * 8 := by rw [hn]; exact Nat.mul_le_mul q0.2.2.1 q1.2.2.1
    refine ⟨A, R, ?_, hM, hS, fun _ _ => rfl, am_fr.refl A⟩
    refine e_207 ?_; simp only [b_207, i_int, i_long, i_null, i_stat, i_iload, i_lload, i_aload, i_istore, i_astore, i_lstore, i_iinc, i_ii, i_idz, i_i, i_ll, i_lsh, i_i2l, i_l2i, i_lcmp, i_dup, i_pop, i_dup2, i_ifeq, i_ifne, i_iflt, i_ifge, i_ifgt, i_ifle, i_cmpeq, i_cmpne, i_cmplt, i_cmpge, i_cmpgt, i_cmple, i_ifnull, i_ifnonnull, i_getf, am_wr, i_putI, i_putZ, i_putR, i_iald, i_iast, i_aald, i_aast, i_alen, i_newi, i_newq, i_new, i_recv, i_iret, i_zret, i_lret, i_aret, i_vret, List.getElem?_cons_zero, List.getElem?_cons_succ, Option.bind_some, Option.toList_some, Option.toList_none, List.cons_append, List.nil_append, x_nI, am_put, am_put2, List.length_cons, List.length_nil, List.set_cons_zero, List.set_cons_succ, Nat.reduceAdd, Nat.reduceLT, Nat.reduceLeDiff, Nat.reduceEqDiff, Nat.add_left_cancel_iff, Nat.add_eq_left, Nat.left_eq_add, Nat.succ_ne_self, Nat.reduceSub, reduceIte, ite_self, eq_self, or_true, true_or, or_false, false_or, or_self, i10, not_true_eq_false, not_false_eq_true, x_call1, x_call2, x_call3, x_call4, x_call5, x_call6, x_sl0, x_sli, x_slr, x_sln, x_sll, am_ent, List.map_nil, List.map_cons, List.sum_nil, List.sum_cons, Value.category, and_true, true_and, and_self, Nat.zero_le, List.replicate_succ, List.replicate_zero, List.reduceReplicate, x_obj_set, x_row_set, x_len_set, x_obx, x_rox, x_rv, show nI k ≤ nI k from nI_le (Nat.le_refl _) (by omega)]
  | succ m ih =>
    intro k hk A R hM hS hQ
    have hb := hM.2.1
    have hh := hS.2.1
    have h5 : s.2.2.1 ≤ 5 := hS.1.2.2.1
    have q0 := qs_ok hQ.ok s v (k := 0) (by decide)
    have q1 := qs_ok hQ.ok s v (k := 1) (by decide)
    have hn64 : n ≤ 8 * 8 := by rw [hn]; exact Nat.mul_le_mul q0.2.2.1 q1.2.2.1
    have hc : ¬ nI n ≤ nI k := nI_ge (by omega) (by omega)
    have hkn : k < (qs s q v 0).2.1 * (qs s q v 1).2.1 := by omega
    have kd : k / (qs s q v 1).2.1 < (qs s q v 0).2.1 := Nat.div_lt_of_lt_mul (by rw [Nat.mul_comm]; exact hkn)
    have km : k % (qs s q v 1).2.1 < (qs s q v 1).2.1 := Nat.mod_lt _ (by omega)
    have hp := hpl _ _ kd km
    have em := n_many (d := d + 1) (k := 1) hM hS hQ hv (by decide)
    rw [nI_one, qs_setCe] at em
    have hz : ¬ nI (qs s q v 1).2.1 = 0 := nI_ne0 (by omega) (by omega)
    have ed : nI k / nI (qs s q v 1).2.1 = nI (k / (qs s q v 1).2.1) := pk_div (by omega) (by omega) (by omega)
    have er : nI k - nI (k / (qs s q v 1).2.1) * nI (qs s q v 1).2.1 = nI (k % (qs s q v 1).2.1) := by
      rw [← ed]
      exact pk_rem (by omega) (by omega) (by omega)
    have hax := (setCe_var s v (slb ce (qs s q v 0).1 (qs s q v 0).2.2 (qs s q v 1).1 (qs s q v 1).2.2 (qs s q v 1).2.1 (sg_l1 s v) x st k) v).2.2.1
    have e0 := n_chosen (d := d + 1) (k := 0) (n := k / (qs s q v 1).2.1) hM hS hQ hv (by decide) (by omega) (fun h => qs_0 (by rw [hax] at h; exact h) kd)
    have e1 := n_chosen (d := d + 1) (k := 1) (n := k % (qs s q v 1).2.1) hM hS hQ hv (by decide) (by omega) (fun h => qs_0 (by rw [hax] at h; exact h) km)
    rw [nI_0, qs_setCe] at e0
    rw [nI_one, qs_setCe] at e1
    have ec := n_cellAt (d := d) (i := (qs s q v 0).1 + k / (qs s q v 1).2.1 * (qs s q v 0).2.2) (j := (qs s q v 1).1 + k % (qs s q v 1).2.1 * (qs s q v 1).2.2) hM hS hv
    rw [setCe_l1] at ec
    have m1 := hM.set (i := 15) (by decide) (by decide) (upd (R 15) (800 * (5 * f.1 + v) + (((qs s q v 0).1 + k / (qs s q v 1).2.1 * (qs s q v 0).2.2) * sg_l1 s v + ((qs s q v 1).1 + k % (qs s q v 1).2.1 * (qs s q v 1).2.2))) (x + nI k * st))
    have s1 := MS_cell (x := x + nI k * st) hS hv hp
    rw [setCe_cells, setCe_twice] at s1
    obtain ⟨B, S, e2, mB, sB, kB, fB⟩ := ih (k + 1) (by omega) m1 s1 (fun j hj => by rw [setR_ne (by decide), setR_ne (by decide), setR_ne (by decide)]; exact hQ j hj)
    refine ⟨B, S, ?_, mB, sB, fun i hi => (kB i hi).trans (setR_ne hi), ((am_fr.refl A).set ⟨by omega, by omega⟩).trans fB⟩
    rw [← Nat.add_assoc] at e2
    refine e_207 ?_; simp only [b_207, i_int, i_long, i_null, i_stat, i_iload, i_lload, i_aload, i_istore, i_astore, i_lstore, i_iinc, i_ii, i_idz, i_i, i_ll, i_lsh, i_i2l, i_l2i, i_lcmp, i_dup, i_pop, i_dup2, i_ifeq, i_ifne, i_iflt, i_ifge, i_ifgt, i_ifle, i_cmpeq, i_cmpne, i_cmplt, i_cmpge, i_cmpgt, i_cmple, i_ifnull, i_ifnonnull, i_getf, am_wr, i_putI, i_putZ, i_putR, i_iald, i_iast, i_aald, i_aast, i_alen, i_newi, i_newq, i_new, i_recv, i_iret, i_zret, i_lret, i_aret, i_vret, List.getElem?_cons_zero, List.getElem?_cons_succ, Option.bind_some, Option.toList_some, Option.toList_none, List.cons_append, List.nil_append, x_nI, am_put, am_put2, List.length_cons, List.length_nil, List.set_cons_zero, List.set_cons_succ, Nat.reduceAdd, Nat.reduceLT, Nat.reduceLeDiff, Nat.reduceEqDiff, Nat.add_left_cancel_iff, Nat.add_eq_left, Nat.left_eq_add, Nat.succ_ne_self, Nat.reduceSub, reduceIte, ite_self, eq_self, or_true, true_or, or_false, false_or, or_self, i10, not_true_eq_false, not_false_eq_true, x_call1, x_call2, x_call3, x_call4, x_call5, x_call6, x_sl0, x_sli, x_slr, x_sln, x_sll, am_ent, List.map_nil, List.map_cons, List.sum_nil, List.sum_cons, Value.category, and_true, true_and, and_self, Nat.zero_le, List.replicate_succ, List.replicate_zero, List.reduceReplicate, x_obj_set, x_row_set, x_len_set, x_obx, x_rox, x_rv, hc, x_obj hM.1, mo_obj, em, hz, ed, er, e0, e1, ec, x_row (show A.2.2 (b + 15) = some (.inl (0, 8000, R 15)) from hM.2.2 15 (by decide) (by decide)), x_ix (show 800 * (5 * f.1 + v) + ((qs s q v 0).1 + k / (qs s q v 1).2.1 * (qs s q v 0).2.2) * sg_l1 s v + ((qs s q v 1).1 + k % (qs s q v 1).2.1 * (qs s q v 1).2.2) < 8000 by omega) (show 800 * (5 * f.1 + v) + ((qs s q v 0).1 + k / (qs s q v 1).2.1 * (qs s q v 0).2.2) * sg_l1 s v + ((qs s q v 1).1 + k % (qs s q v 1).2.1 * (qs s q v 1).2.2) < 2147483648 by omega), x_own (show 5 ≤ b + 15 by omega), nI_1]
    exact e2
theorem isVb_of {s : sg_S} {v : Nat} (hv : v < s.2.2.1) (h5 : s.2.2.1 ≤ 5) : isVb s (nI v) = true := by
  simp [isVb, nI_pos (show v < 2 ^ 31 by omega), nI_lt hv (show s.2.2.1 < 2 ^ 31 by omega)]
theorem n_pSM {d b : Nat} {A : am_H} {R : Nat → Nat → Int32} {f : mo_F} {v x st : Int32} (hM : MM b A R f) (hd : f.2.1 = false) : pev d 205 [some (.ref b), some (.int v), some (.int x), some (.int st), none, none] [] A = some (some (.int (-1)), A) := by
  refine e_205 ?_; simp only [b_205, i_int, i_long, i_null, i_stat, i_iload, i_lload, i_aload, i_istore, i_astore, i_lstore, i_iinc, i_ii, i_idz, i_i, i_ll, i_lsh, i_i2l, i_l2i, i_lcmp, i_dup, i_pop, i_dup2, i_ifeq, i_ifne, i_iflt, i_ifge, i_ifgt, i_ifle, i_cmpeq, i_cmpne, i_cmplt, i_cmpge, i_cmpgt, i_cmple, i_ifnull, i_ifnonnull, i_getf, am_wr, i_putI, i_putZ, i_putR, i_iald, i_iast, i_aald, i_aast, i_alen, i_newi, i_newq, i_new, i_recv, i_iret, i_zret, i_lret, i_aret, i_vret, List.getElem?_cons_zero, List.getElem?_cons_succ, Option.bind_some, Option.toList_some, Option.toList_none, List.cons_append, List.nil_append, x_nI, am_put, am_put2, List.length_cons, List.length_nil, List.set_cons_zero, List.set_cons_succ, Nat.reduceAdd, Nat.reduceLT, Nat.reduceLeDiff, Nat.reduceEqDiff, Nat.add_left_cancel_iff, Nat.add_eq_left, Nat.left_eq_add, Nat.succ_ne_self, Nat.reduceSub, reduceIte, ite_self, eq_self, or_true, true_or, or_false, false_or, or_self, i10, not_true_eq_false, not_false_eq_true, x_call1, x_call2, x_call3, x_call4, x_call5, x_call6, x_sl0, x_sli, x_slr, x_sln, x_sll, am_ent, List.map_nil, List.map_cons, List.sum_nil, List.sum_cons, Value.category, and_true, true_and, and_self, Nat.zero_le, List.replicate_succ, List.replicate_zero, List.reduceReplicate, x_obj_set, x_row_set, x_len_set, x_obx, x_rox, x_rv, x_obj hM.1, mo_obj, hd, bz_false]
theorem n_pSN {d b : Nat} {A : am_H} {R : Nat → Nat → Int32} {f : mo_F} {s : sg_S} {v x st : Int32} (hM : MM b A R f) (hS : MS R f.1 s) (hd : f.2.1 = true) (hv : isVb s v = false) : pev (d + 1) 205 [some (.ref b), some (.int v), some (.int x), some (.int st), none, none] [] A = some (some (.int (-3)), A) := by
  have ev := n_isVariable (d := d) hM hS v
  rw [hv] at ev
  refine e_205 ?_; simp only [b_205, i_int, i_long, i_null, i_stat, i_iload, i_lload, i_aload, i_istore, i_astore, i_lstore, i_iinc, i_ii, i_idz, i_i, i_ll, i_lsh, i_i2l, i_l2i, i_lcmp, i_dup, i_pop, i_dup2, i_ifeq, i_ifne, i_iflt, i_ifge, i_ifgt, i_ifle, i_cmpeq, i_cmpne, i_cmplt, i_cmpge, i_cmpgt, i_cmple, i_ifnull, i_ifnonnull, i_getf, am_wr, i_putI, i_putZ, i_putR, i_iald, i_iast, i_aald, i_aast, i_alen, i_newi, i_newq, i_new, i_recv, i_iret, i_zret, i_lret, i_aret, i_vret, List.getElem?_cons_zero, List.getElem?_cons_succ, Option.bind_some, Option.toList_some, Option.toList_none, List.cons_append, List.nil_append, x_nI, am_put, am_put2, List.length_cons, List.length_nil, List.set_cons_zero, List.set_cons_succ, Nat.reduceAdd, Nat.reduceLT, Nat.reduceLeDiff, Nat.reduceEqDiff, Nat.add_left_cancel_iff, Nat.add_eq_left, Nat.left_eq_add, Nat.succ_ne_self, Nat.reduceSub, reduceIte, ite_self, eq_self, or_true, true_or, or_false, false_or, or_self, i10, not_true_eq_false, not_false_eq_true, x_call1, x_call2, x_call3, x_call4, x_call5, x_call6, x_sl0, x_sli, x_slr, x_sln, x_sll, am_ent, List.map_nil, List.map_cons, List.sum_nil, List.sum_cons, Value.category, and_true, true_and, and_self, Nat.zero_le, List.replicate_succ, List.replicate_zero, List.reduceReplicate, x_obj_set, x_row_set, x_len_set, x_obx, x_rox, x_rv, x_obj hM.1, mo_obj, hd, bz_true, ev, bz_false]
/-- the last cell of a slab -/
def la0 (s : sg_S) (q : Nat → Nat × Nat × Nat) (v : Nat) : Nat := (qs s q v 0).1 + ((qs s q v 0).2.1 - 1) * (qs s q v 0).2.2
def la1 (s : sg_S) (q : Nat → Nat × Nat × Nat) (v : Nat) : Nat := (qs s q v 1).1 + ((qs s q v 1).2.1 - 1) * (qs s q v 1).2.2
def slS (s : sg_S) (q : Nat → Nat × Nat × Nat) (v : Nat) (x st : Int32) : sg_S := setCe (grown s v (la0 s q v)) v (slb (s.2.2.2.1 v).2.2.2.2.2 (qs s q v 0).1 (qs s q v 0).2.2 (qs s q v 1).1 (qs s q v 1).2.2 (qs s q v 1).2.1 (sg_l1 s v) x st ((qs s q v 0).2.1 * (qs s q v 1).2.1))
def pS_c (s : sg_S) (q : Nat → Nat × Nat × Nat) (v : Nat) (x st : Int32) : Int32 := if thb s q v true ((qs s q v 0).2.1 - 1) ((qs s q v 1).2.1 - 1) = false then -7 else if arV (s.2.2.2.1 v).2.1 x st 0 ((qs s q v 0).2.1 * (qs s q v 1).2.1) = false then -6 else if (!(decide (sg_l0 s v = 0)) || decide (la0 s q v < s.2.2.2.2) || decide (sg_tot s (la0 s q v + 1) ≤ 800)) = false then -8 else nI ((qs s q v 0).2.1 * (qs s q v 1).2.1)
def pS_s (s : sg_S) (q : Nat → Nat × Nat × Nat) (v : Nat) (x st : Int32) : sg_S := if thb s q v true ((qs s q v 0).2.1 - 1) ((qs s q v 1).2.1 - 1) = false then s else if arV (s.2.2.2.1 v).2.1 x st 0 ((qs s q v 0).2.1 * (qs s q v 1).2.1) = false then s else if (!(decide (sg_l0 s v = 0)) || decide (la0 s q v < s.2.2.2.2) || decide (sg_tot s (la0 s q v + 1) ≤ 800)) = false then s else slS s q v x st
theorem setCe_self (s : sg_S) (v : Nat) : setCe s v (s.2.2.2.1 v).2.2.2.2.2 = s := by
  have : (fun u => if u = v then ((s.2.2.2.1 u).1, (s.2.2.2.1 u).2.1, (s.2.2.2.1 u).2.2.1, (s.2.2.2.1 u).2.2.2.1, (s.2.2.2.1 u).2.2.2.2.1, (s.2.2.2.1 v).2.2.2.2.2) else s.2.2.2.1 u) = s.2.2.2.1 := by
    funext u
    by_cases c : u = v
    · subst c
      simp
    · simp [c]
  unfold setCe
  rw [this]
theorem qs_grown (s : sg_S) (v i : Nat) (q : Nat → Nat × Nat × Nat) (u k : Nat) : qs (grown s v i) q u k = qs s q u k := by
  unfold qs
  rw [(grown_nv s v i).2]
theorem grown_v {s : sg_S} (h : STv s) (v i : Nat) (hi : i + 1 < 2147483648) : STv (grown s v i) := by
  unfold grown
  split
  · exact ⟨h.1, h.2.1, h.2.2.1, h.2.2.2.1, hi⟩
  · exact h
theorem grown_tot {s : sg_S} {v i : Nat} (ht : sg_tot s s.2.2.2.2 ≤ 800) : sg_tot (grown s v i) (grown s v i).2.2.2.2 ≤ 800 := by
  unfold grown
  split
  · rename_i h
    exact h.2.2
  · exact ht
theorem la0_lt {s : sg_S} {q : Nat → Nat × Nat × Nat} (hq : Qok q) (v : Nat) : la0 s q v < 3000000000 := by
  obtain ⟨a1, a2, a3, a4, a5⟩ := qs_ok hq s v (k := 0) (by decide)
  exact pl_lt a1 (by omega) a5
/-- every place of a slab that is there lies within the cells -/
theorem slab_pl {s : sg_S} {q : Nat → Nat × Nat × Nat} {v : Nat} (hs : STv s) (hv : v < s.2.2.1) (hq : Qok q) (ht : sg_tot s s.2.2.2.2 ≤ 800) (h1 : thb s q v true ((qs s q v 0).2.1 - 1) ((qs s q v 1).2.1 - 1) = true) (hg : (!(decide (sg_l0 s v = 0)) || decide (la0 s q v < s.2.2.2.2) || decide (sg_tot s (la0 s q v + 1) ≤ 800)) = true) : ∀ a b, a < (qs s q v 0).2.1 → b < (qs s q v 1).2.1 → ((qs s q v 0).1 + a * (qs s q v 0).2.2) * sg_l1 s v + ((qs s q v 1).1 + b * (qs s q v 1).2.2) < 800 := by
  intro a b ha hb
  obtain ⟨a1, a2, a3, a4, a5⟩ := qs_ok hq s v (k := 0) (by decide)
  obtain ⟨b1, b2, b3, b4, b5⟩ := qs_ok hq s v (k := 1) (by decide)
  have h2 := (thb_iff hs hv hq (by omega) (by omega)).mp (thb_mono hs hv hq (by omega) (by omega) (show a ≤ (qs s q v 0).2.1 - 1 by omega) (show b ≤ (qs s q v 1).2.1 - 1 by omega) h1)
  have m1 : a * (qs s q v 0).2.2 ≤ ((qs s q v 0).2.1 - 1) * (qs s q v 0).2.2 := Nat.mul_le_mul_right _ (by omega)
  have la : la0 s q v = (qs s q v 0).1 + ((qs s q v 0).2.1 - 1) * (qs s q v 0).2.2 := rfl
  have hgt : sg_tot (grown s v (la0 s q v)) (grown s v (la0 s q v)).2.2.2.2 ≤ 800 := grown_tot ht
  by_cases c : sg_l0 s v = 0
  · by_cases c2 : la0 s q v < s.2.2.2.2
    · exact place_lt hs hv ht h2.2.1 (Or.inl ⟨c, by omega⟩)
    · simp only [c, decide_true, Bool.not_true, Bool.false_or, c2, decide_false, decide_eq_true_eq] at hg
      have hr1 := rs_pos hs hv c
      have ett : sg_tot s (la0 s q v + 1) = sg_hs s + sg_pf s s.2.2.1 + (la0 s q v + 1) * sg_rs s := rfl
      have hi8 : la0 s q v + 1 ≤ 800 := by
        have : (la0 s q v + 1) * 1 ≤ (la0 s q v + 1) * sg_rs s := Nat.mul_le_mul_left _ hr1
        omega
      have hgr : grown s v (la0 s q v) = setRec s (la0 s q v + 1) := if_pos ⟨c, by omega, hg⟩
      have hsg : STv (setRec s (la0 s q v + 1)) := ⟨hs.1, hs.2.1, hs.2.2.1, hs.2.2.2.1, by show la0 s q v + 1 < 2147483648; omega⟩
      exact place_lt (s := setRec s (la0 s q v + 1)) hsg hv hg h2.2.1 (Or.inl ⟨c, by show _ < la0 s q v + 1; omega⟩)
  · rcases h2.1 with h3 | h3
    · exact absurd h3 c
    · exact place_lt hs hv ht h2.2.1 (Or.inr ⟨c, h3⟩)
theorem n_putSlab {d b v : Nat} {A : am_H} {R : Nat → Nat → Int32} {f : mo_F} {s : sg_S} {q : Nat → Nat × Nat × Nat} {x st : Int32} (hM : MM b A R f) (hS : MS R f.1 s) (hQ : MSel R q) (hd : f.2.1 = true) (hv : v < s.2.2.1) (ht : sg_tot s s.2.2.2.2 ≤ 800) : ∃ B S, pev (d + 6) 205 [some (.ref b), some (.int (nI v)), some (.int x), some (.int st), none, none] [] A = some (some (.int (pS_c s q v x st)), B) ∧ MM b B S f ∧ MS S f.1 (pS_s s q v x st) ∧ (∀ i, 16 ≤ i → S i = R i) ∧ am_fr (at21 b) A B := by
  have h5 := hS.1.2.2.1
  have hs := hS.1
  have hq := hQ.ok
  obtain ⟨a1, a2, a3, a4, a5⟩ := qs_ok hq s v (k := 0) (by decide)
  obtain ⟨b1, b2, b3, b4, b5⟩ := qs_ok hq s v (k := 1) (by decide)
  have hn64 : (qs s q v 0).2.1 * (qs s q v 1).2.1 ≤ 8 * 8 := Nat.mul_le_mul a3 b3
  have ev := n_isVariable (d := d + 5) hM hS (nI v)
  rw [isVb_of hv h5] at ev
  have et := n_slabThere (d := d + 2) (g := true) hM hS hQ hv
  have em0 := n_many (d := d + 5) (k := 0) hM hS hQ hv (by decide)
  have em1 := n_many (d := d + 5) (k := 1) hM hS hQ hv (by decide)
  rw [nI_0] at em0
  rw [nI_one] at em1
  unfold pS_c pS_s
  cases c1 : thb s q v true ((qs s q v 0).2.1 - 1) ((qs s q v 1).2.1 - 1) with
  | false =>
    rw [c1, bz_true, bz_false] at et
    simp only [if_true]
    refine ⟨A, R, ?_, hM, hS, fun _ _ => rfl, am_fr.refl A⟩
    refine e_205 ?_; simp only [b_205, i_int, i_long, i_null, i_stat, i_iload, i_lload, i_aload, i_istore, i_astore, i_lstore, i_iinc, i_ii, i_idz, i_i, i_ll, i_lsh, i_i2l, i_l2i, i_lcmp, i_dup, i_pop, i_dup2, i_ifeq, i_ifne, i_iflt, i_ifge, i_ifgt, i_ifle, i_cmpeq, i_cmpne, i_cmplt, i_cmpge, i_cmpgt, i_cmple, i_ifnull, i_ifnonnull, i_getf, am_wr, i_putI, i_putZ, i_putR, i_iald, i_iast, i_aald, i_aast, i_alen, i_newi, i_newq, i_new, i_recv, i_iret, i_zret, i_lret, i_aret, i_vret, List.getElem?_cons_zero, List.getElem?_cons_succ, Option.bind_some, Option.toList_some, Option.toList_none, List.cons_append, List.nil_append, x_nI, am_put, am_put2, List.length_cons, List.length_nil, List.set_cons_zero, List.set_cons_succ, Nat.reduceAdd, Nat.reduceLT, Nat.reduceLeDiff, Nat.reduceEqDiff, Nat.add_left_cancel_iff, Nat.add_eq_left, Nat.left_eq_add, Nat.succ_ne_self, Nat.reduceSub, reduceIte, ite_self, eq_self, or_true, true_or, or_false, false_or, or_self, i10, not_true_eq_false, not_false_eq_true, x_call1, x_call2, x_call3, x_call4, x_call5, x_call6, x_sl0, x_sli, x_slr, x_sln, x_sll, am_ent, List.map_nil, List.map_cons, List.sum_nil, List.sum_cons, Value.category, and_true, true_and, and_self, Nat.zero_le, List.replicate_succ, List.replicate_zero, List.reduceReplicate, x_obj_set, x_row_set, x_len_set, x_obx, x_rox, x_rv, x_obj hM.1, mo_obj, hd, bz_true, ev, et]
  | true =>
    rw [c1, bz_true] at et
    simp only [Bool.true_eq_false, if_false]
    obtain ⟨p1, p2⟩ := n_pS50 (d := d) (x := x) (st := st) hM hS hv (show (qs s q v 0).2.1 * (qs s q v 1).2.1 ≤ 64 by omega) ((qs s q v 0).2.1 * (qs s q v 1).2.1) 0 (by omega)
    cases c2 : arV (s.2.2.2.1 v).2.1 x st 0 ((qs s q v 0).2.1 * (qs s q v 1).2.1) with
    | false =>
      have e2 := p1 c2
      simp only [if_true]
      refine ⟨A, R, ?_, hM, hS, fun _ _ => rfl, am_fr.refl A⟩
      refine e_205 ?_; simp only [b_205, i_int, i_long, i_null, i_stat, i_iload, i_lload, i_aload, i_istore, i_astore, i_lstore, i_iinc, i_ii, i_idz, i_i, i_ll, i_lsh, i_i2l, i_l2i, i_lcmp, i_dup, i_pop, i_dup2, i_ifeq, i_ifne, i_iflt, i_ifge, i_ifgt, i_ifle, i_cmpeq, i_cmpne, i_cmplt, i_cmpge, i_cmpgt, i_cmple, i_ifnull, i_ifnonnull, i_getf, am_wr, i_putI, i_putZ, i_putR, i_iald, i_iast, i_aald, i_aast, i_alen, i_newi, i_newq, i_new, i_recv, i_iret, i_zret, i_lret, i_aret, i_vret, List.getElem?_cons_zero, List.getElem?_cons_succ, Option.bind_some, Option.toList_some, Option.toList_none, List.cons_append, List.nil_append, x_nI, am_put, am_put2, List.length_cons, List.length_nil, List.set_cons_zero, List.set_cons_succ, Nat.reduceAdd, Nat.reduceLT, Nat.reduceLeDiff, Nat.reduceEqDiff, Nat.add_left_cancel_iff, Nat.add_eq_left, Nat.left_eq_add, Nat.succ_ne_self, Nat.reduceSub, reduceIte, ite_self, eq_self, or_true, true_or, or_false, false_or, or_self, i10, not_true_eq_false, not_false_eq_true, x_call1, x_call2, x_call3, x_call4, x_call5, x_call6, x_sl0, x_sli, x_slr, x_sln, x_sll, am_ent, List.map_nil, List.map_cons, List.sum_nil, List.sum_cons, Value.category, and_true, true_and, and_self, Nat.zero_le, List.replicate_succ, List.replicate_zero, List.reduceReplicate, x_obj_set, x_row_set, x_len_set, x_obx, x_rox, x_rv, x_obj hM.1, mo_obj, hd, bz_true, ev, et, em0, em1, pk_mul]
      exact e2
    | true =>
      simp only [Bool.true_eq_false, if_false]
      have hl := la0_lt hq (s := s) v
      obtain ⟨B, S, eg, mB, sB, kB, fB⟩ := n_grow (d := d) (i := la0 s q v) hM hS hv (by omega)
      have ech := n_chosen (d := d + 5) (k := 0) (n := (qs s q v 0).2.1 - 1) hM hS hQ hv (by decide) (by omega) (fun h => qs_0 (q := q) h (by omega))
      rw [nI_0] at ech
      have epr : nI (qs s q v 0).2.1 - 1 = nI ((qs s q v 0).2.1 - 1) := by rw [← nI_one]; exact pk_sub (by omega)
      have hc : nI ((qs s q v 0).2.1 * (qs s q v 1).2.1) ≤ nI ((qs s q v 0).2.1 * (qs s q v 1).2.1) := nI_le (Nat.le_refl _) (by omega)
      cases c3 : (!(decide (sg_l0 s v = 0)) || decide (la0 s q v < s.2.2.2.2) || decide (sg_tot s (la0 s q v + 1) ≤ 800)) with
      | false =>
        rw [c3, bz_false] at eg
        simp only [Bool.or_eq_false_iff, decide_eq_false_iff_not] at c3
        rw [if_neg (fun e => c3.2 e.2.2)] at sB
        simp only [if_true]
        refine ⟨B, S, ?_, mB, sB, fun k hk => kB k (by omega), fB⟩
        have e2 : pev (d + 6) 206 [some (.ref b), some (.int (nI v)), some (.int x), some (.int st), some (.int (nI ((qs s q v 0).2.1 * (qs s q v 1).2.1))), some (.int (nI 0))] [] A = some (some (.int (-8)), B) := by
          refine p2 c2 _ ?_
          refine e_206 ?_; simp only [b_206, i_int, i_long, i_null, i_stat, i_iload, i_lload, i_aload, i_istore, i_astore, i_lstore, i_iinc, i_ii, i_idz, i_i, i_ll, i_lsh, i_i2l, i_l2i, i_lcmp, i_dup, i_pop, i_dup2, i_ifeq, i_ifne, i_iflt, i_ifge, i_ifgt, i_ifle, i_cmpeq, i_cmpne, i_cmplt, i_cmpge, i_cmpgt, i_cmple, i_ifnull, i_ifnonnull, i_getf, am_wr, i_putI, i_putZ, i_putR, i_iald, i_iast, i_aald, i_aast, i_alen, i_newi, i_newq, i_new, i_recv, i_iret, i_zret, i_lret, i_aret, i_vret, List.getElem?_cons_zero, List.getElem?_cons_succ, Option.bind_some, Option.toList_some, Option.toList_none, List.cons_append, List.nil_append, x_nI, am_put, am_put2, List.length_cons, List.length_nil, List.set_cons_zero, List.set_cons_succ, Nat.reduceAdd, Nat.reduceLT, Nat.reduceLeDiff, Nat.reduceEqDiff, Nat.add_left_cancel_iff, Nat.add_eq_left, Nat.left_eq_add, Nat.succ_ne_self, Nat.reduceSub, reduceIte, ite_self, eq_self, or_true, true_or, or_false, false_or, or_self, i10, not_true_eq_false, not_false_eq_true, x_call1, x_call2, x_call3, x_call4, x_call5, x_call6, x_sl0, x_sli, x_slr, x_sln, x_sll, am_ent, List.map_nil, List.map_cons, List.sum_nil, List.sum_cons, Value.category, and_true, true_and, and_self, Nat.zero_le, List.replicate_succ, List.replicate_zero, List.reduceReplicate, x_obj_set, x_row_set, x_len_set, x_obx, x_rox, x_rv, hc, x_obj hM.1, mo_obj, em0, epr, ech]
          rw [show (qs s q v 0).1 + ((qs s q v 0).2.1 - 1) * (qs s q v 0).2.2 = la0 s q v from rfl]
          simp only [eg, i_int, i_long, i_null, i_stat, i_iload, i_lload, i_aload, i_istore, i_astore, i_lstore, i_iinc, i_ii, i_idz, i_i, i_ll, i_lsh, i_i2l, i_l2i, i_lcmp, i_dup, i_pop, i_dup2, i_ifeq, i_ifne, i_iflt, i_ifge, i_ifgt, i_ifle, i_cmpeq, i_cmpne, i_cmplt, i_cmpge, i_cmpgt, i_cmple, i_ifnull, i_ifnonnull, i_getf, am_wr, i_putI, i_putZ, i_putR, i_iald, i_iast, i_aald, i_aast, i_alen, i_newi, i_newq, i_new, i_recv, i_iret, i_zret, i_lret, i_aret, i_vret, List.getElem?_cons_zero, List.getElem?_cons_succ, Option.bind_some, Option.toList_some, Option.toList_none, List.cons_append, List.nil_append, x_nI, am_put, am_put2, List.length_cons, List.length_nil, List.set_cons_zero, List.set_cons_succ, Nat.reduceAdd, Nat.reduceLT, Nat.reduceLeDiff, Nat.reduceEqDiff, Nat.add_left_cancel_iff, Nat.add_eq_left, Nat.left_eq_add, Nat.succ_ne_self, Nat.reduceSub, reduceIte, ite_self, eq_self, or_true, true_or, or_false, false_or, or_self, i10, not_true_eq_false, not_false_eq_true, x_call1, x_call2, x_call3, x_call4, x_call5, x_call6, x_sl0, x_sli, x_slr, x_sln, x_sll, am_ent, List.map_nil, List.map_cons, List.sum_nil, List.sum_cons, Value.category, and_true, true_and, and_self, Nat.zero_le, List.replicate_succ, List.replicate_zero, List.reduceReplicate, x_obj_set, x_row_set, x_len_set, x_obx, x_rox, x_rv]
        refine e_205 ?_; simp only [b_205, i_int, i_long, i_null, i_stat, i_iload, i_lload, i_aload, i_istore, i_astore, i_lstore, i_iinc, i_ii, i_idz, i_i, i_ll, i_lsh, i_i2l, i_l2i, i_lcmp, i_dup, i_pop, i_dup2, i_ifeq, i_ifne, i_iflt, i_ifge, i_ifgt, i_ifle, i_cmpeq, i_cmpne, i_cmplt, i_cmpge, i_cmpgt, i_cmple, i_ifnull, i_ifnonnull, i_getf, am_wr, i_putI, i_putZ, i_putR, i_iald, i_iast, i_aald, i_aast, i_alen, i_newi, i_newq, i_new, i_recv, i_iret, i_zret, i_lret, i_aret, i_vret, List.getElem?_cons_zero, List.getElem?_cons_succ, Option.bind_some, Option.toList_some, Option.toList_none, List.cons_append, List.nil_append, x_nI, am_put, am_put2, List.length_cons, List.length_nil, List.set_cons_zero, List.set_cons_succ, Nat.reduceAdd, Nat.reduceLT, Nat.reduceLeDiff, Nat.reduceEqDiff, Nat.add_left_cancel_iff, Nat.add_eq_left, Nat.left_eq_add, Nat.succ_ne_self, Nat.reduceSub, reduceIte, ite_self, eq_self, or_true, true_or, or_false, false_or, or_self, i10, not_true_eq_false, not_false_eq_true, x_call1, x_call2, x_call3, x_call4, x_call5, x_call6, x_sl0, x_sli, x_slr, x_sln, x_sll, am_ent, List.map_nil, List.map_cons, List.sum_nil, List.sum_cons, Value.category, and_true, true_and, and_self, Nat.zero_le, List.replicate_succ, List.replicate_zero, List.reduceReplicate, x_obj_set, x_row_set, x_len_set, x_obx, x_rox, x_rv, x_obj hM.1, mo_obj, hd, bz_true, ev, et, em0, em1, pk_mul]
        exact e2
      | true =>
        rw [c3, bz_true] at eg
        simp only [Bool.true_eq_false, if_false]
        have sB' : MS S f.1 (setCe (grown s v (la0 s q v)) v (slb (s.2.2.2.1 v).2.2.2.2.2 (qs s q v 0).1 (qs s q v 0).2.2 (qs s q v 1).1 (qs s q v 1).2.2 (qs s q v 1).2.1 (sg_l1 s v) x st 0)) := by
          rw [slb, ← (grown_nv s v (la0 s q v)).2, setCe_self]
          exact sB
        have hv' : v < (grown s v (la0 s q v)).2.2.1 := by rw [(grown_nv s v _).1]; exact hv
        have hpl := slab_pl hs hv hq ht c1 c3
        have L9 := n_pS119 (d := d + 4) (b := b) (n := (qs s q v 0).2.1 * (qs s q v 1).2.1) (f := f) (s := grown s v (la0 s q v)) (q := q) (ce := (s.2.2.2.1 v).2.2.2.2.2) (x := x) (st := st) hv' (by rw [qs_grown, qs_grown]) (by rw [qs_grown, qs_grown, grown_l1]; exact hpl) ((qs s q v 0).2.1 * (qs s q v 1).2.1) 0 (by omega) (A := B) (R := S) mB
        rw [qs_grown, qs_grown, grown_l1] at L9
        obtain ⟨C, T, e9, mC, sC, kC, fC⟩ := L9 sB' (fun j hj => by rw [kB 16 (by decide), kB 17 (by decide), kB 18 (by decide)]; exact hQ j hj)
        refine ⟨C, T, ?_, mC, sC, fun i hi => (kC i (by omega)).trans (kB i (by omega)), fB.trans fC⟩
        have e2 : pev (d + 6) 206 [some (.ref b), some (.int (nI v)), some (.int x), some (.int st), some (.int (nI ((qs s q v 0).2.1 * (qs s q v 1).2.1))), some (.int (nI 0))] [] A = some (some (.int (nI ((qs s q v 0).2.1 * (qs s q v 1).2.1))), C) := by
          refine p2 c2 _ ?_
          refine e_206 ?_; simp only [b_206, i_int, i_long, i_null, i_stat, i_iload, i_lload, i_aload, i_istore, i_astore, i_lstore, i_iinc, i_ii, i_idz, i_i, i_ll, i_lsh, i_i2l, i_l2i, i_lcmp, i_dup, i_pop, i_dup2, i_ifeq, i_ifne, i_iflt, i_ifge, i_ifgt, i_ifle, i_cmpeq, i_cmpne, i_cmplt, i_cmpge, i_cmpgt, i_cmple, i_ifnull, i_ifnonnull, i_getf, am_wr, i_putI, i_putZ, i_putR, i_iald, i_iast, i_aald, i_aast, i_alen, i_newi, i_newq, i_new, i_recv, i_iret, i_zret, i_lret, i_aret, i_vret, List.getElem?_cons_zero, List.getElem?_cons_succ, Option.bind_some, Option.toList_some, Option.toList_none, List.cons_append, List.nil_append, x_nI, am_put, am_put2, List.length_cons, List.length_nil, List.set_cons_zero, List.set_cons_succ, Nat.reduceAdd, Nat.reduceLT, Nat.reduceLeDiff, Nat.reduceEqDiff, Nat.add_left_cancel_iff, Nat.add_eq_left, Nat.left_eq_add, Nat.succ_ne_self, Nat.reduceSub, reduceIte, ite_self, eq_self, or_true, true_or, or_false, false_or, or_self, i10, not_true_eq_false, not_false_eq_true, x_call1, x_call2, x_call3, x_call4, x_call5, x_call6, x_sl0, x_sli, x_slr, x_sln, x_sll, am_ent, List.map_nil, List.map_cons, List.sum_nil, List.sum_cons, Value.category, and_true, true_and, and_self, Nat.zero_le, List.replicate_succ, List.replicate_zero, List.reduceReplicate, x_obj_set, x_row_set, x_len_set, x_obx, x_rox, x_rv, hc, x_obj hM.1, mo_obj, em0, epr, ech]
          rw [show (qs s q v 0).1 + ((qs s q v 0).2.1 - 1) * (qs s q v 0).2.2 = la0 s q v from rfl]
          simp only [eg, Option.bind_some, Option.toList_some, List.cons_append, List.nil_append, i_ifne, reduceIte, i10, i_int, i_istore, i_int, i_long, i_null, i_stat, i_iload, i_lload, i_aload, i_istore, i_astore, i_lstore, i_iinc, i_ii, i_idz, i_i, i_ll, i_lsh, i_i2l, i_l2i, i_lcmp, i_dup, i_pop, i_dup2, i_ifeq, i_ifne, i_iflt, i_ifge, i_ifgt, i_ifle, i_cmpeq, i_cmpne, i_cmplt, i_cmpge, i_cmpgt, i_cmple, i_ifnull, i_ifnonnull, i_getf, am_wr, i_putI, i_putZ, i_putR, i_iald, i_iast, i_aald, i_aast, i_alen, i_newi, i_newq, i_new, i_recv, i_iret, i_zret, i_lret, i_aret, i_vret, List.getElem?_cons_zero, List.getElem?_cons_succ, Option.bind_some, Option.toList_some, Option.toList_none, List.cons_append, List.nil_append, x_nI, am_put, am_put2, List.length_cons, List.length_nil, List.set_cons_zero, List.set_cons_succ, Nat.reduceAdd, Nat.reduceLT, Nat.reduceLeDiff, Nat.reduceEqDiff, Nat.add_left_cancel_iff, Nat.add_eq_left, Nat.left_eq_add, Nat.succ_ne_self, Nat.reduceSub, reduceIte, ite_self, eq_self, or_true, true_or, or_false, false_or, or_self, i10, not_true_eq_false, not_false_eq_true, x_call1, x_call2, x_call3, x_call4, x_call5, x_call6, x_sl0, x_sli, x_slr, x_sln, x_sll, am_ent, List.map_nil, List.map_cons, List.sum_nil, List.sum_cons, Value.category, and_true, true_and, and_self, Nat.zero_le, List.replicate_succ, List.replicate_zero, List.reduceReplicate, x_obj_set, x_row_set, x_len_set, x_obx, x_rox, x_rv]
          exact e9
        refine e_205 ?_; simp only [b_205, i_int, i_long, i_null, i_stat, i_iload, i_lload, i_aload, i_istore, i_astore, i_lstore, i_iinc, i_ii, i_idz, i_i, i_ll, i_lsh, i_i2l, i_l2i, i_lcmp, i_dup, i_pop, i_dup2, i_ifeq, i_ifne, i_iflt, i_ifge, i_ifgt, i_ifle, i_cmpeq, i_cmpne, i_cmplt, i_cmpge, i_cmpgt, i_cmple, i_ifnull, i_ifnonnull, i_getf, am_wr, i_putI, i_putZ, i_putR, i_iald, i_iast, i_aald, i_aast, i_alen, i_newi, i_newq, i_new, i_recv, i_iret, i_zret, i_lret, i_aret, i_vret, List.getElem?_cons_zero, List.getElem?_cons_succ, Option.bind_some, Option.toList_some, Option.toList_none, List.cons_append, List.nil_append, x_nI, am_put, am_put2, List.length_cons, List.length_nil, List.set_cons_zero, List.set_cons_succ, Nat.reduceAdd, Nat.reduceLT, Nat.reduceLeDiff, Nat.reduceEqDiff, Nat.add_left_cancel_iff, Nat.add_eq_left, Nat.left_eq_add, Nat.succ_ne_self, Nat.reduceSub, reduceIte, ite_self, eq_self, or_true, true_or, or_false, false_or, or_self, i10, not_true_eq_false, not_false_eq_true, x_call1, x_call2, x_call3, x_call4, x_call5, x_call6, x_sl0, x_sli, x_slr, x_sln, x_sll, am_ent, List.map_nil, List.map_cons, List.sum_nil, List.sum_cons, Value.category, and_true, true_and, and_self, Nat.zero_le, List.replicate_succ, List.replicate_zero, List.reduceReplicate, x_obj_set, x_row_set, x_len_set, x_obx, x_rox, x_rv, x_obj hM.1, mo_obj, hd, bz_true, ev, et, em0, em1, pk_mul]
        exact e2
theorem n_gSM {d b : Nat} {A : am_H} {R : Nat → Nat → Int32} {f : mo_F} {v n : Int32} (hM : MM b A R f) (hd : f.2.1 = false) : pev d 213 [some (.ref b), some (.int v), some (.int n)] [] A = some (some (.long 1099511627776), A) := by
  refine e_213 ?_; simp only [b_213, i_int, i_long, i_null, i_stat, i_iload, i_lload, i_aload, i_istore, i_astore, i_lstore, i_iinc, i_ii, i_idz, i_i, i_ll, i_lsh, i_i2l, i_l2i, i_lcmp, i_dup, i_pop, i_dup2, i_ifeq, i_ifne, i_iflt, i_ifge, i_ifgt, i_ifle, i_cmpeq, i_cmpne, i_cmplt, i_cmpge, i_cmpgt, i_cmple, i_ifnull, i_ifnonnull, i_getf, am_wr, i_putI, i_putZ, i_putR, i_iald, i_iast, i_aald, i_aast, i_alen, i_newi, i_newq, i_new, i_recv, i_iret, i_zret, i_lret, i_aret, i_vret, List.getElem?_cons_zero, List.getElem?_cons_succ, Option.bind_some, Option.toList_some, Option.toList_none, List.cons_append, List.nil_append, x_nI, am_put, am_put2, List.length_cons, List.length_nil, List.set_cons_zero, List.set_cons_succ, Nat.reduceAdd, Nat.reduceLT, Nat.reduceLeDiff, Nat.reduceEqDiff, Nat.add_left_cancel_iff, Nat.add_eq_left, Nat.left_eq_add, Nat.succ_ne_self, Nat.reduceSub, reduceIte, ite_self, eq_self, or_true, true_or, or_false, false_or, or_self, i10, not_true_eq_false, not_false_eq_true, x_call1, x_call2, x_call3, x_call4, x_call5, x_call6, x_sl0, x_sli, x_slr, x_sln, x_sll, am_ent, List.map_nil, List.map_cons, List.sum_nil, List.sum_cons, Value.category, and_true, true_and, and_self, Nat.zero_le, List.replicate_succ, List.replicate_zero, List.reduceReplicate, x_obj_set, x_row_set, x_len_set, x_obx, x_rox, x_rv, x_obj hM.1, mo_obj, hd, bz_false]
theorem n_gSN {d b : Nat} {A : am_H} {R : Nat → Nat → Int32} {f : mo_F} {s : sg_S} {v n : Int32} (hM : MM b A R f) (hS : MS R f.1 s) (hd : f.2.1 = true) (hv : isVb s v = false) : pev (d + 1) 213 [some (.ref b), some (.int v), some (.int n)] [] A = some (some (.long 1099511627776), A) := by
  have ev := n_isVariable (d := d) hM hS v
  rw [hv] at ev
  refine e_213 ?_; simp only [b_213, i_int, i_long, i_null, i_stat, i_iload, i_lload, i_aload, i_istore, i_astore, i_lstore, i_iinc, i_ii, i_idz, i_i, i_ll, i_lsh, i_i2l, i_l2i, i_lcmp, i_dup, i_pop, i_dup2, i_ifeq, i_ifne, i_iflt, i_ifge, i_ifgt, i_ifle, i_cmpeq, i_cmpne, i_cmplt, i_cmpge, i_cmpgt, i_cmple, i_ifnull, i_ifnonnull, i_getf, am_wr, i_putI, i_putZ, i_putR, i_iald, i_iast, i_aald, i_aast, i_alen, i_newi, i_newq, i_new, i_recv, i_iret, i_zret, i_lret, i_aret, i_vret, List.getElem?_cons_zero, List.getElem?_cons_succ, Option.bind_some, Option.toList_some, Option.toList_none, List.cons_append, List.nil_append, x_nI, am_put, am_put2, List.length_cons, List.length_nil, List.set_cons_zero, List.set_cons_succ, Nat.reduceAdd, Nat.reduceLT, Nat.reduceLeDiff, Nat.reduceEqDiff, Nat.add_left_cancel_iff, Nat.add_eq_left, Nat.left_eq_add, Nat.succ_ne_self, Nat.reduceSub, reduceIte, ite_self, eq_self, or_true, true_or, or_false, false_or, or_self, i10, not_true_eq_false, not_false_eq_true, x_call1, x_call2, x_call3, x_call4, x_call5, x_call6, x_sl0, x_sli, x_slr, x_sln, x_sll, am_ent, List.map_nil, List.map_cons, List.sum_nil, List.sum_cons, Value.category, and_true, true_and, and_self, Nat.zero_le, List.replicate_succ, List.replicate_zero, List.reduceReplicate, x_obj_set, x_row_set, x_len_set, x_obx, x_rox, x_rv, x_obj hM.1, mo_obj, hd, bz_true, ev, bz_false]
/-- what getSlab answers -/
def gS_c (s : sg_S) (q : Nat → Nat × Nat × Nat) (v : Nat) (n : Int32) : Int64 := if thb s q v false ((qs s q v 0).2.1 - 1) ((qs s q v 1).2.1 - 1) = false then 1099511627776 else if n < 0 then 1099511627776 else if nI ((qs s q v 0).2.1 * (qs s q v 1).2.1) ≤ n then 1099511627776 else ((s.2.2.2.1 v).2.2.2.2.2 (((qs s q v 0).1 + n.toNatClampNeg / (qs s q v 1).2.1 * (qs s q v 0).2.2) * sg_l1 s v + ((qs s q v 1).1 + n.toNatClampNeg % (qs s q v 1).2.1 * (qs s q v 1).2.2))).toInt64
theorem slab_pg {s : sg_S} {q : Nat → Nat × Nat × Nat} {v : Nat} (hs : STv s) (hv : v < s.2.2.1) (hq : Qok q) (ht : sg_tot s s.2.2.2.2 ≤ 800) (h1 : thb s q v false ((qs s q v 0).2.1 - 1) ((qs s q v 1).2.1 - 1) = true) : ∀ a b, a < (qs s q v 0).2.1 → b < (qs s q v 1).2.1 → ((qs s q v 0).1 + a * (qs s q v 0).2.2) * sg_l1 s v + ((qs s q v 1).1 + b * (qs s q v 1).2.2) < 800 := by
  intro a b ha hb
  obtain ⟨a1, a2, a3, a4, a5⟩ := qs_ok hq s v (k := 0) (by decide)
  obtain ⟨b1, b2, b3, b4, b5⟩ := qs_ok hq s v (k := 1) (by decide)
  have h2 := (thb_iff hs hv hq (by omega) (by omega)).mp (thb_mono hs hv hq (by omega) (by omega) (show a ≤ (qs s q v 0).2.1 - 1 by omega) (show b ≤ (qs s q v 1).2.1 - 1 by omega) h1)
  by_cases c : sg_l0 s v = 0
  · rcases h2.2.2 with h3 | h3 | h3
    · cases h3
    · exact absurd c h3
    · exact place_lt hs hv ht h2.2.1 (Or.inl ⟨c, h3⟩)
  · rcases h2.1 with h3 | h3
    · exact absurd h3 c
    · exact place_lt hs hv ht h2.2.1 (Or.inr ⟨c, h3⟩)
theorem n_getSlab {d b v : Nat} {A : am_H} {R : Nat → Nat → Int32} {f : mo_F} {s : sg_S} {q : Nat → Nat × Nat × Nat} {n : Int32} (hM : MM b A R f) (hS : MS R f.1 s) (hQ : MSel R q) (hd : f.2.1 = true) (hv : v < s.2.2.1) (ht : sg_tot s s.2.2.2.2 ≤ 800) : pev (d + 4) 213 [some (.ref b), some (.int (nI v)), some (.int n)] [] A = some (some (.long (gS_c s q v n)), A) := by
  have h5 := hS.1.2.2.1
  have hh := hS.2.1
  have hs := hS.1
  have hq := hQ.ok
  obtain ⟨a1, a2, a3, a4, a5⟩ := qs_ok hq s v (k := 0) (by decide)
  obtain ⟨b1, b2, b3, b4, b5⟩ := qs_ok hq s v (k := 1) (by decide)
  have hn64 : (qs s q v 0).2.1 * (qs s q v 1).2.1 ≤ 8 * 8 := Nat.mul_le_mul a3 b3
  have ev := n_isVariable (d := d + 3) hM hS (nI v)
  rw [isVb_of hv h5] at ev
  have et := n_slabThere (d := d) (g := false) hM hS hQ hv
  have em0 := n_many (d := d + 3) (k := 0) hM hS hQ hv (by decide)
  have em1 := n_many (d := d + 3) (k := 1) hM hS hQ hv (by decide)
  rw [nI_0] at em0
  rw [nI_one] at em1
  rw [bz_false] at et
  unfold gS_c
  cases c1 : thb s q v false ((qs s q v 0).2.1 - 1) ((qs s q v 1).2.1 - 1) with
  | false =>
    rw [c1, bz_false] at et
    refine e_213 ?_; simp only [b_213, i_int, i_long, i_null, i_stat, i_iload, i_lload, i_aload, i_istore, i_astore, i_lstore, i_iinc, i_ii, i_idz, i_i, i_ll, i_lsh, i_i2l, i_l2i, i_lcmp, i_dup, i_pop, i_dup2, i_ifeq, i_ifne, i_iflt, i_ifge, i_ifgt, i_ifle, i_cmpeq, i_cmpne, i_cmplt, i_cmpge, i_cmpgt, i_cmple, i_ifnull, i_ifnonnull, i_getf, am_wr, i_putI, i_putZ, i_putR, i_iald, i_iast, i_aald, i_aast, i_alen, i_newi, i_newq, i_new, i_recv, i_iret, i_zret, i_lret, i_aret, i_vret, List.getElem?_cons_zero, List.getElem?_cons_succ, Option.bind_some, Option.toList_some, Option.toList_none, List.cons_append, List.nil_append, x_nI, am_put, am_put2, List.length_cons, List.length_nil, List.set_cons_zero, List.set_cons_succ, Nat.reduceAdd, Nat.reduceLT, Nat.reduceLeDiff, Nat.reduceEqDiff, Nat.add_left_cancel_iff, Nat.add_eq_left, Nat.left_eq_add, Nat.succ_ne_self, Nat.reduceSub, reduceIte, ite_self, eq_self, or_true, true_or, or_false, false_or, or_self, i10, not_true_eq_false, not_false_eq_true, x_call1, x_call2, x_call3, x_call4, x_call5, x_call6, x_sl0, x_sli, x_slr, x_sln, x_sll, am_ent, List.map_nil, List.map_cons, List.sum_nil, List.sum_cons, Value.category, and_true, true_and, and_self, Nat.zero_le, List.replicate_succ, List.replicate_zero, List.reduceReplicate, x_obj_set, x_row_set, x_len_set, x_obx, x_rox, x_rv, x_obj hM.1, mo_obj, hd, bz_true, ev, et]
  | true =>
    rw [c1, bz_true] at et
    simp only [Bool.true_eq_false, if_false]
    by_cases c2 : n < 0
    · refine e_213 ?_; simp only [b_213, i_int, i_long, i_null, i_stat, i_iload, i_lload, i_aload, i_istore, i_astore, i_lstore, i_iinc, i_ii, i_idz, i_i, i_ll, i_lsh, i_i2l, i_l2i, i_lcmp, i_dup, i_pop, i_dup2, i_ifeq, i_ifne, i_iflt, i_ifge, i_ifgt, i_ifle, i_cmpeq, i_cmpne, i_cmplt, i_cmpge, i_cmpgt, i_cmple, i_ifnull, i_ifnonnull, i_getf, am_wr, i_putI, i_putZ, i_putR, i_iald, i_iast, i_aald, i_aast, i_alen, i_newi, i_newq, i_new, i_recv, i_iret, i_zret, i_lret, i_aret, i_vret, List.getElem?_cons_zero, List.getElem?_cons_succ, Option.bind_some, Option.toList_some, Option.toList_none, List.cons_append, List.nil_append, x_nI, am_put, am_put2, List.length_cons, List.length_nil, List.set_cons_zero, List.set_cons_succ, Nat.reduceAdd, Nat.reduceLT, Nat.reduceLeDiff, Nat.reduceEqDiff, Nat.add_left_cancel_iff, Nat.add_eq_left, Nat.left_eq_add, Nat.succ_ne_self, Nat.reduceSub, reduceIte, ite_self, eq_self, or_true, true_or, or_false, false_or, or_self, i10, not_true_eq_false, not_false_eq_true, x_call1, x_call2, x_call3, x_call4, x_call5, x_call6, x_sl0, x_sli, x_slr, x_sln, x_sll, am_ent, List.map_nil, List.map_cons, List.sum_nil, List.sum_cons, Value.category, and_true, true_and, and_self, Nat.zero_le, List.replicate_succ, List.replicate_zero, List.reduceReplicate, x_obj_set, x_row_set, x_len_set, x_obx, x_rox, x_rv, x_obj hM.1, mo_obj, hd, bz_true, ev, et, c2]
    · rw [if_neg c2]
      by_cases c3 : nI ((qs s q v 0).2.1 * (qs s q v 1).2.1) ≤ n
      · have c4 : ¬ n < nI ((qs s q v 0).2.1 * (qs s q v 1).2.1) := Int32.not_lt.mpr c3
        refine e_213 ?_; simp only [b_213, i_int, i_long, i_null, i_stat, i_iload, i_lload, i_aload, i_istore, i_astore, i_lstore, i_iinc, i_ii, i_idz, i_i, i_ll, i_lsh, i_i2l, i_l2i, i_lcmp, i_dup, i_pop, i_dup2, i_ifeq, i_ifne, i_iflt, i_ifge, i_ifgt, i_ifle, i_cmpeq, i_cmpne, i_cmplt, i_cmpge, i_cmpgt, i_cmple, i_ifnull, i_ifnonnull, i_getf, am_wr, i_putI, i_putZ, i_putR, i_iald, i_iast, i_aald, i_aast, i_alen, i_newi, i_newq, i_new, i_recv, i_iret, i_zret, i_lret, i_aret, i_vret, List.getElem?_cons_zero, List.getElem?_cons_succ, Option.bind_some, Option.toList_some, Option.toList_none, List.cons_append, List.nil_append, x_nI, am_put, am_put2, List.length_cons, List.length_nil, List.set_cons_zero, List.set_cons_succ, Nat.reduceAdd, Nat.reduceLT, Nat.reduceLeDiff, Nat.reduceEqDiff, Nat.add_left_cancel_iff, Nat.add_eq_left, Nat.left_eq_add, Nat.succ_ne_self, Nat.reduceSub, reduceIte, ite_self, eq_self, or_true, true_or, or_false, false_or, or_self, i10, not_true_eq_false, not_false_eq_true, x_call1, x_call2, x_call3, x_call4, x_call5, x_call6, x_sl0, x_sli, x_slr, x_sln, x_sll, am_ent, List.map_nil, List.map_cons, List.sum_nil, List.sum_cons, Value.category, and_true, true_and, and_self, Nat.zero_le, List.replicate_succ, List.replicate_zero, List.reduceReplicate, x_obj_set, x_row_set, x_len_set, x_obx, x_rox, x_rv, x_obj hM.1, mo_obj, hd, bz_true, ev, et, c2, em0, em1, pk_mul, c4]
        rw [if_pos c3]
      · have c4 : n < nI ((qs s q v 0).2.1 * (qs s q v 1).2.1) := Int32.not_le.mp c3
        rw [if_neg c3]
        obtain ⟨k, hk, rfl⟩ := nI_of c2
        have hkn : k < (qs s q v 0).2.1 * (qs s q v 1).2.1 := (nI_ltI hk (by omega)).mp c4
        rw [nI_clamp hk]
        have kd : k / (qs s q v 1).2.1 < (qs s q v 0).2.1 := Nat.div_lt_of_lt_mul (by rw [Nat.mul_comm]; exact hkn)
        have km : k % (qs s q v 1).2.1 < (qs s q v 1).2.1 := Nat.mod_lt _ (by omega)
        have hp := slab_pg hs hv hq ht c1 _ _ kd km
        have hz : ¬ nI (qs s q v 1).2.1 = 0 := nI_ne0 (by omega) (by omega)
        have ed : nI k / nI (qs s q v 1).2.1 = nI (k / (qs s q v 1).2.1) := pk_div (by omega) (by omega) (by omega)
        have er : nI k - nI (k / (qs s q v 1).2.1) * nI (qs s q v 1).2.1 = nI (k % (qs s q v 1).2.1) := by
          rw [← ed]
          exact pk_rem (by omega) (by omega) (by omega)
        have e0 := n_chosen (d := d + 3) (k := 0) (n := k / (qs s q v 1).2.1) hM hS hQ hv (by decide) (by omega) (fun h => qs_0 h kd)
        have e1 := n_chosen (d := d + 3) (k := 1) (n := k % (qs s q v 1).2.1) hM hS hQ hv (by decide) (by omega) (fun h => qs_0 h km)
        rw [nI_0] at e0
        rw [nI_one] at e1
        have ec := n_cellAt (d := d + 2) (i := (qs s q v 0).1 + k / (qs s q v 1).2.1 * (qs s q v 0).2.2) (j := (qs s q v 1).1 + k % (qs s q v 1).2.1 * (qs s q v 1).2.2) hM hS hv
        have w6 := (hS.2.2.2.2.2 v hv).2.2.2.2.2 _ hp
        rw [← Nat.add_assoc] at w6
        have em01 : nI (qs s q v 0).2.1 * nI (qs s q v 1).2.1 = nI ((qs s q v 0).2.1 * (qs s q v 1).2.1) := pk_mul _ _
        refine e_213 ?_; simp only [b_213, i_int, i_long, i_null, i_stat, i_iload, i_lload, i_aload, i_istore, i_astore, i_lstore, i_iinc, i_ii, i_idz, i_i, i_ll, i_lsh, i_i2l, i_l2i, i_lcmp, i_dup, i_pop, i_dup2, i_ifeq, i_ifne, i_iflt, i_ifge, i_ifgt, i_ifle, i_cmpeq, i_cmpne, i_cmplt, i_cmpge, i_cmpgt, i_cmple, i_ifnull, i_ifnonnull, i_getf, am_wr, i_putI, i_putZ, i_putR, i_iald, i_iast, i_aald, i_aast, i_alen, i_newi, i_newq, i_new, i_recv, i_iret, i_zret, i_lret, i_aret, i_vret, List.getElem?_cons_zero, List.getElem?_cons_succ, Option.bind_some, Option.toList_some, Option.toList_none, List.cons_append, List.nil_append, x_nI, am_put, am_put2, List.length_cons, List.length_nil, List.set_cons_zero, List.set_cons_succ, Nat.reduceAdd, Nat.reduceLT, Nat.reduceLeDiff, Nat.reduceEqDiff, Nat.add_left_cancel_iff, Nat.add_eq_left, Nat.left_eq_add, Nat.succ_ne_self, Nat.reduceSub, reduceIte, ite_self, eq_self, or_true, true_or, or_false, false_or, or_self, i10, not_true_eq_false, not_false_eq_true, x_call1, x_call2, x_call3, x_call4, x_call5, x_call6, x_sl0, x_sli, x_slr, x_sln, x_sll, am_ent, List.map_nil, List.map_cons, List.sum_nil, List.sum_cons, Value.category, and_true, true_and, and_self, Nat.zero_le, List.replicate_succ, List.replicate_zero, List.reduceReplicate, x_obj_set, x_row_set, x_len_set, x_obx, x_rox, x_rv, x_obj hM.1, mo_obj, hd, bz_true, ev, et, c2, em0, em1, em01, c4, hz, ed, er, e0, e1, ec, x_row (show A.2.2 (b + 15) = some (.inl (0, 8000, R 15)) from hM.2.2 15 (by decide) (by decide)), x_ix (show 800 * (5 * f.1 + v) + ((qs s q v 0).1 + k / (qs s q v 1).2.1 * (qs s q v 0).2.2) * sg_l1 s v + ((qs s q v 1).1 + k % (qs s q v 1).2.1 * (qs s q v 1).2.2) < 8000 by omega) (show 800 * (5 * f.1 + v) + ((qs s q v 0).1 + k / (qs s q v 1).2.1 * (qs s q v 0).2.2) * sg_l1 s v + ((qs s q v 1).1 + k % (qs s q v 1).2.1 * (qs s q v 1).2.2) < 2147483648 by omega), w6]
