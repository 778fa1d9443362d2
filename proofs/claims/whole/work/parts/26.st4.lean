/-! new variables, new names, an empty store -/
def axn (a b : Int32) : Nat := if a = -1 then 0 else if b = -1 then 1 else 2
def newV (nm : Int32) (t : Nat) (a b : Int32) (at0 : sg_A) : sg_V := (nm, t, axn a b, (fun k => if k = 0 then a.toNatClampNeg else b.toNatClampNeg), at0, fun _ => am_s1 t)
def addV (s : sg_S) (nm : Int32) (t : Nat) (a b : Int32) (at0 : sg_A) : sg_S := (s.1, s.2.1, s.2.2.1 + 1, (fun v => if v = s.2.2.1 then newV nm t a b at0 else s.2.2.2.1 v), s.2.2.2.2)
theorem addV_old {s : sg_S} {nm : Int32} {t : Nat} {a b : Int32} {at0 : sg_A} {v : Nat} (hv : v < s.2.2.1) : (addV s nm t a b at0).2.2.2.1 v = s.2.2.2.1 v := by
  show (if v = s.2.2.1 then _ else s.2.2.2.1 v) = _
  rw [if_neg (by omega)]
theorem addV_new (s : sg_S) (nm : Int32) (t : Nat) (a b : Int32) (at0 : sg_A) : (addV s nm t a b at0).2.2.2.1 s.2.2.1 = newV nm t a b at0 := if_pos rfl
theorem addV_l0 {s : sg_S} {nm : Int32} {t : Nat} {a b : Int32} {at0 : sg_A} {v : Nat} (hv : v < s.2.2.1) : sg_l0 (addV s nm t a b at0) v = sg_l0 s v := by
  unfold sg_l0
  rw [addV_old hv]
  rfl
theorem addV_l1 {s : sg_S} {nm : Int32} {t : Nat} {a b : Int32} {at0 : sg_A} {v : Nat} (hv : v < s.2.2.1) : sg_l1 (addV s nm t a b at0) v = sg_l1 s v := by
  unfold sg_l1
  rw [addV_old hv]
  rfl
theorem addV_raw {s : sg_S} {nm : Int32} {t : Nat} {a b : Int32} {at0 : sg_A} {v : Nat} (hv : v < s.2.2.1) : sg_raw (addV s nm t a b at0) v = sg_raw s v := by
  unfold sg_raw
  rw [addV_l0 hv, addV_l1 hv, addV_old hv]
/-- axes that may be: -1, or a dimension; no second one without a first one; the second one does not grow -/
def axok (s : sg_S) (a b : Int32) : Prop := (a = -1 ∨ isDb s a = true) ∧ (b = -1 ∨ isDb s b = true) ∧ (a = -1 → b = -1) ∧ lenO s b ≠ 0
theorem isDb_m1 (s : sg_S) : isDb s (-1) = false := by
  simp only [isDb, show ((-1 : Int32) < 0) = True by decide, decide_true, Bool.not_true, Bool.false_and]
theorem isDb_ne {s : sg_S} {a : Int32} (h : isDb s a = true) : a ≠ -1 := fun e => by
  rw [e, isDb_m1] at h
  cases h
theorem lenO_m1 (s : sg_S) : lenO s (-1) = 1 := by
  unfold lenO
  rw [isDb_m1]
  rfl
theorem addV_n0 {s : sg_S} {nm : Int32} {t : Nat} {a b : Int32} {at0 : sg_A} (h : axok s a b) : sg_l0 (addV s nm t a b at0) s.2.2.1 = lenO s a := by
  unfold sg_l0
  rw [addV_new]
  rcases h.1 with h1 | h1
  · subst h1
    rw [lenO_m1]
    rfl
  · have hne := isDb_ne h1
    have : 0 < axn a b := by unfold axn; rw [if_neg hne]; split <;> omega
    simp only [newV, this, if_true, addV]
    unfold lenO
    rw [h1]
    rfl
theorem addV_n1 {s : sg_S} {nm : Int32} {t : Nat} {a b : Int32} {at0 : sg_A} (h : axok s a b) : sg_l1 (addV s nm t a b at0) s.2.2.1 = lenO s b := by
  unfold sg_l1
  rw [addV_new]
  rcases h.2.1 with h1 | h1
  · subst h1
    rw [lenO_m1]
    have : ¬ 1 < axn a (-1) := by unfold axn; split <;> simp
    simp only [newV, this, if_false]
  · have hne := isDb_ne h1
    have hna : a ≠ -1 := fun e => hne (h.2.2.1 e)
    have : 1 < axn a b := by unfold axn; rw [if_neg hna, if_neg hne]; decide
    simp only [newV, this, if_true, addV]
    unfold lenO
    rw [h1]
    rfl
theorem lenO_le {s : sg_S} (h : STv s) (a : Int32) : lenO s a ≤ 8 := by
  unfold lenO
  split
  · rename_i c
    obtain ⟨k, hk, rfl⟩ := isDb_nI c (by have := h.1; omega)
    rw [nI_clamp (by have := h.1; omega)]
    exact h.2.1 k hk
  · decide
theorem isDb_back {s : sg_S} (h : STv s) {a : Int32} (ha : isDb s a = true) : nI a.toNatClampNeg = a ∧ a.toNatClampNeg < s.1.1 := by
  obtain ⟨k, hk, rfl⟩ := isDb_nI ha (by have := h.1; omega)
  rw [nI_clamp (by have := h.1; omega)]
  exact ⟨rfl, hk⟩
theorem addV_nraw {s : sg_S} {nm : Int32} {t : Nat} {a b : Int32} {at0 : sg_A} (hs : STv s) (h : axok s a b) : sg_raw (addV s nm t a b at0) s.2.2.1 = (t, a, b, decide (lenO s a = 0), lenO s a, lenO s b, at0, fun _ => am_s1 t) := by
  unfold sg_raw
  rw [addV_n0 h, addV_n1 h, addV_new]
  have e1 : (if axn a b = 0 then -1 else nI a.toNatClampNeg) = a := by
    rcases h.1 with h1 | h1
    · subst h1
      rfl
    · have hne := isDb_ne h1
      have : ¬ axn a b = 0 := by unfold axn; rw [if_neg hne]; split <;> simp
      rw [if_neg this]
      exact (isDb_back hs h1).1
  have e2 : (if axn a b ≤ 1 then -1 else nI b.toNatClampNeg) = b := by
    rcases h.2.1 with h1 | h1
    · subst h1
      rw [if_pos (by unfold axn; split <;> simp)]
    · have hne := isDb_ne h1
      have hna : a ≠ -1 := fun e => hne (h.2.2.1 e)
      rw [if_neg (by unfold axn; rw [if_neg hna, if_neg hne]; decide)]
      exact (isDb_back hs h1).1
  show ((t, (if axn a b = 0 then (-1 : Int32) else nI a.toNatClampNeg), (if axn a b ≤ 1 then (-1 : Int32) else nI b.toNatClampNeg), decide (lenO s a = 0), lenO s a, lenO s b, at0, fun _ => am_s1 t) : sg_R) = _
  rw [e1, e2]
theorem addV_v {s : sg_S} {nm : Int32} {t : Nat} {a b : Int32} {at0 : sg_A} (hs : STv s) (h : axok s a b) (h5 : s.2.2.1 < 5) (h1 : 1 ≤ t) (h4 : t ≤ 4) : STv (addV s nm t a b at0) := by
  refine ⟨hs.1, hs.2.1, by show s.2.2.1 + 1 ≤ 5; omega, fun v hv => ?_, hs.2.2.2.2⟩
  have hv2 : v < s.2.2.1 + 1 := hv
  by_cases he : v = s.2.2.1
  · subst he
    rw [addV_n1 h, addV_new]
    refine ⟨⟨h1, h4⟩, by show axn a b ≤ 2; unfold axn; split <;> (try split) <;> omega, fun k hk => ?_, Nat.pos_of_ne_zero h.2.2.2⟩
    have hk2 : k < axn a b := hk
    show (if k = 0 then a.toNatClampNeg else b.toNatClampNeg) < s.1.1
    by_cases c1 : a = -1
    · rw [c1] at hk2
      exact absurd hk2 (by unfold axn; simp)
    · have ha : isDb s a = true := h.1.resolve_left c1
      split
      · exact (isDb_back hs ha).2
      · by_cases c2 : b = -1
        · rw [c2] at hk2
          unfold axn at hk2
          rw [if_neg c1] at hk2
          simp at hk2
          omega
        · exact (isDb_back hs (h.2.1.resolve_left c2)).2
  · rw [addV_l1 (by omega), addV_old (by omega)]
    exact hs.2.2.2.1 v (by omega)
def addR (s : sg_S) (ρ : Nat → sg_R) (t : Nat) (a b : Int32) : Nat → sg_R := fun v => if v = s.2.2.1 then (t, a, b, decide (lenO s a = 0), lenO s a, lenO s b, (ρ s.2.2.1).2.2.2.2.2.2.1, fun _ => am_s1 t) else ρ v
def dv_c (s : sg_S) (nm ty a b : Int32) : Int32 := if !isNb nm || !isTb ty then -2 else if !(decide (a = -1) || isDb s a) || !(decide (b = -1) || isDb s b) || (decide (a = -1) && !decide (b = -1)) then -3 else if lenO s b = 0 then -2 else if (fnd (fun v => (s.2.2.2.1 v).1) nm s.2.2.1).isSome then -4 else if 5 ≤ s.2.2.1 then -5 else nI s.2.2.1
def dv_ok (s : sg_S) (nm ty a b : Int32) : Prop := isNb nm = true ∧ isTb ty = true ∧ axok s a b ∧ fnd (fun v => (s.2.2.2.1 v).1) nm s.2.2.1 = none ∧ s.2.2.1 < 5
theorem k_defVar48 {d b0 : Nat} {A : am_H} {s : sg_S} {ρ : Nat → sg_R} {nm a b : Int32} {t : Nat} (hst : am_St A) (h : ST b0 A s ρ) (ht1 : 1 ≤ t) (ht4 : t ≤ 4) (hax : (a = -1 ∨ isDb s a = true) ∧ (b = -1 ∨ isDb s b = true) ∧ (a = -1 → b = -1)) : ∃ B, pev (d + 2) 17 [some (.ref b0), some (.int nm), some (.int (nI t)), some (.int a), some (.int b)] [] A = some (some (.int (if lenO s b = 0 then -2 else if (fnd (fun v => (s.2.2.2.1 v).1) nm s.2.2.1).isSome then -4 else if 5 ≤ s.2.2.1 then -5 else nI s.2.2.1)), B) ∧ am_fr (at45 b0) A B ∧ (lenO s b ≠ 0 ∧ fnd (fun v => (s.2.2.2.1 v).1) nm s.2.2.1 = none ∧ s.2.2.1 < 5 → ST b0 B (addV s nm t a b (ρ s.2.2.1).2.2.2.2.2.2.1) (addR s ρ t a b)) ∧ (¬ (lenO s b ≠ 0 ∧ fnd (fun v => (s.2.2.2.1 v).1) nm s.2.2.1 = none ∧ s.2.2.1 < 5) → ST b0 B s ρ) := by
  obtain ⟨hs, hb, ⟨g1, g2, g3, q, a0, a1, a2, a3, a4, a5, a6, a7⟩, hA, hV, hR⟩ := id h
  have h5 := hs.2.2.1
  have el := k_lengthOf (d := d) h b
  have ez : (nI (lenO s b) = (0 : Int32)) = (lenO s b = 0) := o_eq (b := 0) (by have := lenO_le hs b; omega) (by decide)
  by_cases c1 : lenO s b = 0
  · refine ⟨A, ?_, am_fr.refl A, fun hh => absurd c1 hh.1, fun _ => h⟩
    refine e_17 ?_; simp only [b_17, i_int, i_long, i_null, i_stat, i_iload, i_lload, i_aload, i_istore, i_astore, i_lstore, i_iinc, i_ii, i_idz, i_i, i_ll, i_lsh, i_i2l, i_l2i, i_lcmp, i_dup, i_pop, i_dup2, i_ifeq, i_ifne, i_iflt, i_ifge, i_ifgt, i_ifle, i_cmpeq, i_cmpne, i_cmplt, i_cmpge, i_cmpgt, i_cmple, i_ifnull, i_ifnonnull, i_getf, am_wr, i_putI, i_putZ, i_putR, i_iald, i_iast, i_aald, i_aast, i_alen, i_newi, i_newq, i_new, i_recv, i_iret, i_zret, i_lret, i_aret, i_vret, List.getElem?_cons_zero, List.getElem?_cons_succ, Option.bind_some, Option.toList_some, Option.toList_none, List.cons_append, List.nil_append, x_nI, am_put, List.length_cons, List.length_nil, List.set_cons_zero, List.set_cons_succ, Nat.reduceAdd, Nat.reduceLT, Nat.reduceLeDiff, Nat.reduceEqDiff, Nat.add_left_cancel_iff, Nat.add_eq_left, Nat.left_eq_add, Nat.succ_ne_self, Nat.reduceSub, reduceIte, ite_self, eq_self, or_true, true_or, or_false, false_or, or_self, i10, not_true_eq_false, not_false_eq_true, x_call1, x_call2, x_call3, x_call4, x_call5, x_call6, x_sl0, x_sli, x_slr, x_sln, x_sll, am_ent, List.map_nil, List.map_cons, List.sum_nil, List.sum_cons, Value.category, and_true, true_and, and_self, Nat.zero_le, List.replicate_succ, List.replicate_zero, List.reduceReplicate, x_obj_set, x_row_set, x_len_set, x_obx, x_rox, x_rv, x_obj a0, el, c1, nI_0]
  · have hpl : pev (d + 1) 11 [some (.int nm), some (.ref (b0 + 3)), some (.int (nI s.2.2.1)), none] [] A = some (some (.int (pI (fnd (fun v => (s.2.2.2.1 v).1) nm s.2.2.1))), A) := by
      rw [k_placeOf a3 (by omega) (by decide), fnd_congr (fun j hj => a7 j hj)]
    cases hf : fnd (fun v => (s.2.2.2.1 v).1) nm s.2.2.1 with
    | some k =>
      rw [hf] at hpl
      obtain ⟨hk, -⟩ := fnd_some hf
      refine ⟨A, ?_, am_fr.refl A, fun hh => (by cases hh.2.1), fun _ => h⟩
      have hc : ¬ nI k < 0 := nI_pos (by omega)
      refine e_17 ?_; simp only [b_17, i_int, i_long, i_null, i_stat, i_iload, i_lload, i_aload, i_istore, i_astore, i_lstore, i_iinc, i_ii, i_idz, i_i, i_ll, i_lsh, i_i2l, i_l2i, i_lcmp, i_dup, i_pop, i_dup2, i_ifeq, i_ifne, i_iflt, i_ifge, i_ifgt, i_ifle, i_cmpeq, i_cmpne, i_cmplt, i_cmpge, i_cmpgt, i_cmple, i_ifnull, i_ifnonnull, i_getf, am_wr, i_putI, i_putZ, i_putR, i_iald, i_iast, i_aald, i_aast, i_alen, i_newi, i_newq, i_new, i_recv, i_iret, i_zret, i_lret, i_aret, i_vret, List.getElem?_cons_zero, List.getElem?_cons_succ, Option.bind_some, Option.toList_some, Option.toList_none, List.cons_append, List.nil_append, x_nI, am_put, List.length_cons, List.length_nil, List.set_cons_zero, List.set_cons_succ, Nat.reduceAdd, Nat.reduceLT, Nat.reduceLeDiff, Nat.reduceEqDiff, Nat.add_left_cancel_iff, Nat.add_eq_left, Nat.left_eq_add, Nat.succ_ne_self, Nat.reduceSub, reduceIte, ite_self, eq_self, or_true, true_or, or_false, false_or, or_self, i10, not_true_eq_false, not_false_eq_true, x_call1, x_call2, x_call3, x_call4, x_call5, x_call6, x_sl0, x_sli, x_slr, x_sln, x_sll, am_ent, List.map_nil, List.map_cons, List.sum_nil, List.sum_cons, Value.category, and_true, true_and, and_self, Nat.zero_le, List.replicate_succ, List.replicate_zero, List.reduceReplicate, x_obj_set, x_row_set, x_len_set, x_obx, x_rox, x_rv, x_obj a0, el, ez, c1, hpl, pI, hc]
      simp
    | none =>
      rw [hf] at hpl
      have hc : (-1 : Int32) < 0 := by decide
      by_cases c2 : 5 ≤ s.2.2.1
      · refine ⟨A, ?_, am_fr.refl A, fun hh => absurd hh.2.2 (by omega), fun _ => h⟩
        have hc2 : ¬ nI s.2.2.1 < (5 : Int32) := nI_nlt (b := 5) c2 (by omega)
        refine e_17 ?_; simp only [b_17, i_int, i_long, i_null, i_stat, i_iload, i_lload, i_aload, i_istore, i_astore, i_lstore, i_iinc, i_ii, i_idz, i_i, i_ll, i_lsh, i_i2l, i_l2i, i_lcmp, i_dup, i_pop, i_dup2, i_ifeq, i_ifne, i_iflt, i_ifge, i_ifgt, i_ifle, i_cmpeq, i_cmpne, i_cmplt, i_cmpge, i_cmpgt, i_cmple, i_ifnull, i_ifnonnull, i_getf, am_wr, i_putI, i_putZ, i_putR, i_iald, i_iast, i_aald, i_aast, i_alen, i_newi, i_newq, i_new, i_recv, i_iret, i_zret, i_lret, i_aret, i_vret, List.getElem?_cons_zero, List.getElem?_cons_succ, Option.bind_some, Option.toList_some, Option.toList_none, List.cons_append, List.nil_append, x_nI, am_put, List.length_cons, List.length_nil, List.set_cons_zero, List.set_cons_succ, Nat.reduceAdd, Nat.reduceLT, Nat.reduceLeDiff, Nat.reduceEqDiff, Nat.add_left_cancel_iff, Nat.add_eq_left, Nat.left_eq_add, Nat.succ_ne_self, Nat.reduceSub, reduceIte, ite_self, eq_self, or_true, true_or, or_false, false_or, or_self, i10, not_true_eq_false, not_false_eq_true, x_call1, x_call2, x_call3, x_call4, x_call5, x_call6, x_sl0, x_sli, x_slr, x_sln, x_sll, am_ent, List.map_nil, List.map_cons, List.sum_nil, List.sum_cons, Value.category, and_true, true_and, and_self, Nat.zero_le, List.replicate_succ, List.replicate_zero, List.reduceReplicate, x_obj_set, x_row_set, x_len_set, x_obx, x_rox, x_rv, x_obj a0, el, ez, c1, hpl, pI, hc, hc2]
        simp [c2]
      · have hc2 : nI s.2.2.1 < (5 : Int32) := nI_lt (b := 5) (by omega) (by decide)
        have hn5 : s.2.2.1 < 5 := by omega
        have F1 : am_fr (fun q => q = b0 + 3) A (am_set A (b0 + 3) (.inl (0, 5, upd g3 s.2.2.1 nm))) := (am_fr.refl A).set rfl
        have hlb := lenO_le hs b
        have hla := lenO_le hs a
        have S1 : ∀ (x : Int32), pev (d + 1) 21 [some (.ref b0), some (.int x)] [] (am_set A (b0 + 3) (.inl (0, 5, upd g3 s.2.2.1 nm))) = some (some (.int (nI (lenO s x))), am_set A (b0 + 3) (.inl (0, 5, upd g3 s.2.2.1 nm))) := by
          intro x
          have e1 : pev d 20 [some (.ref b0), some (.int x)] [] (am_set A (b0 + 3) (.inl (0, 5, upd g3 s.2.2.1 nm))) = some (some (.int (bz (isDb s x))), am_set A (b0 + 3) (.inl (0, 5, upd g3 s.2.2.1 nm))) := by
            refine e_20 ?_; simp only [b_20, i_int, i_long, i_null, i_stat, i_iload, i_lload, i_aload, i_istore, i_astore, i_lstore, i_iinc, i_ii, i_idz, i_i, i_ll, i_lsh, i_i2l, i_l2i, i_lcmp, i_dup, i_pop, i_dup2, i_ifeq, i_ifne, i_iflt, i_ifge, i_ifgt, i_ifle, i_cmpeq, i_cmpne, i_cmplt, i_cmpge, i_cmpgt, i_cmple, i_ifnull, i_ifnonnull, i_getf, am_wr, i_putI, i_putZ, i_putR, i_iald, i_iast, i_aald, i_aast, i_alen, i_newi, i_newq, i_new, i_recv, i_iret, i_zret, i_lret, i_aret, i_vret, List.getElem?_cons_zero, List.getElem?_cons_succ, Option.bind_some, Option.toList_some, Option.toList_none, List.cons_append, List.nil_append, x_nI, am_put, List.length_cons, List.length_nil, List.set_cons_zero, List.set_cons_succ, Nat.reduceAdd, Nat.reduceLT, Nat.reduceLeDiff, Nat.reduceEqDiff, Nat.add_left_cancel_iff, Nat.add_eq_left, Nat.left_eq_add, Nat.succ_ne_self, Nat.reduceSub, reduceIte, ite_self, eq_self, or_true, true_or, or_false, false_or, or_self, i10, not_true_eq_false, not_false_eq_true, x_call1, x_call2, x_call3, x_call4, x_call5, x_call6, x_sl0, x_sli, x_slr, x_sln, x_sll, am_ent, List.map_nil, List.map_cons, List.sum_nil, List.sum_cons, Value.category, and_true, true_and, and_self, Nat.zero_le, List.replicate_succ, List.replicate_zero, List.reduceReplicate, x_obj_set, x_row_set, x_len_set, x_obx, x_rox, x_rv, x_obj ((F1.2.2 b0 (show ¬ b0 = b0 + 3 by omega)).trans a0)]
            unfold isDb
            by_cases c1 : x < 0
            · simp [c1, bz]
            · by_cases c2 : nI s.1.1 ≤ x
              · have c3 : ¬ x < nI s.1.1 := Int32.not_lt.mpr c2
                simp [c1, c2, c3, bz]
              · have c3 : x < nI s.1.1 := Int32.not_le.mp c2
                simp [c1, c2, c3, bz]
          have hn := hs.1
          unfold lenO
          by_cases c : isDb s x = true
          · obtain ⟨k, hk, rfl⟩ := isDb_nI c (by omega)
            refine e_21 ?_; simp only [b_21, i_int, i_long, i_null, i_stat, i_iload, i_lload, i_aload, i_istore, i_astore, i_lstore, i_iinc, i_ii, i_idz, i_i, i_ll, i_lsh, i_i2l, i_l2i, i_lcmp, i_dup, i_pop, i_dup2, i_ifeq, i_ifne, i_iflt, i_ifge, i_ifgt, i_ifle, i_cmpeq, i_cmpne, i_cmplt, i_cmpge, i_cmpgt, i_cmple, i_ifnull, i_ifnonnull, i_getf, am_wr, i_putI, i_putZ, i_putR, i_iald, i_iast, i_aald, i_aast, i_alen, i_newi, i_newq, i_new, i_recv, i_iret, i_zret, i_lret, i_aret, i_vret, List.getElem?_cons_zero, List.getElem?_cons_succ, Option.bind_some, Option.toList_some, Option.toList_none, List.cons_append, List.nil_append, x_nI, am_put, List.length_cons, List.length_nil, List.set_cons_zero, List.set_cons_succ, Nat.reduceAdd, Nat.reduceLT, Nat.reduceLeDiff, Nat.reduceEqDiff, Nat.add_left_cancel_iff, Nat.add_eq_left, Nat.left_eq_add, Nat.succ_ne_self, Nat.reduceSub, reduceIte, ite_self, eq_self, or_true, true_or, or_false, false_or, or_self, i10, not_true_eq_false, not_false_eq_true, x_call1, x_call2, x_call3, x_call4, x_call5, x_call6, x_sl0, x_sli, x_slr, x_sln, x_sll, am_ent, List.map_nil, List.map_cons, List.sum_nil, List.sum_cons, Value.category, and_true, true_and, and_self, Nat.zero_le, List.replicate_succ, List.replicate_zero, List.reduceReplicate, x_obj_set, x_row_set, x_len_set, x_obx, x_rox, x_rv, x_obj ((F1.2.2 b0 (show ¬ b0 = b0 + 3 by omega)).trans a0), e1, c, bz_true, x_row a2, x_ix (show k < 4 by omega) (show k < 2147483648 by omega), nI_clamp (show k < 2 ^ 31 by omega), (a6 k hk).2]
          · simp only [Bool.not_eq_true] at c
            refine e_21 ?_; simp only [b_21, i_int, i_long, i_null, i_stat, i_iload, i_lload, i_aload, i_istore, i_astore, i_lstore, i_iinc, i_ii, i_idz, i_i, i_ll, i_lsh, i_i2l, i_l2i, i_lcmp, i_dup, i_pop, i_dup2, i_ifeq, i_ifne, i_iflt, i_ifge, i_ifgt, i_ifle, i_cmpeq, i_cmpne, i_cmplt, i_cmpge, i_cmpgt, i_cmple, i_ifnull, i_ifnonnull, i_getf, am_wr, i_putI, i_putZ, i_putR, i_iald, i_iast, i_aald, i_aast, i_alen, i_newi, i_newq, i_new, i_recv, i_iret, i_zret, i_lret, i_aret, i_vret, List.getElem?_cons_zero, List.getElem?_cons_succ, Option.bind_some, Option.toList_some, Option.toList_none, List.cons_append, List.nil_append, x_nI, am_put, List.length_cons, List.length_nil, List.set_cons_zero, List.set_cons_succ, Nat.reduceAdd, Nat.reduceLT, Nat.reduceLeDiff, Nat.reduceEqDiff, Nat.add_left_cancel_iff, Nat.add_eq_left, Nat.left_eq_add, Nat.succ_ne_self, Nat.reduceSub, reduceIte, ite_self, eq_self, or_true, true_or, or_false, false_or, or_self, i10, not_true_eq_false, not_false_eq_true, x_call1, x_call2, x_call3, x_call4, x_call5, x_call6, x_sl0, x_sli, x_slr, x_sln, x_sll, am_ent, List.map_nil, List.map_cons, List.sum_nil, List.sum_cons, Value.category, and_true, true_and, and_self, Nat.zero_le, List.replicate_succ, List.replicate_zero, List.reduceReplicate, x_obj_set, x_row_set, x_len_set, x_obx, x_rox, x_rv, x_obj ((F1.2.2 b0 (show ¬ b0 = b0 + 3 by omega)).trans a0), e1, c, bz_false]
            rfl
        have V1 := (hV s.2.2.1 hn5).kept F1 (fun q q1 q2 q3 => by omega)
        obtain ⟨B2, e2, v2, f2⟩ := k_shape (d := d + 1) (fa := a) (sa := b) (rw := lenO s a) (cl := lenO s b) (by omega) V1
        have F2 := (F1.mono (Q := at45 b0) (fun q hq => by rw [hq]; exact ⟨by omega, by omega⟩)).trans (f2.mono (Q := at45 b0) (fun q hq => by rw [hq]; exact ⟨by omega, by omega⟩))
        have hst2 := hst.kept F2 (fun q q1 q2 => by have := q2.1; omega)
        obtain ⟨B3, e3, v3, f3⟩ := k_vfill (d := d) (t := t) hst2 (by omega) v2
        have G3 : ∀ q, q ≠ b0 + 3 → ¬ at7 (b0 + 5 + 7 * s.2.2.1) q → B3.2.2 q = A.2.2 q := fun q q1 q2 => (f3.2.2 q q2).trans ((f2.2.2 q (fun e => q2 (by rw [e]; exact ⟨by omega, by omega⟩))).trans (F1.2.2 q q1))
        have n7 : ∀ j, j < 5 ∨ 40 ≤ j → ¬ at7 (b0 + 5 + 7 * s.2.2.1) (b0 + j) := fun j hj hq => by
          unfold at7 at hq
          omega
        have z0 : B3.2.2 b0 = some (.inr (.inr (3, [.int (nI s.2.2.2.2), .int (nI s.1.1), .ref (b0 + 1), .ref (b0 + 2), .int (nI s.2.2.1), .ref (b0 + 3), .ref (b0 + 4), .ref (b0 + 40)]))) := (G3 b0 (by omega) (n7 0 (by omega))).trans a0
        have F4 : am_fr (fun q => q = b0) B3 (am_set B3 b0 (.inr (.inr (3, [.int (nI s.2.2.2.2), .int (nI s.1.1), .ref (b0 + 1), .ref (b0 + 2), .int (nI (s.2.2.1 + 1)), .ref (b0 + 3), .ref (b0 + 4), .ref (b0 + 40)])))) := (am_fr.refl B3).set rfl
        have hax2 : axok s a b := ⟨hax.1, hax.2.1, hax.2.2, c1⟩
        refine ⟨_, ?_, F2.trans ((f3.mono (Q := at45 b0) (fun q hq => ⟨by have := hq.1; omega, by have := hq.2; omega⟩)).trans (F4.mono (Q := at45 b0) (fun q hq => by rw [hq]; exact ⟨by omega, by omega⟩))), fun _ => ?_, fun hh => absurd ⟨c1, rfl, hn5⟩ hh⟩
        · obtain ⟨_, w0, -⟩ := id V1
          obtain ⟨_, w1, -⟩ := id v2
          have z2 : B2.2.2 b0 = some (.inr (.inr (3, [.int (nI s.2.2.2.2), .int (nI s.1.1), .ref (b0 + 1), .ref (b0 + 2), .int (nI s.2.2.1), .ref (b0 + 3), .ref (b0 + 4), .ref (b0 + 40)]))) := (f2.2.2 b0 (by omega)).trans ((F1.2.2 b0 (by omega)).trans a0)
          have z4 : B2.2.2 (b0 + 4) = some (.inr (.inl (5, q))) := (f2.2.2 (b0 + 4) (by omega)).trans ((F1.2.2 (b0 + 4) (by omega)).trans a4)
          have y4 : (am_set A (b0 + 3) (.inl (0, 5, upd g3 s.2.2.1 nm))).2.2 (b0 + 4) = some (.inr (.inl (5, q))) := (F1.2.2 (b0 + 4) (by omega)).trans a4
          have ix := x_ix (show s.2.2.1 < 5 by omega) (show s.2.2.1 < 2147483648 by omega)
          refine e_17 ?_; simp only [b_17, i_int, i_long, i_null, i_stat, i_iload, i_lload, i_aload, i_istore, i_astore, i_lstore, i_iinc, i_ii, i_idz, i_i, i_ll, i_lsh, i_i2l, i_l2i, i_lcmp, i_dup, i_pop, i_dup2, i_ifeq, i_ifne, i_iflt, i_ifge, i_ifgt, i_ifle, i_cmpeq, i_cmpne, i_cmplt, i_cmpge, i_cmpgt, i_cmple, i_ifnull, i_ifnonnull, i_getf, am_wr, i_putI, i_putZ, i_putR, i_iald, i_iast, i_aald, i_aast, i_alen, i_newi, i_newq, i_new, i_recv, i_iret, i_zret, i_lret, i_aret, i_vret, List.getElem?_cons_zero, List.getElem?_cons_succ, Option.bind_some, Option.toList_some, Option.toList_none, List.cons_append, List.nil_append, x_nI, am_put, List.length_cons, List.length_nil, List.set_cons_zero, List.set_cons_succ, Nat.reduceAdd, Nat.reduceLT, Nat.reduceLeDiff, Nat.reduceEqDiff, Nat.add_left_cancel_iff, Nat.add_eq_left, Nat.left_eq_add, Nat.succ_ne_self, Nat.reduceSub, reduceIte, ite_self, eq_self, or_true, true_or, or_false, false_or, or_self, i10, not_true_eq_false, not_false_eq_true, x_call1, x_call2, x_call3, x_call4, x_call5, x_call6, x_sl0, x_sli, x_slr, x_sln, x_sll, am_ent, List.map_nil, List.map_cons, List.sum_nil, List.sum_cons, Value.category, and_true, true_and, and_self, Nat.zero_le, List.replicate_succ, List.replicate_zero, List.reduceReplicate, x_obj_set, x_row_set, x_len_set, x_obx, x_rox, x_rv, x_obj a0, el, ez, c1, hpl, pI, hc, hc2, x_row a3, ix, x_own (show 5 ≤ b0 + 3 by omega), x_refs y4, a5 s.2.2.1 hn5, S1, x_obj w0, e2, x_obj z2, x_refs z4, x_obj w1, e3, x_obj z0, x_own hb, nI_1, nI_pred]
          simp [c2, x_set_self, am_obj, x_set, List.set, i_recv, i_call, am_sl, am_ent, Value.category, i_iret]
        · refine ⟨addV_v hs hax2 hn5 ht1 ht4, hb, ⟨g1, g2, upd g3 s.2.2.1 nm, q, x_set_self _ _ _, ?_, ?_, ?_, ?_, a5, a6, fun v hv => ?_⟩, ?_, fun v hv => ?_, fun v hv => ?_⟩
          · exact (F4.2.2 _ (by omega)).trans ((G3 _ (by omega) (n7 1 (by omega))).trans a1)
          · exact (F4.2.2 _ (by omega)).trans ((G3 _ (by omega) (n7 2 (by omega))).trans a2)
          · exact (F4.2.2 _ (by omega)).trans ((f3.2.2 _ (n7 3 (by omega))).trans ((f2.2.2 _ (by omega)).trans (x_set_self _ _ _)))
          · exact (F4.2.2 _ (by omega)).trans ((G3 _ (by omega) (n7 4 (by omega))).trans a4)
          · have hv2 : v < s.2.2.1 + 1 := hv
            by_cases he : v = s.2.2.1
            · rw [he, addV_new, pk_us]
              rfl
            · rw [addV_old (by omega), pk_un he]
              exact a7 v (by omega)
          · exact ((((hA.kept F1 (fun q q1 q2 q3 => by omega)).kept f2 (fun q q1 q2 q3 => by omega)).kept f3 (fun q q1 q2 q3 => by unfold at7 at q3; omega)).kept F4 (fun q q1 q2 q3 => by omega))
          · by_cases he : v = s.2.2.1
            · subst he
              unfold addR
              rw [if_pos rfl]
              exact v3.kept F4 (fun q q1 q2 q3 => by omega)
            · unfold addR
              rw [if_neg he]
              exact ((((hV v hv).kept F1 (fun q q1 q2 q3 => by omega)).kept f2 (fun q q1 q2 q3 => by omega)).kept f3 (fun q q1 q2 q3 => by unfold at7 at q3; omega)).kept F4 (fun q q1 q2 q3 => by omega)
          · have hv2 : v < s.2.2.1 + 1 := hv
            unfold addR
            by_cases he : v = s.2.2.1
            · subst he
              rw [if_pos rfl, addV_nraw hs hax2]
            · rw [if_neg he, addV_raw (by omega)]
              exact hR v (by omega)
theorem k_defineVariable {d b0 : Nat} {A : am_H} {s : sg_S} {ρ : Nat → sg_R} {nm ty a b : Int32} (hst : am_St A) (h : ST b0 A s ρ) : ∃ B, pev (d + 2) 16 [some (.ref b0), some (.int nm), some (.int ty), some (.int a), some (.int b)] [] A = some (some (.int (dv_c s nm ty a b)), B) ∧ am_fr (at45 b0) A B ∧ (dv_ok s nm ty a b → ST b0 B (addV s nm ty.toNatClampNeg a b (ρ s.2.2.1).2.2.2.2.2.2.1) (addR s ρ ty.toNatClampNeg a b)) ∧ (¬ dv_ok s nm ty a b → ST b0 B s ρ) := by
  obtain ⟨hs, hb, ⟨g1, g2, g3, q, a0, a1, a2, a3, a4, a5, a6, a7⟩, hA, hV, hR⟩ := id h
  unfold dv_c
  by_cases c1 : isNb nm = true
  · by_cases c2 : isTb ty = true
    · obtain ⟨t, rfl, ht1, ht4⟩ := isTb_nI c2
      have m1 := k_mayBeAxis (d := d) h a
      have m2 := k_mayBeAxis (d := d) h b
      by_cases c3 : (decide (a = -1) || isDb s a) = true
      · by_cases c4 : (decide (b = -1) || isDb s b) = true
        · rw [c3] at m1
          rw [c4] at m2
          have c3' : a = -1 ∨ isDb s a = true := by simpa using c3
          have c4' : b = -1 ∨ isDb s b = true := by simpa using c4
          by_cases c5 : a = -1 ∧ b ≠ -1
          · refine ⟨A, ?_, am_fr.refl A, fun hh => absurd (hh.2.2.1.2.2.1 c5.1) c5.2, fun _ => h⟩
            obtain ⟨e1, e2⟩ := c5
            subst e1
            refine e_16 ?_; simp only [b_16, i_int, i_long, i_null, i_stat, i_iload, i_lload, i_aload, i_istore, i_astore, i_lstore, i_iinc, i_ii, i_idz, i_i, i_ll, i_lsh, i_i2l, i_l2i, i_lcmp, i_dup, i_pop, i_dup2, i_ifeq, i_ifne, i_iflt, i_ifge, i_ifgt, i_ifle, i_cmpeq, i_cmpne, i_cmplt, i_cmpge, i_cmpgt, i_cmple, i_ifnull, i_ifnonnull, i_getf, am_wr, i_putI, i_putZ, i_putR, i_iald, i_iast, i_aald, i_aast, i_alen, i_newi, i_newq, i_new, i_recv, i_iret, i_zret, i_lret, i_aret, i_vret, List.getElem?_cons_zero, List.getElem?_cons_succ, Option.bind_some, Option.toList_some, Option.toList_none, List.cons_append, List.nil_append, x_nI, am_put, List.length_cons, List.length_nil, List.set_cons_zero, List.set_cons_succ, Nat.reduceAdd, Nat.reduceLT, Nat.reduceLeDiff, Nat.reduceEqDiff, Nat.add_left_cancel_iff, Nat.add_eq_left, Nat.left_eq_add, Nat.succ_ne_self, Nat.reduceSub, reduceIte, ite_self, eq_self, or_true, true_or, or_false, false_or, or_self, i10, not_true_eq_false, not_false_eq_true, x_call1, x_call2, x_call3, x_call4, x_call5, x_call6, x_sl0, x_sli, x_slr, x_sln, x_sll, am_ent, List.map_nil, List.map_cons, List.sum_nil, List.sum_cons, Value.category, and_true, true_and, and_self, Nat.zero_le, List.replicate_succ, List.replicate_zero, List.reduceReplicate, x_obj_set, x_row_set, x_len_set, x_obx, x_rox, x_rv, k_isName, k_isType, c1, c2, bz_true, x_obj a0, m1, m2, e2]
            simp [e2]
          · have c5' : a = -1 → b = -1 := fun e => by
              by_cases e2 : b = -1
              · exact e2
              · exact absurd ⟨e, e2⟩ c5
            obtain ⟨B, e1, f1, y1, y2⟩ := k_defVar48 (d := d) (nm := nm) (t := t) hst h ht1 ht4 ⟨c3', c4', c5'⟩
            rw [nI_clamp (by omega)]
            have hd : (decide (a = -1) && !decide (b = -1)) = false := by
              by_cases e : a = -1
              · simp [e, c5' e]
              · simp [e]
            refine ⟨B, ?_, f1, fun hh => y1 ⟨hh.2.2.1.2.2.2, hh.2.2.2.1, hh.2.2.2.2⟩, fun hh => y2 (fun e => hh ⟨c1, c2, ⟨c3', c4', c5', e.1⟩, e.2.1, e.2.2⟩)⟩
            rw [c1, c2, c3, c4, hd]
            simp only [Bool.not_true, Bool.or_self, Bool.false_eq_true, if_false]
            by_cases e : a = -1
            · have e' := c5' e
              subst e
              subst e'
              refine e_16 ?_; simp only [b_16, i_int, i_long, i_null, i_stat, i_iload, i_lload, i_aload, i_istore, i_astore, i_lstore, i_iinc, i_ii, i_idz, i_i, i_ll, i_lsh, i_i2l, i_l2i, i_lcmp, i_dup, i_pop, i_dup2, i_ifeq, i_ifne, i_iflt, i_ifge, i_ifgt, i_ifle, i_cmpeq, i_cmpne, i_cmplt, i_cmpge, i_cmpgt, i_cmple, i_ifnull, i_ifnonnull, i_getf, am_wr, i_putI, i_putZ, i_putR, i_iald, i_iast, i_aald, i_aast, i_alen, i_newi, i_newq, i_new, i_recv, i_iret, i_zret, i_lret, i_aret, i_vret, List.getElem?_cons_zero, List.getElem?_cons_succ, Option.bind_some, Option.toList_some, Option.toList_none, List.cons_append, List.nil_append, x_nI, am_put, List.length_cons, List.length_nil, List.set_cons_zero, List.set_cons_succ, Nat.reduceAdd, Nat.reduceLT, Nat.reduceLeDiff, Nat.reduceEqDiff, Nat.add_left_cancel_iff, Nat.add_eq_left, Nat.left_eq_add, Nat.succ_ne_self, Nat.reduceSub, reduceIte, ite_self, eq_self, or_true, true_or, or_false, false_or, or_self, i10, not_true_eq_false, not_false_eq_true, x_call1, x_call2, x_call3, x_call4, x_call5, x_call6, x_sl0, x_sli, x_slr, x_sln, x_sll, am_ent, List.map_nil, List.map_cons, List.sum_nil, List.sum_cons, Value.category, and_true, true_and, and_self, Nat.zero_le, List.replicate_succ, List.replicate_zero, List.reduceReplicate, x_obj_set, x_row_set, x_len_set, x_obx, x_rox, x_rv, k_isName, k_isType, c1, c2, bz_true, x_obj a0, m1, m2]
              exact e1
            · refine e_16 ?_; simp only [b_16, i_int, i_long, i_null, i_stat, i_iload, i_lload, i_aload, i_istore, i_astore, i_lstore, i_iinc, i_ii, i_idz, i_i, i_ll, i_lsh, i_i2l, i_l2i, i_lcmp, i_dup, i_pop, i_dup2, i_ifeq, i_ifne, i_iflt, i_ifge, i_ifgt, i_ifle, i_cmpeq, i_cmpne, i_cmplt, i_cmpge, i_cmpgt, i_cmple, i_ifnull, i_ifnonnull, i_getf, am_wr, i_putI, i_putZ, i_putR, i_iald, i_iast, i_aald, i_aast, i_alen, i_newi, i_newq, i_new, i_recv, i_iret, i_zret, i_lret, i_aret, i_vret, List.getElem?_cons_zero, List.getElem?_cons_succ, Option.bind_some, Option.toList_some, Option.toList_none, List.cons_append, List.nil_append, x_nI, am_put, List.length_cons, List.length_nil, List.set_cons_zero, List.set_cons_succ, Nat.reduceAdd, Nat.reduceLT, Nat.reduceLeDiff, Nat.reduceEqDiff, Nat.add_left_cancel_iff, Nat.add_eq_left, Nat.left_eq_add, Nat.succ_ne_self, Nat.reduceSub, reduceIte, ite_self, eq_self, or_true, true_or, or_false, false_or, or_self, i10, not_true_eq_false, not_false_eq_true, x_call1, x_call2, x_call3, x_call4, x_call5, x_call6, x_sl0, x_sli, x_slr, x_sln, x_sll, am_ent, List.map_nil, List.map_cons, List.sum_nil, List.sum_cons, Value.category, and_true, true_and, and_self, Nat.zero_le, List.replicate_succ, List.replicate_zero, List.reduceReplicate, x_obj_set, x_row_set, x_len_set, x_obx, x_rox, x_rv, k_isName, k_isType, c1, c2, bz_true, x_obj a0, m1, m2, e]
              exact e1
        · have c4' : ¬ (b = -1 ∨ isDb s b = true) := by simpa using c4
          simp only [Bool.not_eq_true] at c4
          rw [c3] at m1
          rw [c4] at m2
          refine ⟨A, ?_, am_fr.refl A, fun hh => absurd hh.2.2.1.2.1 c4', fun _ => h⟩
          refine e_16 ?_; simp only [b_16, i_int, i_long, i_null, i_stat, i_iload, i_lload, i_aload, i_istore, i_astore, i_lstore, i_iinc, i_ii, i_idz, i_i, i_ll, i_lsh, i_i2l, i_l2i, i_lcmp, i_dup, i_pop, i_dup2, i_ifeq, i_ifne, i_iflt, i_ifge, i_ifgt, i_ifle, i_cmpeq, i_cmpne, i_cmplt, i_cmpge, i_cmpgt, i_cmple, i_ifnull, i_ifnonnull, i_getf, am_wr, i_putI, i_putZ, i_putR, i_iald, i_iast, i_aald, i_aast, i_alen, i_newi, i_newq, i_new, i_recv, i_iret, i_zret, i_lret, i_aret, i_vret, List.getElem?_cons_zero, List.getElem?_cons_succ, Option.bind_some, Option.toList_some, Option.toList_none, List.cons_append, List.nil_append, x_nI, am_put, List.length_cons, List.length_nil, List.set_cons_zero, List.set_cons_succ, Nat.reduceAdd, Nat.reduceLT, Nat.reduceLeDiff, Nat.reduceEqDiff, Nat.add_left_cancel_iff, Nat.add_eq_left, Nat.left_eq_add, Nat.succ_ne_self, Nat.reduceSub, reduceIte, ite_self, eq_self, or_true, true_or, or_false, false_or, or_self, i10, not_true_eq_false, not_false_eq_true, x_call1, x_call2, x_call3, x_call4, x_call5, x_call6, x_sl0, x_sli, x_slr, x_sln, x_sll, am_ent, List.map_nil, List.map_cons, List.sum_nil, List.sum_cons, Value.category, and_true, true_and, and_self, Nat.zero_le, List.replicate_succ, List.replicate_zero, List.reduceReplicate, x_obj_set, x_row_set, x_len_set, x_obx, x_rox, x_rv, k_isName, k_isType, c1, c2, bz_true, bz_false, x_obj a0, m1, m2]
          simp [c4]
      · have c3' : ¬ (a = -1 ∨ isDb s a = true) := by simpa using c3
        simp only [Bool.not_eq_true] at c3
        rw [c3] at m1
        refine ⟨A, ?_, am_fr.refl A, fun hh => absurd hh.2.2.1.1 c3', fun _ => h⟩
        refine e_16 ?_; simp only [b_16, i_int, i_long, i_null, i_stat, i_iload, i_lload, i_aload, i_istore, i_astore, i_lstore, i_iinc, i_ii, i_idz, i_i, i_ll, i_lsh, i_i2l, i_l2i, i_lcmp, i_dup, i_pop, i_dup2, i_ifeq, i_ifne, i_iflt, i_ifge, i_ifgt, i_ifle, i_cmpeq, i_cmpne, i_cmplt, i_cmpge, i_cmpgt, i_cmple, i_ifnull, i_ifnonnull, i_getf, am_wr, i_putI, i_putZ, i_putR, i_iald, i_iast, i_aald, i_aast, i_alen, i_newi, i_newq, i_new, i_recv, i_iret, i_zret, i_lret, i_aret, i_vret, List.getElem?_cons_zero, List.getElem?_cons_succ, Option.bind_some, Option.toList_some, Option.toList_none, List.cons_append, List.nil_append, x_nI, am_put, List.length_cons, List.length_nil, List.set_cons_zero, List.set_cons_succ, Nat.reduceAdd, Nat.reduceLT, Nat.reduceLeDiff, Nat.reduceEqDiff, Nat.add_left_cancel_iff, Nat.add_eq_left, Nat.left_eq_add, Nat.succ_ne_self, Nat.reduceSub, reduceIte, ite_self, eq_self, or_true, true_or, or_false, false_or, or_self, i10, not_true_eq_false, not_false_eq_true, x_call1, x_call2, x_call3, x_call4, x_call5, x_call6, x_sl0, x_sli, x_slr, x_sln, x_sll, am_ent, List.map_nil, List.map_cons, List.sum_nil, List.sum_cons, Value.category, and_true, true_and, and_self, Nat.zero_le, List.replicate_succ, List.replicate_zero, List.reduceReplicate, x_obj_set, x_row_set, x_len_set, x_obx, x_rox, x_rv, k_isName, k_isType, c1, c2, bz_true, bz_false, x_obj a0, m1]
        simp [c3]
    · refine ⟨A, ?_, am_fr.refl A, fun hh => absurd hh.2.1 c2, fun _ => h⟩
      simp only [Bool.not_eq_true] at c2
      refine e_16 ?_; simp only [b_16, i_int, i_long, i_null, i_stat, i_iload, i_lload, i_aload, i_istore, i_astore, i_lstore, i_iinc, i_ii, i_idz, i_i, i_ll, i_lsh, i_i2l, i_l2i, i_lcmp, i_dup, i_pop, i_dup2, i_ifeq, i_ifne, i_iflt, i_ifge, i_ifgt, i_ifle, i_cmpeq, i_cmpne, i_cmplt, i_cmpge, i_cmpgt, i_cmple, i_ifnull, i_ifnonnull, i_getf, am_wr, i_putI, i_putZ, i_putR, i_iald, i_iast, i_aald, i_aast, i_alen, i_newi, i_newq, i_new, i_recv, i_iret, i_zret, i_lret, i_aret, i_vret, List.getElem?_cons_zero, List.getElem?_cons_succ, Option.bind_some, Option.toList_some, Option.toList_none, List.cons_append, List.nil_append, x_nI, am_put, List.length_cons, List.length_nil, List.set_cons_zero, List.set_cons_succ, Nat.reduceAdd, Nat.reduceLT, Nat.reduceLeDiff, Nat.reduceEqDiff, Nat.add_left_cancel_iff, Nat.add_eq_left, Nat.left_eq_add, Nat.succ_ne_self, Nat.reduceSub, reduceIte, ite_self, eq_self, or_true, true_or, or_false, false_or, or_self, i10, not_true_eq_false, not_false_eq_true, x_call1, x_call2, x_call3, x_call4, x_call5, x_call6, x_sl0, x_sli, x_slr, x_sln, x_sll, am_ent, List.map_nil, List.map_cons, List.sum_nil, List.sum_cons, Value.category, and_true, true_and, and_self, Nat.zero_le, List.replicate_succ, List.replicate_zero, List.reduceReplicate, x_obj_set, x_row_set, x_len_set, x_obx, x_rox, x_rv, k_isName, k_isType, c1, c2, bz_true, bz_false]
      simp
  · refine ⟨A, ?_, am_fr.refl A, fun hh => absurd hh.1 c1, fun _ => h⟩
    simp only [Bool.not_eq_true] at c1
    refine e_16 ?_; simp only [b_16, i_int, i_long, i_null, i_stat, i_iload, i_lload, i_aload, i_istore, i_astore, i_lstore, i_iinc, i_ii, i_idz, i_i, i_ll, i_lsh, i_i2l, i_l2i, i_lcmp, i_dup, i_pop, i_dup2, i_ifeq, i_ifne, i_iflt, i_ifge, i_ifgt, i_ifle, i_cmpeq, i_cmpne, i_cmplt, i_cmpge, i_cmpgt, i_cmple, i_ifnull, i_ifnonnull, i_getf, am_wr, i_putI, i_putZ, i_putR, i_iald, i_iast, i_aald, i_aast, i_alen, i_newi, i_newq, i_new, i_recv, i_iret, i_zret, i_lret, i_aret, i_vret, List.getElem?_cons_zero, List.getElem?_cons_succ, Option.bind_some, Option.toList_some, Option.toList_none, List.cons_append, List.nil_append, x_nI, am_put, List.length_cons, List.length_nil, List.set_cons_zero, List.set_cons_succ, Nat.reduceAdd, Nat.reduceLT, Nat.reduceLeDiff, Nat.reduceEqDiff, Nat.add_left_cancel_iff, Nat.add_eq_left, Nat.left_eq_add, Nat.succ_ne_self, Nat.reduceSub, reduceIte, ite_self, eq_self, or_true, true_or, or_false, false_or, or_self, i10, not_true_eq_false, not_false_eq_true, x_call1, x_call2, x_call3, x_call4, x_call5, x_call6, x_sl0, x_sli, x_slr, x_sln, x_sll, am_ent, List.map_nil, List.map_cons, List.sum_nil, List.sum_cons, Value.category, and_true, true_and, and_self, Nat.zero_le, List.replicate_succ, List.replicate_zero, List.reduceReplicate, x_obj_set, x_row_set, x_len_set, x_obx, x_rox, x_rv, k_isName, c1, bz_false]
    simp
/-! renaming -/
def cn_c (g : Nat → Int32) (n : Nat) (k nm : Int32) : Int32 := if k < 0 ∨ nI n ≤ k then -3 else if isNb nm = false then -2 else match fnd g nm n with
  | some j => if j = k.toNatClampNeg then 0 else -4
  | none => 0
theorem k_changeName {d q N n : Nat} {A : am_H} {g f : Nat → Int32} {k nm : Int32} (h : A.2.2 q = some (.inl (0, N, g))) (hf : ∀ j, j < n → g j = f j) (hn : n ≤ N) (hN : N < 10000) (hq : 5 ≤ q) : pev (d + 1) 37 [some (.ref q), some (.int (nI n)), some (.int k), some (.int nm), none] [] A = some (some (.int (cn_c f n k nm)), if cn_c f n k nm = 0 then am_set A q (.inl (0, N, upd g k.toNatClampNeg nm)) else A) := by
  unfold cn_c
  by_cases c1 : k < 0
  · rw [if_pos (Or.inl c1)]
    refine e_37 ?_; simp only [b_37, i_int, i_long, i_null, i_stat, i_iload, i_lload, i_aload, i_istore, i_astore, i_lstore, i_iinc, i_ii, i_idz, i_i, i_ll, i_lsh, i_i2l, i_l2i, i_lcmp, i_dup, i_pop, i_dup2, i_ifeq, i_ifne, i_iflt, i_ifge, i_ifgt, i_ifle, i_cmpeq, i_cmpne, i_cmplt, i_cmpge, i_cmpgt, i_cmple, i_ifnull, i_ifnonnull, i_getf, am_wr, i_putI, i_putZ, i_putR, i_iald, i_iast, i_aald, i_aast, i_alen, i_newi, i_newq, i_new, i_recv, i_iret, i_zret, i_lret, i_aret, i_vret, List.getElem?_cons_zero, List.getElem?_cons_succ, Option.bind_some, Option.toList_some, Option.toList_none, List.cons_append, List.nil_append, x_nI, am_put, List.length_cons, List.length_nil, List.set_cons_zero, List.set_cons_succ, Nat.reduceAdd, Nat.reduceLT, Nat.reduceLeDiff, Nat.reduceEqDiff, Nat.add_left_cancel_iff, Nat.add_eq_left, Nat.left_eq_add, Nat.succ_ne_self, Nat.reduceSub, reduceIte, ite_self, eq_self, or_true, true_or, or_false, false_or, or_self, i10, not_true_eq_false, not_false_eq_true, x_call1, x_call2, x_call3, x_call4, x_call5, x_call6, x_sl0, x_sli, x_slr, x_sln, x_sll, am_ent, List.map_nil, List.map_cons, List.sum_nil, List.sum_cons, Value.category, and_true, true_and, and_self, Nat.zero_le, List.replicate_succ, List.replicate_zero, List.reduceReplicate, x_obj_set, x_row_set, x_len_set, x_obx, x_rox, x_rv, c1]
    rfl
  · by_cases c2 : nI n ≤ k
    · rw [if_pos (Or.inr c2)]
      have c2' : ¬ k < nI n := Int32.not_lt.mpr c2
      refine e_37 ?_; simp only [b_37, i_int, i_long, i_null, i_stat, i_iload, i_lload, i_aload, i_istore, i_astore, i_lstore, i_iinc, i_ii, i_idz, i_i, i_ll, i_lsh, i_i2l, i_l2i, i_lcmp, i_dup, i_pop, i_dup2, i_ifeq, i_ifne, i_iflt, i_ifge, i_ifgt, i_ifle, i_cmpeq, i_cmpne, i_cmplt, i_cmpge, i_cmpgt, i_cmple, i_ifnull, i_ifnonnull, i_getf, am_wr, i_putI, i_putZ, i_putR, i_iald, i_iast, i_aald, i_aast, i_alen, i_newi, i_newq, i_new, i_recv, i_iret, i_zret, i_lret, i_aret, i_vret, List.getElem?_cons_zero, List.getElem?_cons_succ, Option.bind_some, Option.toList_some, Option.toList_none, List.cons_append, List.nil_append, x_nI, am_put, List.length_cons, List.length_nil, List.set_cons_zero, List.set_cons_succ, Nat.reduceAdd, Nat.reduceLT, Nat.reduceLeDiff, Nat.reduceEqDiff, Nat.add_left_cancel_iff, Nat.add_eq_left, Nat.left_eq_add, Nat.succ_ne_self, Nat.reduceSub, reduceIte, ite_self, eq_self, or_true, true_or, or_false, false_or, or_self, i10, not_true_eq_false, not_false_eq_true, x_call1, x_call2, x_call3, x_call4, x_call5, x_call6, x_sl0, x_sli, x_slr, x_sln, x_sll, am_ent, List.map_nil, List.map_cons, List.sum_nil, List.sum_cons, Value.category, and_true, true_and, and_self, Nat.zero_le, List.replicate_succ, List.replicate_zero, List.reduceReplicate, x_obj_set, x_row_set, x_len_set, x_obx, x_rox, x_rv, c1, c2']
      rfl
    · have c2' : k < nI n := Int32.not_le.mp c2
      rw [if_neg (fun e => e.elim c1 c2)]
      rcases pk_ix k (n := n) (by omega) with e | e | ⟨i, hi, rfl⟩
      · exact absurd e c1
      · exact absurd e c2
      · rw [nI_clamp (by omega)]
        by_cases c3 : isNb nm = true
        · rw [c3]
          simp only [Bool.true_eq_false, if_false]
          have hpl : pev d 11 [some (.int nm), some (.ref q), some (.int (nI n)), none] [] A = some (some (.int (pI (fnd f nm n))), A) := by
            rw [k_placeOf h hn hN, fnd_congr hf]
          have ix := x_ix (show i < N by omega) (show i < 2147483648 by omega)
          cases he : fnd f nm n with
          | none =>
            rw [he] at hpl
            refine e_37 ?_; simp only [b_37, i_int, i_long, i_null, i_stat, i_iload, i_lload, i_aload, i_istore, i_astore, i_lstore, i_iinc, i_ii, i_idz, i_i, i_ll, i_lsh, i_i2l, i_l2i, i_lcmp, i_dup, i_pop, i_dup2, i_ifeq, i_ifne, i_iflt, i_ifge, i_ifgt, i_ifle, i_cmpeq, i_cmpne, i_cmplt, i_cmpge, i_cmpgt, i_cmple, i_ifnull, i_ifnonnull, i_getf, am_wr, i_putI, i_putZ, i_putR, i_iald, i_iast, i_aald, i_aast, i_alen, i_newi, i_newq, i_new, i_recv, i_iret, i_zret, i_lret, i_aret, i_vret, List.getElem?_cons_zero, List.getElem?_cons_succ, Option.bind_some, Option.toList_some, Option.toList_none, List.cons_append, List.nil_append, x_nI, am_put, List.length_cons, List.length_nil, List.set_cons_zero, List.set_cons_succ, Nat.reduceAdd, Nat.reduceLT, Nat.reduceLeDiff, Nat.reduceEqDiff, Nat.add_left_cancel_iff, Nat.add_eq_left, Nat.left_eq_add, Nat.succ_ne_self, Nat.reduceSub, reduceIte, ite_self, eq_self, or_true, true_or, or_false, false_or, or_self, i10, not_true_eq_false, not_false_eq_true, x_call1, x_call2, x_call3, x_call4, x_call5, x_call6, x_sl0, x_sli, x_slr, x_sln, x_sll, am_ent, List.map_nil, List.map_cons, List.sum_nil, List.sum_cons, Value.category, and_true, true_and, and_self, Nat.zero_le, List.replicate_succ, List.replicate_zero, List.reduceReplicate, x_obj_set, x_row_set, x_len_set, x_obx, x_rox, x_rv, c1, c2', k_isName, c3, bz_true, hpl, pI, show ((-1 : Int32) < 0) = True by decide, x_row h, ix, x_own hq]
          | some j =>
            rw [he] at hpl
            obtain ⟨hj, -⟩ := fnd_some he
            have hc : ¬ nI j < 0 := nI_pos (by omega)
            have ee : (nI j = nI i) = (j = i) := o_eq (by omega) (by omega)
            by_cases c4 : j = i
            · refine e_37 ?_; simp only [b_37, i_int, i_long, i_null, i_stat, i_iload, i_lload, i_aload, i_istore, i_astore, i_lstore, i_iinc, i_ii, i_idz, i_i, i_ll, i_lsh, i_i2l, i_l2i, i_lcmp, i_dup, i_pop, i_dup2, i_ifeq, i_ifne, i_iflt, i_ifge, i_ifgt, i_ifle, i_cmpeq, i_cmpne, i_cmplt, i_cmpge, i_cmpgt, i_cmple, i_ifnull, i_ifnonnull, i_getf, am_wr, i_putI, i_putZ, i_putR, i_iald, i_iast, i_aald, i_aast, i_alen, i_newi, i_newq, i_new, i_recv, i_iret, i_zret, i_lret, i_aret, i_vret, List.getElem?_cons_zero, List.getElem?_cons_succ, Option.bind_some, Option.toList_some, Option.toList_none, List.cons_append, List.nil_append, x_nI, am_put, List.length_cons, List.length_nil, List.set_cons_zero, List.set_cons_succ, Nat.reduceAdd, Nat.reduceLT, Nat.reduceLeDiff, Nat.reduceEqDiff, Nat.add_left_cancel_iff, Nat.add_eq_left, Nat.left_eq_add, Nat.succ_ne_self, Nat.reduceSub, reduceIte, ite_self, eq_self, or_true, true_or, or_false, false_or, or_self, i10, not_true_eq_false, not_false_eq_true, x_call1, x_call2, x_call3, x_call4, x_call5, x_call6, x_sl0, x_sli, x_slr, x_sln, x_sll, am_ent, List.map_nil, List.map_cons, List.sum_nil, List.sum_cons, Value.category, and_true, true_and, and_self, Nat.zero_le, List.replicate_succ, List.replicate_zero, List.reduceReplicate, x_obj_set, x_row_set, x_len_set, x_obx, x_rox, x_rv, c1, c2', k_isName, c3, bz_true, hpl, pI, hc, c4, x_row h, ix, x_own hq]
            · refine e_37 ?_; simp only [b_37, i_int, i_long, i_null, i_stat, i_iload, i_lload, i_aload, i_istore, i_astore, i_lstore, i_iinc, i_ii, i_idz, i_i, i_ll, i_lsh, i_i2l, i_l2i, i_lcmp, i_dup, i_pop, i_dup2, i_ifeq, i_ifne, i_iflt, i_ifge, i_ifgt, i_ifle, i_cmpeq, i_cmpne, i_cmplt, i_cmpge, i_cmpgt, i_cmple, i_ifnull, i_ifnonnull, i_getf, am_wr, i_putI, i_putZ, i_putR, i_iald, i_iast, i_aald, i_aast, i_alen, i_newi, i_newq, i_new, i_recv, i_iret, i_zret, i_lret, i_aret, i_vret, List.getElem?_cons_zero, List.getElem?_cons_succ, Option.bind_some, Option.toList_some, Option.toList_none, List.cons_append, List.nil_append, x_nI, am_put, List.length_cons, List.length_nil, List.set_cons_zero, List.set_cons_succ, Nat.reduceAdd, Nat.reduceLT, Nat.reduceLeDiff, Nat.reduceEqDiff, Nat.add_left_cancel_iff, Nat.add_eq_left, Nat.left_eq_add, Nat.succ_ne_self, Nat.reduceSub, reduceIte, ite_self, eq_self, or_true, true_or, or_false, false_or, or_self, i10, not_true_eq_false, not_false_eq_true, x_call1, x_call2, x_call3, x_call4, x_call5, x_call6, x_sl0, x_sli, x_slr, x_sln, x_sll, am_ent, List.map_nil, List.map_cons, List.sum_nil, List.sum_cons, Value.category, and_true, true_and, and_self, Nat.zero_le, List.replicate_succ, List.replicate_zero, List.reduceReplicate, x_obj_set, x_row_set, x_len_set, x_obx, x_rox, x_rv, c1, c2', k_isName, c3, bz_true, hpl, pI, hc, ee, c4]
              simp [c4]
        · simp only [Bool.not_eq_true] at c3
          rw [c3]
          refine e_37 ?_; simp only [b_37, i_int, i_long, i_null, i_stat, i_iload, i_lload, i_aload, i_istore, i_astore, i_lstore, i_iinc, i_ii, i_idz, i_i, i_ll, i_lsh, i_i2l, i_l2i, i_lcmp, i_dup, i_pop, i_dup2, i_ifeq, i_ifne, i_iflt, i_ifge, i_ifgt, i_ifle, i_cmpeq, i_cmpne, i_cmplt, i_cmpge, i_cmpgt, i_cmple, i_ifnull, i_ifnonnull, i_getf, am_wr, i_putI, i_putZ, i_putR, i_iald, i_iast, i_aald, i_aast, i_alen, i_newi, i_newq, i_new, i_recv, i_iret, i_zret, i_lret, i_aret, i_vret, List.getElem?_cons_zero, List.getElem?_cons_succ, Option.bind_some, Option.toList_some, Option.toList_none, List.cons_append, List.nil_append, x_nI, am_put, List.length_cons, List.length_nil, List.set_cons_zero, List.set_cons_succ, Nat.reduceAdd, Nat.reduceLT, Nat.reduceLeDiff, Nat.reduceEqDiff, Nat.add_left_cancel_iff, Nat.add_eq_left, Nat.left_eq_add, Nat.succ_ne_self, Nat.reduceSub, reduceIte, ite_self, eq_self, or_true, true_or, or_false, false_or, or_self, i10, not_true_eq_false, not_false_eq_true, x_call1, x_call2, x_call3, x_call4, x_call5, x_call6, x_sl0, x_sli, x_slr, x_sln, x_sll, am_ent, List.map_nil, List.map_cons, List.sum_nil, List.sum_cons, Value.category, and_true, true_and, and_self, Nat.zero_le, List.replicate_succ, List.replicate_zero, List.reduceReplicate, x_obj_set, x_row_set, x_len_set, x_obx, x_rox, x_rv, c1, c2', k_isName, c3, bz_false]
          rfl
