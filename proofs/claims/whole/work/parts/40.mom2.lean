/-! the reference: new variables -/
theorem n_blank1 {d b h v t : Nat} {f : mo_F} {R : Nat → Nat → Int32} (hh : h < 2) (hv : v < 5) (ht : R 6 (5 * h + v) = nI t) (t1 : 1 ≤ t) (t4 : t ≤ 4) : ∀ (m k : Nat), k + m = 800 → ∀ {A : am_H} {g : Nat → Int32}, MM b A (setR R 15 g) f → (∀ j, j < k → g (800 * (5 * h + v) + j) = am_s1 t) → (∀ i, i < 800 * (5 * h + v) ∨ 800 * (5 * h + v) + 800 ≤ i → g i = R 15 i) → ∃ B g2, pev (d + 1) 162 [some (.ref b), some (.int (nI h)), some (.int (nI v)), some (.int (nI k))] [] A = some (none, B) ∧ MM b B (setR R 15 g2) f ∧ (∀ j, j < 800 → g2 (800 * (5 * h + v) + j) = am_s1 t) ∧ (∀ i, i < 800 * (5 * h + v) ∨ 800 * (5 * h + v) + 800 ≤ i → g2 i = R 15 i) ∧ am_fr (at21 b) A B := by
  intro m
  induction m with
  | zero =>
    intro k hk A g hM h1 h2
    have hk8 : k = 800 := by omega
    subst hk8
    refine ⟨A, g, ?_, hM, h1, h2, am_fr.refl A⟩
    refine e_162 ?_; simp only [b_162, i_int, i_long, i_null, i_stat, i_iload, i_lload, i_aload, i_istore, i_astore, i_lstore, i_iinc, i_ii, i_idz, i_i, i_ll, i_lsh, i_i2l, i_l2i, i_lcmp, i_dup, i_pop, i_dup2, i_ifeq, i_ifne, i_iflt, i_ifge, i_ifgt, i_ifle, i_cmpeq, i_cmpne, i_cmplt, i_cmpge, i_cmpgt, i_cmple, i_ifnull, i_ifnonnull, i_getf, am_wr, i_putI, i_putZ, i_putR, i_iald, i_iast, i_aald, i_aast, i_alen, i_newi, i_newq, i_new, i_recv, i_iret, i_zret, i_lret, i_aret, i_vret, List.getElem?_cons_zero, List.getElem?_cons_succ, Option.bind_some, Option.toList_some, Option.toList_none, List.cons_append, List.nil_append, x_nI, am_put, List.length_cons, List.length_nil, List.set_cons_zero, List.set_cons_succ, Nat.reduceAdd, Nat.reduceLT, Nat.reduceLeDiff, Nat.reduceEqDiff, Nat.add_left_cancel_iff, Nat.add_eq_left, Nat.left_eq_add, Nat.succ_ne_self, Nat.reduceSub, reduceIte, ite_self, eq_self, or_true, true_or, or_false, false_or, or_self, i10, not_true_eq_false, not_false_eq_true, x_call1, x_call2, x_call3, x_call4, x_call5, x_call6, x_sl0, x_sli, x_slr, x_sln, x_sll, am_ent, List.map_nil, List.map_cons, List.sum_nil, List.sum_cons, Value.category, and_true, true_and, and_self, Nat.zero_le, List.replicate_succ, List.replicate_zero, List.reduceReplicate, x_obj_set, x_row_set, x_len_set, x_obx, x_rox, x_rv, show ((800 : Int32) ≤ nI 800) = True by decide]
  | succ m ih =>
    intro k hk A g hM h1 h2
    have hb := hM.2.1
    have hc : ¬ nI 800 ≤ nI k := nI_ge (b := 800) (by omega) (by decide)
    have m1 := hM.set (i := 15) (by decide) (by decide) (upd g (800 * (5 * h + v) + k) (am_s1 t))
    have e15 : setR (setR R 15 g) 15 (upd g (800 * (5 * h + v) + k) (am_s1 t)) = setR R 15 (upd g (800 * (5 * h + v) + k) (am_s1 t)) := by
      funext r
      unfold setR
      by_cases c : r = 15 <;> simp [c]
    rw [e15] at m1
    obtain ⟨B, g2, e1, b1, b2, b3, f1⟩ := ih (k + 1) (by omega) m1 (fun j hj => by
      by_cases he : j = k
      · rw [he, pk_us]
      · rw [pk_un (by omega)]; exact h1 j (by omega)) (fun i hi => by rw [pk_un (by omega)]; exact h2 i hi)
    refine ⟨B, g2, ?_, b1, b2, b3, ((am_fr.refl A).set ⟨by omega, by omega⟩).trans f1⟩
    have r15 : A.2.2 (b + 15) = some (.inl (0, 8000, g)) := by rw [← setR_self R 15 g]; exact hM.2.2 15 (by decide) (by decide)
    have r6 : A.2.2 (b + 6) = some (.inl (0, 10, R 6)) := by rw [← setR_ne (R := R) (i := 15) (j := 6) (g := g) (by decide)]; exact hM.2.2 6 (by decide) (by decide)
    refine e_162 ?_; simp only [b_162, i_int, i_long, i_null, i_stat, i_iload, i_lload, i_aload, i_istore, i_astore, i_lstore, i_iinc, i_ii, i_idz, i_i, i_ll, i_lsh, i_i2l, i_l2i, i_lcmp, i_dup, i_pop, i_dup2, i_ifeq, i_ifne, i_iflt, i_ifge, i_ifgt, i_ifle, i_cmpeq, i_cmpne, i_cmplt, i_cmpge, i_cmpgt, i_cmple, i_ifnull, i_ifnonnull, i_getf, am_wr, i_putI, i_putZ, i_putR, i_iald, i_iast, i_aald, i_aast, i_alen, i_newi, i_newq, i_new, i_recv, i_iret, i_zret, i_lret, i_aret, i_vret, List.getElem?_cons_zero, List.getElem?_cons_succ, Option.bind_some, Option.toList_some, Option.toList_none, List.cons_append, List.nil_append, x_nI, am_put, List.length_cons, List.length_nil, List.set_cons_zero, List.set_cons_succ, Nat.reduceAdd, Nat.reduceLT, Nat.reduceLeDiff, Nat.reduceEqDiff, Nat.add_left_cancel_iff, Nat.add_eq_left, Nat.left_eq_add, Nat.succ_ne_self, Nat.reduceSub, reduceIte, ite_self, eq_self, or_true, true_or, or_false, false_or, or_self, i10, not_true_eq_false, not_false_eq_true, x_call1, x_call2, x_call3, x_call4, x_call5, x_call6, x_sl0, x_sli, x_slr, x_sln, x_sll, am_ent, List.map_nil, List.map_cons, List.sum_nil, List.sum_cons, Value.category, and_true, true_and, and_self, Nat.zero_le, List.replicate_succ, List.replicate_zero, List.reduceReplicate, x_obj_set, x_row_set, x_len_set, x_obx, x_rox, x_rv, hc, x_obj hM.1, mo_obj, show (800 : Int32) = nI 800 from rfl, show (5 : Int32) = nI 5 from rfl, pk_mul, nI_add, x_row r6, x_row r15, x_ix (show 5 * h + v < 10 by omega) (show 5 * h + v < 2147483648 by omega), ht, n_fill t1 t4, x_ix (show 800 * (5 * h + v) + k < 8000 by omega) (show 800 * (5 * h + v) + k < 2147483648 by omega), x_own (show 5 ≤ b + 15 by omega), nI_1]
    exact e1
theorem n_blank {d b h v t : Nat} {A : am_H} {f : mo_F} {R : Nat → Nat → Int32} (hM : MM b A R f) (hh : h < 2) (hv : v < 5) (ht : R 6 (5 * h + v) = nI t) (t1 : 1 ≤ t) (t4 : t ≤ 4) : ∃ B g2, pev (d + 1) 161 [some (.ref b), some (.int (nI h)), some (.int (nI v)), none] [] A = some (none, B) ∧ MM b B (setR R 15 g2) f ∧ (∀ j, j < 800 → g2 (800 * (5 * h + v) + j) = am_s1 t) ∧ (∀ i, i < 800 * (5 * h + v) ∨ 800 * (5 * h + v) + 800 ≤ i → g2 i = R 15 i) ∧ am_fr (at21 b) A B := by
  have e0 : setR R 15 (R 15) = R := by
    funext r
    unfold setR
    by_cases c : r = 15
    · subst c; simp
    · simp [c]
  obtain ⟨B, g2, e1, b1⟩ := n_blank1 (d := d) hh hv ht t1 t4 800 0 (by omega) (A := A) (g := R 15) (by rw [e0]; exact hM) (fun j hj => by omega) (fun _ _ => rfl)
  refine ⟨B, g2, ?_, b1⟩
  refine e_161 ?_; simp only [b_161, i_int, i_long, i_null, i_stat, i_iload, i_lload, i_aload, i_istore, i_astore, i_lstore, i_iinc, i_ii, i_idz, i_i, i_ll, i_lsh, i_i2l, i_l2i, i_lcmp, i_dup, i_pop, i_dup2, i_ifeq, i_ifne, i_iflt, i_ifge, i_ifgt, i_ifle, i_cmpeq, i_cmpne, i_cmplt, i_cmpge, i_cmpgt, i_cmple, i_ifnull, i_ifnonnull, i_getf, am_wr, i_putI, i_putZ, i_putR, i_iald, i_iast, i_aald, i_aast, i_alen, i_newi, i_newq, i_new, i_recv, i_iret, i_zret, i_lret, i_aret, i_vret, List.getElem?_cons_zero, List.getElem?_cons_succ, Option.bind_some, Option.toList_some, Option.toList_none, List.cons_append, List.nil_append, x_nI, am_put, List.length_cons, List.length_nil, List.set_cons_zero, List.set_cons_succ, Nat.reduceAdd, Nat.reduceLT, Nat.reduceLeDiff, Nat.reduceEqDiff, Nat.add_left_cancel_iff, Nat.add_eq_left, Nat.left_eq_add, Nat.succ_ne_self, Nat.reduceSub, reduceIte, ite_self, eq_self, or_true, true_or, or_false, false_or, or_self, i10, not_true_eq_false, not_false_eq_true, x_call1, x_call2, x_call3, x_call4, x_call5, x_call6, x_sl0, x_sli, x_slr, x_sln, x_sll, am_ent, List.map_nil, List.map_cons, List.sum_nil, List.sum_cons, Value.category, and_true, true_and, and_self, Nat.zero_le, List.replicate_succ, List.replicate_zero, List.reduceReplicate, x_obj_set, x_row_set, x_len_set, x_obx, x_rox, x_rv]
  exact e1
/-- rows after a new variable -/
def vrR (R : Nat → Nat → Int32) (h n : Nat) (nm : Int32) (t : Nat) (a b : Int32) (g15 : Nat → Int32) : Nat → Nat → Int32 := fun r => match r with
  | 4 => upd (R 4) h (nI (n + 1))
  | 5 => upd (R 5) (5 * h + n) nm
  | 6 => upd (R 6) (5 * h + n) (nI t)
  | 7 => upd (R 7) (5 * h + n) (nI (axn a b))
  | 8 => upd (upd (R 8) (2 * (5 * h + n)) a) (2 * (5 * h + n) + 1) b
  | 9 => upd (R 9) (6 * h + n + 1) 0
  | 15 => g15
  | r => R r
theorem vrR_MS {R : Nat → Nat → Int32} {h : Nat} {s : sg_S} {nm : Int32} {t : Nat} {a b : Int32} {g15 : Nat → Int32} {at0 : sg_A} (hS : MS R h s) (hax : axok s a b) (h5 : s.2.2.1 < 5) (t1 : 1 ≤ t) (t4 : t ≤ 4) (ha0 : at0.1 = 0) (hg1 : ∀ j, j < 800 → g15 (800 * (5 * h + s.2.2.1) + j) = am_s1 t) (hg2 : ∀ i, i < 800 * (5 * h + s.2.2.1) ∨ 800 * (5 * h + s.2.2.1) + 800 ≤ i → g15 i = R 15 i) : MS (vrR R h s.2.2.1 nm t a b g15) h (addV s nm t a b at0) := by
  obtain ⟨h1, h2, h3, h4, hA, h6⟩ := hS
  have hhs := h2
  have mA : ∀ (l : Nat) (al : sg_A), l < s.2.2.1 + 1 → MA R h l al → MA (vrR R h s.2.2.1 nm t a b g15) h l al := fun l al hl hm => by
    refine ⟨hm.1, ?_, hm.2.2⟩
    show upd (R 9) (6 * h + s.2.2.1 + 1) 0 (6 * h + l) = _
    rw [pk_un (by omega)]
    exact hm.2.1
  refine ⟨addV_v h1 hax h5 t1 t4, h2, ⟨h3.1, ?_, h3.2.2⟩, h4, mA 0 _ (by omega) hA, fun v hv => ?_⟩
  · show upd (R 4) h (nI (s.2.2.1 + 1)) h = _
    rw [pk_us]
    rfl
  · have hv2 : v < s.2.2.1 + 1 := hv
    by_cases he : v = s.2.2.1
    · subst he
      rw [addV_new]
      refine ⟨?_, ?_, ?_, fun k hk => ?_, ⟨?_, ?_, fun k hk => ?_⟩, fun k hk => ?_⟩
      · exact pk_us
      · exact pk_us
      · exact pk_us
      · have hk2 : k < axn a b := hk
        show upd (upd (R 8) (2 * (5 * h + s.2.2.1)) a) (2 * (5 * h + s.2.2.1) + 1) b (10 * h + 2 * s.2.2.1 + k) = nI (if k = 0 then a.toNatClampNeg else b.toNatClampNeg)
        by_cases c1 : a = -1
        · rw [c1] at hk2
          exact absurd hk2 (by unfold axn; simp)
        · have ha : isDb s a = true := hax.1.resolve_left c1
          have hk3 : k < 2 := by unfold axn at hk2; split at hk2 <;> (try split at hk2) <;> omega
          rcases (show k = 0 ∨ k = 1 by omega) with rfl | rfl
          · rw [pk_un (by omega), show 10 * h + 2 * s.2.2.1 + 0 = 2 * (5 * h + s.2.2.1) by omega, pk_us, if_pos rfl]
            exact (isDb_back h1 ha).1.symm
          · rw [show 10 * h + 2 * s.2.2.1 + 1 = 2 * (5 * h + s.2.2.1) + 1 by omega, pk_us, if_neg (by decide)]
            by_cases c2 : b = -1
            · rw [c2] at hk2
              unfold axn at hk2
              rw [if_neg c1] at hk2
              simp at hk2
            · exact (isDb_back h1 (hax.2.1.resolve_left c2)).1.symm
      · show at0.1 ≤ 3
        omega
      · show upd (R 9) (6 * h + s.2.2.1 + 1) 0 (6 * h + (s.2.2.1 + 1)) = nI at0.1
        rw [show 6 * h + (s.2.2.1 + 1) = 6 * h + s.2.2.1 + 1 by omega, pk_us, ha0]
        rfl
      · have hk2 : k < at0.1 := hk
        omega
      · exact hg1 k hk
    · have hvn : v < s.2.2.1 := by omega
      rw [addV_old hvn]
      obtain ⟨w1, w2, w3, w4, w5, w6⟩ := h6 v hvn
      refine ⟨?_, ?_, ?_, fun k hk => ?_, mA (v + 1) _ (by omega) w5, fun k hk => ?_⟩
      · show upd (R 5) (5 * h + s.2.2.1) nm (5 * h + v) = _
        rw [pk_un (by omega)]
        exact w1
      · show upd (R 6) (5 * h + s.2.2.1) (nI t) (5 * h + v) = _
        rw [pk_un (by omega)]
        exact w2
      · show upd (R 7) (5 * h + s.2.2.1) (nI (axn a b)) (5 * h + v) = _
        rw [pk_un (by omega)]
        exact w3
      · have hx2 := (h1.2.2.2.1 v hvn).2.1
        show upd (upd (R 8) (2 * (5 * h + s.2.2.1)) a) (2 * (5 * h + s.2.2.1) + 1) b (10 * h + 2 * v + k) = _
        rw [pk_un (by omega), pk_un (by omega)]
        exact w4 k hk
      · show g15 (800 * (5 * h + v) + k) = _
        rw [hg2 _ (by omega)]
        exact w6 k hk
theorem n_var97 {d b : Nat} {A : am_H} {R : Nat → Nat → Int32} {f : mo_F} {s : sg_S} {nm u w : Int32} {t : Nat} (hM : MM b A R f) (hS : MS R f.1 s) (hax : axok s u w) (t1 : 1 ≤ t) (t4 : t ≤ 4) : ∃ B S, pev (d + 2) 156 [some (.ref b), some (.int nm), some (.int (nI t)), some (.int u), some (.int w), none, none] [] A = some (some (.int (if (fnd (fun v => (s.2.2.2.1 v).1) nm s.2.2.1).isSome then -4 else if 5 ≤ s.2.2.1 then -5 else nI s.2.2.1)), B) ∧ MM b B S f ∧ (fnd (fun v => (s.2.2.2.1 v).1) nm s.2.2.1 = none ∧ s.2.2.1 < 5 → ∀ at0 : sg_A, at0.1 = 0 → MS S f.1 (addV s nm t u w at0)) ∧ (¬ (fnd (fun v => (s.2.2.2.1 v).1) nm s.2.2.1 = none ∧ s.2.2.1 < 5) → MS S f.1 s) ∧ (∀ i, 16 ≤ i → S i = R i) ∧ am_fr (at21 b) A B := by
  have hh := hS.2.1
  have h5 := hS.1.2.2.1
  have hb := hM.2.1
  have ixh := x_ix hh (show f.1 < 2147483648 by omega)
  have hnm := n_varNamed (d := d + 1) (nm := nm) (e := -1) hM hh h5 hS.2.2.1.2.1 (fun k hk => (hS.2.2.2.2.2 k hk).1)
  rw [nmd_fnd (by omega)] at hnm
  cases hf : fnd (fun v => (s.2.2.2.1 v).1) nm s.2.2.1 with
  | some j =>
    rw [hf] at hnm
    refine ⟨A, R, ?_, hM, fun e => (by cases e.1), fun _ => hS, fun _ _ => rfl, am_fr.refl A⟩
    refine e_156 ?_; simp only [b_156, i_int, i_long, i_null, i_stat, i_iload, i_lload, i_aload, i_istore, i_astore, i_lstore, i_iinc, i_ii, i_idz, i_i, i_ll, i_lsh, i_i2l, i_l2i, i_lcmp, i_dup, i_pop, i_dup2, i_ifeq, i_ifne, i_iflt, i_ifge, i_ifgt, i_ifle, i_cmpeq, i_cmpne, i_cmplt, i_cmpge, i_cmpgt, i_cmple, i_ifnull, i_ifnonnull, i_getf, am_wr, i_putI, i_putZ, i_putR, i_iald, i_iast, i_aald, i_aast, i_alen, i_newi, i_newq, i_new, i_recv, i_iret, i_zret, i_lret, i_aret, i_vret, List.getElem?_cons_zero, List.getElem?_cons_succ, Option.bind_some, Option.toList_some, Option.toList_none, List.cons_append, List.nil_append, x_nI, am_put, List.length_cons, List.length_nil, List.set_cons_zero, List.set_cons_succ, Nat.reduceAdd, Nat.reduceLT, Nat.reduceLeDiff, Nat.reduceEqDiff, Nat.add_left_cancel_iff, Nat.add_eq_left, Nat.left_eq_add, Nat.succ_ne_self, Nat.reduceSub, reduceIte, ite_self, eq_self, or_true, true_or, or_false, false_or, or_self, i10, not_true_eq_false, not_false_eq_true, x_call1, x_call2, x_call3, x_call4, x_call5, x_call6, x_sl0, x_sli, x_slr, x_sln, x_sll, am_ent, List.map_nil, List.map_cons, List.sum_nil, List.sum_cons, Value.category, and_true, true_and, and_self, Nat.zero_le, List.replicate_succ, List.replicate_zero, List.reduceReplicate, x_obj_set, x_row_set, x_len_set, x_obx, x_rox, x_rv, x_obj hM.1, mo_obj, hnm, Option.isSome_some, bz_true]
  | none =>
    rw [hf] at hnm
    have e5 : (nI s.2.2.1 = nI 5) = (s.2.2.1 = 5) := o_eq (by omega) (by decide)
    by_cases c : s.2.2.1 = 5
    · refine ⟨A, R, ?_, hM, fun e => by omega, fun _ => hS, fun _ _ => rfl, am_fr.refl A⟩
      refine e_156 ?_; simp only [b_156, i_int, i_long, i_null, i_stat, i_iload, i_lload, i_aload, i_istore, i_astore, i_lstore, i_iinc, i_ii, i_idz, i_i, i_ll, i_lsh, i_i2l, i_l2i, i_lcmp, i_dup, i_pop, i_dup2, i_ifeq, i_ifne, i_iflt, i_ifge, i_ifgt, i_ifle, i_cmpeq, i_cmpne, i_cmplt, i_cmpge, i_cmpgt, i_cmple, i_ifnull, i_ifnonnull, i_getf, am_wr, i_putI, i_putZ, i_putR, i_iald, i_iast, i_aald, i_aast, i_alen, i_newi, i_newq, i_new, i_recv, i_iret, i_zret, i_lret, i_aret, i_vret, List.getElem?_cons_zero, List.getElem?_cons_succ, Option.bind_some, Option.toList_some, Option.toList_none, List.cons_append, List.nil_append, x_nI, am_put, List.length_cons, List.length_nil, List.set_cons_zero, List.set_cons_succ, Nat.reduceAdd, Nat.reduceLT, Nat.reduceLeDiff, Nat.reduceEqDiff, Nat.add_left_cancel_iff, Nat.add_eq_left, Nat.left_eq_add, Nat.succ_ne_self, Nat.reduceSub, reduceIte, ite_self, eq_self, or_true, true_or, or_false, false_or, or_self, i10, not_true_eq_false, not_false_eq_true, x_call1, x_call2, x_call3, x_call4, x_call5, x_call6, x_sl0, x_sli, x_slr, x_sln, x_sll, am_ent, List.map_nil, List.map_cons, List.sum_nil, List.sum_cons, Value.category, and_true, true_and, and_self, Nat.zero_le, List.replicate_succ, List.replicate_zero, List.reduceReplicate, x_obj_set, x_row_set, x_len_set, x_obx, x_rox, x_rv, x_obj hM.1, mo_obj, hnm, Option.isSome_none, bz_false, x_row (show A.2.2 (b + 4) = some (.inl (0, 2, R 4)) from hM.2.2 4 (by decide) (by decide)), ixh, hS.2.2.1.2.1, show (5 : Int32) = nI 5 from rfl, e5, c]
      simp
    · have hn5 : s.2.2.1 < 5 := by omega
      have m1 := hM.set (i := 5) (by decide) (by decide) (upd (R 5) (5 * f.1 + s.2.2.1) nm)
      have m2 := m1.set (i := 6) (by decide) (by decide) (upd (R 6) (5 * f.1 + s.2.2.1) (nI t))
      have m3 := m2.set (i := 7) (by decide) (by decide) (upd (R 7) (5 * f.1 + s.2.2.1) (nI (axn u w)))
      have m4 := m3.set (i := 8) (by decide) (by decide) (upd (R 8) (2 * (5 * f.1 + s.2.2.1)) u)
      have m5 := m4.set (i := 8) (by decide) (by decide) (upd (upd (R 8) (2 * (5 * f.1 + s.2.2.1)) u) (2 * (5 * f.1 + s.2.2.1) + 1) w)
      have m6 := m5.set (i := 9) (by decide) (by decide) (upd (R 9) (6 * f.1 + s.2.2.1 + 1) 0)
      obtain ⟨B7, g15, e7, m7, g1, g2, f7⟩ := n_blank (d := d) (t := t) m6 hh hn5 (by
        rw [setR_ne (by decide), setR_ne (by decide), setR_ne (by decide), setR_ne (by decide), setR_self, pk_us]) t1 t4
      have m8 := m7.set (i := 4) (by decide) (by decide) (upd (R 4) f.1 (nI (s.2.2.1 + 1)))
      have hR : setR (setR (setR (setR (setR (setR (setR (setR R 5 (upd (R 5) (5 * f.1 + s.2.2.1) nm)) 6 (upd (R 6) (5 * f.1 + s.2.2.1) (nI t))) 7 (upd (R 7) (5 * f.1 + s.2.2.1) (nI (axn u w)))) 8 (upd (R 8) (2 * (5 * f.1 + s.2.2.1)) u)) 8 (upd (upd (R 8) (2 * (5 * f.1 + s.2.2.1)) u) (2 * (5 * f.1 + s.2.2.1) + 1) w)) 9 (upd (R 9) (6 * f.1 + s.2.2.1 + 1) 0)) 15 g15) 4 (upd (R 4) f.1 (nI (s.2.2.1 + 1))) = vrR R f.1 s.2.2.1 nm t u w g15 := by
        funext r
        unfold setR vrR
        rcases (show r = 4 ∨ r = 5 ∨ r = 6 ∨ r = 7 ∨ r = 8 ∨ r = 9 ∨ r = 15 ∨ (r ≠ 4 ∧ r ≠ 5 ∧ r ≠ 6 ∧ r ≠ 7 ∧ r ≠ 8 ∧ r ≠ 9 ∧ r ≠ 15) by omega) with rfl | rfl | rfl | rfl | rfl | rfl | rfl | ⟨n1, n2, n3, n4, n5, n6, n7⟩
        · rfl
        · rfl
        · rfl
        · rfl
        · rfl
        · rfl
        · rfl
        · rw [if_neg n1, if_neg n7, if_neg n6, if_neg n5, if_neg n5, if_neg n4, if_neg n3, if_neg n2]
          split <;> first | rfl | (exact absurd rfl ‹_›)
      rw [hR] at m8
      have g2' : ∀ i, i < 800 * (5 * f.1 + s.2.2.1) ∨ 800 * (5 * f.1 + s.2.2.1) + 800 ≤ i → g15 i = R 15 i := fun i hi => by
        have := g2 i hi
        rw [setR_ne (by decide), setR_ne (by decide), setR_ne (by decide), setR_ne (by decide), setR_ne (by decide), setR_ne (by decide)] at this
        exact this
      refine ⟨_, _, ?_, m8, fun _ at0 ha0 => vrR_MS hS hax hn5 t1 t4 ha0 g1 g2', fun e => absurd ⟨rfl, hn5⟩ e, fun i hi => ?_, ?_⟩
      · have ix1 := x_ix (show 5 * f.1 + s.2.2.1 < 10 by omega) (show 5 * f.1 + s.2.2.1 < 2147483648 by omega)
        have ix2 := x_ix (show 2 * (5 * f.1 + s.2.2.1) < 20 by omega) (show 2 * (5 * f.1 + s.2.2.1) < 2147483648 by omega)
        have ix3 := x_ix (show 2 * (5 * f.1 + s.2.2.1) + 1 < 20 by omega) (show 2 * (5 * f.1 + s.2.2.1) + 1 < 2147483648 by omega)
        have ix4 := x_ix (show 6 * f.1 + s.2.2.1 + 1 < 12 by omega) (show 6 * f.1 + s.2.2.1 + 1 < 2147483648 by omega)
        have r4 : B7.2.2 (b + 4) = some (.inl (0, 2, R 4)) := by
          have := m7.2.2 4 (by decide) (by decide)
          rw [setR_ne (by decide), setR_ne (by decide), setR_ne (by decide), setR_ne (by decide), setR_ne (by decide), setR_ne (by decide), setR_ne (by decide)] at this
          exact this
        simp only [msz] at e7
        have e157 : pev (d + 2) 157 [some (.ref b), some (.int nm), some (.int (nI t)), some (.int u), some (.int w), some (.int (nI s.2.2.1)), some (.int (nI (5 * f.1 + s.2.2.1)))] [.int (nI (axn u w)), .int (nI (5 * f.1 + s.2.2.1)), .ref (b + 7)] (am_set (am_set A (b + 5) (.inl (0, 10, upd (R 5) (5 * f.1 + s.2.2.1) nm))) (b + 6) (.inl (0, 10, upd (R 6) (5 * f.1 + s.2.2.1) (nI t)))) = some (some (.int (nI s.2.2.1)), am_set B7 (b + 4) (.inl (0, 2, upd (R 4) f.1 (nI (s.2.2.1 + 1))))) := by
          refine e_157 ?_; simp only [b_157, i_int, i_long, i_null, i_stat, i_iload, i_lload, i_aload, i_istore, i_astore, i_lstore, i_iinc, i_ii, i_idz, i_i, i_ll, i_lsh, i_i2l, i_l2i, i_lcmp, i_dup, i_pop, i_dup2, i_ifeq, i_ifne, i_iflt, i_ifge, i_ifgt, i_ifle, i_cmpeq, i_cmpne, i_cmplt, i_cmpge, i_cmpgt, i_cmple, i_ifnull, i_ifnonnull, i_getf, am_wr, i_putI, i_putZ, i_putR, i_iald, i_iast, i_aald, i_aast, i_alen, i_newi, i_newq, i_new, i_recv, i_iret, i_zret, i_lret, i_aret, i_vret, List.getElem?_cons_zero, List.getElem?_cons_succ, Option.bind_some, Option.toList_some, Option.toList_none, List.cons_append, List.nil_append, x_nI, am_put, List.length_cons, List.length_nil, List.set_cons_zero, List.set_cons_succ, Nat.reduceAdd, Nat.reduceLT, Nat.reduceLeDiff, Nat.reduceEqDiff, Nat.add_left_cancel_iff, Nat.add_eq_left, Nat.left_eq_add, Nat.succ_ne_self, Nat.reduceSub, reduceIte, ite_self, eq_self, or_true, true_or, or_false, false_or, or_self, i10, not_true_eq_false, not_false_eq_true, x_call1, x_call2, x_call3, x_call4, x_call5, x_call6, x_sl0, x_sli, x_slr, x_sln, x_sll, am_ent, List.map_nil, List.map_cons, List.sum_nil, List.sum_cons, Value.category, and_true, true_and, and_self, Nat.zero_le, List.replicate_succ, List.replicate_zero, List.reduceReplicate, x_obj_set, x_row_set, x_len_set, x_obx, x_rox, x_rv, x_obj hM.1, mo_obj, x_row (show A.2.2 (b + 7) = some (.inl (0, 10, R 7)) from hM.2.2 7 (by decide) (by decide)), x_row (show A.2.2 (b + 8) = some (.inl (0, 20, R 8)) from hM.2.2 8 (by decide) (by decide)), x_row (show A.2.2 (b + 9) = some (.inl (0, 12, R 9)) from hM.2.2 9 (by decide) (by decide)), ix1, ix2, ix3, ix4, show (2 : Int32) = nI 2 from rfl, show (6 : Int32) = nI 6 from rfl, pk_mul, nI_add, nI_1, x_own (show 5 ≤ b + 7 by omega), x_own (show 5 ≤ b + 8 by omega), x_own (show 5 ≤ b + 9 by omega), e7, x_obj m7.1, x_row r4, ixh, x_own (show 5 ≤ b + 4 by omega)]
        have hne5 : ¬ 5 ≤ s.2.2.1 := by omega
        have e5' : (nI s.2.2.1 = (5 : Int32)) = (s.2.2.1 = 5) := e5
        simp only [msz]
        by_cases c1 : u = -1
        · have e0 : axn u w = 0 := by unfold axn; rw [if_pos c1]
          rw [e0] at e157
          refine e_156 ?_; simp only [b_156, i_int, i_long, i_null, i_stat, i_iload, i_lload, i_aload, i_istore, i_astore, i_lstore, i_iinc, i_ii, i_idz, i_i, i_ll, i_lsh, i_i2l, i_l2i, i_lcmp, i_dup, i_pop, i_dup2, i_ifeq, i_ifne, i_iflt, i_ifge, i_ifgt, i_ifle, i_cmpeq, i_cmpne, i_cmplt, i_cmpge, i_cmpgt, i_cmple, i_ifnull, i_ifnonnull, i_getf, am_wr, i_putI, i_putZ, i_putR, i_iald, i_iast, i_aald, i_aast, i_alen, i_newi, i_newq, i_new, i_recv, i_iret, i_zret, i_lret, i_aret, i_vret, List.getElem?_cons_zero, List.getElem?_cons_succ, Option.bind_some, Option.toList_some, Option.toList_none, List.cons_append, List.nil_append, x_nI, am_put, List.length_cons, List.length_nil, List.set_cons_zero, List.set_cons_succ, Nat.reduceAdd, Nat.reduceLT, Nat.reduceLeDiff, Nat.reduceEqDiff, Nat.add_left_cancel_iff, Nat.add_eq_left, Nat.left_eq_add, Nat.succ_ne_self, Nat.reduceSub, reduceIte, ite_self, eq_self, or_true, true_or, or_false, false_or, or_self, i10, not_true_eq_false, not_false_eq_true, x_call1, x_call2, x_call3, x_call4, x_call5, x_call6, x_sl0, x_sli, x_slr, x_sln, x_sll, am_ent, List.map_nil, List.map_cons, List.sum_nil, List.sum_cons, Value.category, and_true, true_and, and_self, Nat.zero_le, List.replicate_succ, List.replicate_zero, List.reduceReplicate, x_obj_set, x_row_set, x_len_set, x_obx, x_rox, x_rv, x_obj hM.1, mo_obj, hnm, Option.isSome_none, bz_false, x_row (show A.2.2 (b + 4) = some (.inl (0, 2, R 4)) from hM.2.2 4 (by decide) (by decide)), x_row (show A.2.2 (b + 5) = some (.inl (0, 10, R 5)) from hM.2.2 5 (by decide) (by decide)), x_row (show A.2.2 (b + 6) = some (.inl (0, 10, R 6)) from hM.2.2 6 (by decide) (by decide)), ixh, hS.2.2.1.2.1, e5, c, show (5 : Int32) = nI 5 from rfl, pk_mul, nI_add, ix1, x_own (show 5 ≤ b + 5 by omega), x_own (show 5 ≤ b + 6 by omega), c1]
          simp only [c1] at e157
          simp [hne5]
          exact e157
        · by_cases c2 : w = -1
          · have e0 : axn u w = 1 := by unfold axn; rw [if_neg c1, if_pos c2]
            rw [e0] at e157
            refine e_156 ?_; simp only [b_156, i_int, i_long, i_null, i_stat, i_iload, i_lload, i_aload, i_istore, i_astore, i_lstore, i_iinc, i_ii, i_idz, i_i, i_ll, i_lsh, i_i2l, i_l2i, i_lcmp, i_dup, i_pop, i_dup2, i_ifeq, i_ifne, i_iflt, i_ifge, i_ifgt, i_ifle, i_cmpeq, i_cmpne, i_cmplt, i_cmpge, i_cmpgt, i_cmple, i_ifnull, i_ifnonnull, i_getf, am_wr, i_putI, i_putZ, i_putR, i_iald, i_iast, i_aald, i_aast, i_alen, i_newi, i_newq, i_new, i_recv, i_iret, i_zret, i_lret, i_aret, i_vret, List.getElem?_cons_zero, List.getElem?_cons_succ, Option.bind_some, Option.toList_some, Option.toList_none, List.cons_append, List.nil_append, x_nI, am_put, List.length_cons, List.length_nil, List.set_cons_zero, List.set_cons_succ, Nat.reduceAdd, Nat.reduceLT, Nat.reduceLeDiff, Nat.reduceEqDiff, Nat.add_left_cancel_iff, Nat.add_eq_left, Nat.left_eq_add, Nat.succ_ne_self, Nat.reduceSub, reduceIte, ite_self, eq_self, or_true, true_or, or_false, false_or, or_self, i10, not_true_eq_false, not_false_eq_true, x_call1, x_call2, x_call3, x_call4, x_call5, x_call6, x_sl0, x_sli, x_slr, x_sln, x_sll, am_ent, List.map_nil, List.map_cons, List.sum_nil, List.sum_cons, Value.category, and_true, true_and, and_self, Nat.zero_le, List.replicate_succ, List.replicate_zero, List.reduceReplicate, x_obj_set, x_row_set, x_len_set, x_obx, x_rox, x_rv, x_obj hM.1, mo_obj, hnm, Option.isSome_none, bz_false, x_row (show A.2.2 (b + 4) = some (.inl (0, 2, R 4)) from hM.2.2 4 (by decide) (by decide)), x_row (show A.2.2 (b + 5) = some (.inl (0, 10, R 5)) from hM.2.2 5 (by decide) (by decide)), x_row (show A.2.2 (b + 6) = some (.inl (0, 10, R 6)) from hM.2.2 6 (by decide) (by decide)), ixh, hS.2.2.1.2.1, e5, c, show (5 : Int32) = nI 5 from rfl, pk_mul, nI_add, ix1, x_own (show 5 ≤ b + 5 by omega), x_own (show 5 ≤ b + 6 by omega), c1, c2]
            simp only [c2] at e157
            simp [hne5]
            exact e157
          · have e0 : axn u w = 2 := by unfold axn; rw [if_neg c1, if_neg c2]
            rw [e0] at e157
            refine e_156 ?_; simp only [b_156, i_int, i_long, i_null, i_stat, i_iload, i_lload, i_aload, i_istore, i_astore, i_lstore, i_iinc, i_ii, i_idz, i_i, i_ll, i_lsh, i_i2l, i_l2i, i_lcmp, i_dup, i_pop, i_dup2, i_ifeq, i_ifne, i_iflt, i_ifge, i_ifgt, i_ifle, i_cmpeq, i_cmpne, i_cmplt, i_cmpge, i_cmpgt, i_cmple, i_ifnull, i_ifnonnull, i_getf, am_wr, i_putI, i_putZ, i_putR, i_iald, i_iast, i_aald, i_aast, i_alen, i_newi, i_newq, i_new, i_recv, i_iret, i_zret, i_lret, i_aret, i_vret, List.getElem?_cons_zero, List.getElem?_cons_succ, Option.bind_some, Option.toList_some, Option.toList_none, List.cons_append, List.nil_append, x_nI, am_put, List.length_cons, List.length_nil, List.set_cons_zero, List.set_cons_succ, Nat.reduceAdd, Nat.reduceLT, Nat.reduceLeDiff, Nat.reduceEqDiff, Nat.add_left_cancel_iff, Nat.add_eq_left, Nat.left_eq_add, Nat.succ_ne_self, Nat.reduceSub, reduceIte, ite_self, eq_self, or_true, true_or, or_false, false_or, or_self, i10, not_true_eq_false, not_false_eq_true, x_call1, x_call2, x_call3, x_call4, x_call5, x_call6, x_sl0, x_sli, x_slr, x_sln, x_sll, am_ent, List.map_nil, List.map_cons, List.sum_nil, List.sum_cons, Value.category, and_true, true_and, and_self, Nat.zero_le, List.replicate_succ, List.replicate_zero, List.reduceReplicate, x_obj_set, x_row_set, x_len_set, x_obx, x_rox, x_rv, x_obj hM.1, mo_obj, hnm, Option.isSome_none, bz_false, x_row (show A.2.2 (b + 4) = some (.inl (0, 2, R 4)) from hM.2.2 4 (by decide) (by decide)), x_row (show A.2.2 (b + 5) = some (.inl (0, 10, R 5)) from hM.2.2 5 (by decide) (by decide)), x_row (show A.2.2 (b + 6) = some (.inl (0, 10, R 6)) from hM.2.2 6 (by decide) (by decide)), ixh, hS.2.2.1.2.1, e5, c, show (5 : Int32) = nI 5 from rfl, pk_mul, nI_add, ix1, x_own (show 5 ≤ b + 5 by omega), x_own (show 5 ≤ b + 6 by omega), c1, c2]
            simp [hne5]
            exact e157
      · unfold vrR
        split <;> first | rfl | omega
      · exact (((((((am_fr.refl A).set ⟨by omega, by omega⟩).set ⟨by omega, by omega⟩).set ⟨by omega, by omega⟩).set ⟨by omega, by omega⟩).set ⟨by omega, by omega⟩).set ⟨by omega, by omega⟩ |>.trans f7).set ⟨by omega, by omega⟩
theorem n_var71 {d b : Nat} {A : am_H} {R : Nat → Nat → Int32} {f : mo_F} {s : sg_S} {nm u w : Int32} {t : Nat} (hM : MM b A R f) (hS : MS R f.1 s) (hax : (u = -1 ∨ isDb s u = true) ∧ (w = -1 ∨ isDb s w = true) ∧ (u = -1 → w = -1)) (t1 : 1 ≤ t) (t4 : t ≤ 4) : ∃ B S, pev (d + 2) 155 [some (.ref b), some (.int nm), some (.int (nI t)), some (.int u), some (.int w), none, none] [] A = some (some (.int (if lenO s w = 0 then -2 else if (fnd (fun v => (s.2.2.2.1 v).1) nm s.2.2.1).isSome then -4 else if 5 ≤ s.2.2.1 then -5 else nI s.2.2.1)), B) ∧ MM b B S f ∧ (lenO s w ≠ 0 ∧ fnd (fun v => (s.2.2.2.1 v).1) nm s.2.2.1 = none ∧ s.2.2.1 < 5 → ∀ at0 : sg_A, at0.1 = 0 → MS S f.1 (addV s nm t u w at0)) ∧ (¬ (lenO s w ≠ 0 ∧ fnd (fun v => (s.2.2.2.1 v).1) nm s.2.2.1 = none ∧ s.2.2.1 < 5) → MS S f.1 s) ∧ (∀ i, 16 ≤ i → S i = R i) ∧ am_fr (at21 b) A B := by
  have hh := hS.2.1
  have h4 := hS.1.1
  by_cases c1 : lenO s w = 0
  · have hne : w ≠ -1 := fun e => by rw [e, lenO_m1] at c1; cases c1
    have hd := hax.2.1.resolve_left hne
    obtain ⟨k, hk, rfl⟩ := isDb_nI hd (by omega)
    have hl : s.1.2.2 k = 0 := by
      unfold lenO at c1
      rw [hd, nI_clamp (by omega)] at c1
      exact c1
    refine ⟨A, R, ?_, hM, fun e => absurd c1 e.1, fun _ => hS, fun _ _ => rfl, am_fr.refl A⟩
    rw [if_pos c1]
    refine e_155 ?_; simp only [b_155, i_int, i_long, i_null, i_stat, i_iload, i_lload, i_aload, i_istore, i_astore, i_lstore, i_iinc, i_ii, i_idz, i_i, i_ll, i_lsh, i_i2l, i_l2i, i_lcmp, i_dup, i_pop, i_dup2, i_ifeq, i_ifne, i_iflt, i_ifge, i_ifgt, i_ifle, i_cmpeq, i_cmpne, i_cmplt, i_cmpge, i_cmpgt, i_cmple, i_ifnull, i_ifnonnull, i_getf, am_wr, i_putI, i_putZ, i_putR, i_iald, i_iast, i_aald, i_aast, i_alen, i_newi, i_newq, i_new, i_recv, i_iret, i_zret, i_lret, i_aret, i_vret, List.getElem?_cons_zero, List.getElem?_cons_succ, Option.bind_some, Option.toList_some, Option.toList_none, List.cons_append, List.nil_append, x_nI, am_put, List.length_cons, List.length_nil, List.set_cons_zero, List.set_cons_succ, Nat.reduceAdd, Nat.reduceLT, Nat.reduceLeDiff, Nat.reduceEqDiff, Nat.add_left_cancel_iff, Nat.add_eq_left, Nat.left_eq_add, Nat.succ_ne_self, Nat.reduceSub, reduceIte, ite_self, eq_self, or_true, true_or, or_false, false_or, or_self, i10, not_true_eq_false, not_false_eq_true, x_call1, x_call2, x_call3, x_call4, x_call5, x_call6, x_sl0, x_sli, x_slr, x_sln, x_sll, am_ent, List.map_nil, List.map_cons, List.sum_nil, List.sum_cons, Value.category, and_true, true_and, and_self, Nat.zero_le, List.replicate_succ, List.replicate_zero, List.reduceReplicate, x_obj_set, x_row_set, x_len_set, x_obx, x_rox, x_rv, hne, x_obj hM.1, mo_obj, x_row (show A.2.2 (b + 3) = some (.inl (0, 8, R 3)) from hM.2.2 3 (by decide) (by decide)), show (4 : Int32) = nI 4 from rfl, pk_mul, nI_add, x_ix (show 4 * f.1 + k < 8 by omega) (show 4 * f.1 + k < 2147483648 by omega), (hS.2.2.2.1 k hk).2, hl, nI_0]
  · obtain ⟨B, S, e1, m1, y1, y2, k1, f1⟩ := n_var97 (d := d) (nm := nm) (t := t) hM hS ⟨hax.1, hax.2.1, hax.2.2, c1⟩ t1 t4
    refine ⟨B, S, ?_, m1, fun e => y1 e.2, fun e => y2 (fun e2 => e ⟨c1, e2⟩), k1, f1⟩
    rw [if_neg c1]
    by_cases c2 : w = -1
    · refine e_155 ?_; simp only [b_155, i_int, i_long, i_null, i_stat, i_iload, i_lload, i_aload, i_istore, i_astore, i_lstore, i_iinc, i_ii, i_idz, i_i, i_ll, i_lsh, i_i2l, i_l2i, i_lcmp, i_dup, i_pop, i_dup2, i_ifeq, i_ifne, i_iflt, i_ifge, i_ifgt, i_ifle, i_cmpeq, i_cmpne, i_cmplt, i_cmpge, i_cmpgt, i_cmple, i_ifnull, i_ifnonnull, i_getf, am_wr, i_putI, i_putZ, i_putR, i_iald, i_iast, i_aald, i_aast, i_alen, i_newi, i_newq, i_new, i_recv, i_iret, i_zret, i_lret, i_aret, i_vret, List.getElem?_cons_zero, List.getElem?_cons_succ, Option.bind_some, Option.toList_some, Option.toList_none, List.cons_append, List.nil_append, x_nI, am_put, List.length_cons, List.length_nil, List.set_cons_zero, List.set_cons_succ, Nat.reduceAdd, Nat.reduceLT, Nat.reduceLeDiff, Nat.reduceEqDiff, Nat.add_left_cancel_iff, Nat.add_eq_left, Nat.left_eq_add, Nat.succ_ne_self, Nat.reduceSub, reduceIte, ite_self, eq_self, or_true, true_or, or_false, false_or, or_self, i10, not_true_eq_false, not_false_eq_true, x_call1, x_call2, x_call3, x_call4, x_call5, x_call6, x_sl0, x_sli, x_slr, x_sln, x_sll, am_ent, List.map_nil, List.map_cons, List.sum_nil, List.sum_cons, Value.category, and_true, true_and, and_self, Nat.zero_le, List.replicate_succ, List.replicate_zero, List.reduceReplicate, x_obj_set, x_row_set, x_len_set, x_obx, x_rox, x_rv, c2]
      rw [c2] at e1
      exact e1
    · have hd := hax.2.1.resolve_left c2
      obtain ⟨k, hk, rfl⟩ := isDb_nI hd (by omega)
      have hl : ¬ s.1.2.2 k = 0 := by
        unfold lenO at c1
        rw [hd, nI_clamp (by omega)] at c1
        exact c1
      have ez : (nI (s.1.2.2 k) = (0 : Int32)) = (s.1.2.2 k = 0) := o_eq (b := 0) (by have := hS.1.2.1 k hk; omega) (by decide)
      refine e_155 ?_; simp only [b_155, i_int, i_long, i_null, i_stat, i_iload, i_lload, i_aload, i_istore, i_astore, i_lstore, i_iinc, i_ii, i_idz, i_i, i_ll, i_lsh, i_i2l, i_l2i, i_lcmp, i_dup, i_pop, i_dup2, i_ifeq, i_ifne, i_iflt, i_ifge, i_ifgt, i_ifle, i_cmpeq, i_cmpne, i_cmplt, i_cmpge, i_cmpgt, i_cmple, i_ifnull, i_ifnonnull, i_getf, am_wr, i_putI, i_putZ, i_putR, i_iald, i_iast, i_aald, i_aast, i_alen, i_newi, i_newq, i_new, i_recv, i_iret, i_zret, i_lret, i_aret, i_vret, List.getElem?_cons_zero, List.getElem?_cons_succ, Option.bind_some, Option.toList_some, Option.toList_none, List.cons_append, List.nil_append, x_nI, am_put, List.length_cons, List.length_nil, List.set_cons_zero, List.set_cons_succ, Nat.reduceAdd, Nat.reduceLT, Nat.reduceLeDiff, Nat.reduceEqDiff, Nat.add_left_cancel_iff, Nat.add_eq_left, Nat.left_eq_add, Nat.succ_ne_self, Nat.reduceSub, reduceIte, ite_self, eq_self, or_true, true_or, or_false, false_or, or_self, i10, not_true_eq_false, not_false_eq_true, x_call1, x_call2, x_call3, x_call4, x_call5, x_call6, x_sl0, x_sli, x_slr, x_sln, x_sll, am_ent, List.map_nil, List.map_cons, List.sum_nil, List.sum_cons, Value.category, and_true, true_and, and_self, Nat.zero_le, List.replicate_succ, List.replicate_zero, List.reduceReplicate, x_obj_set, x_row_set, x_len_set, x_obx, x_rox, x_rv, c2, x_obj hM.1, mo_obj, x_row (show A.2.2 (b + 3) = some (.inl (0, 8, R 3)) from hM.2.2 3 (by decide) (by decide)), show (4 : Int32) = nI 4 from rfl, pk_mul, nI_add, x_ix (show 4 * f.1 + k < 8 by omega) (show 4 * f.1 + k < 2147483648 by omega), (hS.2.2.2.1 k hk).2, ez, hl]
      exact e1
theorem n_variable {d b : Nat} {A : am_H} {R : Nat → Nat → Int32} {f : mo_F} {s : sg_S} {nm ty u w : Int32} (hM : MM b A R f) (hS : MS R f.1 s) (hd : f.2.1 = false) : ∃ B S, pev (d + 2) 153 [some (.ref b), some (.int nm), some (.int ty), some (.int u), some (.int w), none, none] [] A = some (some (.int (dv_c s nm ty u w)), B) ∧ MM b B S f ∧ (dv_ok s nm ty u w → ∀ at0 : sg_A, at0.1 = 0 → MS S f.1 (addV s nm ty.toNatClampNeg u w at0)) ∧ (¬ dv_ok s nm ty u w → MS S f.1 s) ∧ (∀ i, 16 ≤ i → S i = R i) ∧ am_fr (at21 b) A B := by
  unfold dv_c
  by_cases c1 : isNb nm = true
  · by_cases c2 : isTb ty = true
    · have c2' := c2
      simp only [isTb, Bool.and_eq_true, Bool.not_eq_true', decide_eq_false_iff_not] at c2'
      obtain ⟨ta, tb⟩ := c2'
      have tc : ty ≤ 4 := Int32.not_lt.mp tb
      obtain ⟨t, rfl, ht1, ht4⟩ := isTb_nI c2
      have i1 := n_isDimension (d := d + 1) hM hS u
      have i2 := n_isDimension (d := d + 1) hM hS w
      by_cases c3 : (decide (u = -1) || isDb s u) = true
      · by_cases c4 : (decide (w = -1) || isDb s w) = true
        · have c3' : u = -1 ∨ isDb s u = true := by simpa using c3
          have c4' : w = -1 ∨ isDb s w = true := by simpa using c4
          have go42 : ∀ r, pev (d + 2) 154 [some (.ref b), some (.int nm), some (.int (nI t)), some (.int u), some (.int w), none, none] [] A = some r → pev (d + 2) 153 [some (.ref b), some (.int nm), some (.int (nI t)), some (.int u), some (.int w), none, none] [] A = some r := by
            intro r hr
            by_cases e : u = -1
            · subst e
              refine e_153 ?_; simp only [b_153, i_int, i_long, i_null, i_stat, i_iload, i_lload, i_aload, i_istore, i_astore, i_lstore, i_iinc, i_ii, i_idz, i_i, i_ll, i_lsh, i_i2l, i_l2i, i_lcmp, i_dup, i_pop, i_dup2, i_ifeq, i_ifne, i_iflt, i_ifge, i_ifgt, i_ifle, i_cmpeq, i_cmpne, i_cmplt, i_cmpge, i_cmpgt, i_cmple, i_ifnull, i_ifnonnull, i_getf, am_wr, i_putI, i_putZ, i_putR, i_iald, i_iast, i_aald, i_aast, i_alen, i_newi, i_newq, i_new, i_recv, i_iret, i_zret, i_lret, i_aret, i_vret, List.getElem?_cons_zero, List.getElem?_cons_succ, Option.bind_some, Option.toList_some, Option.toList_none, List.cons_append, List.nil_append, x_nI, am_put, List.length_cons, List.length_nil, List.set_cons_zero, List.set_cons_succ, Nat.reduceAdd, Nat.reduceLT, Nat.reduceLeDiff, Nat.reduceEqDiff, Nat.add_left_cancel_iff, Nat.add_eq_left, Nat.left_eq_add, Nat.succ_ne_self, Nat.reduceSub, reduceIte, ite_self, eq_self, or_true, true_or, or_false, false_or, or_self, i10, not_true_eq_false, not_false_eq_true, x_call1, x_call2, x_call3, x_call4, x_call5, x_call6, x_sl0, x_sli, x_slr, x_sln, x_sll, am_ent, List.map_nil, List.map_cons, List.sum_nil, List.sum_cons, Value.category, and_true, true_and, and_self, Nat.zero_le, List.replicate_succ, List.replicate_zero, List.reduceReplicate, x_obj_set, x_row_set, x_len_set, x_obx, x_rox, x_rv, x_obj hM.1, mo_obj, hd, bz_false, n_isName, c1, bz_true, ta, tc]
              exact hr
            · rw [c3'.resolve_left e] at i1
              refine e_153 ?_; simp only [b_153, i_int, i_long, i_null, i_stat, i_iload, i_lload, i_aload, i_istore, i_astore, i_lstore, i_iinc, i_ii, i_idz, i_i, i_ll, i_lsh, i_i2l, i_l2i, i_lcmp, i_dup, i_pop, i_dup2, i_ifeq, i_ifne, i_iflt, i_ifge, i_ifgt, i_ifle, i_cmpeq, i_cmpne, i_cmplt, i_cmpge, i_cmpgt, i_cmple, i_ifnull, i_ifnonnull, i_getf, am_wr, i_putI, i_putZ, i_putR, i_iald, i_iast, i_aald, i_aast, i_alen, i_newi, i_newq, i_new, i_recv, i_iret, i_zret, i_lret, i_aret, i_vret, List.getElem?_cons_zero, List.getElem?_cons_succ, Option.bind_some, Option.toList_some, Option.toList_none, List.cons_append, List.nil_append, x_nI, am_put, List.length_cons, List.length_nil, List.set_cons_zero, List.set_cons_succ, Nat.reduceAdd, Nat.reduceLT, Nat.reduceLeDiff, Nat.reduceEqDiff, Nat.add_left_cancel_iff, Nat.add_eq_left, Nat.left_eq_add, Nat.succ_ne_self, Nat.reduceSub, reduceIte, ite_self, eq_self, or_true, true_or, or_false, false_or, or_self, i10, not_true_eq_false, not_false_eq_true, x_call1, x_call2, x_call3, x_call4, x_call5, x_call6, x_sl0, x_sli, x_slr, x_sln, x_sll, am_ent, List.map_nil, List.map_cons, List.sum_nil, List.sum_cons, Value.category, and_true, true_and, and_self, Nat.zero_le, List.replicate_succ, List.replicate_zero, List.reduceReplicate, x_obj_set, x_row_set, x_len_set, x_obx, x_rox, x_rv, x_obj hM.1, mo_obj, hd, bz_false, n_isName, c1, bz_true, ta, tc, e, i1]
              exact hr
          by_cases c5 : u = -1 ∧ w ≠ -1
          · refine ⟨A, R, go42 _ ?_, hM, fun hh => absurd (hh.2.2.1.2.2.1 c5.1) c5.2, fun _ => hS, fun _ _ => rfl, am_fr.refl A⟩
            obtain ⟨e1, e2⟩ := c5
            subst e1
            rw [c4'.resolve_left e2] at i2
            refine e_154 ?_; simp only [b_154, i_int, i_long, i_null, i_stat, i_iload, i_lload, i_aload, i_istore, i_astore, i_lstore, i_iinc, i_ii, i_idz, i_i, i_ll, i_lsh, i_i2l, i_l2i, i_lcmp, i_dup, i_pop, i_dup2, i_ifeq, i_ifne, i_iflt, i_ifge, i_ifgt, i_ifle, i_cmpeq, i_cmpne, i_cmplt, i_cmpge, i_cmpgt, i_cmple, i_ifnull, i_ifnonnull, i_getf, am_wr, i_putI, i_putZ, i_putR, i_iald, i_iast, i_aald, i_aast, i_alen, i_newi, i_newq, i_new, i_recv, i_iret, i_zret, i_lret, i_aret, i_vret, List.getElem?_cons_zero, List.getElem?_cons_succ, Option.bind_some, Option.toList_some, Option.toList_none, List.cons_append, List.nil_append, x_nI, am_put, List.length_cons, List.length_nil, List.set_cons_zero, List.set_cons_succ, Nat.reduceAdd, Nat.reduceLT, Nat.reduceLeDiff, Nat.reduceEqDiff, Nat.add_left_cancel_iff, Nat.add_eq_left, Nat.left_eq_add, Nat.succ_ne_self, Nat.reduceSub, reduceIte, ite_self, eq_self, or_true, true_or, or_false, false_or, or_self, i10, not_true_eq_false, not_false_eq_true, x_call1, x_call2, x_call3, x_call4, x_call5, x_call6, x_sl0, x_sli, x_slr, x_sln, x_sll, am_ent, List.map_nil, List.map_cons, List.sum_nil, List.sum_cons, Value.category, and_true, true_and, and_self, Nat.zero_le, List.replicate_succ, List.replicate_zero, List.reduceReplicate, x_obj_set, x_row_set, x_len_set, x_obx, x_rox, x_rv, e2, x_obj hM.1, i2, bz_true]
            simp [c1, c2, e2]
          · have c5' : u = -1 → w = -1 := fun e => by
              by_cases e2 : w = -1
              · exact e2
              · exact absurd ⟨e, e2⟩ c5
            obtain ⟨B, S, e1, m1, y1, y2, k1, f1⟩ := n_var71 (d := d) (nm := nm) (t := t) hM hS ⟨c3', c4', c5'⟩ ht1 ht4
            rw [nI_clamp (by omega)]
            have hdd : (decide (u = -1) && !decide (w = -1)) = false := by
              by_cases e : u = -1
              · simp [e, c5' e]
              · simp [e]
            refine ⟨B, S, go42 _ ?_, m1, fun hh => y1 ⟨hh.2.2.1.2.2.2, hh.2.2.2.1, hh.2.2.2.2⟩, fun hh => y2 (fun e => hh ⟨c1, c2, ⟨c3', c4', c5', e.1⟩, e.2.1, e.2.2⟩), k1, f1⟩
            rw [c1, c2, c3, c4, hdd]
            simp only [Bool.not_true, Bool.or_self, Bool.false_eq_true, if_false]
            by_cases e2 : w = -1
            · subst e2
              by_cases e : u = -1
              · subst e
                refine e_154 ?_; simp only [b_154, i_int, i_long, i_null, i_stat, i_iload, i_lload, i_aload, i_istore, i_astore, i_lstore, i_iinc, i_ii, i_idz, i_i, i_ll, i_lsh, i_i2l, i_l2i, i_lcmp, i_dup, i_pop, i_dup2, i_ifeq, i_ifne, i_iflt, i_ifge, i_ifgt, i_ifle, i_cmpeq, i_cmpne, i_cmplt, i_cmpge, i_cmpgt, i_cmple, i_ifnull, i_ifnonnull, i_getf, am_wr, i_putI, i_putZ, i_putR, i_iald, i_iast, i_aald, i_aast, i_alen, i_newi, i_newq, i_new, i_recv, i_iret, i_zret, i_lret, i_aret, i_vret, List.getElem?_cons_zero, List.getElem?_cons_succ, Option.bind_some, Option.toList_some, Option.toList_none, List.cons_append, List.nil_append, x_nI, am_put, List.length_cons, List.length_nil, List.set_cons_zero, List.set_cons_succ, Nat.reduceAdd, Nat.reduceLT, Nat.reduceLeDiff, Nat.reduceEqDiff, Nat.add_left_cancel_iff, Nat.add_eq_left, Nat.left_eq_add, Nat.succ_ne_self, Nat.reduceSub, reduceIte, ite_self, eq_self, or_true, true_or, or_false, false_or, or_self, i10, not_true_eq_false, not_false_eq_true, x_call1, x_call2, x_call3, x_call4, x_call5, x_call6, x_sl0, x_sli, x_slr, x_sln, x_sll, am_ent, List.map_nil, List.map_cons, List.sum_nil, List.sum_cons, Value.category, and_true, true_and, and_self, Nat.zero_le, List.replicate_succ, List.replicate_zero, List.reduceReplicate, x_obj_set, x_row_set, x_len_set, x_obx, x_rox, x_rv]
                exact e1
              · refine e_154 ?_; simp only [b_154, i_int, i_long, i_null, i_stat, i_iload, i_lload, i_aload, i_istore, i_astore, i_lstore, i_iinc, i_ii, i_idz, i_i, i_ll, i_lsh, i_i2l, i_l2i, i_lcmp, i_dup, i_pop, i_dup2, i_ifeq, i_ifne, i_iflt, i_ifge, i_ifgt, i_ifle, i_cmpeq, i_cmpne, i_cmplt, i_cmpge, i_cmpgt, i_cmple, i_ifnull, i_ifnonnull, i_getf, am_wr, i_putI, i_putZ, i_putR, i_iald, i_iast, i_aald, i_aast, i_alen, i_newi, i_newq, i_new, i_recv, i_iret, i_zret, i_lret, i_aret, i_vret, List.getElem?_cons_zero, List.getElem?_cons_succ, Option.bind_some, Option.toList_some, Option.toList_none, List.cons_append, List.nil_append, x_nI, am_put, List.length_cons, List.length_nil, List.set_cons_zero, List.set_cons_succ, Nat.reduceAdd, Nat.reduceLT, Nat.reduceLeDiff, Nat.reduceEqDiff, Nat.add_left_cancel_iff, Nat.add_eq_left, Nat.left_eq_add, Nat.succ_ne_self, Nat.reduceSub, reduceIte, ite_self, eq_self, or_true, true_or, or_false, false_or, or_self, i10, not_true_eq_false, not_false_eq_true, x_call1, x_call2, x_call3, x_call4, x_call5, x_call6, x_sl0, x_sli, x_slr, x_sln, x_sll, am_ent, List.map_nil, List.map_cons, List.sum_nil, List.sum_cons, Value.category, and_true, true_and, and_self, Nat.zero_le, List.replicate_succ, List.replicate_zero, List.reduceReplicate, x_obj_set, x_row_set, x_len_set, x_obx, x_rox, x_rv, e]
                exact e1
            · have e : ¬ u = -1 := fun e => e2 (c5' e)
              rw [c4'.resolve_left e2] at i2
              refine e_154 ?_; simp only [b_154, i_int, i_long, i_null, i_stat, i_iload, i_lload, i_aload, i_istore, i_astore, i_lstore, i_iinc, i_ii, i_idz, i_i, i_ll, i_lsh, i_i2l, i_l2i, i_lcmp, i_dup, i_pop, i_dup2, i_ifeq, i_ifne, i_iflt, i_ifge, i_ifgt, i_ifle, i_cmpeq, i_cmpne, i_cmplt, i_cmpge, i_cmpgt, i_cmple, i_ifnull, i_ifnonnull, i_getf, am_wr, i_putI, i_putZ, i_putR, i_iald, i_iast, i_aald, i_aast, i_alen, i_newi, i_newq, i_new, i_recv, i_iret, i_zret, i_lret, i_aret, i_vret, List.getElem?_cons_zero, List.getElem?_cons_succ, Option.bind_some, Option.toList_some, Option.toList_none, List.cons_append, List.nil_append, x_nI, am_put, List.length_cons, List.length_nil, List.set_cons_zero, List.set_cons_succ, Nat.reduceAdd, Nat.reduceLT, Nat.reduceLeDiff, Nat.reduceEqDiff, Nat.add_left_cancel_iff, Nat.add_eq_left, Nat.left_eq_add, Nat.succ_ne_self, Nat.reduceSub, reduceIte, ite_self, eq_self, or_true, true_or, or_false, false_or, or_self, i10, not_true_eq_false, not_false_eq_true, x_call1, x_call2, x_call3, x_call4, x_call5, x_call6, x_sl0, x_sli, x_slr, x_sln, x_sll, am_ent, List.map_nil, List.map_cons, List.sum_nil, List.sum_cons, Value.category, and_true, true_and, and_self, Nat.zero_le, List.replicate_succ, List.replicate_zero, List.reduceReplicate, x_obj_set, x_row_set, x_len_set, x_obx, x_rox, x_rv, e, e2, x_obj hM.1, i2, bz_true]
              exact e1
        · have c4' : ¬ (w = -1 ∨ isDb s w = true) := by simpa using c4
          have c3' : u = -1 ∨ isDb s u = true := by simpa using c3
          simp only [Bool.not_eq_true] at c4
          have n1 : ¬ w = -1 := fun e => c4' (Or.inl e)
          have n2 : isDb s w = false := by
            cases hq : isDb s w
            · rfl
            · exact absurd (Or.inr hq) c4'
          rw [n2] at i2
          have e42 : pev (d + 2) 154 [some (.ref b), some (.int nm), some (.int (nI t)), some (.int u), some (.int w), none, none] [] A = some (some (.int (-3)), A) := by
            refine e_154 ?_; simp only [b_154, i_int, i_long, i_null, i_stat, i_iload, i_lload, i_aload, i_istore, i_astore, i_lstore, i_iinc, i_ii, i_idz, i_i, i_ll, i_lsh, i_i2l, i_l2i, i_lcmp, i_dup, i_pop, i_dup2, i_ifeq, i_ifne, i_iflt, i_ifge, i_ifgt, i_ifle, i_cmpeq, i_cmpne, i_cmplt, i_cmpge, i_cmpgt, i_cmple, i_ifnull, i_ifnonnull, i_getf, am_wr, i_putI, i_putZ, i_putR, i_iald, i_iast, i_aald, i_aast, i_alen, i_newi, i_newq, i_new, i_recv, i_iret, i_zret, i_lret, i_aret, i_vret, List.getElem?_cons_zero, List.getElem?_cons_succ, Option.bind_some, Option.toList_some, Option.toList_none, List.cons_append, List.nil_append, x_nI, am_put, List.length_cons, List.length_nil, List.set_cons_zero, List.set_cons_succ, Nat.reduceAdd, Nat.reduceLT, Nat.reduceLeDiff, Nat.reduceEqDiff, Nat.add_left_cancel_iff, Nat.add_eq_left, Nat.left_eq_add, Nat.succ_ne_self, Nat.reduceSub, reduceIte, ite_self, eq_self, or_true, true_or, or_false, false_or, or_self, i10, not_true_eq_false, not_false_eq_true, x_call1, x_call2, x_call3, x_call4, x_call5, x_call6, x_sl0, x_sli, x_slr, x_sln, x_sll, am_ent, List.map_nil, List.map_cons, List.sum_nil, List.sum_cons, Value.category, and_true, true_and, and_self, Nat.zero_le, List.replicate_succ, List.replicate_zero, List.reduceReplicate, x_obj_set, x_row_set, x_len_set, x_obx, x_rox, x_rv, n1, x_obj hM.1, i2, bz_false]
          refine ⟨A, R, ?_, hM, fun hh => absurd hh.2.2.1.2.1 c4', fun _ => hS, fun _ _ => rfl, am_fr.refl A⟩
          rw [show (if (!isNb nm || !isTb (nI t)) = true then (-2 : Int32) else _) = -3 by simp [c1, c2, c4]]
          by_cases e : u = -1
          · subst e
            refine e_153 ?_; simp only [b_153, i_int, i_long, i_null, i_stat, i_iload, i_lload, i_aload, i_istore, i_astore, i_lstore, i_iinc, i_ii, i_idz, i_i, i_ll, i_lsh, i_i2l, i_l2i, i_lcmp, i_dup, i_pop, i_dup2, i_ifeq, i_ifne, i_iflt, i_ifge, i_ifgt, i_ifle, i_cmpeq, i_cmpne, i_cmplt, i_cmpge, i_cmpgt, i_cmple, i_ifnull, i_ifnonnull, i_getf, am_wr, i_putI, i_putZ, i_putR, i_iald, i_iast, i_aald, i_aast, i_alen, i_newi, i_newq, i_new, i_recv, i_iret, i_zret, i_lret, i_aret, i_vret, List.getElem?_cons_zero, List.getElem?_cons_succ, Option.bind_some, Option.toList_some, Option.toList_none, List.cons_append, List.nil_append, x_nI, am_put, List.length_cons, List.length_nil, List.set_cons_zero, List.set_cons_succ, Nat.reduceAdd, Nat.reduceLT, Nat.reduceLeDiff, Nat.reduceEqDiff, Nat.add_left_cancel_iff, Nat.add_eq_left, Nat.left_eq_add, Nat.succ_ne_self, Nat.reduceSub, reduceIte, ite_self, eq_self, or_true, true_or, or_false, false_or, or_self, i10, not_true_eq_false, not_false_eq_true, x_call1, x_call2, x_call3, x_call4, x_call5, x_call6, x_sl0, x_sli, x_slr, x_sln, x_sll, am_ent, List.map_nil, List.map_cons, List.sum_nil, List.sum_cons, Value.category, and_true, true_and, and_self, Nat.zero_le, List.replicate_succ, List.replicate_zero, List.reduceReplicate, x_obj_set, x_row_set, x_len_set, x_obx, x_rox, x_rv, x_obj hM.1, mo_obj, hd, bz_false, n_isName, c1, bz_true, ta, tc]
            exact e42
          · rw [c3'.resolve_left e] at i1
            refine e_153 ?_; simp only [b_153, i_int, i_long, i_null, i_stat, i_iload, i_lload, i_aload, i_istore, i_astore, i_lstore, i_iinc, i_ii, i_idz, i_i, i_ll, i_lsh, i_i2l, i_l2i, i_lcmp, i_dup, i_pop, i_dup2, i_ifeq, i_ifne, i_iflt, i_ifge, i_ifgt, i_ifle, i_cmpeq, i_cmpne, i_cmplt, i_cmpge, i_cmpgt, i_cmple, i_ifnull, i_ifnonnull, i_getf, am_wr, i_putI, i_putZ, i_putR, i_iald, i_iast, i_aald, i_aast, i_alen, i_newi, i_newq, i_new, i_recv, i_iret, i_zret, i_lret, i_aret, i_vret, List.getElem?_cons_zero, List.getElem?_cons_succ, Option.bind_some, Option.toList_some, Option.toList_none, List.cons_append, List.nil_append, x_nI, am_put, List.length_cons, List.length_nil, List.set_cons_zero, List.set_cons_succ, Nat.reduceAdd, Nat.reduceLT, Nat.reduceLeDiff, Nat.reduceEqDiff, Nat.add_left_cancel_iff, Nat.add_eq_left, Nat.left_eq_add, Nat.succ_ne_self, Nat.reduceSub, reduceIte, ite_self, eq_self, or_true, true_or, or_false, false_or, or_self, i10, not_true_eq_false, not_false_eq_true, x_call1, x_call2, x_call3, x_call4, x_call5, x_call6, x_sl0, x_sli, x_slr, x_sln, x_sll, am_ent, List.map_nil, List.map_cons, List.sum_nil, List.sum_cons, Value.category, and_true, true_and, and_self, Nat.zero_le, List.replicate_succ, List.replicate_zero, List.reduceReplicate, x_obj_set, x_row_set, x_len_set, x_obx, x_rox, x_rv, x_obj hM.1, mo_obj, hd, bz_false, n_isName, c1, bz_true, ta, tc, e, i1]
            exact e42
      · have c3' : ¬ (u = -1 ∨ isDb s u = true) := by simpa using c3
        simp only [Bool.not_eq_true] at c3
        have n1 : ¬ u = -1 := fun e => c3' (Or.inl e)
        have n2 : isDb s u = false := by
          cases hq : isDb s u
          · rfl
          · exact absurd (Or.inr hq) c3'
        rw [n2] at i1
        refine ⟨A, R, ?_, hM, fun hh => absurd hh.2.2.1.1 c3', fun _ => hS, fun _ _ => rfl, am_fr.refl A⟩
        refine e_153 ?_; simp only [b_153, i_int, i_long, i_null, i_stat, i_iload, i_lload, i_aload, i_istore, i_astore, i_lstore, i_iinc, i_ii, i_idz, i_i, i_ll, i_lsh, i_i2l, i_l2i, i_lcmp, i_dup, i_pop, i_dup2, i_ifeq, i_ifne, i_iflt, i_ifge, i_ifgt, i_ifle, i_cmpeq, i_cmpne, i_cmplt, i_cmpge, i_cmpgt, i_cmple, i_ifnull, i_ifnonnull, i_getf, am_wr, i_putI, i_putZ, i_putR, i_iald, i_iast, i_aald, i_aast, i_alen, i_newi, i_newq, i_new, i_recv, i_iret, i_zret, i_lret, i_aret, i_vret, List.getElem?_cons_zero, List.getElem?_cons_succ, Option.bind_some, Option.toList_some, Option.toList_none, List.cons_append, List.nil_append, x_nI, am_put, List.length_cons, List.length_nil, List.set_cons_zero, List.set_cons_succ, Nat.reduceAdd, Nat.reduceLT, Nat.reduceLeDiff, Nat.reduceEqDiff, Nat.add_left_cancel_iff, Nat.add_eq_left, Nat.left_eq_add, Nat.succ_ne_self, Nat.reduceSub, reduceIte, ite_self, eq_self, or_true, true_or, or_false, false_or, or_self, i10, not_true_eq_false, not_false_eq_true, x_call1, x_call2, x_call3, x_call4, x_call5, x_call6, x_sl0, x_sli, x_slr, x_sln, x_sll, am_ent, List.map_nil, List.map_cons, List.sum_nil, List.sum_cons, Value.category, and_true, true_and, and_self, Nat.zero_le, List.replicate_succ, List.replicate_zero, List.reduceReplicate, x_obj_set, x_row_set, x_len_set, x_obx, x_rox, x_rv, x_obj hM.1, mo_obj, hd, bz_false, n_isName, c1, bz_true, ta, tc, n1, i1]
        simp [c2, n1, n2]
    · refine ⟨A, R, ?_, hM, fun hh => absurd hh.2.1 c2, fun _ => hS, fun _ _ => rfl, am_fr.refl A⟩
      simp only [Bool.not_eq_true] at c2
      by_cases ta : ty < 1
      · refine e_153 ?_; simp only [b_153, i_int, i_long, i_null, i_stat, i_iload, i_lload, i_aload, i_istore, i_astore, i_lstore, i_iinc, i_ii, i_idz, i_i, i_ll, i_lsh, i_i2l, i_l2i, i_lcmp, i_dup, i_pop, i_dup2, i_ifeq, i_ifne, i_iflt, i_ifge, i_ifgt, i_ifle, i_cmpeq, i_cmpne, i_cmplt, i_cmpge, i_cmpgt, i_cmple, i_ifnull, i_ifnonnull, i_getf, am_wr, i_putI, i_putZ, i_putR, i_iald, i_iast, i_aald, i_aast, i_alen, i_newi, i_newq, i_new, i_recv, i_iret, i_zret, i_lret, i_aret, i_vret, List.getElem?_cons_zero, List.getElem?_cons_succ, Option.bind_some, Option.toList_some, Option.toList_none, List.cons_append, List.nil_append, x_nI, am_put, List.length_cons, List.length_nil, List.set_cons_zero, List.set_cons_succ, Nat.reduceAdd, Nat.reduceLT, Nat.reduceLeDiff, Nat.reduceEqDiff, Nat.add_left_cancel_iff, Nat.add_eq_left, Nat.left_eq_add, Nat.succ_ne_self, Nat.reduceSub, reduceIte, ite_self, eq_self, or_true, true_or, or_false, false_or, or_self, i10, not_true_eq_false, not_false_eq_true, x_call1, x_call2, x_call3, x_call4, x_call5, x_call6, x_sl0, x_sli, x_slr, x_sln, x_sll, am_ent, List.map_nil, List.map_cons, List.sum_nil, List.sum_cons, Value.category, and_true, true_and, and_self, Nat.zero_le, List.replicate_succ, List.replicate_zero, List.reduceReplicate, x_obj_set, x_row_set, x_len_set, x_obx, x_rox, x_rv, x_obj hM.1, mo_obj, hd, bz_false, n_isName, c1, bz_true, ta]
        simp [c2]
      · have tc : ¬ ty ≤ 4 := fun e => by
          have : isTb ty = true := by simp [isTb, ta, Int32.not_lt.mpr e]
          rw [c2] at this
          cases this
        refine e_153 ?_; simp only [b_153, i_int, i_long, i_null, i_stat, i_iload, i_lload, i_aload, i_istore, i_astore, i_lstore, i_iinc, i_ii, i_idz, i_i, i_ll, i_lsh, i_i2l, i_l2i, i_lcmp, i_dup, i_pop, i_dup2, i_ifeq, i_ifne, i_iflt, i_ifge, i_ifgt, i_ifle, i_cmpeq, i_cmpne, i_cmplt, i_cmpge, i_cmpgt, i_cmple, i_ifnull, i_ifnonnull, i_getf, am_wr, i_putI, i_putZ, i_putR, i_iald, i_iast, i_aald, i_aast, i_alen, i_newi, i_newq, i_new, i_recv, i_iret, i_zret, i_lret, i_aret, i_vret, List.getElem?_cons_zero, List.getElem?_cons_succ, Option.bind_some, Option.toList_some, Option.toList_none, List.cons_append, List.nil_append, x_nI, am_put, List.length_cons, List.length_nil, List.set_cons_zero, List.set_cons_succ, Nat.reduceAdd, Nat.reduceLT, Nat.reduceLeDiff, Nat.reduceEqDiff, Nat.add_left_cancel_iff, Nat.add_eq_left, Nat.left_eq_add, Nat.succ_ne_self, Nat.reduceSub, reduceIte, ite_self, eq_self, or_true, true_or, or_false, false_or, or_self, i10, not_true_eq_false, not_false_eq_true, x_call1, x_call2, x_call3, x_call4, x_call5, x_call6, x_sl0, x_sli, x_slr, x_sln, x_sll, am_ent, List.map_nil, List.map_cons, List.sum_nil, List.sum_cons, Value.category, and_true, true_and, and_self, Nat.zero_le, List.replicate_succ, List.replicate_zero, List.reduceReplicate, x_obj_set, x_row_set, x_len_set, x_obx, x_rox, x_rv, x_obj hM.1, mo_obj, hd, bz_false, n_isName, c1, bz_true, ta, tc]
        simp [c2]
  · refine ⟨A, R, ?_, hM, fun hh => absurd hh.1 c1, fun _ => hS, fun _ _ => rfl, am_fr.refl A⟩
    simp only [Bool.not_eq_true] at c1
    refine e_153 ?_; simp only [b_153, i_int, i_long, i_null, i_stat, i_iload, i_lload, i_aload, i_istore, i_astore, i_lstore, i_iinc, i_ii, i_idz, i_i, i_ll, i_lsh, i_i2l, i_l2i, i_lcmp, i_dup, i_pop, i_dup2, i_ifeq, i_ifne, i_iflt, i_ifge, i_ifgt, i_ifle, i_cmpeq, i_cmpne, i_cmplt, i_cmpge, i_cmpgt, i_cmple, i_ifnull, i_ifnonnull, i_getf, am_wr, i_putI, i_putZ, i_putR, i_iald, i_iast, i_aald, i_aast, i_alen, i_newi, i_newq, i_new, i_recv, i_iret, i_zret, i_lret, i_aret, i_vret, List.getElem?_cons_zero, List.getElem?_cons_succ, Option.bind_some, Option.toList_some, Option.toList_none, List.cons_append, List.nil_append, x_nI, am_put, List.length_cons, List.length_nil, List.set_cons_zero, List.set_cons_succ, Nat.reduceAdd, Nat.reduceLT, Nat.reduceLeDiff, Nat.reduceEqDiff, Nat.add_left_cancel_iff, Nat.add_eq_left, Nat.left_eq_add, Nat.succ_ne_self, Nat.reduceSub, reduceIte, ite_self, eq_self, or_true, true_or, or_false, false_or, or_self, i10, not_true_eq_false, not_false_eq_true, x_call1, x_call2, x_call3, x_call4, x_call5, x_call6, x_sl0, x_sli, x_slr, x_sln, x_sll, am_ent, List.map_nil, List.map_cons, List.sum_nil, List.sum_cons, Value.category, and_true, true_and, and_self, Nat.zero_le, List.replicate_succ, List.replicate_zero, List.reduceReplicate, x_obj_set, x_row_set, x_len_set, x_obx, x_rox, x_rv, x_obj hM.1, mo_obj, hd, bz_false, n_isName, c1]
    simp
theorem n_variableM {d b : Nat} {A : am_H} {R : Nat → Nat → Int32} {f : mo_F} {nm ty u w : Int32} (hM : MM b A R f) (hd : f.2.1 = true) : pev d 153 [some (.ref b), some (.int nm), some (.int ty), some (.int u), some (.int w), none, none] [] A = some (some (.int (-1)), A) := by
  refine e_153 ?_; simp only [b_153, i_int, i_long, i_null, i_stat, i_iload, i_lload, i_aload, i_istore, i_astore, i_lstore, i_iinc, i_ii, i_idz, i_i, i_ll, i_lsh, i_i2l, i_l2i, i_lcmp, i_dup, i_pop, i_dup2, i_ifeq, i_ifne, i_iflt, i_ifge, i_ifgt, i_ifle, i_cmpeq, i_cmpne, i_cmplt, i_cmpge, i_cmpgt, i_cmple, i_ifnull, i_ifnonnull, i_getf, am_wr, i_putI, i_putZ, i_putR, i_iald, i_iast, i_aald, i_aast, i_alen, i_newi, i_newq, i_new, i_recv, i_iret, i_zret, i_lret, i_aret, i_vret, List.getElem?_cons_zero, List.getElem?_cons_succ, Option.bind_some, Option.toList_some, Option.toList_none, List.cons_append, List.nil_append, x_nI, am_put, List.length_cons, List.length_nil, List.set_cons_zero, List.set_cons_succ, Nat.reduceAdd, Nat.reduceLT, Nat.reduceLeDiff, Nat.reduceEqDiff, Nat.add_left_cancel_iff, Nat.add_eq_left, Nat.left_eq_add, Nat.succ_ne_self, Nat.reduceSub, reduceIte, ite_self, eq_self, or_true, true_or, or_false, false_or, or_self, i10, not_true_eq_false, not_false_eq_true, x_call1, x_call2, x_call3, x_call4, x_call5, x_call6, x_sl0, x_sli, x_slr, x_sln, x_sll, am_ent, List.map_nil, List.map_cons, List.sum_nil, List.sum_cons, Value.category, and_true, true_and, and_self, Nat.zero_le, List.replicate_succ, List.replicate_zero, List.reduceReplicate, x_obj_set, x_row_set, x_len_set, x_obx, x_rox, x_rv, x_obj hM.1, mo_obj, hd, bz_true]
