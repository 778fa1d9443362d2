theorem am_St.kept {A B : am_H} {P : Nat → Prop} (h : am_St A) (hf : am_fr P A B) (hP : ∀ q, q < 5 → ¬ P q) : am_St B := ⟨(hf.2.2 _ (hP _ (by decide))).trans h.1, (hf.2.2 _ (hP _ (by decide))).trans h.2.1, (hf.2.2 _ (hP _ (by decide))).trans h.2.2.1, (hf.2.2 _ (hP _ (by decide))).trans h.2.2.2⟩
/-! taking one off: rows move up -/
def rsh (f g : Nat → Int32) (n pl j : Nat) : Prop := ∀ i, i < n → (i < pl → g i = f i) ∧ (pl ≤ i → i + 1 < j → g i = f (i + 1)) ∧ (j ≤ i → g i = f i)
theorem rsh_step {f g : Nat → Int32} {n pl j : Nat} (h : rsh f g n pl (j + 1)) (hj : j + 1 < n) (hp : pl ≤ j) : rsh f (upd g j (g (j + 1))) n pl (j + 2) := by
  intro i hi
  obtain ⟨h1, h2, h3⟩ := h i hi
  refine ⟨fun c => ?_, fun c c2 => ?_, fun c => ?_⟩
  · rw [pk_un (by omega)]; exact h1 c
  · by_cases he : i = j
    · subst he
      rw [pk_us]
      exact (h (i + 1) hj).2.2 (Nat.le_refl _)
    · rw [pk_un he]
      exact h2 c (by omega)
  · rw [pk_un (by omega)]; exact h3 (by omega)
theorem rsh_end {f g : Nat → Int32} {n pl : Nat} (h : rsh f g n pl n) {i : Nat} (hi : i < n - 1) : g i = if i < pl then f i else f (i + 1) := by
  obtain ⟨h1, h2, h3⟩ := h i (by omega)
  split
  · rename_i c; exact h1 c
  · rename_i c; exact h2 (by omega) (by omega)
def al_rm (a : sg_A) (k : Nat) : sg_A := (a.1 - 1, (fun j => if j < k then a.2.1 j else a.2.1 (j + 1)), (fun j => if j < k then a.2.2.1 j else a.2.2.1 (j + 1)), (fun j => if j < k then a.2.2.2.1 j else a.2.2.2.1 (j + 1)), (fun j => if j < k then a.2.2.2.2 j else a.2.2.2.2 (j + 1)))
theorem k_takeOff24 {d p pl : Nat} {a : sg_A} {nm : Int32} (hn : a.1 ≤ 3) (hpl : pl < a.1) (hp : 5 ≤ p) (ht : ∀ k, k < a.1 → 1 ≤ a.2.2.1 k ∧ a.2.2.1 k ≤ 4) : ∀ (m j : Nat), j + 1 + m = a.1 → pl ≤ j → ∀ {A : am_H} {g1 g2 g3 g4 : Nat → Int32}, A.2.2 p = some (.inr (.inr (0, [.int (nI a.1), .ref (p + 1), .ref (p + 2), .ref (p + 3), .ref (p + 4)]))) → A.2.2 (p + 1) = some (.inl (0, 3, g1)) → A.2.2 (p + 2) = some (.inl (0, 3, g2)) → A.2.2 (p + 3) = some (.inl (0, 3, g3)) → A.2.2 (p + 4) = some (.inl (0, 3, g4)) →
    rsh a.2.1 g1 a.1 pl (j + 1) → rsh (fun k => nI (a.2.2.1 k)) g2 a.1 pl (j + 1) → rsh a.2.2.2.1 g3 a.1 pl (j + 1) → rsh a.2.2.2.2 g4 a.1 pl (j + 1) → ∃ B, pev d 34 [some (.ref p), some (.int nm), some (.int (nI pl)), some (.int (nI (j + 1)))] [] A = some (some (.int 0), B) ∧ AL p B (al_rm a pl) ∧ am_fr (at5 p) A B := by
  intro m
  induction m with
  | zero =>
    intro j hj hpj A g1 g2 g3 g4 h0 h1 h2 h3 h4 r1 r2 r3 r4
    have hja : j + 1 = a.1 := by omega
    refine ⟨am_set A p (.inr (.inr (0, [.int (nI (a.1 - 1)), .ref (p + 1), .ref (p + 2), .ref (p + 3), .ref (p + 4)]))), ?_, ?_, (am_fr.refl A).set ⟨by omega, by omega⟩⟩
    · have hc : nI a.1 ≤ nI (j + 1) := nI_le (by omega) (by omega)
      refine e_34 ?_; simp only [b_34, i_int, i_long, i_null, i_stat, i_iload, i_lload, i_aload, i_istore, i_astore, i_lstore, i_iinc, i_ii, i_idz, i_i, i_ll, i_lsh, i_i2l, i_l2i, i_lcmp, i_dup, i_pop, i_dup2, i_ifeq, i_ifne, i_iflt, i_ifge, i_ifgt, i_ifle, i_cmpeq, i_cmpne, i_cmplt, i_cmpge, i_cmpgt, i_cmple, i_ifnull, i_ifnonnull, i_getf, am_wr, i_putI, i_putZ, i_putR, i_iald, i_iast, i_aald, i_aast, i_alen, i_newi, i_newq, i_new, i_recv, i_iret, i_zret, i_lret, i_aret, i_vret, List.getElem?_cons_zero, List.getElem?_cons_succ, Option.bind_some, Option.toList_some, Option.toList_none, List.cons_append, List.nil_append, x_nI, am_put, List.length_cons, List.length_nil, List.set_cons_zero, List.set_cons_succ, Nat.reduceAdd, Nat.reduceLT, Nat.reduceLeDiff, Nat.reduceEqDiff, Nat.add_left_cancel_iff, Nat.add_eq_left, Nat.left_eq_add, Nat.succ_ne_self, Nat.reduceSub, reduceIte, ite_self, not_true_eq_false, not_false_eq_true, x_call1, x_call2, x_call3, x_call4, x_call5, x_call6, x_sl0, x_sli, x_slr, x_sln, x_sll, am_ent, List.map_nil, List.map_cons, List.sum_nil, List.sum_cons, Value.category, and_true, true_and, and_self, Nat.zero_le, List.replicate_succ, List.replicate_zero, List.reduceReplicate, x_obj_set, x_row_set, x_len_set, x_obx, x_rox, x_obj h0, hc, show nI a.1 - 1 = nI (a.1 - 1) from pk_sub (b := 1) (by omega), x_own hp]
    · rw [hja] at r1 r2 r3 r4
      refine ⟨g1, g2, g3, g4, by rw [x_set_self]; rfl, by simp [x_set, h1], by simp [x_set, h2], by simp [x_set, h3], by simp [x_set, h4], by show a.1 - 1 ≤ 3; omega, hp, fun k hk => ?_⟩
      have hk2 : k < a.1 - 1 := hk
      have s1 := rsh_end r1 hk2
      have s2 := rsh_end r2 hk2
      have s3 := rsh_end r3 hk2
      have s4 := rsh_end r4 hk2
      have t1 := ht k (by omega)
      have t2 := ht (k + 1) (by omega)
      simp only [al_rm]
      refine ⟨s1, ?_, s3, s4, ?_⟩
      · rw [s2]; split <;> rfl
      · split
        · exact t1
        · exact t2
  | succ m ih =>
    intro j hj hpj A g1 g2 g3 g4 h0 h1 h2 h3 h4 r1 r2 r3 r4
    have hc : ¬ nI a.1 ≤ nI (j + 1) := nI_ge (by omega) (by omega)
    obtain ⟨B, e1, b1, f1⟩ := ih (j + 1) (by omega) (by omega) (A := am_set (am_set (am_set (am_set A (p + 1) (.inl (0, 3, upd g1 j (g1 (j + 1))))) (p + 2) (.inl (0, 3, upd g2 j (g2 (j + 1))))) (p + 3) (.inl (0, 3, upd g3 j (g3 (j + 1))))) (p + 4) (.inl (0, 3, upd g4 j (g4 (j + 1))))) (by simp [x_set, h0]) (by simp [x_set]) (by simp [x_set]) (by simp [x_set]) (by simp [x_set]) (rsh_step r1 (by omega) hpj) (rsh_step r2 (by omega) hpj) (rsh_step r3 (by omega) hpj) (rsh_step r4 (by omega) hpj)
    refine ⟨B, ?_, b1, (((((am_fr.refl A).set ⟨by omega, by omega⟩).set ⟨by omega, by omega⟩).set ⟨by omega, by omega⟩).set ⟨by omega, by omega⟩).trans f1⟩
    refine e_34 ?_; simp only [b_34, i_int, i_long, i_null, i_stat, i_iload, i_lload, i_aload, i_istore, i_astore, i_lstore, i_iinc, i_ii, i_idz, i_i, i_ll, i_lsh, i_i2l, i_l2i, i_lcmp, i_dup, i_pop, i_dup2, i_ifeq, i_ifne, i_iflt, i_ifge, i_ifgt, i_ifle, i_cmpeq, i_cmpne, i_cmplt, i_cmpge, i_cmpgt, i_cmple, i_ifnull, i_ifnonnull, i_getf, am_wr, i_putI, i_putZ, i_putR, i_iald, i_iast, i_aald, i_aast, i_alen, i_newi, i_newq, i_new, i_recv, i_iret, i_zret, i_lret, i_aret, i_vret, List.getElem?_cons_zero, List.getElem?_cons_succ, Option.bind_some, Option.toList_some, Option.toList_none, List.cons_append, List.nil_append, x_nI, am_put, List.length_cons, List.length_nil, List.set_cons_zero, List.set_cons_succ, Nat.reduceAdd, Nat.reduceLT, Nat.reduceLeDiff, Nat.reduceEqDiff, Nat.add_left_cancel_iff, Nat.add_eq_left, Nat.left_eq_add, Nat.succ_ne_self, Nat.reduceSub, reduceIte, ite_self, not_true_eq_false, not_false_eq_true, x_call1, x_call2, x_call3, x_call4, x_call5, x_call6, x_sl0, x_sli, x_slr, x_sln, x_sll, am_ent, List.map_nil, List.map_cons, List.sum_nil, List.sum_cons, Value.category, and_true, true_and, and_self, Nat.zero_le, List.replicate_succ, List.replicate_zero, List.reduceReplicate, x_obj_set, x_row_set, x_len_set, x_obx, x_rox, x_obj h0, hc, nI_pred, x_row h1, x_row h2, x_row h3, x_row h4, x_ix (show j < 3 by omega) (show j < 2147483648 by omega), x_ix (show j + 1 < 3 by omega) (show j + 1 < 2147483648 by omega), x_own (show 5 ≤ p + 1 by omega), x_own (show 5 ≤ p + 2 by omega), x_own (show 5 ≤ p + 3 by omega), x_own (show 5 ≤ p + 4 by omega), nI_1]
    exact e1
theorem rsh_refl (f g : Nat → Int32) (n pl : Nat) (h : ∀ i, i < n → g i = f i) : rsh f g n pl (pl + 1) := fun i hi => ⟨fun _ => h i hi, fun c c2 => by omega, fun _ => h i hi⟩
theorem k_takeOff {d p : Nat} {A : am_H} {a : sg_A} {nm : Int32} (h : AL p A a) : ∃ B, pev (d + 1) 33 [some (.ref p), some (.int nm), none, none] [] A = some (some (.int (match fnd a.2.1 nm a.1 with
    | some _ => 0
    | none => -3)), B) ∧ AL p B (match fnd a.2.1 nm a.1 with
    | some k => al_rm a k
    | none => a) ∧ am_fr (at5 p) A B := by
  obtain ⟨g1, g2, g3, g4, h0, h1, h2, h3, h4, h5, h6, h7⟩ := id h
  have hpl : pev d 11 [some (.int nm), some (.ref (p + 1)), some (.int (nI a.1)), none] [] A = some (some (.int (pI (fnd a.2.1 nm a.1))), A) := by
    rw [k_placeOf h1 (by omega) (by decide), fnd_congr (fun j hj => (h7 j hj).1)]
  cases hf : fnd a.2.1 nm a.1 with
  | some k =>
    rw [hf] at hpl
    obtain ⟨hk, -⟩ := fnd_some hf
    obtain ⟨B, e1, b1, f1⟩ := k_takeOff24 (d := d + 1) (nm := nm) h5 hk h6 (fun k hk => ⟨(h7 k hk).2.2.2.2.1, (h7 k hk).2.2.2.2.2⟩) (a.1 - (k + 1)) k (by omega) (Nat.le_refl _) h0 h1 h2 h3 h4 (rsh_refl _ _ _ _ (fun i hi => (h7 i hi).1)) (rsh_refl _ _ _ _ (fun i hi => (h7 i hi).2.1)) (rsh_refl _ _ _ _ (fun i hi => (h7 i hi).2.2.1)) (rsh_refl _ _ _ _ (fun i hi => (h7 i hi).2.2.2.1))
    refine ⟨B, ?_, b1, f1⟩
    have hc : (0 : Int32) ≤ nI k := nI_pos' (by omega)
    refine e_33 ?_; simp only [b_33, i_int, i_long, i_null, i_stat, i_iload, i_lload, i_aload, i_istore, i_astore, i_lstore, i_iinc, i_ii, i_idz, i_i, i_ll, i_lsh, i_i2l, i_l2i, i_lcmp, i_dup, i_pop, i_dup2, i_ifeq, i_ifne, i_iflt, i_ifge, i_ifgt, i_ifle, i_cmpeq, i_cmpne, i_cmplt, i_cmpge, i_cmpgt, i_cmple, i_ifnull, i_ifnonnull, i_getf, am_wr, i_putI, i_putZ, i_putR, i_iald, i_iast, i_aald, i_aast, i_alen, i_newi, i_newq, i_new, i_recv, i_iret, i_zret, i_lret, i_aret, i_vret, List.getElem?_cons_zero, List.getElem?_cons_succ, Option.bind_some, Option.toList_some, Option.toList_none, List.cons_append, List.nil_append, x_nI, am_put, List.length_cons, List.length_nil, List.set_cons_zero, List.set_cons_succ, Nat.reduceAdd, Nat.reduceLT, Nat.reduceLeDiff, Nat.reduceEqDiff, Nat.add_left_cancel_iff, Nat.add_eq_left, Nat.left_eq_add, Nat.succ_ne_self, Nat.reduceSub, reduceIte, ite_self, not_true_eq_false, not_false_eq_true, x_call1, x_call2, x_call3, x_call4, x_call5, x_call6, x_sl0, x_sli, x_slr, x_sln, x_sll, am_ent, List.map_nil, List.map_cons, List.sum_nil, List.sum_cons, Value.category, and_true, true_and, and_self, Nat.zero_le, List.replicate_succ, List.replicate_zero, List.reduceReplicate, x_obj_set, x_row_set, x_len_set, x_obx, x_rox, x_obj h0, hpl, pI, hc, nI_1]
    exact e1
  | none =>
    rw [hf] at hpl
    refine ⟨A, ?_, h, am_fr.refl A⟩
    have hc : ¬ (0 : Int32) ≤ -1 := by decide
    refine e_33 ?_; simp only [b_33, i_int, i_long, i_null, i_stat, i_iload, i_lload, i_aload, i_istore, i_astore, i_lstore, i_iinc, i_ii, i_idz, i_i, i_ll, i_lsh, i_i2l, i_l2i, i_lcmp, i_dup, i_pop, i_dup2, i_ifeq, i_ifne, i_iflt, i_ifge, i_ifgt, i_ifle, i_cmpeq, i_cmpne, i_cmplt, i_cmpge, i_cmpgt, i_cmple, i_ifnull, i_ifnonnull, i_getf, am_wr, i_putI, i_putZ, i_putR, i_iald, i_iast, i_aald, i_aast, i_alen, i_newi, i_newq, i_new, i_recv, i_iret, i_zret, i_lret, i_aret, i_vret, List.getElem?_cons_zero, List.getElem?_cons_succ, Option.bind_some, Option.toList_some, Option.toList_none, List.cons_append, List.nil_append, x_nI, am_put, List.length_cons, List.length_nil, List.set_cons_zero, List.set_cons_succ, Nat.reduceAdd, Nat.reduceLT, Nat.reduceLeDiff, Nat.reduceEqDiff, Nat.add_left_cancel_iff, Nat.add_eq_left, Nat.left_eq_add, Nat.succ_ne_self, Nat.reduceSub, reduceIte, ite_self, not_true_eq_false, not_false_eq_true, x_call1, x_call2, x_call3, x_call4, x_call5, x_call6, x_sl0, x_sli, x_slr, x_sln, x_sll, am_ent, List.map_nil, List.map_cons, List.sum_nil, List.sum_cons, Value.category, and_true, true_and, and_self, Nat.zero_le, List.replicate_succ, List.replicate_zero, List.reduceReplicate, x_obj_set, x_row_set, x_len_set, x_obx, x_rox, x_obj h0, hpl, pI, hc]
theorem pad4_le8 {w : Nat} (h : w ≤ 4) : pad4 (2 * w) ≤ 8 := by
  unfold pad4
  omega
theorem k_aheader1 {d p : Nat} {A : am_H} {a : sg_A} (hs : am_St A) (h : AL p A a) : ∀ (m k : Nat), k + m = a.1 → pev (d + 1) 44 [some (.ref p), some (.int (nI (8 + sg_sum (fun k => 16 + pad4 (2 * wd (a.2.2.1 k))) k))), some (.int (nI k))] [] A = some (some (.int (nI (sg_ls a))), A) := by
  obtain ⟨g1, g2, g3, g4, h0, h1, h2, h3, h4, h5, h6, h7⟩ := id h
  intro m
  induction m with
  | zero =>
    intro k hk
    have hka : k = a.1 := by omega
    subst hka
    refine e_44 ?_; simp only [b_44, i_int, i_long, i_null, i_stat, i_iload, i_lload, i_aload, i_istore, i_astore, i_lstore, i_iinc, i_ii, i_idz, i_i, i_ll, i_lsh, i_i2l, i_l2i, i_lcmp, i_dup, i_pop, i_dup2, i_ifeq, i_ifne, i_iflt, i_ifge, i_ifgt, i_ifle, i_cmpeq, i_cmpne, i_cmplt, i_cmpge, i_cmpgt, i_cmple, i_ifnull, i_ifnonnull, i_getf, am_wr, i_putI, i_putZ, i_putR, i_iald, i_iast, i_aald, i_aast, i_alen, i_newi, i_newq, i_new, i_recv, i_iret, i_zret, i_lret, i_aret, i_vret, List.getElem?_cons_zero, List.getElem?_cons_succ, Option.bind_some, Option.toList_some, Option.toList_none, List.cons_append, List.nil_append, x_nI, am_put, List.length_cons, List.length_nil, List.set_cons_zero, List.set_cons_succ, Nat.reduceAdd, Nat.reduceLT, Nat.reduceLeDiff, Nat.reduceEqDiff, Nat.add_left_cancel_iff, Nat.add_eq_left, Nat.left_eq_add, Nat.succ_ne_self, Nat.reduceSub, reduceIte, ite_self, not_true_eq_false, not_false_eq_true, x_call1, x_call2, x_call3, x_call4, x_call5, x_call6, x_sl0, x_sli, x_slr, x_sln, x_sll, am_ent, List.map_nil, List.map_cons, List.sum_nil, List.sum_cons, Value.category, and_true, true_and, and_self, Nat.zero_le, List.replicate_succ, List.replicate_zero, List.reduceReplicate, x_obj_set, x_row_set, x_len_set, x_obx, x_rox, x_obj h0, show nI a.1 ≤ nI a.1 from nI_le (Nat.le_refl _) (by omega)]
    rfl
  | succ m ih =>
    intro k hk
    have hc : ¬ nI a.1 ≤ nI k := nI_ge (by omega) (by omega)
    have e1 := ih (k + 1) (by omega)
    obtain ⟨-, q2, -, -, t1, t4⟩ := h7 k (by omega)
    have hw := wd_le (a.2.2.1 k)
    rw [sg_sum] at e1
    refine e_44 ?_; simp only [b_44, i_int, i_long, i_null, i_stat, i_iload, i_lload, i_aload, i_istore, i_astore, i_lstore, i_iinc, i_ii, i_idz, i_i, i_ll, i_lsh, i_i2l, i_l2i, i_lcmp, i_dup, i_pop, i_dup2, i_ifeq, i_ifne, i_iflt, i_ifge, i_ifgt, i_ifle, i_cmpeq, i_cmpne, i_cmplt, i_cmpge, i_cmpgt, i_cmple, i_ifnull, i_ifnonnull, i_getf, am_wr, i_putI, i_putZ, i_putR, i_iald, i_iast, i_aald, i_aast, i_alen, i_newi, i_newq, i_new, i_recv, i_iret, i_zret, i_lret, i_aret, i_vret, List.getElem?_cons_zero, List.getElem?_cons_succ, Option.bind_some, Option.toList_some, Option.toList_none, List.cons_append, List.nil_append, x_nI, am_put, List.length_cons, List.length_nil, List.set_cons_zero, List.set_cons_succ, Nat.reduceAdd, Nat.reduceLT, Nat.reduceLeDiff, Nat.reduceEqDiff, Nat.add_left_cancel_iff, Nat.add_eq_left, Nat.left_eq_add, Nat.succ_ne_self, Nat.reduceSub, reduceIte, ite_self, not_true_eq_false, not_false_eq_true, x_call1, x_call2, x_call3, x_call4, x_call5, x_call6, x_sl0, x_sli, x_slr, x_sln, x_sll, am_ent, List.map_nil, List.map_cons, List.sum_nil, List.sum_cons, Value.category, and_true, true_and, and_self, Nat.zero_le, List.replicate_succ, List.replicate_zero, List.reduceReplicate, x_obj_set, x_row_set, x_len_set, x_obx, x_rox, x_obj h0, hc, x_row h2, x_row hs.1, x_ix (show k < 3 by omega) (show k < 2147483648 by omega), q2, x_ix (show a.2.2.1 k < 5 by omega) (show a.2.2.1 k < 2147483648 by omega), s0_wd t1 t4, show (2 : Int32) = nI 2 from rfl, show (16 : Int32) = nI 16 from rfl, pk_mul, k_padded (2 * wd (a.2.2.1 k)) (show 2 * wd (a.2.2.1 k) < 100000 by omega), nI_add, nI_1, ← Nat.add_assoc]
    rw [← Nat.add_assoc, ← Nat.add_assoc] at e1
    exact e1
theorem k_aheader {d p : Nat} {A : am_H} {a : sg_A} (hs : am_St A) (h : AL p A a) : pev (d + 1) 43 [some (.ref p), none, none] [] A = some (some (.int (nI (sg_ls a))), A) := by
  refine e_43 ?_; simp only [b_43, i_int, i_long, i_null, i_stat, i_iload, i_lload, i_aload, i_istore, i_astore, i_lstore, i_iinc, i_ii, i_idz, i_i, i_ll, i_lsh, i_i2l, i_l2i, i_lcmp, i_dup, i_pop, i_dup2, i_ifeq, i_ifne, i_iflt, i_ifge, i_ifgt, i_ifle, i_cmpeq, i_cmpne, i_cmplt, i_cmpge, i_cmpgt, i_cmple, i_ifnull, i_ifnonnull, i_getf, am_wr, i_putI, i_putZ, i_putR, i_iald, i_iast, i_aald, i_aast, i_alen, i_newi, i_newq, i_new, i_recv, i_iret, i_zret, i_lret, i_aret, i_vret, List.getElem?_cons_zero, List.getElem?_cons_succ, Option.bind_some, Option.toList_some, Option.toList_none, List.cons_append, List.nil_append, x_nI, am_put, List.length_cons, List.length_nil, List.set_cons_zero, List.set_cons_succ, Nat.reduceAdd, Nat.reduceLT, Nat.reduceLeDiff, Nat.reduceEqDiff, Nat.add_left_cancel_iff, Nat.add_eq_left, Nat.left_eq_add, Nat.succ_ne_self, Nat.reduceSub, reduceIte, ite_self, not_true_eq_false, not_false_eq_true, x_call1, x_call2, x_call3, x_call4, x_call5, x_call6, x_sl0, x_sli, x_slr, x_sln, x_sll, am_ent, List.map_nil, List.map_cons, List.sum_nil, List.sum_cons, Value.category, and_true, true_and, and_self, Nat.zero_le, List.replicate_succ, List.replicate_zero, List.reduceReplicate, x_obj_set, x_row_set, x_len_set, x_obx, x_rox]
  exact k_aheader1 hs h a.1 0 (by omega)
