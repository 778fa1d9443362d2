/-! the reference writes bytes -/
def at21 (b : Nat) : Nat → Prop := fun q => b ≤ q ∧ q < b + 21
def setR (R : Nat → Nat → Int32) (i : Nat) (g : Nat → Int32) : Nat → Nat → Int32 := fun r => if r = i then g else R r
theorem MM.set {b : Nat} {A : am_H} {R : Nat → Nat → Int32} {f : mo_F} (hM : MM b A R f) {i : Nat} (h1 : 1 ≤ i) (h2 : i ≤ 20) (g : Nat → Int32) : MM b (am_set A (b + i) (.inl (0, msz i, g))) (setR R i g) f := by
  refine ⟨(x_set_ne (by omega)).trans hM.1, hM.2.1, fun j j1 j2 => ?_⟩
  by_cases he : j = i
  · subst he
    rw [x_set_self]
    simp [setR]
  · rw [x_set_ne (by omega), hM.2.2 j j1 j2]
    simp [setR, he]
theorem MM.obj {b : Nat} {A : am_H} {R : Nat → Nat → Int32} {f : mo_F} (hM : MM b A R f) (f' : mo_F) : MM b (am_set A b (.inr (.inr (6, mo_obj b f')))) R f' := ⟨x_set_self _ _ _, hM.2.1, fun j j1 j2 => (x_set_ne (by omega)).trans (hM.2.2 j j1 j2)⟩
/-- the image holds bs -/
def MW (b : Nat) (A : am_H) (R : Nat → Nat → Int32) (f : mo_F) (bs : List Nat) : Prop := MM b A R f ∧ f.2.2.1 = bs.length ∧ bs.length ≤ 800 ∧ ∀ i, i < bs.length → R 19 i = nI (bs.getD i 0)
def sl (f : mo_F) (n : Nat) : mo_F := (f.1, f.2.1, n, f.2.2.2)
/-- nothing but the image and its length has changed -/
def mw_to (b : Nat) (A : am_H) (R : Nat → Nat → Int32) (B : am_H) (S : Nat → Nat → Int32) : Prop := (∀ i, i ≠ 19 → S i = R i) ∧ am_fr (at21 b) A B
theorem mw_to.refl {b : Nat} {A : am_H} {R : Nat → Nat → Int32} : mw_to b A R A R := ⟨fun _ _ => rfl, am_fr.refl A⟩
theorem mw_to.trans {b : Nat} {A B C : am_H} {R S T : Nat → Nat → Int32} (h1 : mw_to b A R B S) (h2 : mw_to b B S C T) : mw_to b A R C T := ⟨fun i hi => (h2.1 i hi).trans (h1.1 i hi), h1.2.trans h2.2⟩
theorem MA.same {R S : Nat → Nat → Int32} {h l : Nat} {a : sg_A} (hA : MA R h l a) (hRS : ∀ i, 9 ≤ i → i ≤ 13 → S i = R i) : MA S h l a := by
  obtain ⟨h1, h2, h3⟩ := hA
  refine ⟨h1, by rw [hRS 9 (by decide) (by decide)]; exact h2, fun k hk => ?_⟩
  rw [hRS 10 (by decide) (by decide), hRS 11 (by decide) (by decide), hRS 12 (by decide) (by decide), hRS 13 (by decide) (by decide)]
  exact h3 k hk
theorem MS.same {R S : Nat → Nat → Int32} {h : Nat} {s : sg_S} (hS : MS R h s) (hRS : ∀ i, 1 ≤ i → i ≤ 15 → S i = R i) : MS S h s := by
  obtain ⟨h1, h2, h3, h4, h5, h6⟩ := hS
  refine ⟨h1, h2, ?_, fun k hk => ?_, h5.same (fun i i1 i2 => hRS i (by omega) (by omega)), fun v hv => ?_⟩
  · rw [hRS 1 (by decide) (by decide), hRS 4 (by decide) (by decide), hRS 14 (by decide) (by decide)]
    exact h3
  · rw [hRS 2 (by decide) (by decide), hRS 3 (by decide) (by decide)]
    exact h4 k hk
  · obtain ⟨w1, w2, w3, w4, w5, w6⟩ := h6 v hv
    rw [hRS 5 (by decide) (by decide), hRS 6 (by decide) (by decide), hRS 7 (by decide) (by decide), hRS 8 (by decide) (by decide), hRS 15 (by decide) (by decide)]
    exact ⟨w1, w2, w3, w4, w5.same (fun i i1 i2 => hRS i (by omega) (by omega)), w6⟩
theorem MS.to {b : Nat} {A B : am_H} {R S : Nat → Nat → Int32} {h : Nat} {s : sg_S} (hS : MS R h s) (ht : mw_to b A R B S) : MS S h s := hS.same (fun i _ i2 => ht.1 i (by omega))
theorem MA.to {b : Nat} {A B : am_H} {R S : Nat → Nat → Int32} {h l : Nat} {a : sg_A} (hS : MA R h l a) (ht : mw_to b A R B S) : MA S h l a := hS.same (fun i _ i2 => ht.1 i (by omega))
theorem n_write {d b n : Nat} {A : am_H} {R : Nat → Nat → Int32} {f : mo_F} {bs : List Nat} (h : MW b A R f bs) (hl : bs.length < 800) : ∃ B S, pev d 227 [some (.ref b), some (.int (nI n))] [] A = some (none, B) ∧ MW b B S (sl f (bs.length + 1)) (bs ++ [n]) ∧ mw_to b A R B S := by
  obtain ⟨hM, h1, h2, h3⟩ := h
  have hb := hM.2.1
  have m1 := hM.set (i := 19) (by decide) (by decide) (upd (R 19) bs.length (nI n))
  have m2 := m1.obj (sl f (bs.length + 1))
  refine ⟨_, _, ?_, ⟨m2, ?_, ?_, ?_⟩, ⟨fun i hi => ?_, ?_⟩⟩
  · refine e_227 ?_; simp only [b_227, i_int, i_long, i_null, i_stat, i_iload, i_lload, i_aload, i_istore, i_astore, i_lstore, i_iinc, i_ii, i_idz, i_i, i_ll, i_lsh, i_i2l, i_l2i, i_lcmp, i_dup, i_pop, i_dup2, i_ifeq, i_ifne, i_iflt, i_ifge, i_ifgt, i_ifle, i_cmpeq, i_cmpne, i_cmplt, i_cmpge, i_cmpgt, i_cmple, i_ifnull, i_ifnonnull, i_getf, am_wr, i_putI, i_putZ, i_putR, i_iald, i_iast, i_aald, i_aast, i_alen, i_newi, i_newq, i_new, i_recv, i_iret, i_zret, i_lret, i_aret, i_vret, List.getElem?_cons_zero, List.getElem?_cons_succ, Option.bind_some, Option.toList_some, Option.toList_none, List.cons_append, List.nil_append, x_nI, am_put, List.length_cons, List.length_nil, List.set_cons_zero, List.set_cons_succ, Nat.reduceAdd, Nat.reduceLT, Nat.reduceLeDiff, Nat.reduceEqDiff, Nat.add_left_cancel_iff, Nat.add_eq_left, Nat.left_eq_add, Nat.succ_ne_self, Nat.reduceSub, reduceIte, ite_self, eq_self, or_true, true_or, or_false, false_or, or_self, i10, not_true_eq_false, not_false_eq_true, x_call1, x_call2, x_call3, x_call4, x_call5, x_call6, x_sl0, x_sli, x_slr, x_sln, x_sll, am_ent, List.map_nil, List.map_cons, List.sum_nil, List.sum_cons, Value.category, and_true, true_and, and_self, Nat.zero_le, List.replicate_succ, List.replicate_zero, List.reduceReplicate, x_obj_set, x_row_set, x_len_set, x_obx, x_rox, x_rv, x_obj hM.1, mo_obj, h1, x_row (show A.2.2 (b + 19) = some (.inl (0, 800, R 19)) from hM.2.2 19 (by decide) (by decide)), x_ix hl (show bs.length < 2147483648 by omega), x_own (show 5 ≤ b + 19 by omega), x_own hb, nI_1]
    rfl
  · rw [List.length_append]
    rfl
  · rw [List.length_append]
    simp
    omega
  · intro i hi
    rw [List.length_append] at hi
    simp at hi
    simp only [setR, if_true]
    by_cases he : i = bs.length
    · subst he
      simp [upd]
    · have hlt : i < bs.length := by omega
      have e1 : (bs ++ [n]).getD i 0 = bs.getD i 0 := by simp [List.getElem?_append_left hlt]
      rw [e1, pk_un he]
      exact h3 i hlt
  · simp [setR, hi]
  · exact ((am_fr.refl A).set ⟨by omega, by omega⟩).set ⟨by omega, by omega⟩
theorem byt_nI (x : Int32) (k : Nat) : shr8 x k &&& 255 = nI (byt x k) := by
  obtain ⟨j, hj, e⟩ := pk_andE (shr8 x k) (m := 255) 8 (by decide)
  unfold byt
  rw [e, nI_clamp (by omega)]
theorem sl_sl (f : mo_F) (m n : Nat) : sl (sl f m) n = sl f n := rfl
theorem sl_id {f : mo_F} {n : Nat} (h : f.2.2.1 = n) : sl f n = f := by
  subst h
  rfl
theorem n_writeValue1 {d b : Nat} {x W : Int32} : ∀ (w : Nat), w ≤ 4 → ∀ {A : am_H} {R : Nat → Nat → Int32} {f : mo_F} {bs : List Nat}, MW b A R f bs → bs.length + w ≤ 800 → ∃ B S, pev (d + 1) 226 [some (.ref b), some (.int x), some (.int W), some (.int (nI w - 1))] [] A = some (none, B) ∧ MW b B S (sl f (bs.length + w)) (bs ++ num x w) ∧ mw_to b A R B S := by
  intro w
  induction w with
  | zero =>
    intro _ A R f bs h _
    refine ⟨A, R, ?_, ?_, mw_to.refl⟩
    · refine e_226 ?_; simp only [b_226, i_int, i_long, i_null, i_stat, i_iload, i_lload, i_aload, i_istore, i_astore, i_lstore, i_iinc, i_ii, i_idz, i_i, i_ll, i_lsh, i_i2l, i_l2i, i_lcmp, i_dup, i_pop, i_dup2, i_ifeq, i_ifne, i_iflt, i_ifge, i_ifgt, i_ifle, i_cmpeq, i_cmpne, i_cmplt, i_cmpge, i_cmpgt, i_cmple, i_ifnull, i_ifnonnull, i_getf, am_wr, i_putI, i_putZ, i_putR, i_iald, i_iast, i_aald, i_aast, i_alen, i_newi, i_newq, i_new, i_recv, i_iret, i_zret, i_lret, i_aret, i_vret, List.getElem?_cons_zero, List.getElem?_cons_succ, Option.bind_some, Option.toList_some, Option.toList_none, List.cons_append, List.nil_append, x_nI, am_put, List.length_cons, List.length_nil, List.set_cons_zero, List.set_cons_succ, Nat.reduceAdd, Nat.reduceLT, Nat.reduceLeDiff, Nat.reduceEqDiff, Nat.add_left_cancel_iff, Nat.add_eq_left, Nat.left_eq_add, Nat.succ_ne_self, Nat.reduceSub, reduceIte, ite_self, eq_self, or_true, true_or, or_false, false_or, or_self, i10, not_true_eq_false, not_false_eq_true, x_call1, x_call2, x_call3, x_call4, x_call5, x_call6, x_sl0, x_sli, x_slr, x_sln, x_sll, am_ent, List.map_nil, List.map_cons, List.sum_nil, List.sum_cons, Value.category, and_true, true_and, and_self, Nat.zero_le, List.replicate_succ, List.replicate_zero, List.reduceReplicate, x_obj_set, x_row_set, x_len_set, x_obx, x_rox, x_rv, show nI 0 - 1 < 0 by decide]
    · rw [num, List.append_nil, Nat.add_zero, sl_id h.2.1]
      exact h
  | succ w ih =>
    intro hw A R f bs h hl
    obtain ⟨B, S, e1, h1, t1⟩ := n_write (d := d) (n := byt x w) h (by omega)
    obtain ⟨C, T, e2, h2, t2⟩ := ih (by omega) h1 (by rw [List.length_append]; simp; omega)
    refine ⟨C, T, ?_, ?_, t1.trans t2⟩
    · have hn : ¬ (nI w < 0) := nI_pos (by omega)
      rw [← byt_nI] at e1
      unfold shr8 at e1
      refine e_226 ?_; simp only [b_226, i_int, i_long, i_null, i_stat, i_iload, i_lload, i_aload, i_istore, i_astore, i_lstore, i_iinc, i_ii, i_idz, i_i, i_ll, i_lsh, i_i2l, i_l2i, i_lcmp, i_dup, i_pop, i_dup2, i_ifeq, i_ifne, i_iflt, i_ifge, i_ifgt, i_ifle, i_cmpeq, i_cmpne, i_cmplt, i_cmpge, i_cmpgt, i_cmple, i_ifnull, i_ifnonnull, i_getf, am_wr, i_putI, i_putZ, i_putR, i_iald, i_iast, i_aald, i_aast, i_alen, i_newi, i_newq, i_new, i_recv, i_iret, i_zret, i_lret, i_aret, i_vret, List.getElem?_cons_zero, List.getElem?_cons_succ, Option.bind_some, Option.toList_some, Option.toList_none, List.cons_append, List.nil_append, x_nI, am_put, List.length_cons, List.length_nil, List.set_cons_zero, List.set_cons_succ, Nat.reduceAdd, Nat.reduceLT, Nat.reduceLeDiff, Nat.reduceEqDiff, Nat.add_left_cancel_iff, Nat.add_eq_left, Nat.left_eq_add, Nat.succ_ne_self, Nat.reduceSub, reduceIte, ite_self, eq_self, or_true, true_or, or_false, false_or, or_self, i10, not_true_eq_false, not_false_eq_true, x_call1, x_call2, x_call3, x_call4, x_call5, x_call6, x_sl0, x_sli, x_slr, x_sln, x_sll, am_ent, List.map_nil, List.map_cons, List.sum_nil, List.sum_cons, Value.category, and_true, true_and, and_self, Nat.zero_le, List.replicate_succ, List.replicate_zero, List.reduceReplicate, x_obj_set, x_row_set, x_len_set, x_obx, x_rox, x_rv, hn, nI_pred, x_obj h.1.1, e1]
      rw [show nI w + -1 = nI w - 1 by rw [Int32.sub_eq_add_neg]]
      exact e2
    · rw [List.append_assoc, sl_sl, List.length_append] at h2
      rw [num, show bs.length + (w + 1) = bs.length + [byt x w].length + w by simp; omega]
      exact h2
theorem n_writeValue {d b : Nat} {x : Int32} {w : Nat} (hw : w ≤ 4) {A : am_H} {R : Nat → Nat → Int32} {f : mo_F} {bs : List Nat} (h : MW b A R f bs) (hl : bs.length + w ≤ 800) : ∃ B S, pev (d + 1) 225 [some (.ref b), some (.int x), some (.int (nI w)), none] [] A = some (none, B) ∧ MW b B S (sl f (bs.length + w)) (bs ++ num x w) ∧ mw_to b A R B S := by
  obtain ⟨B, S, e1, h1⟩ := n_writeValue1 (d := d) (x := x) (W := nI w) w hw h hl
  refine ⟨B, S, ?_, h1⟩
  refine e_225 ?_; simp only [b_225, i_int, i_long, i_null, i_stat, i_iload, i_lload, i_aload, i_istore, i_astore, i_lstore, i_iinc, i_ii, i_idz, i_i, i_ll, i_lsh, i_i2l, i_l2i, i_lcmp, i_dup, i_pop, i_dup2, i_ifeq, i_ifne, i_iflt, i_ifge, i_ifgt, i_ifle, i_cmpeq, i_cmpne, i_cmplt, i_cmpge, i_cmpgt, i_cmple, i_ifnull, i_ifnonnull, i_getf, am_wr, i_putI, i_putZ, i_putR, i_iald, i_iast, i_aald, i_aast, i_alen, i_newi, i_newq, i_new, i_recv, i_iret, i_zret, i_lret, i_aret, i_vret, List.getElem?_cons_zero, List.getElem?_cons_succ, Option.bind_some, Option.toList_some, Option.toList_none, List.cons_append, List.nil_append, x_nI, am_put, List.length_cons, List.length_nil, List.set_cons_zero, List.set_cons_succ, Nat.reduceAdd, Nat.reduceLT, Nat.reduceLeDiff, Nat.reduceEqDiff, Nat.add_left_cancel_iff, Nat.add_eq_left, Nat.left_eq_add, Nat.succ_ne_self, Nat.reduceSub, reduceIte, ite_self, eq_self, or_true, true_or, or_false, false_or, or_self, i10, not_true_eq_false, not_false_eq_true, x_call1, x_call2, x_call3, x_call4, x_call5, x_call6, x_sl0, x_sli, x_slr, x_sln, x_sll, am_ent, List.map_nil, List.map_cons, List.sum_nil, List.sum_cons, Value.category, and_true, true_and, and_self, Nat.zero_le, List.replicate_succ, List.replicate_zero, List.reduceReplicate, x_obj_set, x_row_set, x_len_set, x_obx, x_rox, x_rv, e1]
theorem nam_dec : ∀ c, c < 128 → num (nI c <<< ((24 : Int32) &&& 31)) 4 = [c, 0, 0, 0] := by decide +kernel
theorem num03 : num 0 3 = [0, 0, 0] := by decide +kernel
theorem isNb_nI {x : Int32} (h : isNb x = true) : ∃ c, c < 128 ∧ x = nI c := by
  simp only [isNb, Bool.and_eq_true, Bool.not_eq_true', decide_eq_false_iff_not] at h
  obtain ⟨h1, h2⟩ := h
  rcases pk_ix x (n := 127) (by decide) with g | g | ⟨j, hj, e⟩
  · exact absurd (Int32.lt_trans g (by decide)) h1
  · exact absurd (Int32.lt_of_lt_of_le (by decide : (126 : Int32) < nI 127) g) h2
  · exact ⟨j, by omega, e⟩
theorem n_writeName {d b : Nat} {x : Int32} (hx : isNb x = true) {A : am_H} {R : Nat → Nat → Int32} {f : mo_F} {bs : List Nat} (h : MW b A R f bs) (hl : bs.length + 8 ≤ 800) : ∃ B S, pev (d + 2) 229 [some (.ref b), some (.int x)] [] A = some (none, B) ∧ MW b B S (sl f (bs.length + 8)) (bs ++ nam x) ∧ mw_to b A R B S := by
  obtain ⟨c, hc, rfl⟩ := isNb_nI hx
  obtain ⟨B, S, e1, h1, t1⟩ := n_writeValue (d := d) (x := 1) (w := 4) (by decide) h (by omega)
  obtain ⟨C, T, e2, h2, t2⟩ := n_write (d := d + 1) (n := c) h1 (by rw [List.length_append, num_len]; omega)
  obtain ⟨D, U, e3, h3, t3⟩ := n_writeValue (d := d) (x := 0) (w := 3) (by decide) h2 (by simp only [List.length_append, num_len, List.length_cons, List.length_nil]; omega)
  refine ⟨D, U, ?_, ?_, t1.trans (t2.trans t3)⟩
  · refine e_229 ?_; simp only [b_229, i_int, i_long, i_null, i_stat, i_iload, i_lload, i_aload, i_istore, i_astore, i_lstore, i_iinc, i_ii, i_idz, i_i, i_ll, i_lsh, i_i2l, i_l2i, i_lcmp, i_dup, i_pop, i_dup2, i_ifeq, i_ifne, i_iflt, i_ifge, i_ifgt, i_ifle, i_cmpeq, i_cmpne, i_cmplt, i_cmpge, i_cmpgt, i_cmple, i_ifnull, i_ifnonnull, i_getf, am_wr, i_putI, i_putZ, i_putR, i_iald, i_iast, i_aald, i_aast, i_alen, i_newi, i_newq, i_new, i_recv, i_iret, i_zret, i_lret, i_aret, i_vret, List.getElem?_cons_zero, List.getElem?_cons_succ, Option.bind_some, Option.toList_some, Option.toList_none, List.cons_append, List.nil_append, x_nI, am_put, List.length_cons, List.length_nil, List.set_cons_zero, List.set_cons_succ, Nat.reduceAdd, Nat.reduceLT, Nat.reduceLeDiff, Nat.reduceEqDiff, Nat.add_left_cancel_iff, Nat.add_eq_left, Nat.left_eq_add, Nat.succ_ne_self, Nat.reduceSub, reduceIte, ite_self, eq_self, or_true, true_or, or_false, false_or, or_self, i10, not_true_eq_false, not_false_eq_true, x_call1, x_call2, x_call3, x_call4, x_call5, x_call6, x_sl0, x_sli, x_slr, x_sln, x_sll, am_ent, List.map_nil, List.map_cons, List.sum_nil, List.sum_cons, Value.category, and_true, true_and, and_self, Nat.zero_le, List.replicate_succ, List.replicate_zero, List.reduceReplicate, x_obj_set, x_row_set, x_len_set, x_obx, x_rox, x_rv, x_obj h.1.1, show (4 : Int32) = nI 4 from rfl, e1, x_obj h1.1.1, e2, x_obj h2.1.1, show (3 : Int32) = nI 3 from rfl, e3]
  · rw [num03] at h3
    simp only [List.length_append, num_len, List.length_cons, List.length_nil, sl_sl] at h3
    rw [nam, nam_dec c hc]
    have e : bs ++ num 1 4 ++ [c] ++ [0, 0, 0] = bs ++ (num 1 4 ++ [c, 0, 0, 0]) := by simp
    rw [e] at h3
    exact h3
theorem n_writeCount {d b : Nat} {k n : Nat} (hn : n < 1000) {A : am_H} {R : Nat → Nat → Int32} {f : mo_F} {bs : List Nat} (h : MW b A R f bs) (hl : bs.length + 8 ≤ 800) : ∃ B S, pev (d + 2) 228 [some (.ref b), some (.int (nI k)), some (.int (nI n))] [] A = some (none, B) ∧ MW b B S (sl f (bs.length + 8)) (bs ++ hea k n) ∧ mw_to b A R B S := by
  obtain ⟨B, S, e1, h1, t1⟩ := n_writeValue (d := d) (x := nI (if n = 0 then 0 else k)) (w := 4) (by decide) h (by omega)
  obtain ⟨C, T, e2, h2, t2⟩ := n_writeValue (d := d) (x := nI n) (w := 4) (by decide) h1 (by rw [List.length_append, num_len]; omega)
  refine ⟨C, T, ?_, ?_, t1.trans t2⟩
  · by_cases h0 : n = 0
    · subst h0
      rw [if_pos rfl] at e1
      have hz : ¬ ¬ nI 0 = 0 := by decide
      refine e_228 ?_; simp only [b_228, i_int, i_long, i_null, i_stat, i_iload, i_lload, i_aload, i_istore, i_astore, i_lstore, i_iinc, i_ii, i_idz, i_i, i_ll, i_lsh, i_i2l, i_l2i, i_lcmp, i_dup, i_pop, i_dup2, i_ifeq, i_ifne, i_iflt, i_ifge, i_ifgt, i_ifle, i_cmpeq, i_cmpne, i_cmplt, i_cmpge, i_cmpgt, i_cmple, i_ifnull, i_ifnonnull, i_getf, am_wr, i_putI, i_putZ, i_putR, i_iald, i_iast, i_aald, i_aast, i_alen, i_newi, i_newq, i_new, i_recv, i_iret, i_zret, i_lret, i_aret, i_vret, List.getElem?_cons_zero, List.getElem?_cons_succ, Option.bind_some, Option.toList_some, Option.toList_none, List.cons_append, List.nil_append, x_nI, am_put, List.length_cons, List.length_nil, List.set_cons_zero, List.set_cons_succ, Nat.reduceAdd, Nat.reduceLT, Nat.reduceLeDiff, Nat.reduceEqDiff, Nat.add_left_cancel_iff, Nat.add_eq_left, Nat.left_eq_add, Nat.succ_ne_self, Nat.reduceSub, reduceIte, ite_self, eq_self, or_true, true_or, or_false, false_or, or_self, i10, not_true_eq_false, not_false_eq_true, x_call1, x_call2, x_call3, x_call4, x_call5, x_call6, x_sl0, x_sli, x_slr, x_sln, x_sll, am_ent, List.map_nil, List.map_cons, List.sum_nil, List.sum_cons, Value.category, and_true, true_and, and_self, Nat.zero_le, List.replicate_succ, List.replicate_zero, List.reduceReplicate, x_obj_set, x_row_set, x_len_set, x_obx, x_rox, x_rv, hz, x_obj h.1.1, show (0 : Int32) = nI 0 from rfl, show (4 : Int32) = nI 4 from rfl, e1, x_obj h1.1.1, e2]
    · rw [if_neg h0] at e1
      have hz : ¬ nI n = 0 := nI_ne0 (by omega) (by omega)
      refine e_228 ?_; simp only [b_228, i_int, i_long, i_null, i_stat, i_iload, i_lload, i_aload, i_istore, i_astore, i_lstore, i_iinc, i_ii, i_idz, i_i, i_ll, i_lsh, i_i2l, i_l2i, i_lcmp, i_dup, i_pop, i_dup2, i_ifeq, i_ifne, i_iflt, i_ifge, i_ifgt, i_ifle, i_cmpeq, i_cmpne, i_cmplt, i_cmpge, i_cmpgt, i_cmple, i_ifnull, i_ifnonnull, i_getf, am_wr, i_putI, i_putZ, i_putR, i_iald, i_iast, i_aald, i_aast, i_alen, i_newi, i_newq, i_new, i_recv, i_iret, i_zret, i_lret, i_aret, i_vret, List.getElem?_cons_zero, List.getElem?_cons_succ, Option.bind_some, Option.toList_some, Option.toList_none, List.cons_append, List.nil_append, x_nI, am_put, List.length_cons, List.length_nil, List.set_cons_zero, List.set_cons_succ, Nat.reduceAdd, Nat.reduceLT, Nat.reduceLeDiff, Nat.reduceEqDiff, Nat.add_left_cancel_iff, Nat.add_eq_left, Nat.left_eq_add, Nat.succ_ne_self, Nat.reduceSub, reduceIte, ite_self, eq_self, or_true, true_or, or_false, false_or, or_self, i10, not_true_eq_false, not_false_eq_true, x_call1, x_call2, x_call3, x_call4, x_call5, x_call6, x_sl0, x_sli, x_slr, x_sln, x_sll, am_ent, List.map_nil, List.map_cons, List.sum_nil, List.sum_cons, Value.category, and_true, true_and, and_self, Nat.zero_le, List.replicate_succ, List.replicate_zero, List.reduceReplicate, x_obj_set, x_row_set, x_len_set, x_obx, x_rox, x_rv, hz, x_obj h.1.1, show (4 : Int32) = nI 4 from rfl, e1, x_obj h1.1.1, e2]
  · simp only [List.length_append, num_len, sl_sl] at h2
    rw [hea, ← List.append_assoc]
    exact h2
theorem n_pad {d b p : Nat} (hp : p < 1000) : ∀ (m x : Nat), pad4 x - x = m → ∀ {A : am_H} {R : Nat → Nat → Int32} {f : mo_F} {bs : List Nat}, MW b A R f bs → bs.length = p + x → bs.length + m ≤ 800 → ∃ B S, pev (d + 1) 232 [some (.ref b), some (.int (nI p))] [] A = some (none, B) ∧ MW b B S (sl f (bs.length + m)) (bs ++ List.replicate m 0) ∧ mw_to b A R B S := by
  intro m
  induction m with
  | zero =>
    intro x hx A R f bs h hb hl
    have hm : x % 4 = 0 := by unfold pad4 at hx; omega
    have e1 : (nI bs.length - nI p) - (nI bs.length - nI p) / 4 * 4 = 0 := by
      rw [pk_sub (by omega), show (4 : Int32) = nI 4 from rfl, pk_rem (by omega) (by decide) (by decide), show (bs.length - p) % 4 = 0 by omega]
      rfl
    refine ⟨A, R, ?_, ?_, mw_to.refl⟩
    · refine e_232 ?_; simp only [b_232, i_int, i_long, i_null, i_stat, i_iload, i_lload, i_aload, i_istore, i_astore, i_lstore, i_iinc, i_ii, i_idz, i_i, i_ll, i_lsh, i_i2l, i_l2i, i_lcmp, i_dup, i_pop, i_dup2, i_ifeq, i_ifne, i_iflt, i_ifge, i_ifgt, i_ifle, i_cmpeq, i_cmpne, i_cmplt, i_cmpge, i_cmpgt, i_cmple, i_ifnull, i_ifnonnull, i_getf, am_wr, i_putI, i_putZ, i_putR, i_iald, i_iast, i_aald, i_aast, i_alen, i_newi, i_newq, i_new, i_recv, i_iret, i_zret, i_lret, i_aret, i_vret, List.getElem?_cons_zero, List.getElem?_cons_succ, Option.bind_some, Option.toList_some, Option.toList_none, List.cons_append, List.nil_append, x_nI, am_put, List.length_cons, List.length_nil, List.set_cons_zero, List.set_cons_succ, Nat.reduceAdd, Nat.reduceLT, Nat.reduceLeDiff, Nat.reduceEqDiff, Nat.add_left_cancel_iff, Nat.add_eq_left, Nat.left_eq_add, Nat.succ_ne_self, Nat.reduceSub, reduceIte, ite_self, eq_self, or_true, true_or, or_false, false_or, or_self, i10, not_true_eq_false, not_false_eq_true, x_call1, x_call2, x_call3, x_call4, x_call5, x_call6, x_sl0, x_sli, x_slr, x_sln, x_sll, am_ent, List.map_nil, List.map_cons, List.sum_nil, List.sum_cons, Value.category, and_true, true_and, and_self, Nat.zero_le, List.replicate_succ, List.replicate_zero, List.reduceReplicate, x_obj_set, x_row_set, x_len_set, x_obx, x_rox, x_rv, x_obj h.1.1, mo_obj, h.2.1, e1, show ((4 : Int32) = 0) = False by decide]
    · rw [Nat.add_zero, sl_id h.2.1]
      simpa using h
  | succ m ih =>
    intro x hx A R f bs h hb hl
    have hm : x % 4 ≠ 0 := by unfold pad4 at hx; omega
    have e1 : (nI bs.length - nI p) - (nI bs.length - nI p) / 4 * 4 = nI (x % 4) := by
      rw [pk_sub (by omega), show (4 : Int32) = nI 4 from rfl, pk_rem (by omega) (by decide) (by decide), show bs.length - p = x by omega]
    have e2 : ¬ nI (x % 4) = 0 := nI_ne0 (by omega) (by omega)
    obtain ⟨B, S, e3, h1, t1⟩ := n_write (d := d) (n := 0) h (by omega)
    obtain ⟨C, T, e4, h2, t2⟩ := ih (x + 1) (by unfold pad4 at hx ⊢; omega) h1 (by rw [List.length_append]; simp; omega) (by rw [List.length_append]; simp; omega)
    refine ⟨C, T, ?_, ?_, t1.trans t2⟩
    · rw [nI_0] at e3
      refine e_232 ?_; simp only [b_232, i_int, i_long, i_null, i_stat, i_iload, i_lload, i_aload, i_istore, i_astore, i_lstore, i_iinc, i_ii, i_idz, i_i, i_ll, i_lsh, i_i2l, i_l2i, i_lcmp, i_dup, i_pop, i_dup2, i_ifeq, i_ifne, i_iflt, i_ifge, i_ifgt, i_ifle, i_cmpeq, i_cmpne, i_cmplt, i_cmpge, i_cmpgt, i_cmple, i_ifnull, i_ifnonnull, i_getf, am_wr, i_putI, i_putZ, i_putR, i_iald, i_iast, i_aald, i_aast, i_alen, i_newi, i_newq, i_new, i_recv, i_iret, i_zret, i_lret, i_aret, i_vret, List.getElem?_cons_zero, List.getElem?_cons_succ, Option.bind_some, Option.toList_some, Option.toList_none, List.cons_append, List.nil_append, x_nI, am_put, List.length_cons, List.length_nil, List.set_cons_zero, List.set_cons_succ, Nat.reduceAdd, Nat.reduceLT, Nat.reduceLeDiff, Nat.reduceEqDiff, Nat.add_left_cancel_iff, Nat.add_eq_left, Nat.left_eq_add, Nat.succ_ne_self, Nat.reduceSub, reduceIte, ite_self, eq_self, or_true, true_or, or_false, false_or, or_self, i10, not_true_eq_false, not_false_eq_true, x_call1, x_call2, x_call3, x_call4, x_call5, x_call6, x_sl0, x_sli, x_slr, x_sln, x_sll, am_ent, List.map_nil, List.map_cons, List.sum_nil, List.sum_cons, Value.category, and_true, true_and, and_self, Nat.zero_le, List.replicate_succ, List.replicate_zero, List.reduceReplicate, x_obj_set, x_row_set, x_len_set, x_obx, x_rox, x_rv, x_obj h.1.1, mo_obj, h.2.1, e1, e2, show ((4 : Int32) = 0) = False by decide, e3]
      exact e4
    · simp only [List.length_append, List.length_cons, List.length_nil, sl_sl, List.append_assoc] at h2
      rw [show bs.length + (m + 1) = bs.length + (0 + 1) + m by omega]
      exact h2
