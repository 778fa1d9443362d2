/-! the reference: slabs -/
theorem nI_one : nI 1 = (1 : Int32) := rfl
def rowA (p : Nat → Bool) : Nat → Nat → Bool
  | _, 0 => true
  | k, m + 1 => p k && rowA p (k + 1) m
theorem rowA_iff {p : Nat → Bool} : ∀ {m k : Nat}, rowA p k m = true ↔ ∀ j, k ≤ j → j < k + m → p j = true := by
  intro m
  induction m with
  | zero => intro k; exact ⟨fun _ j h1 h2 => by omega, fun _ => rfl⟩
  | succ m ih =>
    intro k
    rw [rowA, Bool.and_eq_true, ih]
    constructor
    · intro h j h1 h2
      rcases Nat.lt_or_ge k j with h3 | h3
      · exact h.2 j (by omega) (by omega)
      · rw [show j = k by omega]; exact h.1
    · intro h
      exact ⟨h k (Nat.le_refl _) (by omega), fun j h1 h2 => h j (by omega) (by omega)⟩
def thb (s : sg_S) (q : Nat → Nat × Nat × Nat) (v : Nat) (g : Bool) (a b : Nat) : Bool := adm (sg_raw s v) (lN ((qs s q v 0).1 + a * (qs s q v 0).2.2)) (lN ((qs s q v 1).1 + b * (qs s q v 1).2.2)) && (g || !(decide (sg_l0 s v = 0)) || decide (lN ((qs s q v 0).1 + a * (qs s q v 0).2.2) < lN s.2.2.2.2))
/-- selections in order -/
def Qok (q : Nat → Nat × Nat × Nat) : Prop := ∀ k, k < 2 → (q k).1 < 2147483648 ∧ 1 ≤ (q k).2.1 ∧ (q k).2.1 ≤ 8 ∧ 1 ≤ (q k).2.2 ∧ (q k).2.2 ≤ 8
theorem MSel.ok {R : Nat → Nat → Int32} {q : Nat → Nat × Nat × Nat} (h : MSel R q) : Qok q := fun k hk => (h k hk).2.2.2
theorem qs_ok {q : Nat → Nat × Nat × Nat} (h : Qok q) (s : sg_S) (v : Nat) {k : Nat} (hk : k < 2) : (qs s q v k).1 < 2147483648 ∧ 1 ≤ (qs s q v k).2.1 ∧ (qs s q v k).2.1 ≤ 8 ∧ 1 ≤ (qs s q v k).2.2 ∧ (qs s q v k).2.2 ≤ 8 := by
  unfold qs
  split
  · exact h k hk
  · exact ⟨by decide, by decide, by decide, by decide, by decide⟩
theorem qs_0 {q : Nat → Nat × Nat × Nat} {s : sg_S} {v k n : Nat} (h : (s.2.2.2.1 v).2.2.1 ≤ k) (hn : n < (qs s q v k).2.1) : n = 0 := by
  unfold qs at hn
  rw [if_neg (by omega)] at hn
  have hn2 : n < 1 := hn
  omega
theorem pl_lt {a s t : Nat} (hs : s < 2147483648) (ha : a ≤ 8) (ht : t ≤ 8) : s + a * t < 3000000000 := by
  have : a * t ≤ 8 * 8 := Nat.mul_le_mul ha ht
  omega
theorem lN_nneg {n : Nat} (h : n < 2 ^ 63) : ¬ lN n < 0 := fun e => by
  have := (pk_lLT (a := n) (b := 0) h (by decide)).mp e
  omega
theorem thb_iff {s : sg_S} {q : Nat → Nat × Nat × Nat} {v : Nat} {g : Bool} {a b : Nat} (hs : STv s) (hv : v < s.2.2.1) (hq : Qok q) (ha : a ≤ 8) (hb : b ≤ 8) : thb s q v g a b = true ↔ (sg_l0 s v = 0 ∨ (qs s q v 0).1 + a * (qs s q v 0).2.2 < sg_l0 s v) ∧ (qs s q v 1).1 + b * (qs s q v 1).2.2 < sg_l1 s v ∧ (g = true ∨ sg_l0 s v ≠ 0 ∨ (qs s q v 0).1 + a * (qs s q v 0).2.2 < s.2.2.2.2) := by
  obtain ⟨a1, a2, a3, a4, a5⟩ := qs_ok hq s v (k := 0) (by decide)
  obtain ⟨b1, b2, b3, b4, b5⟩ := qs_ok hq s v (k := 1) (by decide)
  have p1 := pl_lt a1 ha a5
  have p2 := pl_lt b1 hb b5
  have l0 := hs.l0 hv
  have l1 := hs.l1 hv
  have hr := hs.2.2.2.2
  have e1 := pk_lLT (a := (qs s q v 0).1 + a * (qs s q v 0).2.2) (b := sg_l0 s v) (by omega) (by omega)
  have e2 := pk_lLT (a := (qs s q v 1).1 + b * (qs s q v 1).2.2) (b := sg_l1 s v) (by omega) (by omega)
  have e3 := pk_lLT (a := (qs s q v 0).1 + a * (qs s q v 0).2.2) (b := s.2.2.2.2) (by omega) (by omega)
  have n1 := lN_nneg (n := (qs s q v 0).1 + a * (qs s q v 0).2.2) (by omega)
  have n2 := lN_nneg (n := (qs s q v 1).1 + b * (qs s q v 1).2.2) (by omega)
  unfold thb adm sg_raw
  simp only [Bool.and_eq_true, Bool.or_eq_true, Bool.not_eq_true', decide_eq_false_iff_not, decide_eq_true_eq, e1, e2, e3, n1, n2, not_false_eq_true, true_and]
  constructor
  · rintro ⟨⟨h1, h2⟩, h3⟩
    refine ⟨h1, h2, ?_⟩
    rcases h3 with (h3 | h3) | h3
    · exact Or.inl h3
    · exact Or.inr (Or.inl h3)
    · exact Or.inr (Or.inr h3)
  · rintro ⟨h1, h2, h3⟩
    refine ⟨⟨h1, h2⟩, ?_⟩
    rcases h3 with h3 | h3 | h3
    · exact Or.inl (Or.inl h3)
    · exact Or.inl (Or.inr h3)
    · exact Or.inr h3
theorem thb_mono {s : sg_S} {q : Nat → Nat × Nat × Nat} {v : Nat} {g : Bool} {a b a' b' : Nat} (hs : STv s) (hv : v < s.2.2.1) (hq : Qok q) (ha : a' ≤ 8) (hb : b' ≤ 8) (h1 : a ≤ a') (h2 : b ≤ b') (h : thb s q v g a' b' = true) : thb s q v g a b = true := by
  rw [thb_iff hs hv hq ha hb] at h
  rw [thb_iff hs hv hq (by omega) (by omega)]
  have m1 : a * (qs s q v 0).2.2 ≤ a' * (qs s q v 0).2.2 := Nat.mul_le_mul_right _ h1
  have m2 : b * (qs s q v 1).2.2 ≤ b' * (qs s q v 1).2.2 := Nat.mul_le_mul_right _ h2
  obtain ⟨i1, i2, i3⟩ := h
  refine ⟨?_, by omega, ?_⟩
  · rcases i1 with i1 | i1
    · exact Or.inl i1
    · exact Or.inr (by omega)
  · rcases i3 with i3 | i3 | i3
    · exact Or.inl i3
    · exact Or.inr (Or.inl i3)
    · exact Or.inr (Or.inr (by omega))
theorem n_slabT2 {d b v a : Nat} {A : am_H} {R : Nat → Nat → Int32} {f : mo_F} {s : sg_S} {q : Nat → Nat × Nat × Nat} {g z : Bool} (hM : MM b A R f) (hS : MS R f.1 s) (hQ : MSel R q) (hv : v < s.2.2.1) (ha : a < (qs s q v 0).2.1) (hz : ∀ o : Option Value, pev (d + 3) 209 [some (.ref b), some (.int (nI v)), some (.int (bz g)), some (.int (nI (a + 1))), o] [] A = some (some (.int (bz z)), A)) : ∀ (m k : Nat), k + m = (qs s q v 1).2.1 → pev (d + 3) 210 [some (.ref b), some (.int (nI v)), some (.int (bz g)), some (.int (nI a)), some (.int (nI k))] [] A = some (some (.int (bz (rowA (thb s q v g a) k m && z))), A) := by
  have q0 := qs_ok hQ.ok s v (k := 0) (by decide)
  have q1 := qs_ok hQ.ok s v (k := 1) (by decide)
  have em := n_many (d := d + 2) (k := 1) hM hS hQ hv (by decide)
  rw [nI_one] at em
  intro m
  induction m with
  | zero =>
    intro k hk
    have hc : nI (qs s q v 1).2.1 ≤ nI k := nI_le (by omega) (by omega)
    refine e_210 ?_; simp only [b_210, i_int, i_long, i_null, i_stat, i_iload, i_lload, i_aload, i_istore, i_astore, i_lstore, i_iinc, i_ii, i_idz, i_i, i_ll, i_lsh, i_i2l, i_l2i, i_lcmp, i_dup, i_pop, i_dup2, i_ifeq, i_ifne, i_iflt, i_ifge, i_ifgt, i_ifle, i_cmpeq, i_cmpne, i_cmplt, i_cmpge, i_cmpgt, i_cmple, i_ifnull, i_ifnonnull, i_getf, am_wr, i_putI, i_putZ, i_putR, i_iald, i_iast, i_aald, i_aast, i_alen, i_newi, i_newq, i_new, i_recv, i_iret, i_zret, i_lret, i_aret, i_vret, List.getElem?_cons_zero, List.getElem?_cons_succ, Option.bind_some, Option.toList_some, Option.toList_none, List.cons_append, List.nil_append, x_nI, am_put, am_put2, List.length_cons, List.length_nil, List.set_cons_zero, List.set_cons_succ, Nat.reduceAdd, Nat.reduceLT, Nat.reduceLeDiff, Nat.reduceEqDiff, Nat.add_left_cancel_iff, Nat.add_eq_left, Nat.left_eq_add, Nat.succ_ne_self, Nat.reduceSub, reduceIte, ite_self, eq_self, or_true, true_or, or_false, false_or, or_self, i10, not_true_eq_false, not_false_eq_true, x_call1, x_call2, x_call3, x_call4, x_call5, x_call6, x_sl0, x_sli, x_slr, x_sln, x_sll, am_ent, List.map_nil, List.map_cons, List.sum_nil, List.sum_cons, Value.category, and_true, true_and, and_self, Nat.zero_le, List.replicate_succ, List.replicate_zero, List.reduceReplicate, x_obj_set, x_row_set, x_len_set, x_obx, x_rox, x_rv, x_obj hM.1, mo_obj, em, hc, nI_1]
    rw [rowA, Bool.true_and]
    exact hz _
  | succ m ih =>
    intro k hk
    have hc : ¬ nI (qs s q v 1).2.1 ≤ nI k := nI_ge (by omega) (by omega)
    have e0 := n_chosen (d := d + 2) (k := 0) (n := a) hM hS hQ hv (by decide) (by omega) (fun h => qs_0 h ha)
    have e1 := n_chosen (d := d + 2) (k := 1) (n := k) hM hS hQ hv (by decide) (by omega) (fun h => qs_0 (q := q) h (by omega))
    rw [nI_0] at e0
    rw [nI_one] at e1
    have et : pev (d + 2) 199 [some (.ref b), some (.int (nI v)), some (.long (lN ((qs s q v 0).1 + a * (qs s q v 0).2.2))), none, some (.long (lN ((qs s q v 1).1 + k * (qs s q v 1).2.2))), none, some (.int (bz g))] [] A = some (some (.int (bz (thb s q v g a k))), A) := n_there (d := d) (g := g) hM hS hv (lN _) (lN _)
    rw [rowA]
    cases ht : thb s q v g a k with
    | false =>
      rw [ht] at et
      refine e_210 ?_; simp only [b_210, i_int, i_long, i_null, i_stat, i_iload, i_lload, i_aload, i_istore, i_astore, i_lstore, i_iinc, i_ii, i_idz, i_i, i_ll, i_lsh, i_i2l, i_l2i, i_lcmp, i_dup, i_pop, i_dup2, i_ifeq, i_ifne, i_iflt, i_ifge, i_ifgt, i_ifle, i_cmpeq, i_cmpne, i_cmplt, i_cmpge, i_cmpgt, i_cmple, i_ifnull, i_ifnonnull, i_getf, am_wr, i_putI, i_putZ, i_putR, i_iald, i_iast, i_aald, i_aast, i_alen, i_newi, i_newq, i_new, i_recv, i_iret, i_zret, i_lret, i_aret, i_vret, List.getElem?_cons_zero, List.getElem?_cons_succ, Option.bind_some, Option.toList_some, Option.toList_none, List.cons_append, List.nil_append, x_nI, am_put, am_put2, List.length_cons, List.length_nil, List.set_cons_zero, List.set_cons_succ, Nat.reduceAdd, Nat.reduceLT, Nat.reduceLeDiff, Nat.reduceEqDiff, Nat.add_left_cancel_iff, Nat.add_eq_left, Nat.left_eq_add, Nat.succ_ne_self, Nat.reduceSub, reduceIte, ite_self, eq_self, or_true, true_or, or_false, false_or, or_self, i10, not_true_eq_false, not_false_eq_true, x_call1, x_call2, x_call3, x_call4, x_call5, x_call6, x_sl0, x_sli, x_slr, x_sln, x_sll, am_ent, List.map_nil, List.map_cons, List.sum_nil, List.sum_cons, Value.category, and_true, true_and, and_self, Nat.zero_le, List.replicate_succ, List.replicate_zero, List.reduceReplicate, x_obj_set, x_row_set, x_len_set, x_obx, x_rox, x_rv, x_obj hM.1, mo_obj, em, hc, e0, e1, et, bz_false]
      rw [Bool.false_and, Bool.false_and]
      rfl
    | true =>
      rw [ht] at et
      have e2 := ih (k + 1) (by omega)
      refine e_210 ?_; simp only [b_210, i_int, i_long, i_null, i_stat, i_iload, i_lload, i_aload, i_istore, i_astore, i_lstore, i_iinc, i_ii, i_idz, i_i, i_ll, i_lsh, i_i2l, i_l2i, i_lcmp, i_dup, i_pop, i_dup2, i_ifeq, i_ifne, i_iflt, i_ifge, i_ifgt, i_ifle, i_cmpeq, i_cmpne, i_cmplt, i_cmpge, i_cmpgt, i_cmple, i_ifnull, i_ifnonnull, i_getf, am_wr, i_putI, i_putZ, i_putR, i_iald, i_iast, i_aald, i_aast, i_alen, i_newi, i_newq, i_new, i_recv, i_iret, i_zret, i_lret, i_aret, i_vret, List.getElem?_cons_zero, List.getElem?_cons_succ, Option.bind_some, Option.toList_some, Option.toList_none, List.cons_append, List.nil_append, x_nI, am_put, am_put2, List.length_cons, List.length_nil, List.set_cons_zero, List.set_cons_succ, Nat.reduceAdd, Nat.reduceLT, Nat.reduceLeDiff, Nat.reduceEqDiff, Nat.add_left_cancel_iff, Nat.add_eq_left, Nat.left_eq_add, Nat.succ_ne_self, Nat.reduceSub, reduceIte, ite_self, eq_self, or_true, true_or, or_false, false_or, or_self, i10, not_true_eq_false, not_false_eq_true, x_call1, x_call2, x_call3, x_call4, x_call5, x_call6, x_sl0, x_sli, x_slr, x_sln, x_sll, am_ent, List.map_nil, List.map_cons, List.sum_nil, List.sum_cons, Value.category, and_true, true_and, and_self, Nat.zero_le, List.replicate_succ, List.replicate_zero, List.reduceReplicate, x_obj_set, x_row_set, x_len_set, x_obx, x_rox, x_rv, x_obj hM.1, mo_obj, em, hc, e0, e1, et, bz_true, nI_1]
      rw [Bool.true_and]
      exact e2
theorem n_slabT1 {d b v : Nat} {A : am_H} {R : Nat → Nat → Int32} {f : mo_F} {s : sg_S} {q : Nat → Nat × Nat × Nat} {g : Bool} (hM : MM b A R f) (hS : MS R f.1 s) (hQ : MSel R q) (hv : v < s.2.2.1) : ∀ (m a : Nat), a + m = (qs s q v 0).2.1 → ∀ o : Option Value, pev (d + 3) 209 [some (.ref b), some (.int (nI v)), some (.int (bz g)), some (.int (nI a)), o] [] A = some (some (.int (bz (rowA (fun a => rowA (thb s q v g a) 0 (qs s q v 1).2.1) a m))), A) := by
  have q0 := qs_ok hQ.ok s v (k := 0) (by decide)
  have em := n_many (d := d + 2) (k := 0) hM hS hQ hv (by decide)
  rw [nI_0] at em
  intro m
  induction m with
  | zero =>
    intro a ha o
    have hc : nI (qs s q v 0).2.1 ≤ nI a := nI_le (by omega) (by omega)
    refine e_209 ?_; simp only [b_209, i_int, i_long, i_null, i_stat, i_iload, i_lload, i_aload, i_istore, i_astore, i_lstore, i_iinc, i_ii, i_idz, i_i, i_ll, i_lsh, i_i2l, i_l2i, i_lcmp, i_dup, i_pop, i_dup2, i_ifeq, i_ifne, i_iflt, i_ifge, i_ifgt, i_ifle, i_cmpeq, i_cmpne, i_cmplt, i_cmpge, i_cmpgt, i_cmple, i_ifnull, i_ifnonnull, i_getf, am_wr, i_putI, i_putZ, i_putR, i_iald, i_iast, i_aald, i_aast, i_alen, i_newi, i_newq, i_new, i_recv, i_iret, i_zret, i_lret, i_aret, i_vret, List.getElem?_cons_zero, List.getElem?_cons_succ, Option.bind_some, Option.toList_some, Option.toList_none, List.cons_append, List.nil_append, x_nI, am_put, am_put2, List.length_cons, List.length_nil, List.set_cons_zero, List.set_cons_succ, Nat.reduceAdd, Nat.reduceLT, Nat.reduceLeDiff, Nat.reduceEqDiff, Nat.add_left_cancel_iff, Nat.add_eq_left, Nat.left_eq_add, Nat.succ_ne_self, Nat.reduceSub, reduceIte, ite_self, eq_self, or_true, true_or, or_false, false_or, or_self, i10, not_true_eq_false, not_false_eq_true, x_call1, x_call2, x_call3, x_call4, x_call5, x_call6, x_sl0, x_sli, x_slr, x_sln, x_sll, am_ent, List.map_nil, List.map_cons, List.sum_nil, List.sum_cons, Value.category, and_true, true_and, and_self, Nat.zero_le, List.replicate_succ, List.replicate_zero, List.reduceReplicate, x_obj_set, x_row_set, x_len_set, x_obx, x_rox, x_rv, x_obj hM.1, mo_obj, em, hc]
    rfl
  | succ m ih =>
    intro a ha o
    have hc : ¬ nI (qs s q v 0).2.1 ≤ nI a := nI_ge (by omega) (by omega)
    have e2 := n_slabT2 (d := d) (g := g) hM hS hQ hv (show a < (qs s q v 0).2.1 by omega) (ih (a + 1) (by omega)) (qs s q v 1).2.1 0 (by omega)
    refine e_209 ?_; simp only [b_209, i_int, i_long, i_null, i_stat, i_iload, i_lload, i_aload, i_istore, i_astore, i_lstore, i_iinc, i_ii, i_idz, i_i, i_ll, i_lsh, i_i2l, i_l2i, i_lcmp, i_dup, i_pop, i_dup2, i_ifeq, i_ifne, i_iflt, i_ifge, i_ifgt, i_ifle, i_cmpeq, i_cmpne, i_cmplt, i_cmpge, i_cmpgt, i_cmple, i_ifnull, i_ifnonnull, i_getf, am_wr, i_putI, i_putZ, i_putR, i_iald, i_iast, i_aald, i_aast, i_alen, i_newi, i_newq, i_new, i_recv, i_iret, i_zret, i_lret, i_aret, i_vret, List.getElem?_cons_zero, List.getElem?_cons_succ, Option.bind_some, Option.toList_some, Option.toList_none, List.cons_append, List.nil_append, x_nI, am_put, am_put2, List.length_cons, List.length_nil, List.set_cons_zero, List.set_cons_succ, Nat.reduceAdd, Nat.reduceLT, Nat.reduceLeDiff, Nat.reduceEqDiff, Nat.add_left_cancel_iff, Nat.add_eq_left, Nat.left_eq_add, Nat.succ_ne_self, Nat.reduceSub, reduceIte, ite_self, eq_self, or_true, true_or, or_false, false_or, or_self, i10, not_true_eq_false, not_false_eq_true, x_call1, x_call2, x_call3, x_call4, x_call5, x_call6, x_sl0, x_sli, x_slr, x_sln, x_sll, am_ent, List.map_nil, List.map_cons, List.sum_nil, List.sum_cons, Value.category, and_true, true_and, and_self, Nat.zero_le, List.replicate_succ, List.replicate_zero, List.reduceReplicate, x_obj_set, x_row_set, x_len_set, x_obx, x_rox, x_rv, x_obj hM.1, mo_obj, em, hc]
    exact e2
theorem slab_all {s : sg_S} {q : Nat → Nat × Nat × Nat} {v : Nat} {g : Bool} (hs : STv s) (hv : v < s.2.2.1) (hq : Qok q) : rowA (fun a => rowA (thb s q v g a) 0 (qs s q v 1).2.1) 0 (qs s q v 0).2.1 = thb s q v g ((qs s q v 0).2.1 - 1) ((qs s q v 1).2.1 - 1) := by
  have q0 := qs_ok hq s v (k := 0) (by decide)
  have q1 := qs_ok hq s v (k := 1) (by decide)
  rw [Bool.eq_iff_iff, rowA_iff]
  constructor
  · intro h
    exact rowA_iff.mp (h _ (Nat.zero_le _) (by omega)) _ (Nat.zero_le _) (by omega)
  · intro h a _ ha
    rw [rowA_iff]
    intro b _ hb
    exact thb_mono hs hv hq (by omega) (by omega) (by omega) (by omega) h
theorem n_slabThere {d b v : Nat} {A : am_H} {R : Nat → Nat → Int32} {f : mo_F} {s : sg_S} {q : Nat → Nat × Nat × Nat} {g : Bool} (hM : MM b A R f) (hS : MS R f.1 s) (hQ : MSel R q) (hv : v < s.2.2.1) : pev (d + 3) 208 [some (.ref b), some (.int (nI v)), some (.int (bz g)), none, none] [] A = some (some (.int (bz (thb s q v g ((qs s q v 0).2.1 - 1) ((qs s q v 1).2.1 - 1)))), A) := by
  rw [← slab_all hS.1 hv hQ.ok]
  refine e_208 ?_; simp only [b_208, i_int, i_long, i_null, i_stat, i_iload, i_lload, i_aload, i_istore, i_astore, i_lstore, i_iinc, i_ii, i_idz, i_i, i_ll, i_lsh, i_i2l, i_l2i, i_lcmp, i_dup, i_pop, i_dup2, i_ifeq, i_ifne, i_iflt, i_ifge, i_ifgt, i_ifle, i_cmpeq, i_cmpne, i_cmplt, i_cmpge, i_cmpgt, i_cmple, i_ifnull, i_ifnonnull, i_getf, am_wr, i_putI, i_putZ, i_putR, i_iald, i_iast, i_aald, i_aast, i_alen, i_newi, i_newq, i_new, i_recv, i_iret, i_zret, i_lret, i_aret, i_vret, List.getElem?_cons_zero, List.getElem?_cons_succ, Option.bind_some, Option.toList_some, Option.toList_none, List.cons_append, List.nil_append, x_nI, am_put, am_put2, List.length_cons, List.length_nil, List.set_cons_zero, List.set_cons_succ, Nat.reduceAdd, Nat.reduceLT, Nat.reduceLeDiff, Nat.reduceEqDiff, Nat.add_left_cancel_iff, Nat.add_eq_left, Nat.left_eq_add, Nat.succ_ne_self, Nat.reduceSub, reduceIte, ite_self, eq_self, or_true, true_or, or_false, false_or, or_self, i10, not_true_eq_false, not_false_eq_true, x_call1, x_call2, x_call3, x_call4, x_call5, x_call6, x_sl0, x_sli, x_slr, x_sln, x_sll, am_ent, List.map_nil, List.map_cons, List.sum_nil, List.sum_cons, Value.category, and_true, true_and, and_self, Nat.zero_le, List.replicate_succ, List.replicate_zero, List.reduceReplicate, x_obj_set, x_row_set, x_len_set, x_obx, x_rox, x_rv]
  exact n_slabT1 hM hS hQ hv _ 0 (by omega) none
/-- values of a slab that fit -/
def arV (t : Nat) (x st : Int32) (k m : Nat) : Bool := rowA (fun k => valb t (x + nI k * st)) k m
theorem n_pS50 {d b v n : Nat} {A : am_H} {R : Nat → Nat → Int32} {f : mo_F} {s : sg_S} {x st : Int32} (hM : MM b A R f) (hS : MS R f.1 s) (hv : v < s.2.2.1) (hn : n ≤ 64) : ∀ (m k : Nat), k + m = n → (arV (s.2.2.2.1 v).2.1 x st k m = false → pev (d + 6) 206 [some (.ref b), some (.int (nI v)), some (.int x), some (.int st), some (.int (nI n)), some (.int (nI k))] [] A = some (some (.int (-6)), A)) ∧ (arV (s.2.2.2.1 v).2.1 x st k m = true → ∀ Y, pev (d + 6) 206 [some (.ref b), some (.int (nI v)), some (.int x), some (.int st), some (.int (nI n)), some (.int (nI n))] [] A = some Y → pev (d + 6) 206 [some (.ref b), some (.int (nI v)), some (.int x), some (.int st), some (.int (nI n)), some (.int (nI k))] [] A = some Y) := by
  have h5 := hS.1.2.2.1
  have hh := hS.2.1
  obtain ⟨⟨t1, t4⟩, -⟩ := hS.1.2.2.2.1 v hv
  have w2 := (hS.2.2.2.2.2 v hv).2.1
  intro m
  induction m with
  | zero =>
    intro k hk
    have hkn : k = n := by omega
    subst hkn
    exact ⟨fun h => by simp [arV, rowA] at h, fun _ Y hY => hY⟩
  | succ m ih =>
    intro k hk
    have hc : ¬ nI n ≤ nI k := nI_ge (by omega) (by omega)
    obtain ⟨i1, i2⟩ := ih (k + 1) (by omega)
    have ar : arV (s.2.2.2.1 v).2.1 x st k (m + 1) = (valb (s.2.2.2.1 v).2.1 (x + nI k * st) && arV (s.2.2.2.1 v).2.1 x st (k + 1) m) := rfl
    rw [ar]
    have ef := n_fits (d := d + 5) (A := A) t1 t4 (x + nI k * st)
    have e5 : (5 : Int32) * nI f.1 + nI v = nI (5 * f.1 + v) := by rw [show (5 : Int32) = nI 5 from rfl, pk_mul, nI_add]
    cases hx : valb (s.2.2.2.1 v).2.1 (x + nI k * st) with
    | false =>
      rw [hx] at ef
      refine ⟨fun _ => ?_, fun h => by simp at h⟩
      refine e_206 ?_; simp only [b_206, i_int, i_long, i_null, i_stat, i_iload, i_lload, i_aload, i_istore, i_astore, i_lstore, i_iinc, i_ii, i_idz, i_i, i_ll, i_lsh, i_i2l, i_l2i, i_lcmp, i_dup, i_pop, i_dup2, i_ifeq, i_ifne, i_iflt, i_ifge, i_ifgt, i_ifle, i_cmpeq, i_cmpne, i_cmplt, i_cmpge, i_cmpgt, i_cmple, i_ifnull, i_ifnonnull, i_getf, am_wr, i_putI, i_putZ, i_putR, i_iald, i_iast, i_aald, i_aast, i_alen, i_newi, i_newq, i_new, i_recv, i_iret, i_zret, i_lret, i_aret, i_vret, List.getElem?_cons_zero, List.getElem?_cons_succ, Option.bind_some, Option.toList_some, Option.toList_none, List.cons_append, List.nil_append, x_nI, am_put, am_put2, List.length_cons, List.length_nil, List.set_cons_zero, List.set_cons_succ, Nat.reduceAdd, Nat.reduceLT, Nat.reduceLeDiff, Nat.reduceEqDiff, Nat.add_left_cancel_iff, Nat.add_eq_left, Nat.left_eq_add, Nat.succ_ne_self, Nat.reduceSub, reduceIte, ite_self, eq_self, or_true, true_or, or_false, false_or, or_self, i10, not_true_eq_false, not_false_eq_true, x_call1, x_call2, x_call3, x_call4, x_call5, x_call6, x_sl0, x_sli, x_slr, x_sln, x_sll, am_ent, List.map_nil, List.map_cons, List.sum_nil, List.sum_cons, Value.category, and_true, true_and, and_self, Nat.zero_le, List.replicate_succ, List.replicate_zero, List.reduceReplicate, x_obj_set, x_row_set, x_len_set, x_obx, x_rox, x_rv, hc, x_obj hM.1, mo_obj, x_row (show A.2.2 (b + 6) = some (.inl (0, 10, R 6)) from hM.2.2 6 (by decide) (by decide)), e5, x_ix (show 5 * f.1 + v < 10 by omega) (show 5 * f.1 + v < 2147483648 by omega), w2, ef, bz_false]
    | true =>
      rw [hx] at ef
      rw [Bool.true_and]
      refine ⟨fun h => ?_, fun h Y hY => ?_⟩
      · have e1 := i1 h
        refine e_206 ?_; simp only [b_206, i_int, i_long, i_null, i_stat, i_iload, i_lload, i_aload, i_istore, i_astore, i_lstore, i_iinc, i_ii, i_idz, i_i, i_ll, i_lsh, i_i2l, i_l2i, i_lcmp, i_dup, i_pop, i_dup2, i_ifeq, i_ifne, i_iflt, i_ifge, i_ifgt, i_ifle, i_cmpeq, i_cmpne, i_cmplt, i_cmpge, i_cmpgt, i_cmple, i_ifnull, i_ifnonnull, i_getf, am_wr, i_putI, i_putZ, i_putR, i_iald, i_iast, i_aald, i_aast, i_alen, i_newi, i_newq, i_new, i_recv, i_iret, i_zret, i_lret, i_aret, i_vret, List.getElem?_cons_zero, List.getElem?_cons_succ, Option.bind_some, Option.toList_some, Option.toList_none, List.cons_append, List.nil_append, x_nI, am_put, am_put2, List.length_cons, List.length_nil, List.set_cons_zero, List.set_cons_succ, Nat.reduceAdd, Nat.reduceLT, Nat.reduceLeDiff, Nat.reduceEqDiff, Nat.add_left_cancel_iff, Nat.add_eq_left, Nat.left_eq_add, Nat.succ_ne_self, Nat.reduceSub, reduceIte, ite_self, eq_self, or_true, true_or, or_false, false_or, or_self, i10, not_true_eq_false, not_false_eq_true, x_call1, x_call2, x_call3, x_call4, x_call5, x_call6, x_sl0, x_sli, x_slr, x_sln, x_sll, am_ent, List.map_nil, List.map_cons, List.sum_nil, List.sum_cons, Value.category, and_true, true_and, and_self, Nat.zero_le, List.replicate_succ, List.replicate_zero, List.reduceReplicate, x_obj_set, x_row_set, x_len_set, x_obx, x_rox, x_rv, hc, x_obj hM.1, mo_obj, x_row (show A.2.2 (b + 6) = some (.inl (0, 10, R 6)) from hM.2.2 6 (by decide) (by decide)), e5, x_ix (show 5 * f.1 + v < 10 by omega) (show 5 * f.1 + v < 2147483648 by omega), w2, ef, bz_true, nI_1]
        exact e1
      · have e1 := i2 h Y hY
        refine e_206 ?_; simp only [b_206, i_int, i_long, i_null, i_stat, i_iload, i_lload, i_aload, i_istore, i_astore, i_lstore, i_iinc, i_ii, i_idz, i_i, i_ll, i_lsh, i_i2l, i_l2i, i_lcmp, i_dup, i_pop, i_dup2, i_ifeq, i_ifne, i_iflt, i_ifge, i_ifgt, i_ifle, i_cmpeq, i_cmpne, i_cmplt, i_cmpge, i_cmpgt, i_cmple, i_ifnull, i_ifnonnull, i_getf, am_wr, i_putI, i_putZ, i_putR, i_iald, i_iast, i_aald, i_aast, i_alen, i_newi, i_newq, i_new, i_recv, i_iret, i_zret, i_lret, i_aret, i_vret, List.getElem?_cons_zero, List.getElem?_cons_succ, Option.bind_some, Option.toList_some, Option.toList_none, List.cons_append, List.nil_append, x_nI, am_put, am_put2, List.length_cons, List.length_nil, List.set_cons_zero, List.set_cons_succ, Nat.reduceAdd, Nat.reduceLT, Nat.reduceLeDiff, Nat.reduceEqDiff, Nat.add_left_cancel_iff, Nat.add_eq_left, Nat.left_eq_add, Nat.succ_ne_self, Nat.reduceSub, reduceIte, ite_self, eq_self, or_true, true_or, or_false, false_or, or_self, i10, not_true_eq_false, not_false_eq_true, x_call1, x_call2, x_call3, x_call4, x_call5, x_call6, x_sl0, x_sli, x_slr, x_sln, x_sll, am_ent, List.map_nil, List.map_cons, List.sum_nil, List.sum_cons, Value.category, and_true, true_and, and_self, Nat.zero_le, List.replicate_succ, List.replicate_zero, List.reduceReplicate, x_obj_set, x_row_set, x_len_set, x_obx, x_rox, x_rv, hc, x_obj hM.1, mo_obj, x_row (show A.2.2 (b + 6) = some (.inl (0, 10, R 6)) from hM.2.2 6 (by decide) (by decide)), e5, x_ix (show 5 * f.1 + v < 10 by omega) (show 5 * f.1 + v < 2147483648 by omega), w2, ef, bz_true, nI_1]
        exact e1
