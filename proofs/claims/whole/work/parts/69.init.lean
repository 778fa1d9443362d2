/-! the constructors -/
theorem x_new (A : am_H) (n q : Nat) (e : am_C) : (am_new A n e).2.2 q = if q = A.1 then some e else A.2.2 q := rfl
theorem x_new1 (A : am_H) (n : Nat) (e : am_C) : (am_new A n e).1 = A.1 + 1 := rfl
theorem x_new2 (A : am_H) (n : Nat) (e : am_C) : (am_new A n e).2.1 = A.2.1 + n := rfl
theorem x_set1 (A : am_H) (p : Nat) (e : am_C) : (am_set A p e).1 = A.1 := rfl
theorem x_set2 (A : am_H) (p : Nat) (e : am_C) : (am_set A p e).2.1 = A.2.1 := rfl
theorem x_obj_new (A : am_H) (n q ci : Nat) (e : am_C) : am_obj (am_new A n e) q ci = if q = A.1 then am_obx e ci else am_obj A q ci := by
  by_cases h : q = A.1
  · rw [if_pos h]
    unfold am_obj
    rw [x_new, if_pos h]
    rcases e with ⟨_, _, _⟩ | ⟨_, _⟩ | ⟨_, _⟩ <;> rfl
  · rw [if_neg h]
    unfold am_obj
    rw [x_new, if_neg h]
theorem x_row_new (A : am_H) (n q kd : Nat) (e : am_C) : am_row (am_new A n e) q kd = if q = A.1 then am_rox e kd else am_row A q kd := by
  by_cases h : q = A.1
  · rw [if_pos h]
    unfold am_row
    rw [x_new, if_pos h]
    rcases e with ⟨_, _, _⟩ | ⟨_, _⟩ | ⟨_, _⟩ <;> rfl
  · rw [if_neg h]
    unfold am_row
    rw [x_new, if_neg h]
theorem x_iobj (d p : Nat) (f : am_F) (l : am_L) (s : List Value) (A : am_H) : i_obj (d + 1) f l (.ref p :: s) A = if (s.map fun v => v.category).sum ≤ 8 then f l s A else none := rfl
theorem ni_2 : am_ix 2 100000 = some 2 := by decide
theorem ni_3 : am_ix 3 100000 = some 3 := by decide
theorem ni_4 : am_ix 4 100000 = some 4 := by decide
theorem ni_5 : am_ix 5 100000 = some 5 := by decide
theorem ni_8 : am_ix 8 100000 = some 8 := by decide
theorem ni_10 : am_ix 10 100000 = some 10 := by decide
theorem ni_12 : am_ix 12 100000 = some 12 := by decide
theorem ni_20 : am_ix 20 100000 = some 20 := by decide
theorem ni_36 : am_ix 36 100000 = some 36 := by decide
theorem ni_800 : am_ix 800 100000 = some 800 := by decide
theorem ni_8000 : am_ix 8000 100000 = some 8000 := by decide
theorem g_al {p : Nat} {A B : am_H} {a : sg_A} (h : AL p A a) (e : ∀ q, p ≤ q → q < p + 5 → B.2.2 q = A.2.2 q) : AL p B a :=
  h.kept (P := fun q => ¬ (p ≤ q ∧ q < p + 5)) (B := (A.1, A.2.1, B.2.2)) ⟨rfl, rfl, fun q hq => e q (by omega) (by omega)⟩ (fun q h1 h2 h3 => h3 ⟨h1, h2⟩)
theorem g_va {p : Nat} {A B : am_H} {v : sg_R} (h : VA p A v) (e : ∀ q, p ≤ q → q < p + 7 → B.2.2 q = A.2.2 q) : VA p B v :=
  h.kept (P := fun q => ¬ (p ≤ q ∧ q < p + 7)) (B := (A.1, A.2.1, B.2.2)) ⟨rfl, rfl, fun q hq => e q (by omega) (by omega)⟩ (fun q h1 h2 h3 => h3 ⟨h1, h2⟩)
theorem g_st {p : Nat} {A B : am_H} {s : sg_S} {ρ : Nat → sg_R} (h : ST p A s ρ) (e : ∀ q, p ≤ q → q < p + 45 → B.2.2 q = A.2.2 q) : ST p B s ρ :=
  h.kept (P := fun q => ¬ (p ≤ q ∧ q < p + 45)) (B := (A.1, A.2.1, B.2.2)) ⟨rfl, rfl, fun q hq => e q (by omega) (by omega)⟩ (fun q h1 h2 h3 => h3 ⟨h1, h2⟩)
theorem g_br {p c : Nat} {A B : am_H} {bs : List Nat} (h : BR p A bs c) (e : ∀ q, p ≤ q → q < p + 2 → B.2.2 q = A.2.2 q) : BR p B bs c :=
  h.kept (P := fun q => ¬ (p ≤ q ∧ q < p + 2)) (B := (A.1, A.2.1, B.2.2)) ⟨rfl, rfl, fun q hq => e q (by omega) (by omega)⟩ (by omega) (by omega)
theorem g_se {p x y z : Nat} {A B : am_H} (h : SE p A x y z) (e : B.2.2 p = A.2.2 p) : SE p B x y z := ⟨e.trans h.1, h.2⟩
/-- an empty list, a variable and a store as the constructors leave them -/
def a00 : sg_A := (0, fun _ => 0, fun _ => 0, fun _ => 0, fun _ => 0)
def v00 : sg_R := (1, -1, -1, false, 1, 1, a00, fun _ => 0)
def s00 : sg_S := ((0, fun _ => 0, fun _ => 0), a00, 0, fun _ => (0, 0, 0, fun _ => 0, a00, fun _ => 0), 0)
def hAL (A : am_H) (p : Nat) : am_H := am_set (am_new (am_set (am_new (am_set (am_new (am_set (am_new (am_set A p (.inr (.inr (0, [.int 0, .null, .null, .null, .null])))) 3 (.inl (0, 3, fun _ => 0))) p (.inr (.inr (0, [.int 0, .ref (p + 1), .null, .null, .null])))) 3 (.inl (0, 3, fun _ => 0))) p (.inr (.inr (0, [.int 0, .ref (p + 1), .ref (p + 2), .null, .null])))) 3 (.inl (0, 3, fun _ => 0))) p (.inr (.inr (0, [.int 0, .ref (p + 1), .ref (p + 2), .ref (p + 3), .null])))) 3 (.inl (0, 3, fun _ => 0))) p (.inr (.inr (0, [.int 0, .ref (p + 1), .ref (p + 2), .ref (p + 3), .ref (p + 4)])))
theorem i_AL {d p : Nat} {A : am_H} (h : A.2.2 p = some (.inr (.inr (0, dvX0)))) (hp : 5 ≤ p) (h1 : A.1 = p + 1) : pev (d + 1) 4 [some (.ref p)] [] A = some (none, hAL A p) ∧ AL p (hAL A p) a00 ∧ (hAL A p).1 = p + 5 ∧ (hAL A p).2.1 = A.2.1 + 12 ∧ ∀ q, q < p → (hAL A p).2.2 q = A.2.2 q := by
  refine ⟨?_, ?_, ?_, ?_, ?_⟩
  · refine e_4 ?_; simp only [b_4, i_int, i_long, i_null, i_stat, i_iload, i_lload, i_aload, i_istore, i_astore, i_lstore, i_iinc, i_ii, i_idz, i_i, i_ll, i_lsh, i_i2l, i_l2i, i_lcmp, i_dup, i_pop, i_dup2, i_ifeq, i_ifne, i_iflt, i_ifge, i_ifgt, i_ifle, i_cmpeq, i_cmpne, i_cmplt, i_cmpge, i_cmpgt, i_cmple, i_ifnull, i_ifnonnull, i_getf, am_wr, i_putI, i_putZ, i_putR, i_iald, i_iast, i_aald, i_aast, i_alen, i_newi, i_newq, i_new, i_recv, i_iret, i_zret, i_lret, i_aret, i_vret, List.getElem?_cons_zero, List.getElem?_cons_succ, Option.bind_some, Option.toList_some, Option.toList_none, List.cons_append, List.nil_append, x_nI, am_put, am_put2, List.length_cons, List.length_nil, List.set_cons_zero, List.set_cons_succ, Nat.reduceAdd, Nat.reduceLT, Nat.reduceLeDiff, Nat.reduceEqDiff, Nat.add_left_cancel_iff, Nat.add_eq_left, Nat.left_eq_add, Nat.succ_ne_self, Nat.reduceSub, reduceIte, ite_self, eq_self, or_true, true_or, or_false, false_or, or_self, i10, not_true_eq_false, not_false_eq_true, x_call1, x_call2, x_call3, x_call4, x_call5, x_call6, x_sl0, x_sli, x_slr, x_sln, x_sll, am_ent, List.map_nil, List.map_cons, List.sum_nil, List.sum_cons, Value.category, and_true, true_and, and_self, Nat.zero_le, List.replicate_succ, List.replicate_zero, List.reduceReplicate, x_obj_set, x_row_set, x_len_set, x_obx, x_rox, x_rv, x_iobj, x_obj h, x_own hp, ni_3, x_obj_new, x_new1, x_set1, h1, Nat.add_assoc]
    all_goals rfl
  · refine ⟨fun _ => 0, fun _ => 0, fun _ => 0, fun _ => 0, ?_, ?_, ?_, ?_, ?_, by decide, hp, fun k hk => absurd hk (Nat.not_lt_zero k)⟩ <;> simp [hAL, x_set, x_new, x_set1, x_new1, h1, Nat.add_assoc] <;> rfl
  · simp [hAL, x_set1, x_new1, h1, Nat.add_assoc]
  · simp [hAL, x_set2, x_new2, Nat.add_assoc]
  · intro q hq
    have n0 : q ≠ p := by omega
    have n1 : q ≠ p + 1 := by omega
    have n2 : q ≠ p + 2 := by omega
    have n3 : q ≠ p + 3 := by omega
    have n4 : q ≠ p + 4 := by omega
    simp [hAL, x_set, x_new, x_set1, x_new1, h1, Nat.add_assoc, n0, n1, n2, n3, n4]
def hVA1 (A : am_H) (p : Nat) : am_H := am_new (am_set (am_set (am_set (am_set (am_set (am_set A p (.inr (.inr (4, [.int 1, .int 0, .int 0, .int 0, .int 0, .int 0, .null, .null])))) p (.inr (.inr (4, [.int 1, .int (-1), .int 0, .int 0, .int 0, .int 0, .null, .null])))) p (.inr (.inr (4, [.int 1, .int (-1), .int (-1), .int 0, .int 0, .int 0, .null, .null])))) p (.inr (.inr (4, [.int 1, .int (-1), .int (-1), .int 0, .int 0, .int 0, .null, .null])))) p (.inr (.inr (4, [.int 1, .int (-1), .int (-1), .int 0, .int 1, .int 0, .null, .null])))) p (.inr (.inr (4, [.int 1, .int (-1), .int (-1), .int 0, .int 1, .int 1, .null, .null])))) 5 (.inr (.inr (0, dvX0)))
def hVA (A : am_H) (p : Nat) : am_H := am_set (am_new (am_set (hAL (hVA1 A p) (p + 1)) p (.inr (.inr (4, [.int 1, .int (-1), .int (-1), .int 0, .int 1, .int 1, .ref (p + 1), .null])))) 800 (.inl (0, 800, fun _ => 0))) p (.inr (.inr (4, [.int 1, .int (-1), .int (-1), .int 0, .int 1, .int 1, .ref (p + 1), .ref (p + 6)])))
theorem i_VA {d p : Nat} {A : am_H} (h : A.2.2 p = some (.inr (.inr (4, dvX4)))) (hp : 5 ≤ p) (h1 : A.1 = p + 1) : pev (d + 2) 3 [some (.ref p)] [] A = some (none, hVA A p) ∧ VA p (hVA A p) v00 ∧ (hVA A p).1 = p + 7 ∧ (hVA A p).2.1 = A.2.1 + 817 ∧ ∀ q, q < p → (hVA A p).2.2 q = A.2.2 q := by
  have a1 : (hVA1 A p).1 = p + 1 + 1 := by simp [hVA1, x_set1, x_new1, h1]
  have a2 : (hVA1 A p).2.2 (p + 1) = some (.inr (.inr (0, dvX0))) := by simp [hVA1, x_new, x_set1, h1]
  have a3 : (hVA1 A p).2.2 p = some (.inr (.inr (4, [.int 1, .int (-1), .int (-1), .int 0, .int 1, .int 1, .null, .null]))) := by simp [hVA1, x_new, x_set1, x_set, h1]
  have a4 : ∀ q, q < p → (hVA1 A p).2.2 q = A.2.2 q := fun q hq => by
    have n0 : q ≠ p := by omega
    have n1 : q ≠ p + 1 := by omega
    simp [hVA1, x_new, x_set, x_set1, h1, n0, n1]
  have a5 : (hVA1 A p).2.1 = A.2.1 + 5 := by simp [hVA1, x_new2, x_set2]
  obtain ⟨e1, l1, l2, l3, l4⟩ := i_AL (d := d) a2 (by omega) a1
  have b3 : (hAL (hVA1 A p) (p + 1)).2.2 p = some (.inr (.inr (4, [.int 1, .int (-1), .int (-1), .int 0, .int 1, .int 1, .null, .null]))) := (l4 p (by omega)).trans a3
  refine ⟨?_, ?_, ?_, ?_, ?_⟩
  · have hf : am_new (am_set (am_set (am_set (am_set (am_set (am_set A p (.inr (.inr (4, [.int 1, .int 0, .int 0, .int 0, .int 0, .int 0, .null, .null])))) p (.inr (.inr (4, [.int 1, .int (-1), .int 0, .int 0, .int 0, .int 0, .null, .null])))) p (.inr (.inr (4, [.int 1, .int (-1), .int (-1), .int 0, .int 0, .int 0, .null, .null])))) p (.inr (.inr (4, [.int 1, .int (-1), .int (-1), .int 0, .int 0, .int 0, .null, .null])))) p (.inr (.inr (4, [.int 1, .int (-1), .int (-1), .int 0, .int 1, .int 0, .null, .null])))) p (.inr (.inr (4, [.int 1, .int (-1), .int (-1), .int 0, .int 1, .int 1, .null, .null])))) 5 (.inr (.inr (0, dvX0))) = hVA1 A p := rfl
    refine e_3 ?_; simp only [b_3, i_int, i_long, i_null, i_stat, i_iload, i_lload, i_aload, i_istore, i_astore, i_lstore, i_iinc, i_ii, i_idz, i_i, i_ll, i_lsh, i_i2l, i_l2i, i_lcmp, i_dup, i_pop, i_dup2, i_ifeq, i_ifne, i_iflt, i_ifge, i_ifgt, i_ifle, i_cmpeq, i_cmpne, i_cmplt, i_cmpge, i_cmpgt, i_cmple, i_ifnull, i_ifnonnull, i_getf, am_wr, i_putI, i_putZ, i_putR, i_iald, i_iast, i_aald, i_aast, i_alen, i_newi, i_newq, i_new, i_recv, i_iret, i_zret, i_lret, i_aret, i_vret, List.getElem?_cons_zero, List.getElem?_cons_succ, Option.bind_some, Option.toList_some, Option.toList_none, List.cons_append, List.nil_append, x_nI, am_put, am_put2, List.length_cons, List.length_nil, List.set_cons_zero, List.set_cons_succ, Nat.reduceAdd, Nat.reduceLT, Nat.reduceLeDiff, Nat.reduceEqDiff, Nat.add_left_cancel_iff, Nat.add_eq_left, Nat.left_eq_add, Nat.succ_ne_self, Nat.reduceSub, reduceIte, ite_self, eq_self, or_true, true_or, or_false, false_or, or_self, i10, not_true_eq_false, not_false_eq_true, x_call1, x_call2, x_call3, x_call4, x_call5, x_call6, x_sl0, x_sli, x_slr, x_sln, x_sll, am_ent, List.map_nil, List.map_cons, List.sum_nil, List.sum_cons, Value.category, and_true, true_and, and_self, Nat.zero_le, List.replicate_succ, List.replicate_zero, List.reduceReplicate, x_obj_set, x_row_set, x_len_set, x_obx, x_rox, x_rv, x_iobj, x_obj h, x_own hp, x_obj_new, x_new1, x_set1, h1, hf, e1, x_obj b3, ni_800, l2, Nat.add_assoc]
    rfl
  · refine ⟨fun _ => 0, ?_, ?_, fun k _ => rfl, ?_, hp⟩
    · exact (x_set_self _ _ _).trans rfl
    · simp [hVA, x_set, x_new, x_set1, l2, Nat.add_assoc]
    · refine g_al l1 (fun q q1 q2 => ?_)
      have n0 : q ≠ p := by omega
      have n6 : q ≠ p + 6 := by omega
      simp [hVA, x_set, x_new, x_set1, l2, n0, n6, Nat.add_assoc]
  · simp [hVA, x_set1, x_new1, l2, Nat.add_assoc]
  · simp [hVA, x_set2, x_new2, l3, a5, Nat.add_assoc]
  · intro q hq
    have n0 : q ≠ p := by omega
    have n6 : q ≠ p + 6 := by omega
    have e := (l4 q (by omega)).trans (a4 q hq)
    simp [hVA, x_set, x_new, x_set1, l2, n0, n6, Nat.add_assoc, e]
