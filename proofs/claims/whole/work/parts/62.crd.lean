/-! the class reads a list of attributes -/
def AV (a : sg_A) : Prop := (∀ k, k < a.1 → isNb (a.2.1 k) = true ∧ (1 ≤ a.2.2.1 k ∧ a.2.2.1 k ≤ 4) ∧ valb (a.2.2.1 k) (a.2.2.2.1 k) = true ∧ valb (a.2.2.1 k) (a.2.2.2.2 k) = true) ∧ dst a.2.1 a.1 ∧ a.1 ≤ 3
def agr (a a0 : sg_A) (k : Nat) : Prop := ∀ j, j < k → a.2.1 j = a0.2.1 j ∧ a.2.2.1 j = a0.2.2.1 j ∧ a.2.2.2.1 j = a0.2.2.2.1 j ∧ a.2.2.2.2 j = a0.2.2.2.2 j
theorem AL.agr {p : Nat} {A : am_H} {a a0 : sg_A} (h : AL p A a) (h1 : a.1 = a0.1) (h2 : agr a a0 a0.1) : AL p A a0 := by
  obtain ⟨g1, g2, g3, g4, q0, q1, q2, q3, q4, q5, q6, q7⟩ := h
  refine ⟨g1, g2, g3, g4, by rw [← h1]; exact q0, q1, q2, q3, q4, by omega, q6, fun k hk => ?_⟩
  obtain ⟨e1, e2, e3, e4⟩ := h2 k hk
  rw [← e1, ← e2, ← e3, ← e4]
  exact q7 k (by omega)
theorem fnd_of_none {g : Nat → Int32} {x : Int32} {n : Nat} (h : ∀ j, j < n → g j ≠ x) : fnd g x n = none := by
  cases hf : fnd g x n with
  | none => rfl
  | some j => exact absurd (fnd_some hf).2 (h j (fnd_some hf).1)
theorem AV_as {a : sg_A} {nm ty x y : Int32} (h : AV a) : AV (as_a a nm ty x y) := by
  obtain ⟨h1, h2, h3⟩ := h
  unfold as_a
  split
  · rename_i c1
    rw [Bool.and_eq_true] at c1
    obtain ⟨t, rfl, t1, t4⟩ := isTb_nI c1.2
    rw [nI_clamp (by omega)]
    split
    · rename_i c2
      rw [Bool.and_eq_true] at c2
      have key : ∀ n k, n ≤ 3 → (n = a.1 ∨ (n = a.1 + 1 ∧ k = a.1)) → dst (upd a.2.1 k nm) n → AV (al_w a n k nm t x y) := by
        intro n k hn hk hd
        refine ⟨fun j hj => ?_, hd, hn⟩
        have hj2 : j < n := hj
        show isNb (upd a.2.1 k nm j) = true ∧ (1 ≤ (if j = k then t else a.2.2.1 j) ∧ (if j = k then t else a.2.2.1 j) ≤ 4) ∧ valb (if j = k then t else a.2.2.1 j) (upd a.2.2.2.1 k x j) = true ∧ valb (if j = k then t else a.2.2.1 j) (upd a.2.2.2.2 k y j) = true
        by_cases c : j = k
        · subst c
          rw [pk_us, pk_us, pk_us, if_pos rfl]
          exact ⟨c1.1, ⟨t1, t4⟩, c2.1, c2.2⟩
        · rw [pk_un c, pk_un c, pk_un c, if_neg c]
          exact h1 j (by omega)
      split
      · rename_i k hk
        exact key _ _ h3 (Or.inl rfl) (dst_ren h2 (fnd_some hk).1 (Or.inr hk))
      · rename_i hk
        split
        · exact ⟨h1, h2, h3⟩
        · exact key _ _ (by omega) (Or.inr ⟨rfl, rfl⟩) (dst_add h2 hk)
    · exact ⟨h1, h2, h3⟩
  · exact ⟨h1, h2, h3⟩
theorem isTb_of {t : Nat} (h1 : 1 ≤ t) (h4 : t ≤ 4) : isTb (nI t) = true := by
  rcases (show t = 1 ∨ t = 2 ∨ t = 3 ∨ t = 4 by omega) with rfl | rfl | rfl | rfl <;> decide
theorem as_new {a : sg_A} {nm x y : Int32} {t : Nat} (h1 : isNb nm = true) (t1 : 1 ≤ t) (t4 : t ≤ 4) (hx : valb t x = true) (hy : valb t y = true) (hf : fnd a.2.1 nm a.1 = none) (h3 : a.1 < 3) : as_c a nm (nI t) x y = 0 ∧ as_a a nm (nI t) x y = al_w a (a.1 + 1) a.1 nm t x y := by
  unfold as_c as_a
  rw [h1, isTb_of t1 t4, nI_clamp (by omega), hx, hy, hf]
  simp only [Bool.and_self, if_true]
  rw [if_neg (by omega), if_neg (by omega)]
  exact ⟨rfl, rfl⟩
theorem ia1_back {D : List Nat} {c k : Nat} {a : sg_A} (h : AV a) (hk : k < a.1) (hs : seg D c (ia1 a k)) : nmr (rd D (c + 4) 4) = a.2.1 k ∧ rd D (c + 8) 4 = nI (a.2.2.1 k) ∧ vof (a.2.2.1 k) (rd D (c + 16) (wd (a.2.2.1 k))) = a.2.2.2.1 k ∧ vof (a.2.2.1 k) (rd D (c + 16 + wd (a.2.2.1 k)) (wd (a.2.2.1 k))) = a.2.2.2.2 k := by
  obtain ⟨h1, ⟨t1, t4⟩, hx, hy⟩ := h.1 k hk
  unfold ia1 at hs
  have s5 := seg_l hs
  have s4 := seg_l s5
  have s3 := seg_l s4
  have s2 := seg_l s3
  have s1 := seg_l s2
  have r2 := seg_r s2
  have r4 := seg_r s4
  have r5 := seg_r s5
  simp only [List.length_append, nam_len, wrd_len, num_len, Nat.reduceAdd] at r2 r4 r5
  refine ⟨nmr_back h1 s1, rd_wrd r2, vof_back t1 t4 hx r4, ?_⟩
  rw [← Nat.add_assoc] at r5
  exact vof_back t1 t4 hy r5
/-- place c0 of the bytes holds the n attributes of a0 -/
def LH (D : List Nat) (c0 n : Nat) (a0 : sg_A) : Prop := AV a0 ∧ a0.1 = n ∧ seg D c0 (sg_cat (ia1 a0) n) ∧ c0 % 4 = 0
def atAR (p r : Nat) : Nat → Prop := fun q => at5 p q ∨ at2 r q
theorem pad_step {c w : Nat} (h : c % 4 = 0) : pad4 (c + 16 + w + w) = c + (16 + pad4 (2 * w)) := by
  unfold pad4
  omega
theorem k_aread18 {d p r n : Nat} {D : List Nat} (hdj : r + 1 < p ∨ p + 5 ≤ r) (hn : n ≤ 3) : ∀ (m k : Nat), k + m = n → ∀ {A : am_H} {a : sg_A} {c : Nat} {o4 o5 o6 o7 : Option Value}, am_St A → AL p A a → AV a → BR r A D c → c + 40 * m < 60000 → ∃ B ok a2 c2, pev (d + 2) 128 [some (.ref p), some (.ref r), some (.int (nI n)), some (.int (nI k)), o4, o5, o6, o7] [] A = some (some (.int (bz ok)), B) ∧ AL p B a2 ∧ AV a2 ∧ BR r B D c2 ∧ c2 ≤ c + 40 * m ∧ am_fr (atAR p r) A B ∧ ∀ a0 c0, LH D c0 n a0 → a.1 = k → agr a a0 k → c = c0 + (sg_cat (ia1 a0) k).length → ok = true ∧ AL p B a0 ∧ c2 = c0 + (sg_cat (ia1 a0) n).length := by
  intro m
  induction m with
  | zero =>
    intro k hk A a c o4 o5 o6 o7 hs hA hV hB hc
    have hkn : k = n := by omega
    subst hkn
    refine ⟨A, true, a, c, ?_, hA, hV, hB, by omega, am_fr.refl A, fun a0 c0 hL h1 h2 h3 => ⟨rfl, hA.agr (h1.trans hL.2.1.symm) (by rw [hL.2.1]; exact h2), h3⟩⟩
    refine e_128 ?_; simp only [b_128, i_int, i_long, i_null, i_stat, i_iload, i_lload, i_aload, i_istore, i_astore, i_lstore, i_iinc, i_ii, i_idz, i_i, i_ll, i_lsh, i_i2l, i_l2i, i_lcmp, i_dup, i_pop, i_dup2, i_ifeq, i_ifne, i_iflt, i_ifge, i_ifgt, i_ifle, i_cmpeq, i_cmpne, i_cmplt, i_cmpge, i_cmpgt, i_cmple, i_ifnull, i_ifnonnull, i_getf, am_wr, i_putI, i_putZ, i_putR, i_iald, i_iast, i_aald, i_aast, i_alen, i_newi, i_newq, i_new, i_recv, i_iret, i_zret, i_lret, i_aret, i_vret, List.getElem?_cons_zero, List.getElem?_cons_succ, Option.bind_some, Option.toList_some, Option.toList_none, List.cons_append, List.nil_append, x_nI, am_put, am_put2, List.length_cons, List.length_nil, List.set_cons_zero, List.set_cons_succ, Nat.reduceAdd, Nat.reduceLT, Nat.reduceLeDiff, Nat.reduceEqDiff, Nat.add_left_cancel_iff, Nat.add_eq_left, Nat.left_eq_add, Nat.succ_ne_self, Nat.reduceSub, reduceIte, ite_self, eq_self, or_true, true_or, or_false, false_or, or_self, i10, not_true_eq_false, not_false_eq_true, x_call1, x_call2, x_call3, x_call4, x_call5, x_call6, x_sl0, x_sli, x_slr, x_sln, x_sll, am_ent, List.map_nil, List.map_cons, List.sum_nil, List.sum_cons, Value.category, and_true, true_and, and_self, Nat.zero_le, List.replicate_succ, List.replicate_zero, List.reduceReplicate, x_obj_set, x_row_set, x_len_set, x_obx, x_rox, x_rv, show nI k ≤ nI k from nI_le (Nat.le_refl _) (by omega)]
    all_goals rfl
  | succ m ih =>
    intro k hk A a c o4 o5 o6 o7 hs hA hV hB hc
    have hr : 5 ≤ r := by obtain ⟨_, _, _, _, q, _⟩ := hB; exact q
    have hcn : ¬ nI n ≤ nI k := nI_ge (by omega) (by omega)
    obtain ⟨B1, e1, b1, f1⟩ := k_takeName (d := d) (by omega) hB
    obtain ⟨B2, e2, b2, f2⟩ := k_takeWord (d := d) (by omega) b1
    obtain ⟨B3, e3, b3, f3⟩ := k_takeWord (d := d) (by omega) b2
    rw [show c + 8 + 4 = c + 12 by omega] at b2 e3
    rw [show c + 12 + 4 = c + 16 by omega] at b3
    have F3 := f1.trans (f2.trans f3)
    have hA3 := hA.two F3 hdj
    have hs3 := hs.two F3 hr
    have eT := k_isType (d := d + 1) (A := B3) (rd D (c + 8) 4)
    cases hT : isTb (rd D (c + 8) 4) with
    | false =>
      rw [hT] at eT
      refine ⟨B3, false, a, c + 16, ?_, hA3, hV, b3, by omega, F3.mono (fun z hz => Or.inr hz), fun a0 c0 hL h1 h2 h3 => ?_⟩
      · refine e_128 ?_; simp only [b_128, i_int, i_long, i_null, i_stat, i_iload, i_lload, i_aload, i_istore, i_astore, i_lstore, i_iinc, i_ii, i_idz, i_i, i_ll, i_lsh, i_i2l, i_l2i, i_lcmp, i_dup, i_pop, i_dup2, i_ifeq, i_ifne, i_iflt, i_ifge, i_ifgt, i_ifle, i_cmpeq, i_cmpne, i_cmplt, i_cmpge, i_cmpgt, i_cmple, i_ifnull, i_ifnonnull, i_getf, am_wr, i_putI, i_putZ, i_putR, i_iald, i_iast, i_aald, i_aast, i_alen, i_newi, i_newq, i_new, i_recv, i_iret, i_zret, i_lret, i_aret, i_vret, List.getElem?_cons_zero, List.getElem?_cons_succ, Option.bind_some, Option.toList_some, Option.toList_none, List.cons_append, List.nil_append, x_nI, am_put, am_put2, List.length_cons, List.length_nil, List.set_cons_zero, List.set_cons_succ, Nat.reduceAdd, Nat.reduceLT, Nat.reduceLeDiff, Nat.reduceEqDiff, Nat.add_left_cancel_iff, Nat.add_eq_left, Nat.left_eq_add, Nat.succ_ne_self, Nat.reduceSub, reduceIte, ite_self, eq_self, or_true, true_or, or_false, false_or, or_self, i10, not_true_eq_false, not_false_eq_true, x_call1, x_call2, x_call3, x_call4, x_call5, x_call6, x_sl0, x_sli, x_slr, x_sln, x_sll, am_ent, List.map_nil, List.map_cons, List.sum_nil, List.sum_cons, Value.category, and_true, true_and, and_self, Nat.zero_le, List.replicate_succ, List.replicate_zero, List.reduceReplicate, x_obj_set, x_row_set, x_len_set, x_obx, x_rox, x_rv, hcn, x_obj hB.obj, e1, x_obj b1.obj, e2, x_obj b2.obj, e3, eT, bz_false]
        all_goals rfl
      · have hka : k < a0.1 := by rw [hL.2.1]; omega
        have hb := ia1_back hL.1 hka (seg_cat hL.2.2.1 (show k < n by omega))
        rw [← h3] at hb
        rw [hb.2.1, isTb_of (hL.1.1 k hka).2.1.1 (hL.1.1 k hka).2.1.2] at hT
        cases hT
    | true =>
      rw [hT] at eT
      obtain ⟨t, et, t1, t4⟩ := isTb_nI hT
      rw [et] at e2 eT
      have hw := wd_le t
      obtain ⟨B4, e4, b4, f4⟩ := k_takeValue (d := d) (by omega) t1 t4 hs3 b3
      obtain ⟨B5, e5, b5, f5⟩ := k_takeValue (d := d) (by omega) t1 t4 (hs3.two f4 hr) b4
      obtain ⟨B6, e6, b6, f6⟩ := k_takePadding (d := d) (by omega) b5
      have F6 := f4.trans (f5.trans f6)
      have hA6 := hA3.two F6 hdj
      have hs6 := hs3.two F6 hr
      obtain ⟨B7, e7, hA7, f7⟩ := k_assign (d := d) (nm := nmr (rd D (c + 4) 4)) (ty := nI t) (x := vof t (rd D (c + 16) (wd t))) (y := vof t (rd D (c + 16 + wd t) (wd t))) hs6 hA6
      have G7 : am_fr (atAR p r) A B7 := ((F3.trans F6).mono (fun z hz => Or.inr hz)).trans (f7.mono (fun z hz => Or.inl hz))
      have b7 : BR r B7 D (pad4 (c + 16 + wd t + wd t)) := b6.kept f7 (fun e => by unfold at5 at e; omega) (fun e => by unfold at5 at e; omega)
      have hs7 : am_St B7 := hs6.kept f7 (fun q q1 q2 => by
        have hp : 5 ≤ p := by obtain ⟨_, _, _, _, _, _, _, _, _, _, q, _⟩ := hA; exact q
        unfold at5 at q2
        omega)
      have hp4 : pad4 (c + 16 + wd t + wd t) ≤ c + 40 := by unfold pad4; omega
      -- the call in the draft that is wanted
      have hx : ∀ a0 c0, LH D c0 n a0 → a.1 = k → agr a a0 k → c = c0 + (sg_cat (ia1 a0) k).length → as_c a (nmr (rd D (c + 4) 4)) (nI t) (vof t (rd D (c + 16) (wd t))) (vof t (rd D (c + 16 + wd t) (wd t))) = 0 ∧ (as_a a (nmr (rd D (c + 4) 4)) (nI t) (vof t (rd D (c + 16) (wd t))) (vof t (rd D (c + 16 + wd t) (wd t)))).1 = k + 1 ∧ agr (as_a a (nmr (rd D (c + 4) 4)) (nI t) (vof t (rd D (c + 16) (wd t))) (vof t (rd D (c + 16 + wd t) (wd t)))) a0 (k + 1) ∧ pad4 (c + 16 + wd t + wd t) = c0 + (sg_cat (ia1 a0) (k + 1)).length := by
        intro a0 c0 hL h1 h2 h3
        have hka : k < a0.1 := by rw [hL.2.1]; omega
        have hb := ia1_back hL.1 hka (seg_cat hL.2.2.1 (show k < n by omega))
        rw [← h3] at hb
        obtain ⟨v1, ⟨v2, v3⟩, v4, v5⟩ := hL.1.1 k hka
        have ett : t = a0.2.2.1 k := (nI_eq (by omega) (by omega)).mp (et.symm.trans hb.2.1)
        subst ett
        obtain ⟨hb1, hb2, hb3, hb4⟩ := hb
        rw [hb1, hb3, hb4]
        have hf : fnd a.2.1 (a0.2.1 k) a.1 = none := fnd_of_none (fun j hj e => by
          rw [(h2 j (by omega)).1] at e
          have := hL.1.2.1 j k (by omega) hka e
          omega)
        obtain ⟨n1, n2⟩ := as_new (a := a) v1 v2 v3 v4 v5 hf (by omega)
        rw [n1, n2]
        refine ⟨rfl, by show a.1 + 1 = k + 1; omega, fun j hj => ?_, ?_⟩
        · show upd a.2.1 a.1 _ j = _ ∧ (if j = a.1 then _ else a.2.2.1 j) = _ ∧ upd a.2.2.2.1 a.1 _ j = _ ∧ upd a.2.2.2.2 a.1 _ j = _
          by_cases cj : j = a.1
          · have cj2 : j = k := by omega
            rw [cj, pk_us, pk_us, pk_us, if_pos rfl, ← cj, cj2]
            exact ⟨rfl, rfl, rfl, rfl⟩
          · rw [pk_un cj, pk_un cj, pk_un cj, if_neg cj]
            exact h2 j (by omega)
        · have hm4 : c % 4 = 0 := by
            have := ia1_mod a0 k
            have := hL.2.2.2
            omega
          rw [pad_step hm4, sg_cat, List.length_append, ia1_len]
          omega
      cases hcc : decide (0 ≤ as_c a (nmr (rd D (c + 4) 4)) (nI t) (vof t (rd D (c + 16) (wd t))) (vof t (rd D (c + 16 + wd t) (wd t)))) with
      | false =>
        have hcd := of_decide_eq_false hcc
        refine ⟨B7, false, _, _, ?_, hA7, AV_as hV, b7, by omega, G7, fun a0 c0 hL h1 h2 h3 => ?_⟩
        · refine e_128 ?_; simp only [b_128, i_int, i_long, i_null, i_stat, i_iload, i_lload, i_aload, i_istore, i_astore, i_lstore, i_iinc, i_ii, i_idz, i_i, i_ll, i_lsh, i_i2l, i_l2i, i_lcmp, i_dup, i_pop, i_dup2, i_ifeq, i_ifne, i_iflt, i_ifge, i_ifgt, i_ifle, i_cmpeq, i_cmpne, i_cmplt, i_cmpge, i_cmpgt, i_cmple, i_ifnull, i_ifnonnull, i_getf, am_wr, i_putI, i_putZ, i_putR, i_iald, i_iast, i_aald, i_aast, i_alen, i_newi, i_newq, i_new, i_recv, i_iret, i_zret, i_lret, i_aret, i_vret, List.getElem?_cons_zero, List.getElem?_cons_succ, Option.bind_some, Option.toList_some, Option.toList_none, List.cons_append, List.nil_append, x_nI, am_put, am_put2, List.length_cons, List.length_nil, List.set_cons_zero, List.set_cons_succ, Nat.reduceAdd, Nat.reduceLT, Nat.reduceLeDiff, Nat.reduceEqDiff, Nat.add_left_cancel_iff, Nat.add_eq_left, Nat.left_eq_add, Nat.succ_ne_self, Nat.reduceSub, reduceIte, ite_self, eq_self, or_true, true_or, or_false, false_or, or_self, i10, not_true_eq_false, not_false_eq_true, x_call1, x_call2, x_call3, x_call4, x_call5, x_call6, x_sl0, x_sli, x_slr, x_sln, x_sll, am_ent, List.map_nil, List.map_cons, List.sum_nil, List.sum_cons, Value.category, and_true, true_and, and_self, Nat.zero_le, List.replicate_succ, List.replicate_zero, List.reduceReplicate, x_obj_set, x_row_set, x_len_set, x_obx, x_rox, x_rv, hcn, x_obj hB.obj, e1, x_obj b1.obj, e2, x_obj b2.obj, e3, eT, bz_true, x_obj b3.obj, e4, x_obj b4.obj, e5, x_obj b5.obj, e6, x_obj hA6.obj, e7, hcd]
          all_goals rfl
        · rw [(hx a0 c0 hL h1 h2 h3).1] at hcd
          exact absurd (by decide) hcd
      | true =>
        have hcd := of_decide_eq_true hcc
        obtain ⟨C, ok, a2, c2, e8, q1, q2, q3, q4, q5, q6⟩ := ih (k + 1) (by omega) (o4 := some (.int (nmr (rd D (c + 4) 4)))) (o5 := some (.int (nI t))) (o6 := some (.int (vof t (rd D (c + 16) (wd t))))) (o7 := some (.int (vof t (rd D (c + 16 + wd t) (wd t))))) hs7 hA7 (AV_as hV) b7 (by omega)
        refine ⟨C, ok, a2, c2, ?_, q1, q2, q3, by omega, G7.trans q5, fun a0 c0 hL h1 h2 h3 => ?_⟩
        · refine e_128 ?_; simp only [b_128, i_int, i_long, i_null, i_stat, i_iload, i_lload, i_aload, i_istore, i_astore, i_lstore, i_iinc, i_ii, i_idz, i_i, i_ll, i_lsh, i_i2l, i_l2i, i_lcmp, i_dup, i_pop, i_dup2, i_ifeq, i_ifne, i_iflt, i_ifge, i_ifgt, i_ifle, i_cmpeq, i_cmpne, i_cmplt, i_cmpge, i_cmpgt, i_cmple, i_ifnull, i_ifnonnull, i_getf, am_wr, i_putI, i_putZ, i_putR, i_iald, i_iast, i_aald, i_aast, i_alen, i_newi, i_newq, i_new, i_recv, i_iret, i_zret, i_lret, i_aret, i_vret, List.getElem?_cons_zero, List.getElem?_cons_succ, Option.bind_some, Option.toList_some, Option.toList_none, List.cons_append, List.nil_append, x_nI, am_put, am_put2, List.length_cons, List.length_nil, List.set_cons_zero, List.set_cons_succ, Nat.reduceAdd, Nat.reduceLT, Nat.reduceLeDiff, Nat.reduceEqDiff, Nat.add_left_cancel_iff, Nat.add_eq_left, Nat.left_eq_add, Nat.succ_ne_self, Nat.reduceSub, reduceIte, ite_self, eq_self, or_true, true_or, or_false, false_or, or_self, i10, not_true_eq_false, not_false_eq_true, x_call1, x_call2, x_call3, x_call4, x_call5, x_call6, x_sl0, x_sli, x_slr, x_sln, x_sll, am_ent, List.map_nil, List.map_cons, List.sum_nil, List.sum_cons, Value.category, and_true, true_and, and_self, Nat.zero_le, List.replicate_succ, List.replicate_zero, List.reduceReplicate, x_obj_set, x_row_set, x_len_set, x_obx, x_rox, x_rv, hcn, x_obj hB.obj, e1, x_obj b1.obj, e2, x_obj b2.obj, e3, eT, bz_true, x_obj b3.obj, e4, x_obj b4.obj, e5, x_obj b5.obj, e6, x_obj hA6.obj, e7, hcd, nI_1]
          exact e8
        · obtain ⟨x1, x2, x3, x4⟩ := hx a0 c0 hL h1 h2 h3
          exact q6 a0 c0 hL x2 x3 x4
theorem im_a_seg {D : List Nat} {c : Nat} {a0 : sg_A} (h : AV a0) (hs : seg D c (im_a a0)) (hc : c % 4 = 0) : rd D (c + 4) 4 = nI a0.1 ∧ LH D (c + 8) a0.1 a0 := by
  unfold im_a hea at hs
  have s1 := seg_l hs
  have r1 := seg_r s1
  have r2 := seg_r hs
  simp only [List.length_append, wrd_len, Nat.reduceAdd] at r1 r2
  exact ⟨rd_wrd r1, h, rfl, r2, by omega⟩
theorem k_aread {d p r c : Nat} {D : List Nat} {A : am_H} {a : sg_A} (hdj : r + 1 < p ∨ p + 5 ≤ r) (hs : am_St A) (hA : AL p A a) (h0 : a.1 = 0) (hB : BR r A D c) (hc : c < 50000) : ∃ B ok a2 c2, pev (d + 3) 127 [some (.ref p), some (.ref r), none, none, none, none, none, none] [] A = some (some (.int (bz ok)), B) ∧ AL p B a2 ∧ AV a2 ∧ BR r B D c2 ∧ c2 ≤ c + 128 ∧ am_fr (atAR p r) A B ∧ ∀ a0, AV a0 → seg D c (im_a a0) → c % 4 = 0 → ok = true ∧ AL p B a0 ∧ c2 = c + sg_ls a0 := by
  have hr : 5 ≤ r := by obtain ⟨_, _, _, _, q, _⟩ := hB; exact q
  obtain ⟨B1, e1, b1, f1⟩ := k_takeCount (d := d + 1) (by omega) hB
  have hA1 := hA.two f1 hdj
  have hs1 := hs.two f1 hr
  have hV : AV a := ⟨fun k hk => by omega, fun i j hi => by omega, by omega⟩
  by_cases c1 : rd D (c + 4) 4 < 0
  · refine ⟨B1, false, a, c + 8, ?_, hA1, hV, b1, by omega, f1.mono (fun z hz => Or.inr hz), fun a0 hV0 hs0 hm => ?_⟩
    · refine e_127 ?_; simp only [b_127, i_int, i_long, i_null, i_stat, i_iload, i_lload, i_aload, i_istore, i_astore, i_lstore, i_iinc, i_ii, i_idz, i_i, i_ll, i_lsh, i_i2l, i_l2i, i_lcmp, i_dup, i_pop, i_dup2, i_ifeq, i_ifne, i_iflt, i_ifge, i_ifgt, i_ifle, i_cmpeq, i_cmpne, i_cmplt, i_cmpge, i_cmpgt, i_cmple, i_ifnull, i_ifnonnull, i_getf, am_wr, i_putI, i_putZ, i_putR, i_iald, i_iast, i_aald, i_aast, i_alen, i_newi, i_newq, i_new, i_recv, i_iret, i_zret, i_lret, i_aret, i_vret, List.getElem?_cons_zero, List.getElem?_cons_succ, Option.bind_some, Option.toList_some, Option.toList_none, List.cons_append, List.nil_append, x_nI, am_put, am_put2, List.length_cons, List.length_nil, List.set_cons_zero, List.set_cons_succ, Nat.reduceAdd, Nat.reduceLT, Nat.reduceLeDiff, Nat.reduceEqDiff, Nat.add_left_cancel_iff, Nat.add_eq_left, Nat.left_eq_add, Nat.succ_ne_self, Nat.reduceSub, reduceIte, ite_self, eq_self, or_true, true_or, or_false, false_or, or_self, i10, not_true_eq_false, not_false_eq_true, x_call1, x_call2, x_call3, x_call4, x_call5, x_call6, x_sl0, x_sli, x_slr, x_sln, x_sll, am_ent, List.map_nil, List.map_cons, List.sum_nil, List.sum_cons, Value.category, and_true, true_and, and_self, Nat.zero_le, List.replicate_succ, List.replicate_zero, List.reduceReplicate, x_obj_set, x_row_set, x_len_set, x_obx, x_rox, x_rv, x_obj hB.obj, e1, c1]
      all_goals rfl
    · rw [(im_a_seg hV0 hs0 hm).1] at c1
      exact absurd c1 (nI_pos (by have := hV0.2.2; omega))
  · by_cases c2 : rd D (c + 4) 4 ≤ 3
    · obtain ⟨n, hn, en⟩ := nI_of2 (M := 3) (n := 3) rfl c1 c2
      obtain ⟨C, ok, a2, c3, e2, q1, q2, q3, q4, q5, q6⟩ := k_aread18 (d := d + 1) (D := D) hdj hn n 0 (by omega) (o4 := none) (o5 := none) (o6 := none) (o7 := none) hs1 hA1 hV b1 (by omega)
      refine ⟨C, ok, a2, c3, ?_, q1, q2, q3, by omega, (f1.mono (fun z hz => Or.inr hz)).trans q5, fun a0 hV0 hs0 hm => ?_⟩
      · refine e_127 ?_; simp only [b_127, i_int, i_long, i_null, i_stat, i_iload, i_lload, i_aload, i_istore, i_astore, i_lstore, i_iinc, i_ii, i_idz, i_i, i_ll, i_lsh, i_i2l, i_l2i, i_lcmp, i_dup, i_pop, i_dup2, i_ifeq, i_ifne, i_iflt, i_ifge, i_ifgt, i_ifle, i_cmpeq, i_cmpne, i_cmplt, i_cmpge, i_cmpgt, i_cmple, i_ifnull, i_ifnonnull, i_getf, am_wr, i_putI, i_putZ, i_putR, i_iald, i_iast, i_aald, i_aast, i_alen, i_newi, i_newq, i_new, i_recv, i_iret, i_zret, i_lret, i_aret, i_vret, List.getElem?_cons_zero, List.getElem?_cons_succ, Option.bind_some, Option.toList_some, Option.toList_none, List.cons_append, List.nil_append, x_nI, am_put, am_put2, List.length_cons, List.length_nil, List.set_cons_zero, List.set_cons_succ, Nat.reduceAdd, Nat.reduceLT, Nat.reduceLeDiff, Nat.reduceEqDiff, Nat.add_left_cancel_iff, Nat.add_eq_left, Nat.left_eq_add, Nat.succ_ne_self, Nat.reduceSub, reduceIte, ite_self, eq_self, or_true, true_or, or_false, false_or, or_self, i10, not_true_eq_false, not_false_eq_true, x_call1, x_call2, x_call3, x_call4, x_call5, x_call6, x_sl0, x_sli, x_slr, x_sln, x_sll, am_ent, List.map_nil, List.map_cons, List.sum_nil, List.sum_cons, Value.category, and_true, true_and, and_self, Nat.zero_le, List.replicate_succ, List.replicate_zero, List.reduceReplicate, x_obj_set, x_row_set, x_len_set, x_obx, x_rox, x_rv, x_obj hB.obj, e1, c1, c2]
        rw [en]
        exact e2
      · obtain ⟨i1, i2⟩ := im_a_seg hV0 hs0 hm
        have en0 : n = a0.1 := (nI_eq (by omega) (by have := hV0.2.2; omega)).mp (en.symm.trans i1)
        subst en0
        obtain ⟨j1, j2, j3⟩ := q6 a0 (c + 8) i2 h0 (fun j hj => by omega) (by simp [sg_cat])
        refine ⟨j1, j2, ?_⟩
        rw [j3, sg_ls, sg_cat_len]
        rw [sg_sum_congr (fun k _ => ia1_len a0 k)]
        omega
    · refine ⟨B1, false, a, c + 8, ?_, hA1, hV, b1, by omega, f1.mono (fun z hz => Or.inr hz), fun a0 hV0 hs0 hm => ?_⟩
      · refine e_127 ?_; simp only [b_127, i_int, i_long, i_null, i_stat, i_iload, i_lload, i_aload, i_istore, i_astore, i_lstore, i_iinc, i_ii, i_idz, i_i, i_ll, i_lsh, i_i2l, i_l2i, i_lcmp, i_dup, i_pop, i_dup2, i_ifeq, i_ifne, i_iflt, i_ifge, i_ifgt, i_ifle, i_cmpeq, i_cmpne, i_cmplt, i_cmpge, i_cmpgt, i_cmple, i_ifnull, i_ifnonnull, i_getf, am_wr, i_putI, i_putZ, i_putR, i_iald, i_iast, i_aald, i_aast, i_alen, i_newi, i_newq, i_new, i_recv, i_iret, i_zret, i_lret, i_aret, i_vret, List.getElem?_cons_zero, List.getElem?_cons_succ, Option.bind_some, Option.toList_some, Option.toList_none, List.cons_append, List.nil_append, x_nI, am_put, am_put2, List.length_cons, List.length_nil, List.set_cons_zero, List.set_cons_succ, Nat.reduceAdd, Nat.reduceLT, Nat.reduceLeDiff, Nat.reduceEqDiff, Nat.add_left_cancel_iff, Nat.add_eq_left, Nat.left_eq_add, Nat.succ_ne_self, Nat.reduceSub, reduceIte, ite_self, eq_self, or_true, true_or, or_false, false_or, or_self, i10, not_true_eq_false, not_false_eq_true, x_call1, x_call2, x_call3, x_call4, x_call5, x_call6, x_sl0, x_sli, x_slr, x_sln, x_sll, am_ent, List.map_nil, List.map_cons, List.sum_nil, List.sum_cons, Value.category, and_true, true_and, and_self, Nat.zero_le, List.replicate_succ, List.replicate_zero, List.reduceReplicate, x_obj_set, x_row_set, x_len_set, x_obx, x_rox, x_rv, x_obj hB.obj, e1, c1, c2]
        all_goals rfl
      · have h3 := hV0.2.2
        rw [(im_a_seg hV0 hs0 hm).1] at c2
        exact absurd (nI_le (b := 3) h3 (by decide)) c2
