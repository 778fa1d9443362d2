/-! the reference reads a list of attributes -/
/-- nothing but list l of half h has changed -/
def LK (h l : Nat) (R S : Nat → Nat → Int32) : Prop := (∀ i, i < 9 ∨ 13 < i → S i = R i) ∧ (∀ j, j ≠ 6 * h + l → S 9 j = R 9 j) ∧ ∀ i, 10 ≤ i → i ≤ 13 → ∀ j, j < 18 * h + 3 * l ∨ 18 * h + 3 * l + 3 ≤ j → S i j = R i j
theorem LK.refl (h l : Nat) (R : Nat → Nat → Int32) : LK h l R R := ⟨fun _ _ => rfl, fun _ _ => rfl, fun _ _ _ _ _ => rfl⟩
theorem LK.trans {h l : Nat} {R S T : Nat → Nat → Int32} (h1 : LK h l R S) (h2 : LK h l S T) : LK h l R T := ⟨fun i hi => (h2.1 i hi).trans (h1.1 i hi), fun j hj => (h2.2.1 j hj).trans (h1.2.1 j hj), fun i i1 i2 j hj => (h2.2.2 i i1 i2 j hj).trans (h1.2.2 i i1 i2 j hj)⟩
theorem LK.row {h l i j : Nat} {R S : Nat → Nat → Int32} (x : Int32) (hk : LK h l R S) (i1 : 10 ≤ i) (i2 : i ≤ 13) (j1 : 18 * h + 3 * l ≤ j) (j2 : j < 18 * h + 3 * l + 3) : LK h l R (setR S i (upd (S i) j x)) := by
  refine ⟨fun k hk2 => by rw [setR_ne (by omega)]; exact hk.1 k hk2, fun k hk2 => by rw [setR_ne (by omega)]; exact hk.2.1 k hk2, fun k k1 k2 z hz => ?_⟩
  by_cases c : k = i
  · subst c
    rw [setR_self, pk_un (by omega)]
    exact hk.2.2 k k1 k2 z hz
  · rw [setR_ne c]
    exact hk.2.2 k k1 k2 z hz
theorem LK.cnt {h l : Nat} {R S : Nat → Nat → Int32} (x : Int32) (hk : LK h l R S) : LK h l R (setR S 9 (upd (S 9) (6 * h + l) x)) :=
  ⟨fun k hk2 => by rw [setR_ne (by omega)]; exact hk.1 k hk2, fun k hk2 => by rw [setR_self, pk_un hk2]; exact hk.2.1 k hk2, fun k k1 k2 z hz => by rw [setR_ne (by omega)]; exact hk.2.2 k k1 k2 z hz⟩
theorem LK.kh {h l : Nat} {R S : Nat → Nat → Int32} (hk : LK h l R S) (hh : h < 2) (hl : l < 6) : KH (1 - h) R S := by
  refine ⟨fun i i1 i2 j j1 j2 => ?_, fun i hi => hk.1 i (by omega)⟩
  by_cases c9 : i = 9
  · subst c9
    have j1' : (1 - h) * 6 ≤ j := j1
    have j2' : j < (1 - h) * 6 + 6 := j2
    exact hk.2.1 j (by omega)
  · by_cases c10 : 10 ≤ i ∧ i ≤ 13
    · have em : msz i / 2 = 18 := by
        rcases (show i = 10 ∨ i = 11 ∨ i = 12 ∨ i = 13 by omega) with rfl | rfl | rfl | rfl <;> rfl
      rw [em] at j1 j2
      exact hk.2.2 i c10.1 c10.2 j (by omega)
    · exact congrFun (hk.1 i (by omega)) j
theorem LK.other {h l m : Nat} {R S : Nat → Nat → Int32} {a : sg_A} (hk : LK h l R S) (hA : MA R h m a) (hm : m ≠ l) : MA S h m a := by
  obtain ⟨h1, h2, h3⟩ := hA
  refine ⟨h1, by rw [hk.2.1 _ (by omega)]; exact h2, fun k hk2 => ?_⟩
  have e : ∀ i, 10 ≤ i → i ≤ 13 → S i (18 * h + 3 * m + k) = R i (18 * h + 3 * m + k) := fun i i1 i2 => hk.2.2 i i1 i2 _ (by omega)
  rw [e 10 (by decide) (by decide), e 11 (by decide) (by decide), e 12 (by decide) (by decide), e 13 (by decide) (by decide)]
  exact h3 k hk2
theorem vof_fitx {D : List Nat} {c t : Nat} {ro : Bool} (h1 : 1 ≤ t) (h4 : t ≤ 4) (hD : ∀ i, D.getD i 0 < 256) : valb t (vof t (rx D c (wd t) ro)) = true := by
  unfold rx
  split
  · rcases (show t = 1 ∨ t = 2 ∨ t = 3 ∨ t = 4 by omega) with rfl | rfl | rfl | rfl <;> decide
  · exact vof_fit h1 h4 hD
/-- the first attributes of list l stand, of n that are told -/
def PA (R : Nat → Nat → Int32) (h l n : Nat) (a : sg_A) : Prop := R 9 (6 * h + l) = nI n ∧ ∀ k, k < a.1 → R 10 (18 * h + 3 * l + k) = a.2.1 k ∧ R 11 (18 * h + 3 * l + k) = nI (a.2.2.1 k) ∧ R 12 (18 * h + 3 * l + k) = a.2.2.2.1 k ∧ R 13 (18 * h + 3 * l + k) = a.2.2.2.2 k
theorem PA.ma {R : Nat → Nat → Int32} {h l : Nat} {a : sg_A} (hP : PA R h l a.1 a) (hV : AV a) : MA R h l a := ⟨hV.2.2, hP.1, fun k hk => by
  obtain ⟨w1, w2, w3, w4⟩ := hP.2 k hk
  exact ⟨w1, w2, w3, w4, (hV.1 k hk).2.1.1, (hV.1 k hk).2.1.2⟩⟩
theorem MA.agr {R : Nat → Nat → Int32} {h l : Nat} {a a0 : sg_A} (hA : MA R h l a) (h1 : a.1 = a0.1) (h2 : agr a a0 a0.1) : MA R h l a0 := by
  obtain ⟨q1, q2, q3⟩ := hA
  refine ⟨by omega, by rw [← h1]; exact q2, fun k hk => ?_⟩
  obtain ⟨e1, e2, e3, e4⟩ := h2 k hk
  rw [← e1, ← e2, ← e3, ← e4]
  exact q3 k (by omega)
theorem n_list117 {d b h l k p : Nat} {A : am_H} {R : Nat → Nat → Int32} {f : mo_F} {n : Int32} {nm : Int32} {g : Nat → Int32} (hM : MM b A R f) (hp : p = 18 * h + 3 * l) (hb36 : p + k < 36) (hg : ∀ j, j < k → R 10 (p + j) = g j) (hnm : R 10 (p + k) = nm) : ∀ (m j : Nat), j + m = k → ((∃ i, i < m ∧ g i = nm) → pev d 252 [some (.ref b), some (.int (nI h)), some (.int (nI l)), some (.int n), some (.int (nI k)), some (.int (nI (p + k))), some (.int (nI j))] [] A = some (some (.int 0), A)) ∧ ((∀ i, i < m → g i ≠ nm) → ∀ Y, pev d 252 [some (.ref b), some (.int (nI h)), some (.int (nI l)), some (.int n), some (.int (nI k)), some (.int (nI (p + k))), some (.int (nI k))] [] A = some Y → pev d 252 [some (.ref b), some (.int (nI h)), some (.int (nI l)), some (.int n), some (.int (nI k)), some (.int (nI (p + k))), some (.int (nI j))] [] A = some Y) := by
  intro m
  induction m with
  | zero =>
    intro j hj
    have e : j = k := by omega
    subst e
    exact ⟨fun ⟨i, hi, _⟩ => absurd hi (Nat.not_lt_zero i), fun _ Y hY => hY⟩
  | succ m ih =>
    intro j hj
    have hcn : ¬ nI k ≤ nI j := nI_ge (by omega) (by omega)
    obtain ⟨i1, i2⟩ := ih (j + 1) (by omega)
    have e1 : nI (p + k) - 1 - nI j = nI (p + m) := by
      rw [← nI_one, pk_sub (by omega), pk_sub (by omega)]
      congr 1
      omega
    have hv := hg m (by omega)
    by_cases c : g m = nm
    · refine ⟨fun _ => ?_, fun hno => absurd c (hno m (by omega))⟩
      refine e_252 ?_; simp only [b_252, i_int, i_long, i_null, i_stat, i_iload, i_lload, i_aload, i_istore, i_astore, i_lstore, i_iinc, i_ii, i_idz, i_i, i_ll, i_lsh, i_i2l, i_l2i, i_lcmp, i_dup, i_pop, i_dup2, i_ifeq, i_ifne, i_iflt, i_ifge, i_ifgt, i_ifle, i_cmpeq, i_cmpne, i_cmplt, i_cmpge, i_cmpgt, i_cmple, i_ifnull, i_ifnonnull, i_getf, am_wr, i_putI, i_putZ, i_putR, i_iald, i_iast, i_aald, i_aast, i_alen, i_newi, i_newq, i_new, i_recv, i_iret, i_zret, i_lret, i_aret, i_vret, List.getElem?_cons_zero, List.getElem?_cons_succ, Option.bind_some, Option.toList_some, Option.toList_none, List.cons_append, List.nil_append, x_nI, am_put, am_put2, List.length_cons, List.length_nil, List.set_cons_zero, List.set_cons_succ, Nat.reduceAdd, Nat.reduceLT, Nat.reduceLeDiff, Nat.reduceEqDiff, Nat.add_left_cancel_iff, Nat.add_eq_left, Nat.left_eq_add, Nat.succ_ne_self, Nat.reduceSub, reduceIte, ite_self, eq_self, or_true, true_or, or_false, false_or, or_self, i10, not_true_eq_false, not_false_eq_true, x_call1, x_call2, x_call3, x_call4, x_call5, x_call6, x_sl0, x_sli, x_slr, x_sln, x_sll, am_ent, List.map_nil, List.map_cons, List.sum_nil, List.sum_cons, Value.category, and_true, true_and, and_self, Nat.zero_le, List.replicate_succ, List.replicate_zero, List.reduceReplicate, x_obj_set, x_row_set, x_len_set, x_obx, x_rox, x_rv, hcn, x_obj hM.1, mo_obj, x_row (show A.2.2 (b + 10) = some (.inl (0, 36, R 10)) from hM.2.2 10 (by decide) (by decide)), e1, x_ix (show p + m < 36 by omega) (show p + m < 2147483648 by omega), x_ix hb36 (show p + k < 2147483648 by omega), hv, hnm, c]
    · refine ⟨fun ⟨i, hi, hgi⟩ => ?_, fun hno Y hY => ?_⟩
      · have e2 := i1 ⟨i, by
          rcases Nat.lt_or_ge i m with h | h
          · exact h
          · have : i = m := by omega
            rw [this] at hgi
            exact absurd hgi c, hgi⟩
        refine e_252 ?_; simp only [b_252, i_int, i_long, i_null, i_stat, i_iload, i_lload, i_aload, i_istore, i_astore, i_lstore, i_iinc, i_ii, i_idz, i_i, i_ll, i_lsh, i_i2l, i_l2i, i_lcmp, i_dup, i_pop, i_dup2, i_ifeq, i_ifne, i_iflt, i_ifge, i_ifgt, i_ifle, i_cmpeq, i_cmpne, i_cmplt, i_cmpge, i_cmpgt, i_cmple, i_ifnull, i_ifnonnull, i_getf, am_wr, i_putI, i_putZ, i_putR, i_iald, i_iast, i_aald, i_aast, i_alen, i_newi, i_newq, i_new, i_recv, i_iret, i_zret, i_lret, i_aret, i_vret, List.getElem?_cons_zero, List.getElem?_cons_succ, Option.bind_some, Option.toList_some, Option.toList_none, List.cons_append, List.nil_append, x_nI, am_put, am_put2, List.length_cons, List.length_nil, List.set_cons_zero, List.set_cons_succ, Nat.reduceAdd, Nat.reduceLT, Nat.reduceLeDiff, Nat.reduceEqDiff, Nat.add_left_cancel_iff, Nat.add_eq_left, Nat.left_eq_add, Nat.succ_ne_self, Nat.reduceSub, reduceIte, ite_self, eq_self, or_true, true_or, or_false, false_or, or_self, i10, not_true_eq_false, not_false_eq_true, x_call1, x_call2, x_call3, x_call4, x_call5, x_call6, x_sl0, x_sli, x_slr, x_sln, x_sll, am_ent, List.map_nil, List.map_cons, List.sum_nil, List.sum_cons, Value.category, and_true, true_and, and_self, Nat.zero_le, List.replicate_succ, List.replicate_zero, List.reduceReplicate, x_obj_set, x_row_set, x_len_set, x_obx, x_rox, x_rv, hcn, x_obj hM.1, mo_obj, x_row (show A.2.2 (b + 10) = some (.inl (0, 36, R 10)) from hM.2.2 10 (by decide) (by decide)), e1, x_ix (show p + m < 36 by omega) (show p + m < 2147483648 by omega), x_ix hb36 (show p + k < 2147483648 by omega), hv, hnm, c, nI_1]
        exact e2
      · have e2 := i2 (fun i hi => hno i (by omega)) Y hY
        refine e_252 ?_; simp only [b_252, i_int, i_long, i_null, i_stat, i_iload, i_lload, i_aload, i_istore, i_astore, i_lstore, i_iinc, i_ii, i_idz, i_i, i_ll, i_lsh, i_i2l, i_l2i, i_lcmp, i_dup, i_pop, i_dup2, i_ifeq, i_ifne, i_iflt, i_ifge, i_ifgt, i_ifle, i_cmpeq, i_cmpne, i_cmplt, i_cmpge, i_cmpgt, i_cmple, i_ifnull, i_ifnonnull, i_getf, am_wr, i_putI, i_putZ, i_putR, i_iald, i_iast, i_aald, i_aast, i_alen, i_newi, i_newq, i_new, i_recv, i_iret, i_zret, i_lret, i_aret, i_vret, List.getElem?_cons_zero, List.getElem?_cons_succ, Option.bind_some, Option.toList_some, Option.toList_none, List.cons_append, List.nil_append, x_nI, am_put, am_put2, List.length_cons, List.length_nil, List.set_cons_zero, List.set_cons_succ, Nat.reduceAdd, Nat.reduceLT, Nat.reduceLeDiff, Nat.reduceEqDiff, Nat.add_left_cancel_iff, Nat.add_eq_left, Nat.left_eq_add, Nat.succ_ne_self, Nat.reduceSub, reduceIte, ite_self, eq_self, or_true, true_or, or_false, false_or, or_self, i10, not_true_eq_false, not_false_eq_true, x_call1, x_call2, x_call3, x_call4, x_call5, x_call6, x_sl0, x_sli, x_slr, x_sln, x_sll, am_ent, List.map_nil, List.map_cons, List.sum_nil, List.sum_cons, Value.category, and_true, true_and, and_self, Nat.zero_le, List.replicate_succ, List.replicate_zero, List.reduceReplicate, x_obj_set, x_row_set, x_len_set, x_obx, x_rox, x_rv, hcn, x_obj hM.1, mo_obj, x_row (show A.2.2 (b + 10) = some (.inl (0, 36, R 10)) from hM.2.2 10 (by decide) (by decide)), e1, x_ix (show p + m < 36 by omega) (show p + m < 2147483648 by omega), x_ix hb36 (show p + k < 2147483648 by omega), hv, hnm, c, nI_1]
        exact e2
theorem pad_code {n : Nat} (h : n < 1000000) : (nI n + 3) / 4 * 4 = nI (pad4 n) := by
  rw [show (4 : Int32) = nI 4 from rfl, show (3 : Int32) = nI 3 from rfl, nI_add, pk_div (by omega) (by decide) (by decide), pk_mul]
  rfl
/-- the values of an attribute, behind its name and type -/
theorem n_listXY {d b h l k p t c : Nat} {A : am_H} {R : Nat → Nat → Int32} {f : mo_F} {D : List Nat} {ro : Bool} {n : Int32} (hM : MM b A R (sat f c ro)) (hD : MDr R f D) (hp : p < 36) (t1 : 1 ≤ t) (t4 : t ≤ 4) (ht : R 11 p = nI t) (hk : k < 100) (hc : c < 700000) : ∃ B, MM b B (setR (setR R 12 (upd (R 12) p (vof t (rx D c (wd t) ro)))) 13 (upd (R 13) p (vof t (rx D (c + wd t) (wd t) (rn D c (wd t) ro))))) (sat f (pad4 (c + wd t + wd t)) (rn D c (wd t + wd t) ro)) ∧ am_fr (at21 b) A B ∧ ∀ Y, pev (d + 2) 251 [some (.ref b), some (.int (nI h)), some (.int (nI l)), some (.int n), some (.int (nI (k + 1))), some (.int (nI p)), some (.int (nI k))] [] B = some Y → pev (d + 2) 252 [some (.ref b), some (.int (nI h)), some (.int (nI l)), some (.int n), some (.int (nI k)), some (.int (nI p)), some (.int (nI k))] [] A = some Y := by
  have hb := hM.2.1
  have hw := wd_le t
  obtain ⟨B1, e1, m1, f1⟩ := n_readOf (d := d) t1 t4 (by omega) hM hD
  have w1 := m1.set (i := 12) (by decide) (by decide) (upd (R 12) p (vof t (rx D c (wd t) ro)))
  obtain ⟨B2, e2, m2, f2⟩ := n_readOf (d := d) t1 t4 (by omega) w1 (hD.same rfl rfl)
  rw [rn_rn] at m2
  have w2 := m2.set (i := 13) (by decide) (by decide) (upd (R 13) p (vof t (rx D (c + wd t) (wd t) (rn D c (wd t) ro))))
  have w3 := w2.obj (sat f (pad4 (c + wd t + wd t)) (rn D c (wd t + wd t) ro))
  refine ⟨_, w3, ((f1.trans ((am_fr.refl B1).set ⟨by omega, by omega⟩)).trans f2).trans (((am_fr.refl B2).set ⟨by omega, by omega⟩).set ⟨by omega, by omega⟩), fun Y hY => ?_⟩
  have r11 : A.2.2 (b + 11) = some (.inl (0, 36, R 11)) := hM.2.2 11 (by decide) (by decide)
  have r12 : B1.2.2 (b + 12) = some (.inl (0, 36, R 12)) := m1.2.2 12 (by decide) (by decide)
  have s11 : B1.2.2 (b + 11) = some (.inl (0, 36, R 11)) := m1.2.2 11 (by decide) (by decide)
  have r13 : B2.2.2 (b + 13) = some (.inl (0, 36, R 13)) := m2.2.2 13 (by decide) (by decide)
  have ixp := x_ix hp (show p < 2147483648 by omega)
  have e2' : pev (d + 1) 253 [some (.ref b), some (.int (nI t)), none] [] (am_set B1 (b + 12) (.inl (0, 36, upd (R 12) p (vof t (rx D c (wd t) ro))))) = some (some (.int (vof t (rx D (c + wd t) (wd t) (rn D c (wd t) ro)))), B2) := e2
  refine e_252 ?_; simp only [b_252, i_int, i_long, i_null, i_stat, i_iload, i_lload, i_aload, i_istore, i_astore, i_lstore, i_iinc, i_ii, i_idz, i_i, i_ll, i_lsh, i_i2l, i_l2i, i_lcmp, i_dup, i_pop, i_dup2, i_ifeq, i_ifne, i_iflt, i_ifge, i_ifgt, i_ifle, i_cmpeq, i_cmpne, i_cmplt, i_cmpge, i_cmpgt, i_cmple, i_ifnull, i_ifnonnull, i_getf, am_wr, i_putI, i_putZ, i_putR, i_iald, i_iast, i_aald, i_aast, i_alen, i_newi, i_newq, i_new, i_recv, i_iret, i_zret, i_lret, i_aret, i_vret, List.getElem?_cons_zero, List.getElem?_cons_succ, Option.bind_some, Option.toList_some, Option.toList_none, List.cons_append, List.nil_append, x_nI, am_put, am_put2, List.length_cons, List.length_nil, List.set_cons_zero, List.set_cons_succ, Nat.reduceAdd, Nat.reduceLT, Nat.reduceLeDiff, Nat.reduceEqDiff, Nat.add_left_cancel_iff, Nat.add_eq_left, Nat.left_eq_add, Nat.succ_ne_self, Nat.reduceSub, reduceIte, ite_self, eq_self, or_true, true_or, or_false, false_or, or_self, i10, not_true_eq_false, not_false_eq_true, x_call1, x_call2, x_call3, x_call4, x_call5, x_call6, x_sl0, x_sli, x_slr, x_sln, x_sll, am_ent, List.map_nil, List.map_cons, List.sum_nil, List.sum_cons, Value.category, and_true, true_and, and_self, Nat.zero_le, List.replicate_succ, List.replicate_zero, List.reduceReplicate, x_obj_set, x_row_set, x_len_set, x_obx, x_rox, x_rv, show nI k ≤ nI k from nI_le (Nat.le_refl _) (by omega), x_obj hM.1, mo_obj, sat, x_row r11, ixp, ht, e1, x_obj m1.1, x_row r12, x_own (show 5 ≤ b + 12 by omega), x_row s11, e2', x_obj m2.1, x_row r13, x_own (show 5 ≤ b + 13 by omega), show ((4 : Int32) = 0) = False by decide, pad_code (show c + wd t + wd t < 1000000 by omega), x_own hb, nI_1]
  exact hY
theorem pad_st {c w : Nat} (h : c % 4 = 0) : pad4 (c + 16 + w + w) = c + (16 + pad4 (2 * w)) := by
  unfold pad4
  omega
theorem n_list29 {d b h l n : Nat} {f : mo_F} {D : List Nat} (hh : h < 2) (hl : l < 6) (hn : n ≤ 3) (hDb : ∀ i, D.getD i 0 < 256) : ∀ (m k : Nat), k + m = n → ∀ {A : am_H} {R : Nat → Nat → Int32} {c : Nat} {ro : Bool} {a : sg_A} {o5 o6 : Option Value}, MM b A R (sat f c ro) → MDr R f D → PA R h l n a → AV a → a.1 = k → c % 4 = 0 → c + 40 * m < 600000 → ∃ B S ok a2 c2 ro2, pev (d + 2) 251 [some (.ref b), some (.int (nI h)), some (.int (nI l)), some (.int (nI n)), some (.int (nI k)), o5, o6] [] A = some (some (.int (bz ok)), B) ∧ MM b B S (sat f c2 ro2) ∧ LK h l R S ∧ am_fr (at21 b) A B ∧ c2 ≤ c + 40 * m ∧ (ok = true → MA S h l a2 ∧ AV a2 ∧ a2.1 = n ∧ c2 = c + sg_sum (fun j => 16 + pad4 (2 * wd (a2.2.2.1 j))) n - sg_sum (fun j => 16 + pad4 (2 * wd (a2.2.2.1 j))) k ∧ agr a2 a k) ∧ ∀ a0 c0, LH D c0 n a0 → ro = false → agr a a0 k → c = c0 + (sg_cat (ia1 a0) k).length → ok = true ∧ MA S h l a0 ∧ ro2 = false ∧ c2 = c0 + (sg_cat (ia1 a0) n).length := by
  intro m
  induction m with
  | zero =>
    intro k hk A R c ro a o5 o6 hM hD hP hV ha hc4 hc
    have hkn : k = n := by omega
    subst hkn
    have hMA : MA R h l a := PA.ma (by rw [ha]; exact hP) hV
    have hn0 : ¬ nI k < 0 := nI_pos (by omega)
    refine ⟨A, R, true, a, c, ro, ?_, hM, LK.refl _ _ _, am_fr.refl A, by omega, fun _ => ⟨hMA, hV, ha, by omega, fun j hj => ⟨rfl, rfl, rfl, rfl⟩⟩, fun a0 c0 hL h1 h2 h3 => ⟨rfl, hMA.agr (ha.trans hL.2.1.symm) (by rw [hL.2.1]; exact h2), h1, h3⟩⟩
    refine e_251 ?_; simp only [b_251, i_int, i_long, i_null, i_stat, i_iload, i_lload, i_aload, i_istore, i_astore, i_lstore, i_iinc, i_ii, i_idz, i_i, i_ll, i_lsh, i_i2l, i_l2i, i_lcmp, i_dup, i_pop, i_dup2, i_ifeq, i_ifne, i_iflt, i_ifge, i_ifgt, i_ifle, i_cmpeq, i_cmpne, i_cmplt, i_cmpge, i_cmpgt, i_cmple, i_ifnull, i_ifnonnull, i_getf, am_wr, i_putI, i_putZ, i_putR, i_iald, i_iast, i_aald, i_aast, i_alen, i_newi, i_newq, i_new, i_recv, i_iret, i_zret, i_lret, i_aret, i_vret, List.getElem?_cons_zero, List.getElem?_cons_succ, Option.bind_some, Option.toList_some, Option.toList_none, List.cons_append, List.nil_append, x_nI, am_put, am_put2, List.length_cons, List.length_nil, List.set_cons_zero, List.set_cons_succ, Nat.reduceAdd, Nat.reduceLT, Nat.reduceLeDiff, Nat.reduceEqDiff, Nat.add_left_cancel_iff, Nat.add_eq_left, Nat.left_eq_add, Nat.succ_ne_self, Nat.reduceSub, reduceIte, ite_self, eq_self, or_true, true_or, or_false, false_or, or_self, i10, not_true_eq_false, not_false_eq_true, x_call1, x_call2, x_call3, x_call4, x_call5, x_call6, x_sl0, x_sli, x_slr, x_sln, x_sll, am_ent, List.map_nil, List.map_cons, List.sum_nil, List.sum_cons, Value.category, and_true, true_and, and_self, Nat.zero_le, List.replicate_succ, List.replicate_zero, List.reduceReplicate, x_obj_set, x_row_set, x_len_set, x_obx, x_rox, x_rv, show nI k ≤ nI k from nI_le (Nat.le_refl _) (by omega), hn0]
    all_goals rfl
  | succ m ih =>
    intro k hk A R c ro a o5 o6 hM hD hP hV ha hc4 hc
    have hb := hM.2.1
    have hcn : ¬ nI n ≤ nI k := nI_ge (by omega) (by omega)
    have hp36 : 18 * h + 3 * l + k < 36 := by omega
    obtain ⟨B1, e1, m1, f1⟩ := n_readName (d := d) (by omega) hM hD
    have w1 := m1.set (i := 10) (by decide) (by decide) (upd (R 10) (18 * h + 3 * l + k) (nx D c ro))
    obtain ⟨B2, e2, m2, f2⟩ := n_read (d := d + 1) (w := 4) (by decide) (by omega) w1 (hD.same rfl rfl)
    rw [rn_rn] at m2
    have w2 := m2.set (i := 11) (by decide) (by decide) (upd (R 11) (18 * h + 3 * l + k) (rx D (c + 8) 4 (rn D c 8 ro)))
    obtain ⟨B3, e3, m3, f3⟩ := n_read (d := d + 1) (w := 4) (by decide) (by omega) w2 (hD.same rfl rfl)
    rw [show c + 8 + 4 = c + (8 + 4) by omega, rn_rn] at m3
    rw [show c + (8 + 4) + 4 = c + 16 by omega] at m3
    have F3 : am_fr (at21 b) A B3 := ((f1.trans ((am_fr.refl B1).set ⟨by omega, by omega⟩)).trans f2).trans (((am_fr.refl B2).set ⟨by omega, by omega⟩).trans f3)
    have K3 : LK h l R (setR (setR R 10 (upd (R 10) (18 * h + 3 * l + k) (nx D c ro))) 11 (upd (R 11) (18 * h + 3 * l + k) (rx D (c + 8) 4 (rn D c 8 ro)))) := ((LK.refl h l R).row (i := 10) (nx D c ro) (by decide) (by decide) (by omega) (by omega)).row (i := 11) _ (by decide) (by decide) (by omega) (by omega)
    have hD3 : MDr (setR (setR R 10 (upd (R 10) (18 * h + 3 * l + k) (nx D c ro))) 11 (upd (R 11) (18 * h + 3 * l + k) (rx D (c + 8) 4 (rn D c 8 ro)))) f D := hD.same rfl rfl
    -- what the wanted bytes say
    have hx : ∀ a0 c0, LH D c0 n a0 → ro = false → c = c0 + (sg_cat (ia1 a0) k).length → nx D c ro = a0.2.1 k ∧ rx D (c + 8) 4 (rn D c 8 ro) = nI (a0.2.2.1 k) ∧ rn D c (8 + 4 + 4) ro = false ∧ c + 16 + 2 * wd (a0.2.2.1 k) ≤ D.length ∧ vof (a0.2.2.1 k) (rd D (c + 16) (wd (a0.2.2.1 k))) = a0.2.2.2.1 k ∧ vof (a0.2.2.1 k) (rd D (c + 16 + wd (a0.2.2.1 k)) (wd (a0.2.2.1 k))) = a0.2.2.2.2 k ∧ k < a0.1 := by
      intro a0 c0 hL h1 h3
      subst h1
      have hka : k < a0.1 := by rw [hL.2.1]; omega
      have hsg := seg_cat hL.2.2.1 (show k < n by omega)
      rw [← h3] at hsg
      obtain ⟨v1, v2, v3, v4⟩ := ia1_back hL.1 hka hsg
      have hlen := hsg.1
      rw [ia1_len] at hlen
      have hpg := pad4_ge (2 * wd (a0.2.2.1 k))
      refine ⟨?_, ?_, rn_of (by omega), by omega, v3, v4, hka⟩
      · unfold nx
        rw [rn_of (by omega), if_neg (by decide)]
        exact v1
      · rw [rn_of (by omega), rx_of (by omega)]
        exact v2
    have r10 : B1.2.2 (b + 10) = some (.inl (0, 36, R 10)) := m1.2.2 10 (by decide) (by decide)
    have r11 : B2.2.2 (b + 11) = some (.inl (0, 36, R 11)) := m2.2.2 11 (by decide) (by decide)
    have s10 : B3.2.2 (b + 10) = some (.inl (0, 36, upd (R 10) (18 * h + 3 * l + k) (nx D c ro))) := m3.2.2 10 (by decide) (by decide)
    have s11 : B3.2.2 (b + 11) = some (.inl (0, 36, upd (R 11) (18 * h + 3 * l + k) (rx D (c + 8) 4 (rn D c 8 ro)))) := m3.2.2 11 (by decide) (by decide)
    have ixp := x_ix hp36 (show 18 * h + 3 * l + k < 2147483648 by omega)
    have e2' : pev (d + 1) 244 [some (.ref b), some (.int 4), none, none] [] (am_set B1 (b + 10) (.inl (0, 36, upd (R 10) (18 * h + 3 * l + k) (nx D c ro)))) = some (some (.int (rx D (c + 8) 4 (rn D c 8 ro))), B2) := e2
    have e3' : pev (d + 1) 244 [some (.ref b), some (.int 4), none, none] [] (am_set B2 (b + 11) (.inl (0, 36, upd (R 11) (18 * h + 3 * l + k) (rx D (c + 8) 4 (rn D c 8 ro))))) = some (some (.int (rx D (c + (8 + 4)) 4 (rn D c (8 + 4) ro))), B3) := by
      rw [show c + (8 + 4) = c + 8 + 4 by omega]
      exact e3
    have ep : (18 : Int32) * nI h + 3 * nI l + nI k = nI (18 * h + 3 * l + k) := by rw [show (18 : Int32) = nI 18 from rfl, show (3 : Int32) = nI 3 from rfl, pk_mul, pk_mul, nI_add, nI_add]
    have eN := n_isName (d := d + 1) (A := B3) (nx D c ro)
    have stop : (pev (d + 2) 251 [some (.ref b), some (.int (nI h)), some (.int (nI l)), some (.int (nI n)), some (.int (nI k)), o5, o6] [] A = some (some (.int 0), B3)) → (∀ a0 c0, LH D c0 n a0 → ro = false → agr a a0 k → c = c0 + (sg_cat (ia1 a0) k).length → False) → ∃ B S ok a2 c2 ro2, pev (d + 2) 251 [some (.ref b), some (.int (nI h)), some (.int (nI l)), some (.int (nI n)), some (.int (nI k)), o5, o6] [] A = some (some (.int (bz ok)), B) ∧ MM b B S (sat f c2 ro2) ∧ LK h l R S ∧ am_fr (at21 b) A B ∧ c2 ≤ c + 40 * (m + 1) ∧ (ok = true → MA S h l a2 ∧ AV a2 ∧ a2.1 = n ∧ c2 = c + sg_sum (fun j => 16 + pad4 (2 * wd (a2.2.2.1 j))) n - sg_sum (fun j => 16 + pad4 (2 * wd (a2.2.2.1 j))) k ∧ agr a2 a k) ∧ ∀ a0 c0, LH D c0 n a0 → ro = false → agr a a0 k → c = c0 + (sg_cat (ia1 a0) k).length → ok = true ∧ MA S h l a0 ∧ ro2 = false ∧ c2 = c0 + (sg_cat (ia1 a0) n).length := fun e hf =>
      ⟨B3, _, false, a, c + 16, _, e, m3, K3, F3, by omega, fun e => (by cases e), fun a0 c0 hL h1 h2 h3 => (hf a0 c0 hL h1 h2 h3).elim⟩
    cases cN : isNb (nx D c ro) with
    | false =>
      rw [cN] at eN
      refine stop ?_ (fun a0 c0 hL h1 h2 h3 => ?_)
      · refine e_251 ?_; simp only [b_251, i_int, i_long, i_null, i_stat, i_iload, i_lload, i_aload, i_istore, i_astore, i_lstore, i_iinc, i_ii, i_idz, i_i, i_ll, i_lsh, i_i2l, i_l2i, i_lcmp, i_dup, i_pop, i_dup2, i_ifeq, i_ifne, i_iflt, i_ifge, i_ifgt, i_ifle, i_cmpeq, i_cmpne, i_cmplt, i_cmpge, i_cmpgt, i_cmple, i_ifnull, i_ifnonnull, i_getf, am_wr, i_putI, i_putZ, i_putR, i_iald, i_iast, i_aald, i_aast, i_alen, i_newi, i_newq, i_new, i_recv, i_iret, i_zret, i_lret, i_aret, i_vret, List.getElem?_cons_zero, List.getElem?_cons_succ, Option.bind_some, Option.toList_some, Option.toList_none, List.cons_append, List.nil_append, x_nI, am_put, am_put2, List.length_cons, List.length_nil, List.set_cons_zero, List.set_cons_succ, Nat.reduceAdd, Nat.reduceLT, Nat.reduceLeDiff, Nat.reduceEqDiff, Nat.add_left_cancel_iff, Nat.add_eq_left, Nat.left_eq_add, Nat.succ_ne_self, Nat.reduceSub, reduceIte, ite_self, eq_self, or_true, true_or, or_false, false_or, or_self, i10, not_true_eq_false, not_false_eq_true, x_call1, x_call2, x_call3, x_call4, x_call5, x_call6, x_sl0, x_sli, x_slr, x_sln, x_sll, am_ent, List.map_nil, List.map_cons, List.sum_nil, List.sum_cons, Value.category, and_true, true_and, and_self, Nat.zero_le, List.replicate_succ, List.replicate_zero, List.reduceReplicate, x_obj_set, x_row_set, x_len_set, x_obx, x_rox, x_rv, hcn, ep, x_obj hM.1, mo_obj, sat, e1, x_obj m1.1, x_row r10, ixp, x_own (show 5 ≤ b + 10 by omega), e2', x_obj m2.1, x_row r11, x_own (show 5 ≤ b + 11 by omega), e3', x_obj m3.1, x_row s10, pk_us, eN, bz_false]
      · obtain ⟨x1, -, -, -, -, -, x7⟩ := hx a0 c0 hL h1 h3
        rw [x1, (hL.1.1 k x7).1] at cN
        cases cN
    | true =>
      rw [cN] at eN
      by_cases c1 : rx D (c + 8) 4 (rn D c 8 ro) < 1
      · refine stop ?_ (fun a0 c0 hL h1 h2 h3 => ?_)
        · refine e_251 ?_; simp only [b_251, i_int, i_long, i_null, i_stat, i_iload, i_lload, i_aload, i_istore, i_astore, i_lstore, i_iinc, i_ii, i_idz, i_i, i_ll, i_lsh, i_i2l, i_l2i, i_lcmp, i_dup, i_pop, i_dup2, i_ifeq, i_ifne, i_iflt, i_ifge, i_ifgt, i_ifle, i_cmpeq, i_cmpne, i_cmplt, i_cmpge, i_cmpgt, i_cmple, i_ifnull, i_ifnonnull, i_getf, am_wr, i_putI, i_putZ, i_putR, i_iald, i_iast, i_aald, i_aast, i_alen, i_newi, i_newq, i_new, i_recv, i_iret, i_zret, i_lret, i_aret, i_vret, List.getElem?_cons_zero, List.getElem?_cons_succ, Option.bind_some, Option.toList_some, Option.toList_none, List.cons_append, List.nil_append, x_nI, am_put, am_put2, List.length_cons, List.length_nil, List.set_cons_zero, List.set_cons_succ, Nat.reduceAdd, Nat.reduceLT, Nat.reduceLeDiff, Nat.reduceEqDiff, Nat.add_left_cancel_iff, Nat.add_eq_left, Nat.left_eq_add, Nat.succ_ne_self, Nat.reduceSub, reduceIte, ite_self, eq_self, or_true, true_or, or_false, false_or, or_self, i10, not_true_eq_false, not_false_eq_true, x_call1, x_call2, x_call3, x_call4, x_call5, x_call6, x_sl0, x_sli, x_slr, x_sln, x_sll, am_ent, List.map_nil, List.map_cons, List.sum_nil, List.sum_cons, Value.category, and_true, true_and, and_self, Nat.zero_le, List.replicate_succ, List.replicate_zero, List.reduceReplicate, x_obj_set, x_row_set, x_len_set, x_obx, x_rox, x_rv, hcn, ep, x_obj hM.1, mo_obj, sat, e1, x_obj m1.1, x_row r10, ixp, x_own (show 5 ≤ b + 10 by omega), e2', x_obj m2.1, x_row r11, x_own (show 5 ≤ b + 11 by omega), e3', x_obj m3.1, x_row s10, x_row s11, pk_us, eN, bz_true, c1]
        · obtain ⟨-, x2, -, -, -, -, x7⟩ := hx a0 c0 hL h1 h3
          have t1 := (hL.1.1 k x7).2.1
          rw [x2] at c1
          exact nI_nlt (b := 1) t1.1 (by omega) c1
      · by_cases c2 : rx D (c + 8) 4 (rn D c 8 ro) ≤ 4
        · have c0 : ¬ rx D (c + 8) 4 (rn D c 8 ro) < 0 := fun e => c1 (Int32.lt_trans e (by decide))
          obtain ⟨t, t4, et⟩ := nI_of2 (M := 4) (n := 4) rfl c0 c2
          have t1 : 1 ≤ t := by
            rcases Nat.eq_zero_or_pos t with h0 | h0
            · rw [et, h0] at c1
              exact absurd (by decide) c1
            · exact h0
          rw [et] at e2' e3' c1 c2 s11 m3 K3 hD3
          have hg : ∀ j, j < k → (setR (setR R 10 (upd (R 10) (18 * h + 3 * l + k) (nx D c ro))) 11 (upd (R 11) (18 * h + 3 * l + k) (nI t))) 10 (18 * h + 3 * l + j) = a.2.1 j := fun j hj => by
            rw [setR_ne (by decide), setR_self, pk_un (by omega)]
            exact (hP.2 j (by omega)).1
          have hnm : (setR (setR R 10 (upd (R 10) (18 * h + 3 * l + k) (nx D c ro))) 11 (upd (R 11) (18 * h + 3 * l + k) (nI t))) 10 (18 * h + 3 * l + k) = nx D c ro := by
            rw [setR_ne (by decide), setR_self, pk_us]
          obtain ⟨d1, d2⟩ := n_list117 (d := d + 2) (h := h) (l := l) (n := nI n) m3 rfl hp36 hg hnm k 0 (by omega)
          by_cases cd : ∃ i, i < k ∧ a.2.1 i = nx D c ro
          · have e4 := d1 cd
            refine stop ?_ (fun a0 c0 hL h1 h2 h3 => ?_)
            · refine e_251 ?_; simp only [b_251, i_int, i_long, i_null, i_stat, i_iload, i_lload, i_aload, i_istore, i_astore, i_lstore, i_iinc, i_ii, i_idz, i_i, i_ll, i_lsh, i_i2l, i_l2i, i_lcmp, i_dup, i_pop, i_dup2, i_ifeq, i_ifne, i_iflt, i_ifge, i_ifgt, i_ifle, i_cmpeq, i_cmpne, i_cmplt, i_cmpge, i_cmpgt, i_cmple, i_ifnull, i_ifnonnull, i_getf, am_wr, i_putI, i_putZ, i_putR, i_iald, i_iast, i_aald, i_aast, i_alen, i_newi, i_newq, i_new, i_recv, i_iret, i_zret, i_lret, i_aret, i_vret, List.getElem?_cons_zero, List.getElem?_cons_succ, Option.bind_some, Option.toList_some, Option.toList_none, List.cons_append, List.nil_append, x_nI, am_put, am_put2, List.length_cons, List.length_nil, List.set_cons_zero, List.set_cons_succ, Nat.reduceAdd, Nat.reduceLT, Nat.reduceLeDiff, Nat.reduceEqDiff, Nat.add_left_cancel_iff, Nat.add_eq_left, Nat.left_eq_add, Nat.succ_ne_self, Nat.reduceSub, reduceIte, ite_self, eq_self, or_true, true_or, or_false, false_or, or_self, i10, not_true_eq_false, not_false_eq_true, x_call1, x_call2, x_call3, x_call4, x_call5, x_call6, x_sl0, x_sli, x_slr, x_sln, x_sll, am_ent, List.map_nil, List.map_cons, List.sum_nil, List.sum_cons, Value.category, and_true, true_and, and_self, Nat.zero_le, List.replicate_succ, List.replicate_zero, List.reduceReplicate, x_obj_set, x_row_set, x_len_set, x_obx, x_rox, x_rv, hcn, ep, x_obj hM.1, mo_obj, sat, e1, x_obj m1.1, x_row r10, ixp, x_own (show 5 ≤ b + 10 by omega), e2', x_obj m2.1, x_row r11, x_own (show 5 ≤ b + 11 by omega), e3', x_obj m3.1, x_row s10, x_row s11, pk_us, eN, bz_true, c1, c2]
              exact e4
            · obtain ⟨x1, -, -, -, -, -, x7⟩ := hx a0 c0 hL h1 h3
              obtain ⟨i, hi, hgi⟩ := cd
              rw [(h2 i hi).1, x1] at hgi
              have := hL.1.2.1 i k (by omega) x7 hgi
              omega
          · have hno : ∀ i, i < k → a.2.1 i ≠ nx D c ro := fun i hi e => cd ⟨i, hi, e⟩
            have hw := wd_le t
            obtain ⟨B4, m4, f4, g4⟩ := n_listXY (d := d) (h := h) (l := l) (k := k) (p := 18 * h + 3 * l + k) (t := t) (n := nI n) m3 hD3 hp36 t1 t4 (by rw [setR_self, pk_us]) (by omega) (by omega)
            -- the list with the new attribute
            have hfn : fnd a.2.1 (nx D c ro) a.1 = none := fnd_of_none (fun j hj => hno j (by omega))
            have hvx : valb t (vof t (rx D (c + 16) (wd t) (rn D c (8 + 4 + 4) ro))) = true := vof_fitx t1 t4 hDb
            have hvy : valb t (vof t (rx D (c + 16 + wd t) (wd t) (rn D (c + 16) (wd t) (rn D c (8 + 4 + 4) ro)))) = true := vof_fitx t1 t4 hDb
            obtain ⟨-, na⟩ := as_new (a := a) cN t1 t4 hvx hvy hfn (by omega)
            have hV2 : AV (al_w a (a.1 + 1) a.1 (nx D c ro) t (vof t (rx D (c + 16) (wd t) (rn D c (8 + 4 + 4) ro))) (vof t (rx D (c + 16 + wd t) (wd t) (rn D (c + 16) (wd t) (rn D c (8 + 4 + 4) ro))))) := by
              rw [← na]
              exact AV_as hV
            have hP2 : PA (setR (setR (setR (setR R 10 (upd (R 10) (18 * h + 3 * l + k) (nx D c ro))) 11 (upd (R 11) (18 * h + 3 * l + k) (nI t))) 12 (upd ((setR (setR R 10 (upd (R 10) (18 * h + 3 * l + k) (nx D c ro))) 11 (upd (R 11) (18 * h + 3 * l + k) (nI t))) 12) (18 * h + 3 * l + k) (vof t (rx D (c + 16) (wd t) (rn D c (8 + 4 + 4) ro))))) 13 (upd ((setR (setR R 10 (upd (R 10) (18 * h + 3 * l + k) (nx D c ro))) 11 (upd (R 11) (18 * h + 3 * l + k) (nI t))) 13) (18 * h + 3 * l + k) (vof t (rx D (c + 16 + wd t) (wd t) (rn D (c + 16) (wd t) (rn D c (8 + 4 + 4) ro)))))) h l n (al_w a (a.1 + 1) a.1 (nx D c ro) t (vof t (rx D (c + 16) (wd t) (rn D c (8 + 4 + 4) ro))) (vof t (rx D (c + 16 + wd t) (wd t) (rn D (c + 16) (wd t) (rn D c (8 + 4 + 4) ro))))) := by
              refine ⟨hP.1, fun j hj => ?_⟩
              have hj2 : j < a.1 + 1 := hj
              show upd (R 10) _ _ _ = upd a.2.1 a.1 _ j ∧ upd (R 11) _ _ _ = nI (if j = a.1 then t else a.2.2.1 j) ∧ upd (R 12) _ _ _ = upd a.2.2.2.1 a.1 _ j ∧ upd (R 13) _ _ _ = upd a.2.2.2.2 a.1 _ j
              by_cases cj : j = a.1
              · rw [cj, if_pos rfl, pk_us, pk_us, pk_us, ha, pk_us, pk_us, pk_us, pk_us]
                exact ⟨rfl, rfl, rfl, rfl⟩
              · rw [if_neg cj, pk_un cj, pk_un cj, pk_un cj, pk_un (by omega), pk_un (by omega), pk_un (by omega), pk_un (by omega)]
                exact hP.2 j (by omega)
            have K4 : LK h l R (setR (setR (setR (setR R 10 (upd (R 10) (18 * h + 3 * l + k) (nx D c ro))) 11 (upd (R 11) (18 * h + 3 * l + k) (nI t))) 12 (upd ((setR (setR R 10 (upd (R 10) (18 * h + 3 * l + k) (nx D c ro))) 11 (upd (R 11) (18 * h + 3 * l + k) (nI t))) 12) (18 * h + 3 * l + k) (vof t (rx D (c + 16) (wd t) (rn D c (8 + 4 + 4) ro))))) 13 (upd ((setR (setR R 10 (upd (R 10) (18 * h + 3 * l + k) (nx D c ro))) 11 (upd (R 11) (18 * h + 3 * l + k) (nI t))) 13) (18 * h + 3 * l + k) (vof t (rx D (c + 16 + wd t) (wd t) (rn D (c + 16) (wd t) (rn D c (8 + 4 + 4) ro)))))) := (K3.row (i := 12) _ (by decide) (by decide) (by omega) (by omega)).row (i := 13) _ (by decide) (by decide) (by omega) (by omega)
            have ecp : pad4 (c + 16 + wd t + wd t) = c + (16 + pad4 (2 * wd t)) := pad_st hc4
            have hpm := pad4_mod (2 * wd t)
            have hp8 := pad4_le8 hw
            obtain ⟨C, S, ok, a2, c3, ro3, e5, q1, q2, q3, q4, q5, q6⟩ := ih (k + 1) (by omega) (o5 := some (.int (nI (18 * h + 3 * l + k)))) (o6 := some (.int (nI k))) m4 (hD3.same rfl rfl) hP2 hV2 (by show a.1 + 1 = k + 1; omega) (by omega) (by omega)
            refine ⟨C, S, ok, a2, c3, ro3, ?_, q1, K4.trans q2, (F3.trans f4).trans q3, by omega, fun e => ?_, fun a0 c0 hL h1 h2 h3 => ?_⟩
            · have e4 := d2 hno _ (g4 _ e5)
              refine e_251 ?_; simp only [b_251, i_int, i_long, i_null, i_stat, i_iload, i_lload, i_aload, i_istore, i_astore, i_lstore, i_iinc, i_ii, i_idz, i_i, i_ll, i_lsh, i_i2l, i_l2i, i_lcmp, i_dup, i_pop, i_dup2, i_ifeq, i_ifne, i_iflt, i_ifge, i_ifgt, i_ifle, i_cmpeq, i_cmpne, i_cmplt, i_cmpge, i_cmpgt, i_cmple, i_ifnull, i_ifnonnull, i_getf, am_wr, i_putI, i_putZ, i_putR, i_iald, i_iast, i_aald, i_aast, i_alen, i_newi, i_newq, i_new, i_recv, i_iret, i_zret, i_lret, i_aret, i_vret, List.getElem?_cons_zero, List.getElem?_cons_succ, Option.bind_some, Option.toList_some, Option.toList_none, List.cons_append, List.nil_append, x_nI, am_put, am_put2, List.length_cons, List.length_nil, List.set_cons_zero, List.set_cons_succ, Nat.reduceAdd, Nat.reduceLT, Nat.reduceLeDiff, Nat.reduceEqDiff, Nat.add_left_cancel_iff, Nat.add_eq_left, Nat.left_eq_add, Nat.succ_ne_self, Nat.reduceSub, reduceIte, ite_self, eq_self, or_true, true_or, or_false, false_or, or_self, i10, not_true_eq_false, not_false_eq_true, x_call1, x_call2, x_call3, x_call4, x_call5, x_call6, x_sl0, x_sli, x_slr, x_sln, x_sll, am_ent, List.map_nil, List.map_cons, List.sum_nil, List.sum_cons, Value.category, and_true, true_and, and_self, Nat.zero_le, List.replicate_succ, List.replicate_zero, List.reduceReplicate, x_obj_set, x_row_set, x_len_set, x_obx, x_rox, x_rv, hcn, ep, x_obj hM.1, mo_obj, sat, e1, x_obj m1.1, x_row r10, ixp, x_own (show 5 ≤ b + 10 by omega), e2', x_obj m2.1, x_row r11, x_own (show 5 ≤ b + 11 by omega), e3', x_obj m3.1, x_row s10, x_row s11, pk_us, eN, bz_true, c1, c2]
              exact e4
            · obtain ⟨z1, z2, z3, z4, z5⟩ := q5 e
              have z6 := (z5 k (by omega)).2.1
              have z7 : (if k = a.1 then t else a.2.2.1 k) = t := if_pos ha.symm
              have z8 : a2.2.2.1 k = t := z6.trans z7
              have mono : sg_sum (fun j => 16 + pad4 (2 * wd (a2.2.2.1 j))) (k + 1) ≤ sg_sum (fun j => 16 + pad4 (2 * wd (a2.2.2.1 j))) n := sg_sum_mono (by omega)
              rw [sg_sum, z8] at z4 mono
              refine ⟨z1, z2, z3, by omega, fun j hj => ?_⟩
              have z9 := z5 j (by omega)
              have y1 : j ≠ a.1 := by omega
              rw [z9.1, z9.2.1, z9.2.2.1, z9.2.2.2]
              show upd a.2.1 a.1 _ j = _ ∧ (if j = a.1 then t else a.2.2.1 j) = _ ∧ upd a.2.2.2.1 a.1 _ j = _ ∧ upd a.2.2.2.2 a.1 _ j = _
              rw [pk_un y1, pk_un y1, pk_un y1, if_neg y1]
              exact ⟨rfl, rfl, rfl, rfl⟩
            · obtain ⟨x1, x2, x3, x4, x5, x6, x7⟩ := hx a0 c0 hL h1 h3
              have ett : t = a0.2.2.1 k := (nI_eq (by omega) (by have := (hL.1.1 k x7).2.1.2; omega)).mp (et.symm.trans x2)
              subst ett
              have vx : vof (a0.2.2.1 k) (rx D (c + 16) (wd (a0.2.2.1 k)) (rn D c (8 + 4 + 4) ro)) = a0.2.2.2.1 k := by
                rw [x3, rx_of (by omega)]
                exact x5
              have vy : vof (a0.2.2.1 k) (rx D (c + 16 + wd (a0.2.2.1 k)) (wd (a0.2.2.1 k)) (rn D (c + 16) (wd (a0.2.2.1 k)) (rn D c (8 + 4 + 4) ro))) = a0.2.2.2.2 k := by
                rw [x3, rn_of (by omega), rx_of (by omega)]
                exact x6
              refine q6 a0 c0 hL (by rw [x3]; exact rn_of (by omega)) (fun j hj => ?_) ?_
              · show upd a.2.1 a.1 _ j = _ ∧ (if j = a.1 then _ else a.2.2.1 j) = _ ∧ upd a.2.2.2.1 a.1 _ j = _ ∧ upd a.2.2.2.2 a.1 _ j = _
                by_cases cj : j = a.1
                · have cj2 : j = k := by omega
                  rw [cj, pk_us, pk_us, pk_us, if_pos rfl, ← cj, cj2, x1, vx, vy]
                  exact ⟨rfl, rfl, rfl, rfl⟩
                · rw [pk_un cj, pk_un cj, pk_un cj, if_neg cj]
                  exact h2 j (by omega)
              · rw [ecp, sg_cat, List.length_append, ia1_len]
                omega
        · refine stop ?_ (fun a0 c0 hL h1 h2 h3 => ?_)
          · refine e_251 ?_; simp only [b_251, i_int, i_long, i_null, i_stat, i_iload, i_lload, i_aload, i_istore, i_astore, i_lstore, i_iinc, i_ii, i_idz, i_i, i_ll, i_lsh, i_i2l, i_l2i, i_lcmp, i_dup, i_pop, i_dup2, i_ifeq, i_ifne, i_iflt, i_ifge, i_ifgt, i_ifle, i_cmpeq, i_cmpne, i_cmplt, i_cmpge, i_cmpgt, i_cmple, i_ifnull, i_ifnonnull, i_getf, am_wr, i_putI, i_putZ, i_putR, i_iald, i_iast, i_aald, i_aast, i_alen, i_newi, i_newq, i_new, i_recv, i_iret, i_zret, i_lret, i_aret, i_vret, List.getElem?_cons_zero, List.getElem?_cons_succ, Option.bind_some, Option.toList_some, Option.toList_none, List.cons_append, List.nil_append, x_nI, am_put, am_put2, List.length_cons, List.length_nil, List.set_cons_zero, List.set_cons_succ, Nat.reduceAdd, Nat.reduceLT, Nat.reduceLeDiff, Nat.reduceEqDiff, Nat.add_left_cancel_iff, Nat.add_eq_left, Nat.left_eq_add, Nat.succ_ne_self, Nat.reduceSub, reduceIte, ite_self, eq_self, or_true, true_or, or_false, false_or, or_self, i10, not_true_eq_false, not_false_eq_true, x_call1, x_call2, x_call3, x_call4, x_call5, x_call6, x_sl0, x_sli, x_slr, x_sln, x_sll, am_ent, List.map_nil, List.map_cons, List.sum_nil, List.sum_cons, Value.category, and_true, true_and, and_self, Nat.zero_le, List.replicate_succ, List.replicate_zero, List.reduceReplicate, x_obj_set, x_row_set, x_len_set, x_obx, x_rox, x_rv, hcn, ep, x_obj hM.1, mo_obj, sat, e1, x_obj m1.1, x_row r10, ixp, x_own (show 5 ≤ b + 10 by omega), e2', x_obj m2.1, x_row r11, x_own (show 5 ≤ b + 11 by omega), e3', x_obj m3.1, x_row s10, x_row s11, pk_us, eN, bz_true, c1, c2]
          · obtain ⟨-, x2, -, -, -, -, x7⟩ := hx a0 c0 hL h1 h3
            have t1 := (hL.1.1 k x7).2.1
            rw [x2] at c2
            exact c2 (nI_le (b := 4) t1.2 (by decide))
theorem n_rlist {d b h l c : Nat} {A : am_H} {R : Nat → Nat → Int32} {f : mo_F} {D : List Nat} {ro : Bool} (hh : h < 2) (hl : l < 6) (hDb : ∀ i, D.getD i 0 < 256) (hM : MM b A R (sat f c ro)) (hD : MDr R f D) (hc4 : c % 4 = 0) (hc : c < 500000) : ∃ B S ok a2 c2 ro2, pev (d + 2) 250 [some (.ref b), some (.int (nI h)), some (.int (nI l)), none, none, none, none] [] A = some (some (.int (bz ok)), B) ∧ MM b B S (sat f c2 ro2) ∧ LK h l R S ∧ am_fr (at21 b) A B ∧ c2 ≤ c + 128 ∧ (ok = true → MA S h l a2 ∧ AV a2 ∧ c2 = c + sg_ls a2) ∧ ∀ a0, AV a0 → seg D c (im_a a0) → ro = false → ok = true ∧ MA S h l a0 ∧ ro2 = false ∧ c2 = c + sg_ls a0 := by
  have hb := hM.2.1
  obtain ⟨B1, v, e1, m1, f1, hv⟩ := n_readCount (d := d) (mo := 3) (by decide) (by omega) hM hD
  have r9 : B1.2.2 (b + 9) = some (.inl (0, 12, R 9)) := m1.2.2 9 (by decide) (by decide)
  have e6 : (6 : Int32) * nI h + nI l = nI (6 * h + l) := by rw [show (6 : Int32) = nI 6 from rfl, pk_mul, nI_add]
  have ix9 := x_ix (show 6 * h + l < 12 by omega) (show 6 * h + l < 2147483648 by omega)
  have hx : ∀ a0, AV a0 → seg D c (im_a a0) → ro = false → rn D c 8 ro = false ∧ rd D (c + 4) 4 = nI a0.1 ∧ LH D (c + 8) a0.1 a0 := by
    intro a0 h1 h2 h3
    subst h3
    obtain ⟨i1, i2⟩ := im_a_seg h1 h2 hc4
    have hlen := h2.1
    rw [im_a_len] at hlen
    unfold sg_ls at hlen
    exact ⟨rn_of (by omega), i1, i2⟩
  rcases hv with ⟨rfl, hno⟩ | ⟨n, hn, rfl, hr0, hrd⟩
  · have w1 := m1.set (i := 9) (by decide) (by decide) (upd (R 9) (6 * h + l) 0)
    refine ⟨_, _, false, a00, _, _, ?_, w1, (LK.refl h l R).cnt 0, f1.trans ((am_fr.refl B1).set ⟨by omega, by omega⟩), by omega, fun e => (by cases e), fun a0 h1 h2 h3 => ?_⟩
    · have k2 : pev (d + 2) 251 [some (.ref b), some (.int (nI h)), some (.int (nI l)), some (.int (-1)), some (.int 0), none, none] [] (am_set B1 (b + 9) (.inl (0, msz 9, upd (R 9) (6 * h + l) 0))) = some (some (.int (bz false)), am_set B1 (b + 9) (.inl (0, msz 9, upd (R 9) (6 * h + l) 0))) := by
        refine e_251 ?_; simp only [b_251, i_int, i_long, i_null, i_stat, i_iload, i_lload, i_aload, i_istore, i_astore, i_lstore, i_iinc, i_ii, i_idz, i_i, i_ll, i_lsh, i_i2l, i_l2i, i_lcmp, i_dup, i_pop, i_dup2, i_ifeq, i_ifne, i_iflt, i_ifge, i_ifgt, i_ifle, i_cmpeq, i_cmpne, i_cmplt, i_cmpge, i_cmpgt, i_cmple, i_ifnull, i_ifnonnull, i_getf, am_wr, i_putI, i_putZ, i_putR, i_iald, i_iast, i_aald, i_aast, i_alen, i_newi, i_newq, i_new, i_recv, i_iret, i_zret, i_lret, i_aret, i_vret, List.getElem?_cons_zero, List.getElem?_cons_succ, Option.bind_some, Option.toList_some, Option.toList_none, List.cons_append, List.nil_append, x_nI, am_put, am_put2, List.length_cons, List.length_nil, List.set_cons_zero, List.set_cons_succ, Nat.reduceAdd, Nat.reduceLT, Nat.reduceLeDiff, Nat.reduceEqDiff, Nat.add_left_cancel_iff, Nat.add_eq_left, Nat.left_eq_add, Nat.succ_ne_self, Nat.reduceSub, reduceIte, ite_self, eq_self, or_true, true_or, or_false, false_or, or_self, i10, not_true_eq_false, not_false_eq_true, x_call1, x_call2, x_call3, x_call4, x_call5, x_call6, x_sl0, x_sli, x_slr, x_sln, x_sll, am_ent, List.map_nil, List.map_cons, List.sum_nil, List.sum_cons, Value.category, and_true, true_and, and_self, Nat.zero_le, List.replicate_succ, List.replicate_zero, List.reduceReplicate, x_obj_set, x_row_set, x_len_set, x_obx, x_rox, x_rv, show (-1 : Int32) ≤ 0 by decide, show (-1 : Int32) < 0 by decide]
        all_goals rfl
      have e1' : pev (d + 1) 248 [some (.ref b), some (.int 3), none] [] A = some (some (.int (-1)), B1) := e1
      refine e_250 ?_; simp only [b_250, i_int, i_long, i_null, i_stat, i_iload, i_lload, i_aload, i_istore, i_astore, i_lstore, i_iinc, i_ii, i_idz, i_i, i_ll, i_lsh, i_i2l, i_l2i, i_lcmp, i_dup, i_pop, i_dup2, i_ifeq, i_ifne, i_iflt, i_ifge, i_ifgt, i_ifle, i_cmpeq, i_cmpne, i_cmplt, i_cmpge, i_cmpgt, i_cmple, i_ifnull, i_ifnonnull, i_getf, am_wr, i_putI, i_putZ, i_putR, i_iald, i_iast, i_aald, i_aast, i_alen, i_newi, i_newq, i_new, i_recv, i_iret, i_zret, i_lret, i_aret, i_vret, List.getElem?_cons_zero, List.getElem?_cons_succ, Option.bind_some, Option.toList_some, Option.toList_none, List.cons_append, List.nil_append, x_nI, am_put, am_put2, List.length_cons, List.length_nil, List.set_cons_zero, List.set_cons_succ, Nat.reduceAdd, Nat.reduceLT, Nat.reduceLeDiff, Nat.reduceEqDiff, Nat.add_left_cancel_iff, Nat.add_eq_left, Nat.left_eq_add, Nat.succ_ne_self, Nat.reduceSub, reduceIte, ite_self, eq_self, or_true, true_or, or_false, false_or, or_self, i10, not_true_eq_false, not_false_eq_true, x_call1, x_call2, x_call3, x_call4, x_call5, x_call6, x_sl0, x_sli, x_slr, x_sln, x_sll, am_ent, List.map_nil, List.map_cons, List.sum_nil, List.sum_cons, Value.category, and_true, true_and, and_self, Nat.zero_le, List.replicate_succ, List.replicate_zero, List.reduceReplicate, x_obj_set, x_row_set, x_len_set, x_obx, x_rox, x_rv, x_obj hM.1, e1', x_obj m1.1, mo_obj, e6, show ¬ (0 : Int32) ≤ -1 by decide, x_row r9, ix9, x_own (show 5 ≤ b + 9 by omega)]
      exact k2
    · obtain ⟨x1, x2, x3⟩ := hx a0 h1 h2 h3
      exact absurd x2 (hno x1 _ h1.2.2)
  · have w1 := m1.set (i := 9) (by decide) (by decide) (upd (R 9) (6 * h + l) (nI n))
    obtain ⟨C, S, ok, a2, c2, ro2, e2, q1, q2, q3, q4, q5, q6⟩ := n_list29 (d := d) (b := b) (D := D) hh hl hn hDb n 0 (by omega) (a := a00) (o5 := none) (o6 := none) w1 (hD.same rfl rfl) ⟨by rw [setR_self, pk_us], fun k hk => absurd hk (Nat.not_lt_zero k)⟩ ⟨fun k hk => absurd hk (Nat.not_lt_zero k), fun i j hi => absurd hi (Nat.not_lt_zero i), by decide⟩ rfl (by omega) (by omega)
    refine ⟨C, S, ok, a2, c2, ro2, ?_, q1, ((LK.refl h l R).cnt (nI n)).trans q2, (f1.trans ((am_fr.refl B1).set ⟨by omega, by omega⟩)).trans q3, by omega, fun e => ?_, fun a0 h1 h2 h3 => ?_⟩
    · have e1' : pev (d + 1) 248 [some (.ref b), some (.int 3), none] [] A = some (some (.int (nI n)), B1) := e1
      refine e_250 ?_; simp only [b_250, i_int, i_long, i_null, i_stat, i_iload, i_lload, i_aload, i_istore, i_astore, i_lstore, i_iinc, i_ii, i_idz, i_i, i_ll, i_lsh, i_i2l, i_l2i, i_lcmp, i_dup, i_pop, i_dup2, i_ifeq, i_ifne, i_iflt, i_ifge, i_ifgt, i_ifle, i_cmpeq, i_cmpne, i_cmplt, i_cmpge, i_cmpgt, i_cmple, i_ifnull, i_ifnonnull, i_getf, am_wr, i_putI, i_putZ, i_putR, i_iald, i_iast, i_aald, i_aast, i_alen, i_newi, i_newq, i_new, i_recv, i_iret, i_zret, i_lret, i_aret, i_vret, List.getElem?_cons_zero, List.getElem?_cons_succ, Option.bind_some, Option.toList_some, Option.toList_none, List.cons_append, List.nil_append, x_nI, am_put, am_put2, List.length_cons, List.length_nil, List.set_cons_zero, List.set_cons_succ, Nat.reduceAdd, Nat.reduceLT, Nat.reduceLeDiff, Nat.reduceEqDiff, Nat.add_left_cancel_iff, Nat.add_eq_left, Nat.left_eq_add, Nat.succ_ne_self, Nat.reduceSub, reduceIte, ite_self, eq_self, or_true, true_or, or_false, false_or, or_self, i10, not_true_eq_false, not_false_eq_true, x_call1, x_call2, x_call3, x_call4, x_call5, x_call6, x_sl0, x_sli, x_slr, x_sln, x_sll, am_ent, List.map_nil, List.map_cons, List.sum_nil, List.sum_cons, Value.category, and_true, true_and, and_self, Nat.zero_le, List.replicate_succ, List.replicate_zero, List.reduceReplicate, x_obj_set, x_row_set, x_len_set, x_obx, x_rox, x_rv, x_obj hM.1, e1', x_obj m1.1, mo_obj, e6, nI_pos' (show n < 2 ^ 31 by omega), x_row r9, ix9, x_own (show 5 ≤ b + 9 by omega)]
      exact e2
    · obtain ⟨z1, z2, z3, z4, -⟩ := q5 e
      refine ⟨z1, z2, ?_⟩
      rw [z4, sg_ls, z3, sg_sum]
      omega
    · obtain ⟨x1, x2, x3⟩ := hx a0 h1 h2 h3
      have en : a0.1 = n := (nI_eq (by have := h1.2.2; omega) (by omega)).mp (x2.symm.trans hrd)
      rw [en] at x3
      obtain ⟨z1, z2, z3, z4⟩ := q6 a0 (c + 8) x3 hr0 (fun j hj => absurd hj (Nat.not_lt_zero j)) (by simp [sg_cat])
      refine ⟨z1, z2, z3, ?_⟩
      rw [z4, sg_ls, sg_cat_len, sg_sum_congr (fun k _ => ia1_len a0 k), en]
      omega
