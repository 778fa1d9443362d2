/-! the reference reads dimensions -/
def PD (R : Nat → Nat → Int32) (h : Nat) (dd : sg_D) : Prop := R 1 h = nI dd.1 ∧ dd.1 ≤ 4 ∧ ∀ k, k < dd.1 → R 2 (4 * h + k) = dd.2.1 k ∧ R 3 (4 * h + k) = nI (dd.2.2 k) ∧ dd.2.2 k ≤ 8
def VD (dd : sg_D) : Prop := (∀ k, k < dd.1 → isNb (dd.2.1 k) = true) ∧ dst dd.2.1 dd.1
def aDD (dd : sg_D) (nm : Int32) (ln : Nat) : sg_D := (dd.1 + 1, upd dd.2.1 dd.1 nm, fun j => if j = dd.1 then ln else dd.2.2 j)
theorem VD_add {dd : sg_D} {nm : Int32} {ln : Nat} (h : VD dd) (h1 : isNb nm = true) (h2 : fnd dd.2.1 nm dd.1 = none) : VD (aDD dd nm ln) := by
  refine ⟨fun k hk => ?_, dst_add h.2 h2⟩
  show isNb (upd dd.2.1 dd.1 nm k) = true
  by_cases c : k = dd.1
  · subst c
    rw [pk_us]
    exact h1
  · rw [pk_un c]
    have : k < dd.1 + 1 := hk
    exact h.1 k (by omega)
def dagr (dd d0 : sg_D) (k : Nat) : Prop := ∀ j, j < k → dd.2.1 j = d0.2.1 j ∧ dd.2.2 j = d0.2.2 j
theorem PD.agr {R : Nat → Nat → Int32} {h : Nat} {dd d0 : sg_D} (hp : PD R h dd) (h1 : dd.1 = d0.1) (h2 : dagr dd d0 d0.1) : PD R h d0 := by
  obtain ⟨p1, p2, p3⟩ := hp
  refine ⟨by rw [← h1]; exact p1, by omega, fun k hk => ?_⟩
  obtain ⟨e1, e2⟩ := h2 k hk
  rw [← e1, ← e2]
  exact p3 k (by omega)
theorem n_rdim15 {d b h n : Nat} {f : mo_F} {D : List Nat} (hh : h < 2) (hn : n ≤ 4) : ∀ (m k : Nat), k + m = n → ∀ {A : am_H} {R : Nat → Nat → Int32} {c : Nat} {ro : Bool} {dd : sg_D} {o4 o5 : Option Value}, MM b A R (sat f c ro) → MDr R f D → PD R h dd → VD dd → dd.1 = k → c + 12 * m < 700000 → ∃ B S ok dd2 c2 ro2, pev (d + 2) 247 [some (.ref b), some (.int (nI h)), some (.int (nI n)), some (.int (nI k)), o4, o5] [] A = some (some (.int (bz ok)), B) ∧ MM b B S (sat f c2 ro2) ∧ KH (1 - h) R S ∧ (∀ i, 4 ≤ i → S i = R i) ∧ am_fr (at21 b) A B ∧ c2 ≤ c + 12 * m ∧ (ok = true → PD S h dd2 ∧ VD dd2 ∧ dd2.1 = n ∧ sg_sum (fun k => if dd2.2.2 k = 0 then 1 else 0) n ≤ 1 ∧ c2 = c + 12 * m) ∧ ∀ t0 c0, DH D c0 t0 → t0.1.1 = n → ro = false → c = c0 + 12 * k → dagr dd t0.1 k → ok = true ∧ PD S h t0.1 ∧ ro2 = false ∧ c2 = c0 + 12 * n := by
  intro m
  induction m with
  | zero =>
    intro k hk A R c ro dd o4 o5 hM hD hP hV hdd hc
    have hkn : k = n := by omega
    subst hkn
    obtain ⟨p1, p2, p3⟩ := id hP
    have eg := n_growing (d := d + 1) (b := b) (h := h) (n := k) (g := dd.2.2) hM hh hn (by rw [← hdd]; exact p1) (fun j hj => (p3 j (by omega)).2)
    have hsum : sg_sum (fun j => if dd.2.2 j = 0 then 1 else 0) k ≤ k := by
      have h1 : sg_sum (fun j => if dd.2.2 j = 0 then 1 else 0) k ≤ sg_sum (fun _ => 1) k := sg_sum_le (fun j _ => by split <;> omega)
      rw [sg_sum_const] at h1
      omega
    have ec : ((1 : Int32) < nI (sg_sum (fun j => if dd.2.2 j = 0 then 1 else 0) k)) = (1 < sg_sum (fun j => if dd.2.2 j = 0 then 1 else 0) k) := o_lt (a := 1) (by decide) (by omega)
    have hn0 : ¬ nI k < 0 := nI_pos (by omega)
    by_cases c1 : 1 < sg_sum (fun j => if dd.2.2 j = 0 then 1 else 0) k
    · refine ⟨A, R, false, dd, c, ro, ?_, hM, KH.refl _ _, fun _ _ => rfl, am_fr.refl A, by omega, fun e => (by cases e), fun t0 c0 hH h1 h2 h3 h4 => ?_⟩
      · refine e_247 ?_; simp only [b_247, i_int, i_long, i_null, i_stat, i_iload, i_lload, i_aload, i_istore, i_astore, i_lstore, i_iinc, i_ii, i_idz, i_i, i_ll, i_lsh, i_i2l, i_l2i, i_lcmp, i_dup, i_pop, i_dup2, i_ifeq, i_ifne, i_iflt, i_ifge, i_ifgt, i_ifle, i_cmpeq, i_cmpne, i_cmplt, i_cmpge, i_cmpgt, i_cmple, i_ifnull, i_ifnonnull, i_getf, am_wr, i_putI, i_putZ, i_putR, i_iald, i_iast, i_aald, i_aast, i_alen, i_newi, i_newq, i_new, i_recv, i_iret, i_zret, i_lret, i_aret, i_vret, List.getElem?_cons_zero, List.getElem?_cons_succ, Option.bind_some, Option.toList_some, Option.toList_none, List.cons_append, List.nil_append, x_nI, am_put, am_put2, List.length_cons, List.length_nil, List.set_cons_zero, List.set_cons_succ, Nat.reduceAdd, Nat.reduceLT, Nat.reduceLeDiff, Nat.reduceEqDiff, Nat.add_left_cancel_iff, Nat.add_eq_left, Nat.left_eq_add, Nat.succ_ne_self, Nat.reduceSub, reduceIte, ite_self, eq_self, or_true, true_or, or_false, false_or, or_self, i10, not_true_eq_false, not_false_eq_true, x_call1, x_call2, x_call3, x_call4, x_call5, x_call6, x_sl0, x_sli, x_slr, x_sln, x_sll, am_ent, List.map_nil, List.map_cons, List.sum_nil, List.sum_cons, Value.category, and_true, true_and, and_self, Nat.zero_le, List.replicate_succ, List.replicate_zero, List.reduceReplicate, x_obj_set, x_row_set, x_len_set, x_obx, x_rox, x_rv, show nI k ≤ nI k from nI_le (Nat.le_refl _) (by omega), hn0, x_obj hM.1, eg, ec, c1]
        all_goals rfl
      · have hs := hH.1.2.2.2.1
        rw [h1] at hs
        rw [sg_sum_congr (g := fun j => if t0.1.2.2 j = 0 then 1 else 0) (fun j hj => by rw [(h4 j hj).2])] at c1
        omega
    · refine ⟨A, R, true, dd, c, ro, ?_, hM, KH.refl _ _, fun _ _ => rfl, am_fr.refl A, by omega, fun _ => ⟨hP, hV, hdd, by omega, by omega⟩, fun t0 c0 hH h1 h2 h3 h4 => ⟨rfl, hP.agr (by omega) (by rw [h1]; exact h4), h2, h3⟩⟩
      refine e_247 ?_; simp only [b_247, i_int, i_long, i_null, i_stat, i_iload, i_lload, i_aload, i_istore, i_astore, i_lstore, i_iinc, i_ii, i_idz, i_i, i_ll, i_lsh, i_i2l, i_l2i, i_lcmp, i_dup, i_pop, i_dup2, i_ifeq, i_ifne, i_iflt, i_ifge, i_ifgt, i_ifle, i_cmpeq, i_cmpne, i_cmplt, i_cmpge, i_cmpgt, i_cmple, i_ifnull, i_ifnonnull, i_getf, am_wr, i_putI, i_putZ, i_putR, i_iald, i_iast, i_aald, i_aast, i_alen, i_newi, i_newq, i_new, i_recv, i_iret, i_zret, i_lret, i_aret, i_vret, List.getElem?_cons_zero, List.getElem?_cons_succ, Option.bind_some, Option.toList_some, Option.toList_none, List.cons_append, List.nil_append, x_nI, am_put, am_put2, List.length_cons, List.length_nil, List.set_cons_zero, List.set_cons_succ, Nat.reduceAdd, Nat.reduceLT, Nat.reduceLeDiff, Nat.reduceEqDiff, Nat.add_left_cancel_iff, Nat.add_eq_left, Nat.left_eq_add, Nat.succ_ne_self, Nat.reduceSub, reduceIte, ite_self, eq_self, or_true, true_or, or_false, false_or, or_self, i10, not_true_eq_false, not_false_eq_true, x_call1, x_call2, x_call3, x_call4, x_call5, x_call6, x_sl0, x_sli, x_slr, x_sln, x_sll, am_ent, List.map_nil, List.map_cons, List.sum_nil, List.sum_cons, Value.category, and_true, true_and, and_self, Nat.zero_le, List.replicate_succ, List.replicate_zero, List.reduceReplicate, x_obj_set, x_row_set, x_len_set, x_obx, x_rox, x_rv, show nI k ≤ nI k from nI_le (Nat.le_refl _) (by omega), hn0, x_obj hM.1, eg, ec, c1]
      all_goals rfl
  | succ m ih =>
    intro k hk A R c ro dd o4 o5 hM hD hP hV hdd hc
    have hb := hM.2.1
    have hcn : ¬ nI n ≤ nI k := nI_ge (by omega) (by omega)
    obtain ⟨p1, p2, p3⟩ := id hP
    obtain ⟨B1, e1, m1, f1⟩ := n_readName (d := d) (by omega) hM hD
    obtain ⟨B2, e2, m2, f2⟩ := n_read (d := d + 1) (w := 4) (by decide) (by omega) m1 hD
    rw [rn_rn] at m2
    rw [show c + 8 + 4 = c + 12 by omega] at m2
    have F2 := f1.trans f2
    have eN := n_isName (d := d + 1) (A := B2) (nx D c ro)
    have hx : ∀ t0 c0, DH D c0 t0 → t0.1.1 = n → ro = false → c = c0 + 12 * k → nx D c ro = t0.1.2.1 k ∧ rx D (c + 8) 4 (rn D c 8 ro) = nI (t0.1.2.2 k) ∧ rn D c (8 + 4) ro = false ∧ t0.1.2.2 k ≤ 8 ∧ isNb (t0.1.2.1 k) = true := by
      intro t0 c0 hH h1 h2 h3
      subst h2
      obtain ⟨v1, v2⟩ := DH_k hH (show k < t0.1.1 by omega)
      rw [← h3] at v1 v2
      have hl := hH.2.2.1
      rw [id1_cat] at hl
      have k12 : 12 * (k + 1) ≤ 12 * t0.1.1 := Nat.mul_le_mul_left _ (by omega)
      refine ⟨?_, ?_, rn_of (by omega), hH.2.1.2.1 k (by omega), hH.1.1.1 k (by omega)⟩
      · unfold nx
        rw [rn_of (by omega), if_neg (by decide)]
        exact v1
      · rw [rn_of (by omega), rx_of (by omega)]
        exact v2
    have stop : (pev (d + 2) 247 [some (.ref b), some (.int (nI h)), some (.int (nI n)), some (.int (nI k)), o4, o5] [] A = some (some (.int 0), B2)) → (∀ t0 c0, DH D c0 t0 → t0.1.1 = n → ro = false → c = c0 + 12 * k → dagr dd t0.1 k → False) → ∃ B S ok dd2 c2 ro2, pev (d + 2) 247 [some (.ref b), some (.int (nI h)), some (.int (nI n)), some (.int (nI k)), o4, o5] [] A = some (some (.int (bz ok)), B) ∧ MM b B S (sat f c2 ro2) ∧ KH (1 - h) R S ∧ (∀ i, 4 ≤ i → S i = R i) ∧ am_fr (at21 b) A B ∧ c2 ≤ c + 12 * (m + 1) ∧ (ok = true → PD S h dd2 ∧ VD dd2 ∧ dd2.1 = n ∧ sg_sum (fun k => if dd2.2.2 k = 0 then 1 else 0) n ≤ 1 ∧ c2 = c + 12 * (m + 1)) ∧ ∀ t0 c0, DH D c0 t0 → t0.1.1 = n → ro = false → c = c0 + 12 * k → dagr dd t0.1 k → ok = true ∧ PD S h t0.1 ∧ ro2 = false ∧ c2 = c0 + 12 * n := fun e hf =>
      ⟨B2, R, false, dd, c + 12, rn D c (8 + 4) ro, e, m2, KH.refl _ _, fun _ _ => rfl, F2, by omega, fun e => (by cases e), fun t0 c0 hH h1 h2 h3 h4 => (hf t0 c0 hH h1 h2 h3 h4).elim⟩
    cases cN : isNb (nx D c ro) with
    | false =>
      rw [cN] at eN
      refine stop ?_ (fun t0 c0 hH h1 h2 h3 h4 => ?_)
      · refine e_247 ?_; simp only [b_247, i_int, i_long, i_null, i_stat, i_iload, i_lload, i_aload, i_istore, i_astore, i_lstore, i_iinc, i_ii, i_idz, i_i, i_ll, i_lsh, i_i2l, i_l2i, i_lcmp, i_dup, i_pop, i_dup2, i_ifeq, i_ifne, i_iflt, i_ifge, i_ifgt, i_ifle, i_cmpeq, i_cmpne, i_cmplt, i_cmpge, i_cmpgt, i_cmple, i_ifnull, i_ifnonnull, i_getf, am_wr, i_putI, i_putZ, i_putR, i_iald, i_iast, i_aald, i_aast, i_alen, i_newi, i_newq, i_new, i_recv, i_iret, i_zret, i_lret, i_aret, i_vret, List.getElem?_cons_zero, List.getElem?_cons_succ, Option.bind_some, Option.toList_some, Option.toList_none, List.cons_append, List.nil_append, x_nI, am_put, am_put2, List.length_cons, List.length_nil, List.set_cons_zero, List.set_cons_succ, Nat.reduceAdd, Nat.reduceLT, Nat.reduceLeDiff, Nat.reduceEqDiff, Nat.add_left_cancel_iff, Nat.add_eq_left, Nat.left_eq_add, Nat.succ_ne_self, Nat.reduceSub, reduceIte, ite_self, eq_self, or_true, true_or, or_false, false_or, or_self, i10, not_true_eq_false, not_false_eq_true, x_call1, x_call2, x_call3, x_call4, x_call5, x_call6, x_sl0, x_sli, x_slr, x_sln, x_sll, am_ent, List.map_nil, List.map_cons, List.sum_nil, List.sum_cons, Value.category, and_true, true_and, and_self, Nat.zero_le, List.replicate_succ, List.replicate_zero, List.reduceReplicate, x_obj_set, x_row_set, x_len_set, x_obx, x_rox, x_rv, hcn, x_obj hM.1, e1, x_obj m1.1, show (4 : Int32) = nI 4 from rfl, e2, eN, bz_false]
      · obtain ⟨x1, -, -, -, x5⟩ := hx t0 c0 hH h1 h2 h3
        rw [x1, x5] at cN
        cases cN
    | true =>
      rw [cN] at eN
      by_cases c1 : rx D (c + 8) 4 (rn D c 8 ro) < 0
      · refine stop ?_ (fun t0 c0 hH h1 h2 h3 h4 => ?_)
        · refine e_247 ?_; simp only [b_247, i_int, i_long, i_null, i_stat, i_iload, i_lload, i_aload, i_istore, i_astore, i_lstore, i_iinc, i_ii, i_idz, i_i, i_ll, i_lsh, i_i2l, i_l2i, i_lcmp, i_dup, i_pop, i_dup2, i_ifeq, i_ifne, i_iflt, i_ifge, i_ifgt, i_ifle, i_cmpeq, i_cmpne, i_cmplt, i_cmpge, i_cmpgt, i_cmple, i_ifnull, i_ifnonnull, i_getf, am_wr, i_putI, i_putZ, i_putR, i_iald, i_iast, i_aald, i_aast, i_alen, i_newi, i_newq, i_new, i_recv, i_iret, i_zret, i_lret, i_aret, i_vret, List.getElem?_cons_zero, List.getElem?_cons_succ, Option.bind_some, Option.toList_some, Option.toList_none, List.cons_append, List.nil_append, x_nI, am_put, am_put2, List.length_cons, List.length_nil, List.set_cons_zero, List.set_cons_succ, Nat.reduceAdd, Nat.reduceLT, Nat.reduceLeDiff, Nat.reduceEqDiff, Nat.add_left_cancel_iff, Nat.add_eq_left, Nat.left_eq_add, Nat.succ_ne_self, Nat.reduceSub, reduceIte, ite_self, eq_self, or_true, true_or, or_false, false_or, or_self, i10, not_true_eq_false, not_false_eq_true, x_call1, x_call2, x_call3, x_call4, x_call5, x_call6, x_sl0, x_sli, x_slr, x_sln, x_sll, am_ent, List.map_nil, List.map_cons, List.sum_nil, List.sum_cons, Value.category, and_true, true_and, and_self, Nat.zero_le, List.replicate_succ, List.replicate_zero, List.reduceReplicate, x_obj_set, x_row_set, x_len_set, x_obx, x_rox, x_rv, hcn, x_obj hM.1, e1, x_obj m1.1, show (4 : Int32) = nI 4 from rfl, e2, eN, bz_true, c1]
        · obtain ⟨-, x2, -, x4, -⟩ := hx t0 c0 hH h1 h2 h3
          rw [x2] at c1
          exact nI_pos (by omega) c1
      · by_cases c2 : (8 : Int32) < rx D (c + 8) 4 (rn D c 8 ro)
        · refine stop ?_ (fun t0 c0 hH h1 h2 h3 h4 => ?_)
          · refine e_247 ?_; simp only [b_247, i_int, i_long, i_null, i_stat, i_iload, i_lload, i_aload, i_istore, i_astore, i_lstore, i_iinc, i_ii, i_idz, i_i, i_ll, i_lsh, i_i2l, i_l2i, i_lcmp, i_dup, i_pop, i_dup2, i_ifeq, i_ifne, i_iflt, i_ifge, i_ifgt, i_ifle, i_cmpeq, i_cmpne, i_cmplt, i_cmpge, i_cmpgt, i_cmple, i_ifnull, i_ifnonnull, i_getf, am_wr, i_putI, i_putZ, i_putR, i_iald, i_iast, i_aald, i_aast, i_alen, i_newi, i_newq, i_new, i_recv, i_iret, i_zret, i_lret, i_aret, i_vret, List.getElem?_cons_zero, List.getElem?_cons_succ, Option.bind_some, Option.toList_some, Option.toList_none, List.cons_append, List.nil_append, x_nI, am_put, am_put2, List.length_cons, List.length_nil, List.set_cons_zero, List.set_cons_succ, Nat.reduceAdd, Nat.reduceLT, Nat.reduceLeDiff, Nat.reduceEqDiff, Nat.add_left_cancel_iff, Nat.add_eq_left, Nat.left_eq_add, Nat.succ_ne_self, Nat.reduceSub, reduceIte, ite_self, eq_self, or_true, true_or, or_false, false_or, or_self, i10, not_true_eq_false, not_false_eq_true, x_call1, x_call2, x_call3, x_call4, x_call5, x_call6, x_sl0, x_sli, x_slr, x_sln, x_sll, am_ent, List.map_nil, List.map_cons, List.sum_nil, List.sum_cons, Value.category, and_true, true_and, and_self, Nat.zero_le, List.replicate_succ, List.replicate_zero, List.reduceReplicate, x_obj_set, x_row_set, x_len_set, x_obx, x_rox, x_rv, hcn, x_obj hM.1, e1, x_obj m1.1, show (4 : Int32) = nI 4 from rfl, e2, eN, bz_true, c1, c2]
          · obtain ⟨-, x2, -, x4, -⟩ := hx t0 c0 hH h1 h2 h3
            rw [x2] at c2
            exact nI_nlt (a := 8) x4 (by decide) c2
        · obtain ⟨ln, hln, eln⟩ := nI_of2 (M := 8) (n := 8) rfl c1 (Int32.not_lt.mp c2)
          have ed := n_dimNamed (d := d + 1) (b := b) (h := h) (nm := nx D c ro) (e := -1) (n := k) (g := dd.2.1) m2 hh (by omega) (by rw [← hdd]; exact p1) (fun j hj => (p3 j (by omega)).1)
          rw [nmd_fnd (by omega)] at ed
          rw [eln] at e2 c1 c2
          cases cf : fnd dd.2.1 (nx D c ro) k with
          | some j =>
            rw [cf] at ed
            have edt : bz (Option.isSome (some j)) = 1 := rfl
            rw [edt] at ed
            refine stop ?_ (fun t0 c0 hH h1 h2 h3 h4 => ?_)
            · refine e_247 ?_; simp only [b_247, i_int, i_long, i_null, i_stat, i_iload, i_lload, i_aload, i_istore, i_astore, i_lstore, i_iinc, i_ii, i_idz, i_i, i_ll, i_lsh, i_i2l, i_l2i, i_lcmp, i_dup, i_pop, i_dup2, i_ifeq, i_ifne, i_iflt, i_ifge, i_ifgt, i_ifle, i_cmpeq, i_cmpne, i_cmplt, i_cmpge, i_cmpgt, i_cmple, i_ifnull, i_ifnonnull, i_getf, am_wr, i_putI, i_putZ, i_putR, i_iald, i_iast, i_aald, i_aast, i_alen, i_newi, i_newq, i_new, i_recv, i_iret, i_zret, i_lret, i_aret, i_vret, List.getElem?_cons_zero, List.getElem?_cons_succ, Option.bind_some, Option.toList_some, Option.toList_none, List.cons_append, List.nil_append, x_nI, am_put, am_put2, List.length_cons, List.length_nil, List.set_cons_zero, List.set_cons_succ, Nat.reduceAdd, Nat.reduceLT, Nat.reduceLeDiff, Nat.reduceEqDiff, Nat.add_left_cancel_iff, Nat.add_eq_left, Nat.left_eq_add, Nat.succ_ne_self, Nat.reduceSub, reduceIte, ite_self, eq_self, or_true, true_or, or_false, false_or, or_self, i10, not_true_eq_false, not_false_eq_true, x_call1, x_call2, x_call3, x_call4, x_call5, x_call6, x_sl0, x_sli, x_slr, x_sln, x_sll, am_ent, List.map_nil, List.map_cons, List.sum_nil, List.sum_cons, Value.category, and_true, true_and, and_self, Nat.zero_le, List.replicate_succ, List.replicate_zero, List.reduceReplicate, x_obj_set, x_row_set, x_len_set, x_obx, x_rox, x_rv, hcn, x_obj hM.1, e1, x_obj m1.1, show (4 : Int32) = nI 4 from rfl, e2, eN, bz_true, c1, c2, x_obj m2.1, ed]
            · obtain ⟨x1, -, -, -, -⟩ := hx t0 c0 hH h1 h2 h3
              obtain ⟨j1, j2⟩ := fnd_some cf
              rw [x1, (h4 j j1).1] at j2
              have := hH.1.2.1 j k (by omega) (by omega) j2
              omega
          | none =>
            rw [cf] at ed
            have edt : bz (Option.isSome (none : Option Nat)) = 0 := rfl
            rw [edt] at ed
            have w1 := m2.set (i := 2) (by decide) (by decide) (upd (R 2) (4 * h + k) (nx D c ro))
            have w2 := w1.set (i := 3) (by decide) (by decide) (upd (R 3) (4 * h + k) (nI ln))
            have w3 := w2.set (i := 1) (by decide) (by decide) (upd (R 1) h (nI (k + 1)))
            have hP2 : PD (setR (setR (setR R 2 (upd (R 2) (4 * h + k) (nx D c ro))) 3 (upd (R 3) (4 * h + k) (nI ln))) 1 (upd (R 1) h (nI (k + 1)))) h (aDD dd (nx D c ro) ln) := by
              refine ⟨?_, by show dd.1 + 1 ≤ 4; omega, fun j hj => ?_⟩
              · rw [setR_self, pk_us, ← hdd]
                rfl
              · rw [setR_ne (show (2 : Nat) ≠ 1 by decide), setR_ne (show (2 : Nat) ≠ 3 by decide), setR_self, setR_ne (show (3 : Nat) ≠ 1 by decide), setR_self]
                have hj2 : j < dd.1 + 1 := hj
                show _ = upd dd.2.1 dd.1 (nx D c ro) j ∧ _ = nI (if j = dd.1 then ln else dd.2.2 j) ∧ (if j = dd.1 then ln else dd.2.2 j) ≤ 8
                by_cases cj : j = dd.1
                · rw [cj, if_pos rfl, pk_us, hdd, pk_us, pk_us]
                  exact ⟨rfl, rfl, hln⟩
                · rw [if_neg cj, pk_un cj, pk_un (by omega), pk_un (by omega)]
                  exact p3 j (by omega)
            have hK2 : KH (1 - h) R (setR (setR (setR R 2 (upd (R 2) (4 * h + k) (nx D c ro))) 3 (upd (R 3) (4 * h + k) (nI ln))) 1 (upd (R 1) h (nI (k + 1)))) := by
              have k1 := (KH.refl (1 - h) R).upd (i := 2) (j := 4 * h + k) (nx D c ro) (by decide) (by decide) (by show _ < (1 - h) * 4 ∨ (1 - h) * 4 + 4 ≤ _; omega)
              have k2 := k1.upd (i := 3) (j := 4 * h + k) (nI ln) (by decide) (by decide) (by show _ < (1 - h) * 4 ∨ (1 - h) * 4 + 4 ≤ _; omega)
              exact k2.upd (i := 1) (j := h) (nI (k + 1)) (by decide) (by decide) (by show _ < (1 - h) * 1 ∨ (1 - h) * 1 + 1 ≤ _; omega)
            obtain ⟨C, S, ok, dd2, c3, ro3, e3, q1, q2, q3, q4, q5, q6, q7⟩ := ih (k + 1) (by omega) (o4 := some (.int (nx D c ro))) (o5 := some (.int (nI ln))) w3 (hD.same rfl rfl) hP2 (VD_add hV cN (by rw [hdd]; exact cf)) (by show dd.1 + 1 = k + 1; omega) (by omega)
            refine ⟨C, S, ok, dd2, c3, ro3, ?_, q1, hK2.trans q2, fun i hi => (q3 i hi).trans (by rw [setR_ne (by omega), setR_ne (by omega), setR_ne (by omega)]), (F2.trans ((((am_fr.refl B2).set ⟨by omega, by omega⟩).set ⟨by omega, by omega⟩).set ⟨by omega, by omega⟩)).trans q4, by omega, fun e => ?_, fun t0 c0 hH h1 h2 h3 h4 => ?_⟩
            · have r1 : B2.2.2 (b + 1) = some (.inl (0, 2, R 1)) := m2.2.2 1 (by decide) (by decide)
              have r2 : B2.2.2 (b + 2) = some (.inl (0, 8, R 2)) := m2.2.2 2 (by decide) (by decide)
              have r3 : B2.2.2 (b + 3) = some (.inl (0, 8, R 3)) := m2.2.2 3 (by decide) (by decide)
              have e44 : (4 : Int32) * nI h + nI k = nI (4 * h + k) := by rw [show (4 : Int32) = nI 4 from rfl, pk_mul, nI_add]
              have e2' : pev (d + 1) 244 [some (.ref b), some (.int 4), none, none] [] B1 = some (some (.int (nI ln)), B2) := e2
              refine e_247 ?_; simp only [b_247, i_int, i_long, i_null, i_stat, i_iload, i_lload, i_aload, i_istore, i_astore, i_lstore, i_iinc, i_ii, i_idz, i_i, i_ll, i_lsh, i_i2l, i_l2i, i_lcmp, i_dup, i_pop, i_dup2, i_ifeq, i_ifne, i_iflt, i_ifge, i_ifgt, i_ifle, i_cmpeq, i_cmpne, i_cmplt, i_cmpge, i_cmpgt, i_cmple, i_ifnull, i_ifnonnull, i_getf, am_wr, i_putI, i_putZ, i_putR, i_iald, i_iast, i_aald, i_aast, i_alen, i_newi, i_newq, i_new, i_recv, i_iret, i_zret, i_lret, i_aret, i_vret, List.getElem?_cons_zero, List.getElem?_cons_succ, Option.bind_some, Option.toList_some, Option.toList_none, List.cons_append, List.nil_append, x_nI, am_put, am_put2, List.length_cons, List.length_nil, List.set_cons_zero, List.set_cons_succ, Nat.reduceAdd, Nat.reduceLT, Nat.reduceLeDiff, Nat.reduceEqDiff, Nat.add_left_cancel_iff, Nat.add_eq_left, Nat.left_eq_add, Nat.succ_ne_self, Nat.reduceSub, reduceIte, ite_self, eq_self, or_true, true_or, or_false, false_or, or_self, i10, not_true_eq_false, not_false_eq_true, x_call1, x_call2, x_call3, x_call4, x_call5, x_call6, x_sl0, x_sli, x_slr, x_sln, x_sll, am_ent, List.map_nil, List.map_cons, List.sum_nil, List.sum_cons, Value.category, and_true, true_and, and_self, Nat.zero_le, List.replicate_succ, List.replicate_zero, List.reduceReplicate, x_obj_set, x_row_set, x_len_set, x_obx, x_rox, x_rv, hcn, x_obj hM.1, e1, x_obj m1.1, e2', eN, bz_true, c1, c2, x_obj m2.1, mo_obj, ed, e44, x_row r1, x_row r2, x_row r3, x_ix (show 4 * h + k < 8 by omega) (show 4 * h + k < 2147483648 by omega), x_ix hh (show h < 2147483648 by omega), x_own (show 5 ≤ b + 1 by omega), x_own (show 5 ≤ b + 2 by omega), x_own (show 5 ≤ b + 3 by omega), nI_1]
              exact e3
            · obtain ⟨z1, z2, z3, z4, z5⟩ := q6 e
              exact ⟨z1, z2, z3, z4, by omega⟩
            · obtain ⟨x1, x2, x3, x4, x5⟩ := hx t0 c0 hH h1 h2 h3
              have eln2 : ln = t0.1.2.2 k := (nI_eq (by omega) (by omega)).mp (eln.symm.trans x2)
              refine q7 t0 c0 hH h1 x3 (by omega) (fun j hj => ?_)
              show upd dd.2.1 dd.1 (nx D c ro) j = _ ∧ (if j = dd.1 then ln else dd.2.2 j) = _
              by_cases cj : j = dd.1
              · rw [cj, pk_us, if_pos rfl, hdd, x1, eln2]
                exact ⟨rfl, rfl⟩
              · rw [pk_un cj, if_neg cj]
                exact h4 j (by omega)
theorem n_rdim {d b h c : Nat} {A : am_H} {R : Nat → Nat → Int32} {f : mo_F} {D : List Nat} {ro : Bool} (hh : h < 2) (hM : MM b A R (sat f c ro)) (hD : MDr R f D) (hc : c < 600000) : ∃ B S ok dd2 c2 ro2, pev (d + 2) 246 [some (.ref b), some (.int (nI h)), none, none, none, none] [] A = some (some (.int (bz ok)), B) ∧ MM b B S (sat f c2 ro2) ∧ KH (1 - h) R S ∧ (∀ i, 4 ≤ i → S i = R i) ∧ am_fr (at21 b) A B ∧ c2 ≤ c + 56 ∧ (ok = true → PD S h dd2 ∧ VD dd2 ∧ sg_sum (fun k => if dd2.2.2 k = 0 then 1 else 0) dd2.1 ≤ 1 ∧ c2 = c + 8 + 12 * dd2.1) ∧ ∀ t0, HP t0 → STv t0 → seg D c (hea 10 t0.1.1 ++ sg_cat (id1 t0) t0.1.1) → ro = false → ok = true ∧ PD S h t0.1 ∧ ro2 = false ∧ c2 = c + 8 + 12 * t0.1.1 := by
  have hb := hM.2.1
  obtain ⟨B1, v, e1, m1, f1, hv⟩ := n_readCount (d := d) (mo := 4) (by decide) (by omega) hM hD
  have w1 := m1.set (i := 1) (by decide) (by decide) (upd (R 1) h 0)
  have F1 := f1.trans ((am_fr.refl B1).set (p := b + 1) (e := .inl (0, msz 1, upd (R 1) h 0)) ⟨by omega, by omega⟩)
  have hK1 : KH (1 - h) R (setR R 1 (upd (R 1) h 0)) := (KH.refl (1 - h) R).upd (i := 1) (j := h) 0 (by decide) (by decide) (by show _ < (1 - h) * 1 ∨ (1 - h) * 1 + 1 ≤ _; omega)
  have r1 : B1.2.2 (b + 1) = some (.inl (0, 2, R 1)) := m1.2.2 1 (by decide) (by decide)
  have hx : ∀ t0, HP t0 → STv t0 → seg D c (hea 10 t0.1.1 ++ sg_cat (id1 t0) t0.1.1) → ro = false → rn D c 8 ro = false ∧ rd D (c + 4) 4 = nI t0.1.1 ∧ DH D (c + 8) t0 := by
    intro t0 h1 h2 h3 h4
    subst h4
    have s1 := seg_l h3
    have hl := s1.1
    rw [hea_len] at hl
    unfold hea at s1
    have r1 := seg_r s1
    have r2 := seg_r h3
    rw [wrd_len] at r1
    rw [hea_len] at r2
    exact ⟨rn_of hl, rd_wrd r1, h1, h2, r2⟩
  rcases hv with ⟨rfl, hno⟩ | ⟨n, hn, rfl, hr0, hrd⟩
  · refine ⟨_, _, false, (0, fun _ => 0, fun _ => 0), _, _, ?_, w1, hK1, fun i hi => setR_ne (by omega), F1, by omega, fun e => (by cases e), fun t0 h1 h2 h3 h4 => ?_⟩
    · have k2 : pev (d + 2) 247 [some (.ref b), some (.int (nI h)), some (.int (-1)), some (.int 0), none, none] [] (am_set B1 (b + 1) (.inl (0, msz 1, upd (R 1) h 0))) = some (some (.int (bz false)), am_set B1 (b + 1) (.inl (0, msz 1, upd (R 1) h 0))) := by
        refine e_247 ?_; simp only [b_247, i_int, i_long, i_null, i_stat, i_iload, i_lload, i_aload, i_istore, i_astore, i_lstore, i_iinc, i_ii, i_idz, i_i, i_ll, i_lsh, i_i2l, i_l2i, i_lcmp, i_dup, i_pop, i_dup2, i_ifeq, i_ifne, i_iflt, i_ifge, i_ifgt, i_ifle, i_cmpeq, i_cmpne, i_cmplt, i_cmpge, i_cmpgt, i_cmple, i_ifnull, i_ifnonnull, i_getf, am_wr, i_putI, i_putZ, i_putR, i_iald, i_iast, i_aald, i_aast, i_alen, i_newi, i_newq, i_new, i_recv, i_iret, i_zret, i_lret, i_aret, i_vret, List.getElem?_cons_zero, List.getElem?_cons_succ, Option.bind_some, Option.toList_some, Option.toList_none, List.cons_append, List.nil_append, x_nI, am_put, am_put2, List.length_cons, List.length_nil, List.set_cons_zero, List.set_cons_succ, Nat.reduceAdd, Nat.reduceLT, Nat.reduceLeDiff, Nat.reduceEqDiff, Nat.add_left_cancel_iff, Nat.add_eq_left, Nat.left_eq_add, Nat.succ_ne_self, Nat.reduceSub, reduceIte, ite_self, eq_self, or_true, true_or, or_false, false_or, or_self, i10, not_true_eq_false, not_false_eq_true, x_call1, x_call2, x_call3, x_call4, x_call5, x_call6, x_sl0, x_sli, x_slr, x_sln, x_sll, am_ent, List.map_nil, List.map_cons, List.sum_nil, List.sum_cons, Value.category, and_true, true_and, and_self, Nat.zero_le, List.replicate_succ, List.replicate_zero, List.reduceReplicate, x_obj_set, x_row_set, x_len_set, x_obx, x_rox, x_rv, show (-1 : Int32) ≤ 0 by decide, show (-1 : Int32) < 0 by decide]
        all_goals rfl
      have e1' : pev (d + 1) 248 [some (.ref b), some (.int 4), none] [] A = some (some (.int (-1)), B1) := e1
      refine e_246 ?_; simp only [b_246, i_int, i_long, i_null, i_stat, i_iload, i_lload, i_aload, i_istore, i_astore, i_lstore, i_iinc, i_ii, i_idz, i_i, i_ll, i_lsh, i_i2l, i_l2i, i_lcmp, i_dup, i_pop, i_dup2, i_ifeq, i_ifne, i_iflt, i_ifge, i_ifgt, i_ifle, i_cmpeq, i_cmpne, i_cmplt, i_cmpge, i_cmpgt, i_cmple, i_ifnull, i_ifnonnull, i_getf, am_wr, i_putI, i_putZ, i_putR, i_iald, i_iast, i_aald, i_aast, i_alen, i_newi, i_newq, i_new, i_recv, i_iret, i_zret, i_lret, i_aret, i_vret, List.getElem?_cons_zero, List.getElem?_cons_succ, Option.bind_some, Option.toList_some, Option.toList_none, List.cons_append, List.nil_append, x_nI, am_put, am_put2, List.length_cons, List.length_nil, List.set_cons_zero, List.set_cons_succ, Nat.reduceAdd, Nat.reduceLT, Nat.reduceLeDiff, Nat.reduceEqDiff, Nat.add_left_cancel_iff, Nat.add_eq_left, Nat.left_eq_add, Nat.succ_ne_self, Nat.reduceSub, reduceIte, ite_self, eq_self, or_true, true_or, or_false, false_or, or_self, i10, not_true_eq_false, not_false_eq_true, x_call1, x_call2, x_call3, x_call4, x_call5, x_call6, x_sl0, x_sli, x_slr, x_sln, x_sll, am_ent, List.map_nil, List.map_cons, List.sum_nil, List.sum_cons, Value.category, and_true, true_and, and_self, Nat.zero_le, List.replicate_succ, List.replicate_zero, List.reduceReplicate, x_obj_set, x_row_set, x_len_set, x_obx, x_rox, x_rv, x_obj hM.1, e1', x_obj m1.1, mo_obj, x_row r1, x_ix hh (show h < 2147483648 by omega), x_own (show 5 ≤ b + 1 by omega)]
      exact k2
    · obtain ⟨x1, x2, x3⟩ := hx t0 h1 h2 h3 h4
      exact absurd x2 (hno x1 _ h2.1)
  · obtain ⟨C, S, ok, dd2, c2, ro2, e2, q1, q2, q3, q4, q5, q6, q7⟩ := n_rdim15 (d := d) (b := b) (D := D) hh hn n 0 (by omega) (dd := (0, fun _ => 0, fun _ => 0)) (o4 := none) (o5 := none) w1 (hD.same rfl rfl) ⟨by rw [setR_self, pk_us]; rfl, by decide, fun k hk => absurd hk (Nat.not_lt_zero k)⟩ ⟨fun k hk => absurd hk (Nat.not_lt_zero k), fun i j hi => absurd hi (Nat.not_lt_zero i)⟩ rfl (by omega)
    refine ⟨C, S, ok, dd2, c2, ro2, ?_, q1, hK1.trans q2, fun i hi => (q3 i hi).trans (setR_ne (by omega)), F1.trans q4, by omega, fun e => ?_, fun t0 h1 h2 h3 h4 => ?_⟩
    · have e1' : pev (d + 1) 248 [some (.ref b), some (.int 4), none] [] A = some (some (.int (nI n)), B1) := e1
      refine e_246 ?_; simp only [b_246, i_int, i_long, i_null, i_stat, i_iload, i_lload, i_aload, i_istore, i_astore, i_lstore, i_iinc, i_ii, i_idz, i_i, i_ll, i_lsh, i_i2l, i_l2i, i_lcmp, i_dup, i_pop, i_dup2, i_ifeq, i_ifne, i_iflt, i_ifge, i_ifgt, i_ifle, i_cmpeq, i_cmpne, i_cmplt, i_cmpge, i_cmpgt, i_cmple, i_ifnull, i_ifnonnull, i_getf, am_wr, i_putI, i_putZ, i_putR, i_iald, i_iast, i_aald, i_aast, i_alen, i_newi, i_newq, i_new, i_recv, i_iret, i_zret, i_lret, i_aret, i_vret, List.getElem?_cons_zero, List.getElem?_cons_succ, Option.bind_some, Option.toList_some, Option.toList_none, List.cons_append, List.nil_append, x_nI, am_put, am_put2, List.length_cons, List.length_nil, List.set_cons_zero, List.set_cons_succ, Nat.reduceAdd, Nat.reduceLT, Nat.reduceLeDiff, Nat.reduceEqDiff, Nat.add_left_cancel_iff, Nat.add_eq_left, Nat.left_eq_add, Nat.succ_ne_self, Nat.reduceSub, reduceIte, ite_self, eq_self, or_true, true_or, or_false, false_or, or_self, i10, not_true_eq_false, not_false_eq_true, x_call1, x_call2, x_call3, x_call4, x_call5, x_call6, x_sl0, x_sli, x_slr, x_sln, x_sll, am_ent, List.map_nil, List.map_cons, List.sum_nil, List.sum_cons, Value.category, and_true, true_and, and_self, Nat.zero_le, List.replicate_succ, List.replicate_zero, List.reduceReplicate, x_obj_set, x_row_set, x_len_set, x_obx, x_rox, x_rv, x_obj hM.1, e1', x_obj m1.1, mo_obj, x_row r1, x_ix hh (show h < 2147483648 by omega), x_own (show 5 ≤ b + 1 by omega)]
      exact e2
    · obtain ⟨z1, z2, z3, z4, z5⟩ := q6 e
      rw [z3]
      exact ⟨z1, z2, z4, z5⟩
    · obtain ⟨x1, x2, x3⟩ := hx t0 h1 h2 h3 h4
      have en : t0.1.1 = n := (nI_eq (by have := h2.1; omega) (by omega)).mp (x2.symm.trans hrd)
      have := q7 t0 (c + 8) x3 en hr0 (by omega) (fun j hj => by omega)
      rw [en]
      exact this
