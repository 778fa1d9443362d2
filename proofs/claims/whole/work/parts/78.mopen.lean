/-! the reference takes a draft over -/
theorem cI_congr {D : List Nat} {s : sg_S} {c : Nat} {c1 c2 : Nat → Nat → Int32} {u : Nat} (h : c1 u = c2 u) : ∀ i, cI D s c c1 i u = cI D s c c2 i u := by
  intro i
  induction i with
  | zero => exact h
  | succ i ih =>
    rw [cI, cI]
    unfold cR1
    rw [ih]
theorem cel_fll {D : List Nat} {t : sg_S} {u : Nat} (hn : nrm t u) : cI D t (cuF t (sg_hs t) t.2.2.1) (cF1 D t (sg_hs t) (fllC t) t.2.2.1) t.2.2.2.2 u = celF D t (sg_hs t) u := by
  unfold celF
  refine cI_congr ?_ _
  have e : (t.2.2.2.1 u).2.2.2.2.2 = fllC t u := by
    unfold fllC
    have h2 := congrArg (fun x : sg_V => x.2.2.2.2.2) hn
    exact h2
  unfold cF1
  simp only [e]
theorem cuF_all (s : sg_S) (g : Nat → Nat → Int32) (c : Nat) : ∀ v, cuF (setAll s g) c v = cuF s c v := by
  intro v
  induction v with
  | zero => rfl
  | succ v ih =>
    rw [cuF, cuF, ih]
    rfl
theorem cuR_all (s : sg_S) (g : Nat → Nat → Int32) (c : Nat) : ∀ v, cuR (setAll s g) c v = cuR s c v := by
  intro v
  induction v with
  | zero => rfl
  | succ v ih =>
    rw [cuR, cuR, ih]
    rfl
theorem cuI_all (s : sg_S) (g : Nat → Nat → Int32) (c : Nat) : ∀ i, cuI (setAll s g) c i = cuI s c i := by
  intro i
  induction i with
  | zero => rfl
  | succ i ih =>
    rw [cuI, cuI, ih, cuR_all]
    rfl
theorem cF1_all (D : List Nat) (s : sg_S) (g : Nat → Nat → Int32) (c : Nat) (ce : Nat → Nat → Int32) (v : Nat) : cF1 D (setAll s g) c ce v = cF1 D s c ce v := by
  funext u
  unfold cF1
  rw [cuF_all]
  rfl
theorem cR1_all (D : List Nat) (s : sg_S) (g : Nat → Nat → Int32) (c : Nat) (ce : Nat → Nat → Int32) (i v : Nat) : cR1 D (setAll s g) c ce i v = cR1 D s c ce i v := by
  funext u
  unfold cR1
  rw [cuR_all]
  rfl
theorem cI_all (D : List Nat) (s : sg_S) (g : Nat → Nat → Int32) (c : Nat) (ce : Nat → Nat → Int32) : ∀ i, cI D (setAll s g) c ce i = cI D s c ce i := by
  intro i
  induction i with
  | zero => rfl
  | succ i ih =>
    rw [cI, cI, ih, cuI_all, cR1_all]
    rfl
/-- the header's fields alone: now, data, drafted stay -/
def sam (f g : mo_F) : Prop := g.1 = f.1 ∧ g.2.1 = f.2.1 ∧ g.2.2.2.1 = f.2.2.2.1
theorem n_op51 {d b h : Nat} {A Hf : am_H} {R : Nat → Nat → Int32} {f : mo_F} {bs D : List Nat} (hh : h < 2) (hW : MW b A R f bs) (hD : MDr R f D) (hl : bs.length = D.length) (hb1 : ∀ i, bs.getD i 0 < 256) (hb2 : ∀ i, D.getD i 0 < 256) (hHf : Hf = am_set A b (.inr (.inr (6, mo_obj b (h, true, f.2.2))))) : ∀ (m k : Nat), k + m = D.length → (∀ i, i < k → bs.getD i 0 = D.getD i 0) → pev d 241 [some (.ref b), some (.int (nI h)), some (.int (nI k))] [] A = some (some (.int (if bs = D then nI D.length else -9)), if bs = D then Hf else A) := by
  obtain ⟨hM, h1, h2, h3⟩ := hW
  obtain ⟨d1, d2, d3⟩ := hD
  have hb := hM.2.1
  intro m
  induction m with
  | zero =>
    intro k hk hp
    have he : bs = D := by
      refine List.ext_getElem hl (fun i i1 i2 => ?_)
      have := hp i (by omega)
      simpa [List.getD, i1, i2] using this
    rw [if_pos he, if_pos he]
    have e1 : nI f.2.2.2.1 ≤ nI k := nI_le (by omega) (by omega)
    refine e_241 ?_; simp only [b_241, i_int, i_long, i_null, i_stat, i_iload, i_lload, i_aload, i_istore, i_astore, i_lstore, i_iinc, i_ii, i_idz, i_i, i_ll, i_lsh, i_i2l, i_l2i, i_lcmp, i_dup, i_pop, i_dup2, i_ifeq, i_ifne, i_iflt, i_ifge, i_ifgt, i_ifle, i_cmpeq, i_cmpne, i_cmplt, i_cmpge, i_cmpgt, i_cmple, i_ifnull, i_ifnonnull, i_getf, am_wr, i_putI, i_putZ, i_putR, i_iald, i_iast, i_aald, i_aast, i_alen, i_newi, i_newq, i_new, i_recv, i_iret, i_zret, i_lret, i_aret, i_vret, List.getElem?_cons_zero, List.getElem?_cons_succ, Option.bind_some, Option.toList_some, Option.toList_none, List.cons_append, List.nil_append, x_nI, am_put, am_put2, List.length_cons, List.length_nil, List.set_cons_zero, List.set_cons_succ, Nat.reduceAdd, Nat.reduceLT, Nat.reduceLeDiff, Nat.reduceEqDiff, Nat.add_left_cancel_iff, Nat.add_eq_left, Nat.left_eq_add, Nat.succ_ne_self, Nat.reduceSub, reduceIte, ite_self, eq_self, or_true, true_or, or_false, false_or, or_self, i10, not_true_eq_false, not_false_eq_true, x_call1, x_call2, x_call3, x_call4, x_call5, x_call6, x_sl0, x_sli, x_slr, x_sln, x_sll, am_ent, List.map_nil, List.map_cons, List.sum_nil, List.sum_cons, Value.category, and_true, true_and, and_self, Nat.zero_le, List.replicate_succ, List.replicate_zero, List.reduceReplicate, x_obj_set, x_row_set, x_len_set, x_obx, x_rox, x_rv, x_obj hM.1, mo_obj, e1, x_own hb, x_set_set]
    rw [hHf, ← d1]
    rfl
  | succ m ih =>
    intro k hk hp
    have hcn : ¬ nI f.2.2.2.1 ≤ nI k := nI_ge (by omega) (by omega)
    have ix := x_ix (show k < 800 by omega) (show k < 2147483648 by omega)
    have a1 := h3 k (by omega)
    have a2 := d3 k (by omega)
    have l1 := hb1 k
    have l2 := hb2 k
    by_cases he : bs.getD k 0 = D.getD k 0
    · have e1 := ih (k + 1) (by omega) (fun i hi => by
        rcases Nat.lt_or_ge i k with h | h
        · exact hp i h
        · rw [show i = k by omega]; exact he)
      refine e_241 ?_; simp only [b_241, i_int, i_long, i_null, i_stat, i_iload, i_lload, i_aload, i_istore, i_astore, i_lstore, i_iinc, i_ii, i_idz, i_i, i_ll, i_lsh, i_i2l, i_l2i, i_lcmp, i_dup, i_pop, i_dup2, i_ifeq, i_ifne, i_iflt, i_ifge, i_ifgt, i_ifle, i_cmpeq, i_cmpne, i_cmplt, i_cmpge, i_cmpgt, i_cmple, i_ifnull, i_ifnonnull, i_getf, am_wr, i_putI, i_putZ, i_putR, i_iald, i_iast, i_aald, i_aast, i_alen, i_newi, i_newq, i_new, i_recv, i_iret, i_zret, i_lret, i_aret, i_vret, List.getElem?_cons_zero, List.getElem?_cons_succ, Option.bind_some, Option.toList_some, Option.toList_none, List.cons_append, List.nil_append, x_nI, am_put, am_put2, List.length_cons, List.length_nil, List.set_cons_zero, List.set_cons_succ, Nat.reduceAdd, Nat.reduceLT, Nat.reduceLeDiff, Nat.reduceEqDiff, Nat.add_left_cancel_iff, Nat.add_eq_left, Nat.left_eq_add, Nat.succ_ne_self, Nat.reduceSub, reduceIte, ite_self, eq_self, or_true, true_or, or_false, false_or, or_self, i10, not_true_eq_false, not_false_eq_true, x_call1, x_call2, x_call3, x_call4, x_call5, x_call6, x_sl0, x_sli, x_slr, x_sln, x_sll, am_ent, List.map_nil, List.map_cons, List.sum_nil, List.sum_cons, Value.category, and_true, true_and, and_self, Nat.zero_le, List.replicate_succ, List.replicate_zero, List.reduceReplicate, x_obj_set, x_row_set, x_len_set, x_obx, x_rox, x_rv, x_obj hM.1, mo_obj, hcn, x_row (show A.2.2 (b + 19) = some (.inl (0, 800, R 19)) from hM.2.2 19 (by decide) (by decide)), x_row (show A.2.2 (b + 20) = some (.inl (0, 800, R 20)) from hM.2.2 20 (by decide) (by decide)), ix, a1, a2, he, nI_1]
      exact e1
    · have hne : ¬ nI (bs.getD k 0) = nI (D.getD k 0) := fun e => he ((nI_eq (by omega) (by omega)).mp e)
      have hb : ¬ bs = D := fun e => he (by rw [e])
      rw [if_neg hb, if_neg hb]
      refine e_241 ?_; simp only [b_241, i_int, i_long, i_null, i_stat, i_iload, i_lload, i_aload, i_istore, i_astore, i_lstore, i_iinc, i_ii, i_idz, i_i, i_ll, i_lsh, i_i2l, i_l2i, i_lcmp, i_dup, i_pop, i_dup2, i_ifeq, i_ifne, i_iflt, i_ifge, i_ifgt, i_ifle, i_cmpeq, i_cmpne, i_cmplt, i_cmpge, i_cmpgt, i_cmple, i_ifnull, i_ifnonnull, i_getf, am_wr, i_putI, i_putZ, i_putR, i_iald, i_iast, i_aald, i_aast, i_alen, i_newi, i_newq, i_new, i_recv, i_iret, i_zret, i_lret, i_aret, i_vret, List.getElem?_cons_zero, List.getElem?_cons_succ, Option.bind_some, Option.toList_some, Option.toList_none, List.cons_append, List.nil_append, x_nI, am_put, am_put2, List.length_cons, List.length_nil, List.set_cons_zero, List.set_cons_succ, Nat.reduceAdd, Nat.reduceLT, Nat.reduceLeDiff, Nat.reduceEqDiff, Nat.add_left_cancel_iff, Nat.add_eq_left, Nat.left_eq_add, Nat.succ_ne_self, Nat.reduceSub, reduceIte, ite_self, eq_self, or_true, true_or, or_false, false_or, or_self, i10, not_true_eq_false, not_false_eq_true, x_call1, x_call2, x_call3, x_call4, x_call5, x_call6, x_sl0, x_sli, x_slr, x_sln, x_sll, am_ent, List.map_nil, List.map_cons, List.sum_nil, List.sum_cons, Value.category, and_true, true_and, and_self, Nat.zero_le, List.replicate_succ, List.replicate_zero, List.reduceReplicate, x_obj_set, x_row_set, x_len_set, x_obx, x_rox, x_rv, x_obj hM.1, mo_obj, hcn, x_row (show A.2.2 (b + 19) = some (.inl (0, 800, R 19)) from hM.2.2 19 (by decide) (by decide)), x_row (show A.2.2 (b + 20) = some (.inl (0, 800, R 20)) from hM.2.2 20 (by decide) (by decide)), ix, a1, a2, hne]
theorem n_open {d b : Nat} {A : am_H} {R : Nat → Nat → Int32} {f : mo_F} {D : List Nat} (T : Option sg_S) (hf : f.1 < 2) (hDb : ∀ i, D.getD i 0 < 256) (hM : MM b A R f) (hD : MDr R f D) (hT : ∀ t0, T = some t0 → WT D t0) : ∃ B S g ok t, pev (d + 6) 240 [some (.ref b), none, none] [] A = some (some (.int (if ok then nI D.length else -9)), B) ∧ MM b B S g ∧ am_fr (at21 b) A B ∧ (∀ s, MS R f.1 s → MS S f.1 s) ∧ (∀ i, 16 ≤ i → i ≠ 19 → S i = R i) ∧ (ok = false → sam f g) ∧ (ok = true → g.1 = 1 - f.1 ∧ g.2.1 = true ∧ g.2.2.2.1 = f.2.2.2.1 ∧ MS S (1 - f.1) t ∧ HP t ∧ sg_tot t t.2.2.2.2 = D.length ∧ (t.2.2.2.2 = 0 ∨ 0 < sg_nr t) ∧ img t = D) ∧ ∀ t0, T = some t0 → t = setAll t0 (celF D t0 (sg_hs t0)) ∧ ok = decide (img t = D) := by
  have hb := hM.2.1
  have hd8 := hD.2.1
  have hh : 1 - f.1 < 2 := by omega
  have e0 : (1 : Int32) - nI f.1 = nI (1 - f.1) := by rw [← nI_one]; exact pk_sub (by omega)
  have h11 : 1 - (1 - f.1) = f.1 := by omega
  obtain ⟨B1, S1, ok1, t1, c1, ro1, e1, m1, k1, f1, g1, x1⟩ := n_header (d := d + 1) T hh hDb hM hD hT
  rw [h11] at k1
  have ixh := x_ix hh (show 1 - f.1 < 2147483648 by omega)
  cases ok1 with
  | false =>
    refine ⟨B1, S1, _, false, s00, ?_, m1, f1, fun s hs => hs.half k1, fun i hi _ => k1.2 i hi, fun _ => ⟨rfl, rfl, rfl⟩, fun e => (by cases e), fun t0 e => absurd (x1 t0 e).1 (by decide)⟩
    refine e_240 ?_; simp only [b_240, i_int, i_long, i_null, i_stat, i_iload, i_lload, i_aload, i_istore, i_astore, i_lstore, i_iinc, i_ii, i_idz, i_i, i_ll, i_lsh, i_i2l, i_l2i, i_lcmp, i_dup, i_pop, i_dup2, i_ifeq, i_ifne, i_iflt, i_ifge, i_ifgt, i_ifle, i_cmpeq, i_cmpne, i_cmplt, i_cmpge, i_cmpgt, i_cmple, i_ifnull, i_ifnonnull, i_getf, am_wr, i_putI, i_putZ, i_putR, i_iald, i_iast, i_aald, i_aast, i_alen, i_newi, i_newq, i_new, i_recv, i_iret, i_zret, i_lret, i_aret, i_vret, List.getElem?_cons_zero, List.getElem?_cons_succ, Option.bind_some, Option.toList_some, Option.toList_none, List.cons_append, List.nil_append, x_nI, am_put, am_put2, List.length_cons, List.length_nil, List.set_cons_zero, List.set_cons_succ, Nat.reduceAdd, Nat.reduceLT, Nat.reduceLeDiff, Nat.reduceEqDiff, Nat.add_left_cancel_iff, Nat.add_eq_left, Nat.left_eq_add, Nat.succ_ne_self, Nat.reduceSub, reduceIte, ite_self, eq_self, or_true, true_or, or_false, false_or, or_self, i10, not_true_eq_false, not_false_eq_true, x_call1, x_call2, x_call3, x_call4, x_call5, x_call6, x_sl0, x_sli, x_slr, x_sln, x_sll, am_ent, List.map_nil, List.map_cons, List.sum_nil, List.sum_cons, Value.category, and_true, true_and, and_self, Nat.zero_le, List.replicate_succ, List.replicate_zero, List.reduceReplicate, x_obj_set, x_row_set, x_len_set, x_obx, x_rox, x_rv, x_obj hM.1, mo_obj, e0, e1, bz_false]
    all_goals rfl
  | true =>
    obtain ⟨y1, y2, y3, y4, y5, y6⟩ := g1 rfl
    subst y4
    have hr := y1.1.2.2.2.2
    have hS1 := y1.ms y3 hr
    have hD1 : MDr S1 f D := hD.same (k1.2 20 (by decide)) rfl
    have et := n_total (d := d + 1) (r := t1.2.2.2.2) m1 hS1
    have ett : sg_tot (setAll (setRec t1 t1.2.2.2.2) (fun v k => S1 15 (800 * (5 * (1 - f.1) + v) + k))) t1.2.2.2.2 = sg_tot t1 t1.2.2.2.2 := rfl
    rw [ett] at et
    have b1 := hS1.hs_le
    have b1' : sg_hs t1 ≤ 1000 := b1
    have b2 := pb_le y1.1 false (Nat.le_refl t1.2.2.1)
    have b3 := rs_le y1.1
    rw [pb_f] at b2
    have b4 : t1.2.2.2.2 * sg_rs t1 ≤ 2147483648 * 1280 := Nat.mul_le_mul (by omega) b3
    have etd : sg_tot t1 t1.2.2.2.2 = sg_hs t1 + sg_pf t1 t1.2.2.1 + t1.2.2.2.2 * sg_rs t1 := rfl
    have ec : (lN (sg_tot t1 t1.2.2.2.2) = lN D.length) = (sg_tot t1 t1.2.2.2.2 = D.length) := propext (pk_lEQ (by omega) (by omega))
    have r14 : B1.2.2 (b + 14) = some (.inl (0, 2, S1 14)) := m1.2.2 14 (by decide) (by decide)
    have hdr : f.2.2.2.1 = D.length := hD.1
    by_cases ct : sg_tot t1 t1.2.2.2.2 = D.length
    · obtain ⟨B2, S2, c2, e2, m2, s2, k2, kh2, f2⟩ := n_allCells (d := d + 2) (h := 1 - f.1) (c := c1) (s := setAll (setRec t1 t1.2.2.2.2) (fun v k => S1 15 (800 * (5 * (1 - f.1) + v) + k))) y5 ct m1 hD1 hS1
      rw [h11] at kh2
      -- the store read
      obtain ⟨tt, htt, hHP, htot, hrec, hx⟩ : ∃ tt, MS S2 (1 - f.1) tt ∧ HP tt ∧ sg_tot tt tt.2.2.2.2 = D.length ∧ (tt.2.2.2.2 = 0 ∨ 0 < sg_nr tt) ∧ ∀ t0, T = some t0 → tt = setAll t0 (celF D t0 (sg_hs t0)) := by
        cases T with
        | none => exact ⟨_, s2, HP_all (HP_all (HP_rec y2)), ct, y6, fun t0 e => (by cases e)⟩
        | some t0 =>
          have w := hT t0 rfl
          have e9 := (x1 t0 rfl).2
          subst e9
          refine ⟨setAll t1 (celF D t1 (sg_hs t1)), ?_, HP_all y2, ct, y6, fun t2 e => by cases e; rfl⟩
          rw [cI_all, cF1_all, cuF_all] at s2
          have s2' : MS S2 (1 - f.1) (setAll t1 (cI D t1 (cuF t1 (sg_hs t1) t1.2.2.1) (cF1 D t1 (sg_hs t1) (fllC t1) t1.2.2.1) t1.2.2.2.2)) := s2
          exact s2'.cells (fun v hv k _ => congrFun (cel_fll (w.2.2.1 v hv)) k)
      obtain ⟨B3, S3, e3, w3, q3⟩ := n_writeImage (d := d) (h := 1 - f.1) hHP.1 (by omega) m2 htt
      have hlen : (img tt).length = D.length := by rw [img_len]; exact htot
      have hD3 : MDr S3 (sl (sat f c2 false) (img tt).length) D := (hD1.same (k2 20 (by decide)) rfl).same (q3.1 20 (by decide)) rfl
      have e4 := n_op51 (d := d + 6) hh w3 hD3 hlen (byt_all (img_by tt)) hDb rfl D.length 0 (by omega) (fun i hi => absurd hi (Nat.not_lt_zero i))
      have kk : ∀ s, MS R f.1 s → MS S3 f.1 s := fun s hs => ((hs.half k1).half kh2).to q3
      have k16 : ∀ i, 16 ≤ i → i ≠ 19 → S3 i = R i := fun i hi h19 => ((q3.1 i h19).trans (k2 i (by omega))).trans (k1.2 i hi)
      have fr3 : am_fr (at21 b) A B3 := (f1.trans f2).trans q3.2
      have pre : ∀ Y, pev (d + 6) 241 [some (.ref b), some (.int (nI (1 - f.1))), some (.int (nI 0))] [] B3 = some Y → pev (d + 6) 240 [some (.ref b), none, none] [] A = some Y := fun Y hY => by
        refine e_240 ?_; simp only [b_240, i_int, i_long, i_null, i_stat, i_iload, i_lload, i_aload, i_istore, i_astore, i_lstore, i_iinc, i_ii, i_idz, i_i, i_ll, i_lsh, i_i2l, i_l2i, i_lcmp, i_dup, i_pop, i_dup2, i_ifeq, i_ifne, i_iflt, i_ifge, i_ifgt, i_ifle, i_cmpeq, i_cmpne, i_cmplt, i_cmpge, i_cmpgt, i_cmple, i_ifnull, i_ifnonnull, i_getf, am_wr, i_putI, i_putZ, i_putR, i_iald, i_iast, i_aald, i_aast, i_alen, i_newi, i_newq, i_new, i_recv, i_iret, i_zret, i_lret, i_aret, i_vret, List.getElem?_cons_zero, List.getElem?_cons_succ, Option.bind_some, Option.toList_some, Option.toList_none, List.cons_append, List.nil_append, x_nI, am_put, am_put2, List.length_cons, List.length_nil, List.set_cons_zero, List.set_cons_succ, Nat.reduceAdd, Nat.reduceLT, Nat.reduceLeDiff, Nat.reduceEqDiff, Nat.add_left_cancel_iff, Nat.add_eq_left, Nat.left_eq_add, Nat.succ_ne_self, Nat.reduceSub, reduceIte, ite_self, eq_self, or_true, true_or, or_false, false_or, or_self, i10, not_true_eq_false, not_false_eq_true, x_call1, x_call2, x_call3, x_call4, x_call5, x_call6, x_sl0, x_sli, x_slr, x_sln, x_sll, am_ent, List.map_nil, List.map_cons, List.sum_nil, List.sum_cons, Value.category, and_true, true_and, and_self, Nat.zero_le, List.replicate_succ, List.replicate_zero, List.reduceReplicate, x_obj_set, x_row_set, x_len_set, x_obx, x_rox, x_rv, x_obj hM.1, mo_obj, e0, e1, bz_true, x_obj m1.1, sat, x_row r14, ixh, y3, nI_l (show t1.2.2.2.2 < 2 ^ 31 by omega), et, hdr, nI_l (show D.length < 2 ^ 31 by omega), lg_cmp_eq, ec, ct, e2, x_obj m2.1, e3]
        exact hY
      by_cases ci : img tt = D
      · rw [if_pos ci, if_pos ci] at e4
        have w4 := w3.1.obj (1 - f.1, true, (sl (sat f c2 false) (img tt).length).2.2)
        refine ⟨_, S3, _, true, tt, pre _ e4, w4, fr3.trans ((am_fr.refl B3).set ⟨by omega, by omega⟩), kk, k16, fun e => (by cases e), fun _ => ⟨rfl, rfl, rfl, htt.to q3, hHP, htot, hrec, ci⟩, fun t0 e => ⟨hx t0 e, by simp [ci]⟩⟩
      · rw [if_neg ci, if_neg ci] at e4
        exact ⟨B3, S3, _, false, tt, pre _ e4, w3.1, fr3, kk, k16, fun _ => ⟨rfl, rfl, rfl⟩, fun e => (by cases e), fun t0 e => ⟨hx t0 e, by simp [ci]⟩⟩
    · refine ⟨B1, S1, _, false, t1, ?_, m1, f1, fun s hs => hs.half k1, fun i hi _ => k1.2 i hi, fun _ => ⟨rfl, rfl, rfl⟩, fun e => (by cases e), fun t0 e => ?_⟩
      · refine e_240 ?_; simp only [b_240, i_int, i_long, i_null, i_stat, i_iload, i_lload, i_aload, i_istore, i_astore, i_lstore, i_iinc, i_ii, i_idz, i_i, i_ll, i_lsh, i_i2l, i_l2i, i_lcmp, i_dup, i_pop, i_dup2, i_ifeq, i_ifne, i_iflt, i_ifge, i_ifgt, i_ifle, i_cmpeq, i_cmpne, i_cmplt, i_cmpge, i_cmpgt, i_cmple, i_ifnull, i_ifnonnull, i_getf, am_wr, i_putI, i_putZ, i_putR, i_iald, i_iast, i_aald, i_aast, i_alen, i_newi, i_newq, i_new, i_recv, i_iret, i_zret, i_lret, i_aret, i_vret, List.getElem?_cons_zero, List.getElem?_cons_succ, Option.bind_some, Option.toList_some, Option.toList_none, List.cons_append, List.nil_append, x_nI, am_put, am_put2, List.length_cons, List.length_nil, List.set_cons_zero, List.set_cons_succ, Nat.reduceAdd, Nat.reduceLT, Nat.reduceLeDiff, Nat.reduceEqDiff, Nat.add_left_cancel_iff, Nat.add_eq_left, Nat.left_eq_add, Nat.succ_ne_self, Nat.reduceSub, reduceIte, ite_self, eq_self, or_true, true_or, or_false, false_or, or_self, i10, not_true_eq_false, not_false_eq_true, x_call1, x_call2, x_call3, x_call4, x_call5, x_call6, x_sl0, x_sli, x_slr, x_sln, x_sll, am_ent, List.map_nil, List.map_cons, List.sum_nil, List.sum_cons, Value.category, and_true, true_and, and_self, Nat.zero_le, List.replicate_succ, List.replicate_zero, List.reduceReplicate, x_obj_set, x_row_set, x_len_set, x_obx, x_rox, x_rv, x_obj hM.1, mo_obj, e0, e1, bz_true, x_obj m1.1, sat, x_row r14, ixh, y3, nI_l (show t1.2.2.2.2 < 2 ^ 31 by omega), et, hdr, nI_l (show D.length < 2 ^ 31 by omega), lg_cmp_eq, ec, ct]
        all_goals rfl
      · have e9 := (x1 t0 e).2
        rw [e9] at ct
        exact absurd (hT t0 e).2.2.2.2.1 ct
theorem HP_Gd {t : sg_S} (h : HP t) (ht : sg_tot t t.2.2.2.2 ≤ 800) : Gd t false := ⟨h.1, h.2.1, h.2.2.1, fun _ => ht⟩
theorem open_ok : OpenOK := by
  intro A b b' df s ρ s' ρ' q D c bs c2 R f hC hR hG hD
  have hDb := byt_all hD
  have hf := hR.2.1.2.1
  have hd8 : D.length ≤ 800 := hR.2.2.2.1.2.1
  by_cases hw : ∃ t0, WT D t0
  · obtain ⟨t0, hw⟩ := hw
    obtain ⟨B, ok, t, ρt, c3, bs2, c4, e1, fB, hno, hyes, hx⟩ := c_open (d := 1) (some t0) hC (fun t1 e => by cases e; exact hw)
    have hRB := hR.kept fB
    obtain ⟨C, S, g, ok2, t2, e2, mC, fC, kS, k16, hno2, hyes2, hx2⟩ := n_open (d := 2) (some t0) hf hDb hRB.1 hRB.2.2.2.1 (fun t1 e => by cases e; exact hw)
    obtain ⟨a1, a2⟩ := hx t0 rfl
    obtain ⟨a3, a4⟩ := hx2 t0 rfl
    have ett : t2 = t := a3.trans a1.symm
    subst ett
    have eok : ok2 = ok := a4.trans a2.symm
    subst eok
    have sel : MSel S q := hR.2.2.1.same (fun i i1 i2 => k16 i i1 (by omega))
    cases ok2 with
    | false =>
      obtain ⟨s2', ρ2', cB⟩ := hno rfl
      obtain ⟨h1, h2, h3⟩ := hno2 rfl
      exact ⟨B, C, _, b, b', df, s, ρ, s2', ρ2', c3, bs2, c4, S, g, e1, fB, e2, fC, cB, ⟨mC, by rw [h1]; exact kS s hR.2.1, sel, hR.2.2.2.1.same (k16 20 (by decide) (by decide)) h3, by rw [h2]; exact hR.2.2.2.2⟩, hG⟩
    | true =>
      obtain ⟨cB, -⟩ := hyes rfl
      obtain ⟨h1, h2, h3, h4, h5, h6, h7, h8⟩ := hyes2 rfl
      exact ⟨B, C, _, b', b, false, t2, ρt, s, ρ, c3, bs2, c4, S, g, e1, fB, e2, fC, cB, ⟨mC, by rw [h1]; exact h4, sel, hR.2.2.2.1.same (k16 20 (by decide) (by decide)) h3, by rw [h2]; rfl⟩, HP_Gd h5 (by omega)⟩
  · obtain ⟨B, ok, t, ρt, c3, bs2, c4, e1, fB, hno, hyes, -⟩ := c_open (d := 1) none hC (fun t1 e => (by cases e))
    have hRB := hR.kept fB
    obtain ⟨C, S, g, ok2, t2, e2, mC, fC, kS, k16, hno2, hyes2, -⟩ := n_open (d := 2) none hf hDb hRB.1 hRB.2.2.2.1 (fun t1 e => (by cases e))
    have k1 : ok = false := by
      cases ok with
      | false => rfl
      | true =>
        obtain ⟨cB, y1, y2, y3, y4⟩ := hyes rfl
        exact absurd ⟨_, WT_of cB.2.2.2.1.1 y1 y2 y3 y4⟩ hw
    have k2 : ok2 = false := by
      cases ok2 with
      | false => rfl
      | true =>
        obtain ⟨h1, h2, h3, h4, h5, h6, h7, h8⟩ := hyes2 rfl
        exact absurd ⟨_, WT_of h4.1 h5 h6 h7 h8⟩ hw
    subst k1
    subst k2
    have sel : MSel S q := hR.2.2.1.same (fun i i1 i2 => k16 i i1 (by omega))
    obtain ⟨s2', ρ2', cB⟩ := hno rfl
    obtain ⟨h1, h2, h3⟩ := hno2 rfl
    exact ⟨B, C, _, b, b', df, s, ρ, s2', ρ2', c3, bs2, c4, S, g, e1, fB, e2, fC, cB, ⟨mC, by rw [h1]; exact kS s hR.2.1, sel, hR.2.2.2.1.same (k16 20 (by decide) (by decide)) h3, by rw [h2]; exact hR.2.2.2.2⟩, hG⟩
