/-! the reference reads cells -/
theorem cuF_eq {s : sg_S} (c : Nat) (h4 : c % 4 = 0) : ∀ v, cuF s c v = c + sg_pf s v := by
  intro v
  induction v with
  | zero => rfl
  | succ v ih =>
    have hm : sg_pf s v % 4 = 0 := sum_mod (fun j _ => by
      split
      · rfl
      · exact pad4_mod _)
    have e : sg_pf s (v + 1) = sg_pf s v + (if sg_l0 s v = 0 then 0 else sg_ps s v) := rfl
    rw [cuF, e, ih]
    split
    · rfl
    · unfold sg_ps pad4
      omega
theorem rz_mod {s : sg_S} (h : 1 < sg_nr s) (v : Nat) : sg_sum (rz s) v % 4 = 0 := sum_mod (fun j _ => by
  unfold rz
  by_cases c0 : sg_l0 s j = 0
  · rw [if_pos c0, if_pos h]
    exact pad4_mod _
  · rw [if_neg c0])
theorem cuR_eq {s : sg_S} (c : Nat) (h4 : 1 < sg_nr s → c % 4 = 0) : ∀ v, cuR s c v = c + sg_sum (rz s) v := by
  intro v
  induction v with
  | zero => rfl
  | succ v ih =>
    rw [cuR, sg_sum, ih, rz]
    by_cases c0 : sg_l0 s v = 0
    · rw [if_pos c0, if_pos c0]
      by_cases cp : 1 < sg_nr s
      · rw [if_pos cp, if_pos cp]
        have h1 := h4 cp
        have h2 := rz_mod cp v
        unfold sg_ps
        rw [sg_cn_rec c0]
        unfold pad4
        omega
      · rw [if_neg cp, if_neg cp]
        omega
    · rw [if_neg c0, if_neg c0]
      omega
theorem rs_mod {s : sg_S} (h : 1 < sg_nr s) : sg_rs s % 4 = 0 := by
  rw [← rz_sum]
  exact rz_mod h _
theorem cuI_eq {s : sg_S} (c : Nat) (h4 : 1 < sg_nr s → c % 4 = 0) : ∀ i, cuI s c i = c + i * sg_rs s := by
  intro i
  induction i with
  | zero => rw [cuI]; omega
  | succ i ih =>
    have hm : 1 < sg_nr s → (i * sg_rs s) % 4 = 0 := fun h => by
      have := rs_mod h
      rw [Nat.mul_mod, this, Nat.mul_zero]
    rw [cuI, ih, cuR_eq _ (fun h => by have := h4 h; have := hm h; omega), rz_sum, Nat.succ_mul i]
    omega
theorem n_rcl18 {d b h v r n c t : Nat} {f : mo_F} {D : List Nat} {pd : Bool} {s : sg_S} {ce : Nat → Int32} (hv : v < s.2.2.1) (ht : t = (s.2.2.2.1 v).2.1) (hr : r * n + n ≤ 800) (hcn : c + n * wd t ≤ D.length) (hd8 : D.length ≤ 800) : ∀ (m k : Nat), k + m = n → ∀ {A : am_H} {R : Nat → Nat → Int32}, MM b A R (sat f (c + k * wd t) false) → MDr R f D → MS R h (setCe s v (rdc D c t r n ce k)) → ∃ B S, MM b B S (sat f (c + n * wd t) false) ∧ MS S h (setCe s v (rdc D c t r n ce n)) ∧ (∀ i, i ≠ 15 → S i = R i) ∧ KH (1 - h) R S ∧ am_fr (at21 b) A B ∧ ∀ Y, pev (d + 2) 261 [some (.ref b), some (.int (nI h)), some (.int (nI v)), some (.int (nI r)), some (.int (bz pd)), some (.int (nI (5 * h + v))), some (.int (nI n)), some (.int (nI n))] [] B = some Y → pev (d + 2) 261 [some (.ref b), some (.int (nI h)), some (.int (nI v)), some (.int (nI r)), some (.int (bz pd)), some (.int (nI (5 * h + v))), some (.int (nI n)), some (.int (nI k))] [] A = some Y := by
  intro m
  induction m with
  | zero =>
    intro k hk A R hM hD hS
    have e : k = n := by omega
    subst e
    exact ⟨A, R, hM, hS, fun _ _ => rfl, KH.refl _ _, am_fr.refl A, fun Y hY => hY⟩
  | succ m ih =>
    intro k hk A R hM hD hS
    have hb := hM.2.1
    have hh := hS.2.1
    have h5 : s.2.2.1 ≤ 5 := hS.1.2.2.1
    obtain ⟨⟨t1, t4⟩, -⟩ := hS.1.2.2.2.1 v hv
    rw [(setCe_var s v _ v).2.1, ← ht] at t1 t4
    have w2 := (hS.2.2.2.2.2 v hv).2.1
    rw [(setCe_var s v _ v).2.1, ← ht] at w2
    have hcn2 : ¬ nI n ≤ nI k := nI_ge (by omega) (by omega)
    have hkw : (k + 1) * wd t ≤ n * wd t := Nat.mul_le_mul_right _ (by omega)
    rw [Nat.succ_mul] at hkw
    obtain ⟨B1, e1, m1, f1⟩ := n_readOf (d := d) t1 t4 (by omega) hM hD
    rw [rn_of (by omega)] at m1
    rw [rx_of (by omega)] at e1
    have hp : r * n + k < 800 := by omega
    have w1 := m1.set (i := 15) (by decide) (by decide) (upd (R 15) (800 * (5 * h + v) + (r * n + k)) (vof t (rd D (c + k * wd t) (wd t))))
    have s1 := MS_cell (x := vof t (rd D (c + k * wd t) (wd t))) hS hv hp
    rw [setCe_cells, setCe_twice, rdc_step] at s1
    rw [show c + k * wd t + wd t = c + (k + 1) * wd t by rw [Nat.succ_mul]; omega] at w1
    have kh1 : KH (1 - h) R (setR R 15 (upd (R 15) (800 * (5 * h + v) + (r * n + k)) (vof t (rd D (c + k * wd t) (wd t))))) := (KH.refl (1 - h) R).upd (i := 15) _ (by decide) (by decide) (by show _ < (1 - h) * 4000 ∨ (1 - h) * 4000 + 4000 ≤ _; omega)
    obtain ⟨C, S, q1, q2, q3, q4, q5, q6⟩ := ih (k + 1) (by omega) w1 (hD.same rfl rfl) s1
    refine ⟨C, S, q1, q2, fun i hi => (q3 i hi).trans (setR_ne hi), kh1.trans q4, (f1.trans ((am_fr.refl B1).set ⟨by omega, by omega⟩)).trans q5, fun Y hY => ?_⟩
    have e3 := q6 Y hY
    have r6 : A.2.2 (b + 6) = some (.inl (0, 10, R 6)) := hM.2.2 6 (by decide) (by decide)
    have r15 : B1.2.2 (b + 15) = some (.inl (0, 8000, R 15)) := m1.2.2 15 (by decide) (by decide)
    have ei : (800 : Int32) * nI (5 * h + v) + nI r * nI n + nI k = nI (800 * (5 * h + v) + (r * n + k)) := by
      rw [show (800 : Int32) = nI 800 from rfl, pk_mul, pk_mul, nI_add, nI_add]
      congr 1
      omega
    refine e_261 ?_; simp only [b_261, i_int, i_long, i_null, i_stat, i_iload, i_lload, i_aload, i_istore, i_astore, i_lstore, i_iinc, i_ii, i_idz, i_i, i_ll, i_lsh, i_i2l, i_l2i, i_lcmp, i_dup, i_pop, i_dup2, i_ifeq, i_ifne, i_iflt, i_ifge, i_ifgt, i_ifle, i_cmpeq, i_cmpne, i_cmplt, i_cmpge, i_cmpgt, i_cmple, i_ifnull, i_ifnonnull, i_getf, am_wr, i_putI, i_putZ, i_putR, i_iald, i_iast, i_aald, i_aast, i_alen, i_newi, i_newq, i_new, i_recv, i_iret, i_zret, i_lret, i_aret, i_vret, List.getElem?_cons_zero, List.getElem?_cons_succ, Option.bind_some, Option.toList_some, Option.toList_none, List.cons_append, List.nil_append, x_nI, am_put, am_put2, List.length_cons, List.length_nil, List.set_cons_zero, List.set_cons_succ, Nat.reduceAdd, Nat.reduceLT, Nat.reduceLeDiff, Nat.reduceEqDiff, Nat.add_left_cancel_iff, Nat.add_eq_left, Nat.left_eq_add, Nat.succ_ne_self, Nat.reduceSub, reduceIte, ite_self, eq_self, or_true, true_or, or_false, false_or, or_self, i10, not_true_eq_false, not_false_eq_true, x_call1, x_call2, x_call3, x_call4, x_call5, x_call6, x_sl0, x_sli, x_slr, x_sln, x_sll, am_ent, List.map_nil, List.map_cons, List.sum_nil, List.sum_cons, Value.category, and_true, true_and, and_self, Nat.zero_le, List.replicate_succ, List.replicate_zero, List.reduceReplicate, x_obj_set, x_row_set, x_len_set, x_obx, x_rox, x_rv, hcn2, x_obj hM.1, mo_obj, sat, ei, x_row r6, x_ix (show 5 * h + v < 10 by omega) (show 5 * h + v < 2147483648 by omega), w2, e1, x_row r15, x_ix (show 800 * (5 * h + v) + (r * n + k) < 8000 by omega) (show 800 * (5 * h + v) + (r * n + k) < 2147483648 by omega), x_own (show 5 ≤ b + 15 by omega), nI_1]
    exact e3
theorem n_rcl {d b h v r c : Nat} {A : am_H} {R : Nat → Nat → Int32} {f : mo_F} {D : List Nat} {pd : Bool} {s : sg_S} (hv : v < s.2.2.1) (hr : r * sg_cn s v + sg_cn s v ≤ 800) (hcn : c + sg_cn s v * wd (s.2.2.2.1 v).2.1 ≤ D.length) (hM : MM b A R (sat f c false)) (hD : MDr R f D) (hS : MS R h s) : ∃ B S, pev (d + 2) 260 [some (.ref b), some (.int (nI h)), some (.int (nI v)), some (.int (nI r)), some (.int (bz pd)), none, none, none] [] A = some (none, B) ∧ MM b B S (sat f (if pd then pad4 (c + sg_cn s v * wd (s.2.2.2.1 v).2.1) else c + sg_cn s v * wd (s.2.2.2.1 v).2.1) false) ∧ MS S h (setCe s v (rdc D c (s.2.2.2.1 v).2.1 r (sg_cn s v) (s.2.2.2.1 v).2.2.2.2.2 (sg_cn s v))) ∧ (∀ i, i ≠ 15 → S i = R i) ∧ KH (1 - h) R S ∧ am_fr (at21 b) A B := by
  have hb := hM.2.1
  have hd8 := hD.2.1
  have hh := hS.2.1
  have h5 := hS.1.2.2.1
  have e0 : rdc D c (s.2.2.2.1 v).2.1 r (sg_cn s v) (s.2.2.2.1 v).2.2.2.2.2 0 = (s.2.2.2.1 v).2.2.2.2.2 := by
    funext k
    unfold rdc
    rw [if_neg (by omega)]
  obtain ⟨B, S, q1, q2, q3, q4, q5, q6⟩ := n_rcl18 (d := d) (b := b) (h := h) (f := f) (D := D) (pd := pd) (c := c) (r := r) (n := sg_cn s v) (t := (s.2.2.2.1 v).2.1) (ce := (s.2.2.2.1 v).2.2.2.2.2) hv rfl hr hcn hd8 (sg_cn s v) 0 (by omega) (by rw [Nat.zero_mul]; exact hM) hD (by rw [e0, setCe_self]; exact hS)
  have hcnn : sg_cn s v ≤ 800 := by omega
  have en := n_cells (d := d) hM hS hv
  have e5 : (5 : Int32) * nI h + nI v = nI (5 * h + v) := by rw [show (5 : Int32) = nI 5 from rfl, pk_mul, nI_add]
  have hle : nI (sg_cn s v) ≤ nI (sg_cn s v) := nI_le (Nat.le_refl _) (by omega)
  have hbB := q1.2.1
  refine ⟨_, S, ?_, q1.obj _, q2, q3, q4, q5.trans ((am_fr.refl B).set ⟨by omega, by omega⟩)⟩
  have fin := q6 (none, am_set B b (.inr (.inr (6, mo_obj b (sat f (if pd then pad4 (c + sg_cn s v * wd (s.2.2.2.1 v).2.1) else c + sg_cn s v * wd (s.2.2.2.1 v).2.1) false))))) (by
    cases pd with
    | true =>
      refine e_261 ?_; simp only [b_261, i_int, i_long, i_null, i_stat, i_iload, i_lload, i_aload, i_istore, i_astore, i_lstore, i_iinc, i_ii, i_idz, i_i, i_ll, i_lsh, i_i2l, i_l2i, i_lcmp, i_dup, i_pop, i_dup2, i_ifeq, i_ifne, i_iflt, i_ifge, i_ifgt, i_ifle, i_cmpeq, i_cmpne, i_cmplt, i_cmpge, i_cmpgt, i_cmple, i_ifnull, i_ifnonnull, i_getf, am_wr, i_putI, i_putZ, i_putR, i_iald, i_iast, i_aald, i_aast, i_alen, i_newi, i_newq, i_new, i_recv, i_iret, i_zret, i_lret, i_aret, i_vret, List.getElem?_cons_zero, List.getElem?_cons_succ, Option.bind_some, Option.toList_some, Option.toList_none, List.cons_append, List.nil_append, x_nI, am_put, am_put2, List.length_cons, List.length_nil, List.set_cons_zero, List.set_cons_succ, Nat.reduceAdd, Nat.reduceLT, Nat.reduceLeDiff, Nat.reduceEqDiff, Nat.add_left_cancel_iff, Nat.add_eq_left, Nat.left_eq_add, Nat.succ_ne_self, Nat.reduceSub, reduceIte, ite_self, eq_self, or_true, true_or, or_false, false_or, or_self, i10, not_true_eq_false, not_false_eq_true, x_call1, x_call2, x_call3, x_call4, x_call5, x_call6, x_sl0, x_sli, x_slr, x_sln, x_sll, am_ent, List.map_nil, List.map_cons, List.sum_nil, List.sum_cons, Value.category, and_true, true_and, and_self, Nat.zero_le, List.replicate_succ, List.replicate_zero, List.reduceReplicate, x_obj_set, x_row_set, x_len_set, x_obx, x_rox, x_rv, hle, bz_true, x_obj q1.1, mo_obj, sat, show ((4 : Int32) = 0) = False by decide, pad_code (show c + sg_cn s v * wd (s.2.2.2.1 v).2.1 < 1000000 by omega), x_own hbB]
      all_goals rfl
    | false =>
      refine e_261 ?_; simp only [b_261, i_int, i_long, i_null, i_stat, i_iload, i_lload, i_aload, i_istore, i_astore, i_lstore, i_iinc, i_ii, i_idz, i_i, i_ll, i_lsh, i_i2l, i_l2i, i_lcmp, i_dup, i_pop, i_dup2, i_ifeq, i_ifne, i_iflt, i_ifge, i_ifgt, i_ifle, i_cmpeq, i_cmpne, i_cmplt, i_cmpge, i_cmpgt, i_cmple, i_ifnull, i_ifnonnull, i_getf, am_wr, i_putI, i_putZ, i_putR, i_iald, i_iast, i_aald, i_aast, i_alen, i_newi, i_newq, i_new, i_recv, i_iret, i_zret, i_lret, i_aret, i_vret, List.getElem?_cons_zero, List.getElem?_cons_succ, Option.bind_some, Option.toList_some, Option.toList_none, List.cons_append, List.nil_append, x_nI, am_put, am_put2, List.length_cons, List.length_nil, List.set_cons_zero, List.set_cons_succ, Nat.reduceAdd, Nat.reduceLT, Nat.reduceLeDiff, Nat.reduceEqDiff, Nat.add_left_cancel_iff, Nat.add_eq_left, Nat.left_eq_add, Nat.succ_ne_self, Nat.reduceSub, reduceIte, ite_self, eq_self, or_true, true_or, or_false, false_or, or_self, i10, not_true_eq_false, not_false_eq_true, x_call1, x_call2, x_call3, x_call4, x_call5, x_call6, x_sl0, x_sli, x_slr, x_sln, x_sll, am_ent, List.map_nil, List.map_cons, List.sum_nil, List.sum_cons, Value.category, and_true, true_and, and_self, Nat.zero_le, List.replicate_succ, List.replicate_zero, List.reduceReplicate, x_obj_set, x_row_set, x_len_set, x_obx, x_rox, x_rv, hle, bz_false, x_obj q1.1, mo_obj, sat, x_own hbB]
      rfl)
  refine e_260 ?_; simp only [b_260, i_int, i_long, i_null, i_stat, i_iload, i_lload, i_aload, i_istore, i_astore, i_lstore, i_iinc, i_ii, i_idz, i_i, i_ll, i_lsh, i_i2l, i_l2i, i_lcmp, i_dup, i_pop, i_dup2, i_ifeq, i_ifne, i_iflt, i_ifge, i_ifgt, i_ifle, i_cmpeq, i_cmpne, i_cmplt, i_cmpge, i_cmpgt, i_cmple, i_ifnull, i_ifnonnull, i_getf, am_wr, i_putI, i_putZ, i_putR, i_iald, i_iast, i_aald, i_aast, i_alen, i_newi, i_newq, i_new, i_recv, i_iret, i_zret, i_lret, i_aret, i_vret, List.getElem?_cons_zero, List.getElem?_cons_succ, Option.bind_some, Option.toList_some, Option.toList_none, List.cons_append, List.nil_append, x_nI, am_put, am_put2, List.length_cons, List.length_nil, List.set_cons_zero, List.set_cons_succ, Nat.reduceAdd, Nat.reduceLT, Nat.reduceLeDiff, Nat.reduceEqDiff, Nat.add_left_cancel_iff, Nat.add_eq_left, Nat.left_eq_add, Nat.succ_ne_self, Nat.reduceSub, reduceIte, ite_self, eq_self, or_true, true_or, or_false, false_or, or_self, i10, not_true_eq_false, not_false_eq_true, x_call1, x_call2, x_call3, x_call4, x_call5, x_call6, x_sl0, x_sli, x_slr, x_sln, x_sll, am_ent, List.map_nil, List.map_cons, List.sum_nil, List.sum_cons, Value.category, and_true, true_and, and_self, Nat.zero_le, List.replicate_succ, List.replicate_zero, List.reduceReplicate, x_obj_set, x_row_set, x_len_set, x_obx, x_rox, x_rv, e5, x_obj hM.1, en]
  exact fin
/-- a store in its rows with other cells behind the variables -/
theorem MS.cells {R : Nat → Nat → Int32} {h : Nat} {s : sg_S} {c1 c2 : Nat → Nat → Int32} (hS : MS R h (setAll s c1)) (he : ∀ v, v < s.2.2.1 → ∀ k, k < 800 → c1 v k = c2 v k) : MS R h (setAll s c2) := by
  obtain ⟨g1, g2, g3, g4, g5, g6⟩ := hS
  refine ⟨g1, g2, g3, g4, g5, fun v hv => ?_⟩
  obtain ⟨w1, w2, w3, w4, w5, w6⟩ := g6 v hv
  exact ⟨w1, w2, w3, w4, w5, fun k hk => (w6 k hk).trans (he v hv k hk)⟩
/-- a store whose cells are not written yet -/
def fllC (s : sg_S) : Nat → Nat → Int32 := fun u _ => am_s1 (s.2.2.2.1 u).2.1
def cM (D : List Nat) (s : sg_S) (c : Nat) (ce : Nat → Nat → Int32) (v : Nat) : Nat → Nat → Int32 := fun u => if u < v then cF1 D s c (fllC s) v u else ce u
theorem n_ac2 {d b h c : Nat} {f : mo_F} {D : List Nat} {s : sg_S} {ce : Nat → Nat → Int32} (h4 : c % 4 = 0) (hs : STv s) (hfit : c + sg_pf s s.2.2.1 ≤ D.length) : ∀ (m v : Nat), v + m = s.2.2.1 → ∀ {A : am_H} {R : Nat → Nat → Int32}, MM b A R (sat f (c + sg_pf s v) false) → MDr R f D → MS R h (setAll s (cM D s c ce v)) → ∃ B S, MM b B S (sat f (c + sg_pf s s.2.2.1) false) ∧ MS S h (setAll s (cM D s c ce s.2.2.1)) ∧ (∀ i, i ≠ 15 → S i = R i) ∧ KH (1 - h) R S ∧ am_fr (at21 b) A B ∧ ∀ Y, pev (d + 3) 257 [some (.ref b), some (.int (nI h)), some (.int (nI s.2.2.1)), none, none] [] B = some Y → pev (d + 3) 257 [some (.ref b), some (.int (nI h)), some (.int (nI v)), none, none] [] A = some Y := by
  have h5 := hs.2.2.1
  intro m
  induction m with
  | zero =>
    intro v hv A R hM hD hS
    have e : v = s.2.2.1 := by omega
    subst e
    exact ⟨A, R, hM, hS, fun _ _ => rfl, KH.refl _ _, am_fr.refl A, fun Y hY => hY⟩
  | succ m ih =>
    intro v hv A R hM hD hS
    have hvn : v < s.2.2.1 := by omega
    have hh := hS.2.1
    have hb := hM.2.1
    obtain ⟨⟨t1, t4⟩, -⟩ := hs.2.2.2.1 v hvn
    have w2 : R 6 (5 * h + v) = nI (s.2.2.2.1 v).2.1 := (hS.2.2.2.2.2 v hvn).2.1
    have hcn : ¬ nI s.2.2.1 ≤ nI v := nI_ge (by omega) (by omega)
    have ixh := x_ix hh (show h < 2147483648 by omega)
    obtain ⟨B1, g2, e1, m1, b1, b2, f1⟩ := n_blank (d := d + 1) hM hh (by omega) w2 t1 t4
    -- after blank
    have hS1 : MS (setR R 15 g2) h (setAll s (upC (cM D s c ce v) v (fllC s v))) := by
      obtain ⟨g1, g2', g3, g4, g5, g6⟩ := hS
      refine ⟨g1, g2', ⟨g3.1, g3.2.1, g3.2.2⟩, g4, g5.same (fun i i1 i2 => setR_ne (by omega)), fun u hu => ?_⟩
      obtain ⟨w1, w2, w3, w4, w5, w6⟩ := g6 u hu
      refine ⟨w1, w2, w3, w4, w5.same (fun i i1 i2 => setR_ne (by omega)), fun k hk => ?_⟩
      rw [setR_self]
      show g2 (800 * (5 * h + u) + k) = upC (cM D s c ce v) v (fllC s v) u k
      unfold upC
      by_cases cu : u = v
      · rw [cu, if_pos rfl, b1 k hk]
        rfl
      · rw [if_neg cu, b2 _ (by omega)]
        exact w6 k hk
    have kh1 : KH (1 - h) R (setR R 15 g2) := by
      refine ⟨fun i i1 i2 j j1 j2 => ?_, fun i hi => setR_ne (by omega)⟩
      by_cases c15 : i = 15
      · subst c15
        have j1' : (1 - h) * 4000 ≤ j := j1
        have j2' : j < (1 - h) * 4000 + 4000 := j2
        rw [setR_self]
        exact b2 j (by omega)
      · rw [setR_ne c15]
    have er := n_isRecord (d := d + 1) m1 hS1 hvn
    have el0 : sg_l0 (setAll s (upC (cM D s c ce v) v (fllC s v))) v = sg_l0 s v := rfl
    rw [el0] at er
    have epf : sg_pf s (v + 1) = sg_pf s v + (if sg_l0 s v = 0 then 0 else sg_ps s v) := rfl
    by_cases c0 : sg_l0 s v = 0
    · have epf0 : sg_pf s (v + 1) = sg_pf s v := by rw [epf, if_pos c0]; rfl
      have eC : cM D s c ce (v + 1) = upC (cM D s c ce v) v (fllC s v) := by
        funext u
        unfold upC cM
        by_cases cu : u = v
        · rw [if_pos cu, if_pos (by omega), cu]
          exact if_neg (fun e => e.2 c0)
        · rw [if_neg cu]
          by_cases cl : u < v
          · rw [if_pos cl, if_pos (by omega)]
            unfold cF1
            by_cases c1 : sg_l0 s u ≠ 0
            · rw [if_pos ⟨by omega, c1⟩, if_pos ⟨cl, c1⟩]
            · rw [if_neg (fun e => c1 e.2), if_neg (fun e => c1 e.2)]
          · rw [if_neg cl, if_neg (by omega)]
      obtain ⟨C, S, q1, q2, q3, q4, q5, q6⟩ := ih (v + 1) (by omega) (A := B1) (R := setR R 15 g2) (by rw [epf0]; exact m1) (hD.same rfl rfl) (by rw [eC]; exact hS1)
      refine ⟨C, S, q1, q2, fun i hi => (q3 i hi).trans (setR_ne hi), kh1.trans q4, f1.trans q5, fun Y hY => ?_⟩
      have e3 := q6 Y hY
      have r4 : R 4 h = nI s.2.2.1 := hS.2.2.1.2.1
      refine e_257 ?_; simp only [b_257, i_int, i_long, i_null, i_stat, i_iload, i_lload, i_aload, i_istore, i_astore, i_lstore, i_iinc, i_ii, i_idz, i_i, i_ll, i_lsh, i_i2l, i_l2i, i_lcmp, i_dup, i_pop, i_dup2, i_ifeq, i_ifne, i_iflt, i_ifge, i_ifgt, i_ifle, i_cmpeq, i_cmpne, i_cmplt, i_cmpge, i_cmpgt, i_cmple, i_ifnull, i_ifnonnull, i_getf, am_wr, i_putI, i_putZ, i_putR, i_iald, i_iast, i_aald, i_aast, i_alen, i_newi, i_newq, i_new, i_recv, i_iret, i_zret, i_lret, i_aret, i_vret, List.getElem?_cons_zero, List.getElem?_cons_succ, Option.bind_some, Option.toList_some, Option.toList_none, List.cons_append, List.nil_append, x_nI, am_put, am_put2, List.length_cons, List.length_nil, List.set_cons_zero, List.set_cons_succ, Nat.reduceAdd, Nat.reduceLT, Nat.reduceLeDiff, Nat.reduceEqDiff, Nat.add_left_cancel_iff, Nat.add_eq_left, Nat.left_eq_add, Nat.succ_ne_self, Nat.reduceSub, reduceIte, ite_self, eq_self, or_true, true_or, or_false, false_or, or_self, i10, not_true_eq_false, not_false_eq_true, x_call1, x_call2, x_call3, x_call4, x_call5, x_call6, x_sl0, x_sli, x_slr, x_sln, x_sll, am_ent, List.map_nil, List.map_cons, List.sum_nil, List.sum_cons, Value.category, and_true, true_and, and_self, Nat.zero_le, List.replicate_succ, List.replicate_zero, List.reduceReplicate, x_obj_set, x_row_set, x_len_set, x_obx, x_rox, x_rv, x_obj hM.1, mo_obj, x_row (show A.2.2 (b + 4) = some (.inl (0, 2, R 4)) from hM.2.2 4 (by decide) (by decide)), ixh, r4, hcn, e1, x_obj m1.1, er, c0, decide_true, bz_true, nI_1]
      exact e3
    · rw [if_neg c0] at epf
      have hmono : sg_pf s (v + 1) ≤ sg_pf s s.2.2.1 := sg_sum_mono (by omega)
      have hps := pad4_ge (sg_cn s v * wd (s.2.2.2.1 v).2.1)
      have hcw := cn_le hs hvn
      have hwp := wd_pos (s.2.2.2.1 v).2.1
      have hcn8 : sg_cn s v * 1 ≤ sg_cn s v * wd (s.2.2.2.1 v).2.1 := Nat.mul_le_mul_left _ hwp
      have epsd : sg_ps s v = pad4 (sg_cn s v * wd (s.2.2.2.1 v).2.1) := rfl
      obtain ⟨B2, S2, e2, m2, s2, k2, kh2, f2⟩ := n_rcl (d := d) (v := v) (r := 0) (pd := true) (s := setAll s (upC (cM D s c ce v) v (fllC s v))) (c := c + sg_pf s v) hvn (by show 0 * sg_cn s v + sg_cn s v ≤ 800; omega) (by show c + sg_pf s v + sg_cn s v * wd (s.2.2.2.1 v).2.1 ≤ D.length; omega) m1 (hD.same rfl rfl) hS1
      have hpm : sg_pf s v % 4 = 0 := sum_mod (fun j _ => by
        split
        · rfl
        · exact pad4_mod _)
      have ecu : pad4 (c + sg_pf s v + sg_cn s v * wd (s.2.2.2.1 v).2.1) = c + sg_pf s (v + 1) := by
        rw [epf, epsd]
        unfold pad4
        omega
      have m2' : MM b B2 S2 (sat f (c + sg_pf s (v + 1)) false) := by
        rw [← ecu]
        exact m2
      rw [setCe_all] at s2
      have eC : cM D s c ce (v + 1) = upC (upC (cM D s c ce v) v (fllC s v)) v (rdc D (c + sg_pf s v) (s.2.2.2.1 v).2.1 0 (sg_cn s v) (upC (cM D s c ce v) v (fllC s v) v) (sg_cn s v)) := by
        funext u
        by_cases cu : u = v
        · subst cu
          have e1 : upC (upC (cM D s c ce u) u (fllC s u)) u (rdc D (c + sg_pf s u) (s.2.2.2.1 u).2.1 0 (sg_cn s u) (upC (cM D s c ce u) u (fllC s u) u) (sg_cn s u)) u = rdc D (c + sg_pf s u) (s.2.2.2.1 u).2.1 0 (sg_cn s u) (upC (cM D s c ce u) u (fllC s u) u) (sg_cn s u) := if_pos rfl
          have e2 : upC (cM D s c ce u) u (fllC s u) u = fllC s u := if_pos rfl
          rw [e1, e2]
          have e3 : cM D s c ce (u + 1) u = rC D (cuF s c u) (s.2.2.2.1 u).2.1 (fllC s u) (sg_cn s u) := by
            unfold cM
            rw [if_pos (by omega)]
            exact if_pos ⟨by omega, c0⟩
          rw [e3, cuF_eq c h4]
          funext k
          unfold rC rdc
          rw [Nat.zero_mul]
          by_cases ck : k < sg_cn s u
          · rw [if_pos ck, if_pos ⟨Nat.zero_le _, by omega⟩, Nat.sub_zero]
          · rw [if_neg ck, if_neg (by omega)]
        · have e1 : upC (upC (cM D s c ce v) v (fllC s v)) v (rdc D (c + sg_pf s v) (s.2.2.2.1 v).2.1 0 (sg_cn s v) (upC (cM D s c ce v) v (fllC s v) v) (sg_cn s v)) u = cM D s c ce v u := (if_neg cu).trans (if_neg cu)
          rw [e1]
          unfold cM
          by_cases cl : u < v
          · rw [if_pos cl, if_pos (by omega)]
            unfold cF1
            by_cases c1 : sg_l0 s u ≠ 0
            · rw [if_pos ⟨by omega, c1⟩, if_pos ⟨cl, c1⟩]
            · rw [if_neg (fun e => c1 e.2), if_neg (fun e => c1 e.2)]
          · rw [if_neg cl, if_neg (by omega)]
      have s2' : MS S2 h (setAll s (cM D s c ce (v + 1))) := by
        rw [eC]
        exact s2
      obtain ⟨C, S, q1, q2, q3, q4, q5, q6⟩ := ih (v + 1) (by omega) m2' ((hD.same rfl rfl).same (k2 20 (by decide)) rfl) s2'
      refine ⟨C, S, q1, q2, fun i hi => (q3 i hi).trans ((k2 i hi).trans (setR_ne hi)), (kh1.trans kh2).trans q4, (f1.trans f2).trans q5, fun Y hY => ?_⟩
      have e3 := q6 Y hY
      have r4 : R 4 h = nI s.2.2.1 := hS.2.2.1.2.1
      have e2' : pev (d + 2) 260 [some (.ref b), some (.int (nI h)), some (.int (nI v)), some (.int 0), some (.int 1), none, none, none] [] B1 = some (none, B2) := e2
      refine e_257 ?_; simp only [b_257, i_int, i_long, i_null, i_stat, i_iload, i_lload, i_aload, i_istore, i_astore, i_lstore, i_iinc, i_ii, i_idz, i_i, i_ll, i_lsh, i_i2l, i_l2i, i_lcmp, i_dup, i_pop, i_dup2, i_ifeq, i_ifne, i_iflt, i_ifge, i_ifgt, i_ifle, i_cmpeq, i_cmpne, i_cmplt, i_cmpge, i_cmpgt, i_cmple, i_ifnull, i_ifnonnull, i_getf, am_wr, i_putI, i_putZ, i_putR, i_iald, i_iast, i_aald, i_aast, i_alen, i_newi, i_newq, i_new, i_recv, i_iret, i_zret, i_lret, i_aret, i_vret, List.getElem?_cons_zero, List.getElem?_cons_succ, Option.bind_some, Option.toList_some, Option.toList_none, List.cons_append, List.nil_append, x_nI, am_put, am_put2, List.length_cons, List.length_nil, List.set_cons_zero, List.set_cons_succ, Nat.reduceAdd, Nat.reduceLT, Nat.reduceLeDiff, Nat.reduceEqDiff, Nat.add_left_cancel_iff, Nat.add_eq_left, Nat.left_eq_add, Nat.succ_ne_self, Nat.reduceSub, reduceIte, ite_self, eq_self, or_true, true_or, or_false, false_or, or_self, i10, not_true_eq_false, not_false_eq_true, x_call1, x_call2, x_call3, x_call4, x_call5, x_call6, x_sl0, x_sli, x_slr, x_sln, x_sll, am_ent, List.map_nil, List.map_cons, List.sum_nil, List.sum_cons, Value.category, and_true, true_and, and_self, Nat.zero_le, List.replicate_succ, List.replicate_zero, List.reduceReplicate, x_obj_set, x_row_set, x_len_set, x_obx, x_rox, x_rv, x_obj hM.1, mo_obj, x_row (show A.2.2 (b + 4) = some (.inl (0, 2, R 4)) from hM.2.2 4 (by decide) (by decide)), ixh, r4, hcn, e1, x_obj m1.1, er, c0, decide_false, bz_false, e2', nI_1]
      exact e3
theorem n_ac71 {d b h c i : Nat} {f : mo_F} {D : List Nat} {s : sg_S} {ce : Nat → Nat → Int32} (h4 : 1 < sg_nr s → c % 4 = 0) (hs : STv s) (hi : ∀ v, v < s.2.2.1 → sg_l0 s v = 0 → i * sg_l1 s v + sg_l1 s v ≤ 800) (hfit : c + sg_rs s ≤ D.length) : ∀ (m v : Nat), v + m = s.2.2.1 → ∀ {A : am_H} {R : Nat → Nat → Int32}, MM b A R (sat f (cuR s c v) false) → MDr R f D → MS R h (setAll s (cR1 D s c ce i v)) → ∃ B S, MM b B S (sat f (cuR s c s.2.2.1) false) ∧ MS S h (setAll s (cR1 D s c ce i s.2.2.1)) ∧ (∀ i, i ≠ 15 → S i = R i) ∧ KH (1 - h) R S ∧ am_fr (at21 b) A B ∧ ∀ Y, pev (d + 3) 259 [some (.ref b), some (.int (nI h)), some (.int (bz (decide (1 < sg_nr s)))), some (.int (nI i)), some (.int (nI s.2.2.1))] [] B = some Y → pev (d + 3) 259 [some (.ref b), some (.int (nI h)), some (.int (bz (decide (1 < sg_nr s)))), some (.int (nI i)), some (.int (nI v))] [] A = some Y := by
  have h5 := hs.2.2.1
  intro m
  induction m with
  | zero =>
    intro v hv A R hM hD hS
    have e : v = s.2.2.1 := by omega
    subst e
    exact ⟨A, R, hM, hS, fun _ _ => rfl, KH.refl _ _, am_fr.refl A, fun Y hY => hY⟩
  | succ m ih =>
    intro v hv A R hM hD hS
    have hvn : v < s.2.2.1 := by omega
    have hh := hS.2.1
    have hcn : ¬ nI s.2.2.1 ≤ nI v := nI_ge (by omega) (by omega)
    have ixh := x_ix hh (show h < 2147483648 by omega)
    have er := n_isRecord (d := d + 1) hM hS hvn
    have el0 : sg_l0 (setAll s (cR1 D s c ce i v)) v = sg_l0 s v := rfl
    rw [el0] at er
    have r4 : R 4 h = nI s.2.2.1 := hS.2.2.1.2.1
    by_cases c0 : sg_l0 s v = 0
    · have ecn : sg_cn (setAll s (cR1 D s c ce i v)) v = sg_l1 s v := (show sg_cn (setAll s (cR1 D s c ce i v)) v = sg_cn s v from rfl).trans (sg_cn_rec c0)
      have hcu := cuR_eq (s := s) c h4 v
      have hsm : sg_sum (rz s) (v + 1) ≤ sg_sum (rz s) s.2.2.1 := sg_sum_mono (by omega)
      rw [rz_sum] at hsm
      rw [sg_sum, rz, if_pos c0] at hsm
      have hge : sg_l1 s v * wd (s.2.2.2.1 v).2.1 ≤ (if 1 < sg_nr s then sg_ps s v else sg_l1 s v * wd (s.2.2.2.1 v).2.1) := by
        split
        · unfold sg_ps
          rw [sg_cn_rec c0]
          exact pad4_ge _
        · exact Nat.le_refl _
      obtain ⟨B2, S2, e2, m2, s2, k2, kh2, f2⟩ := n_rcl (d := d) (v := v) (r := i) (pd := decide (1 < sg_nr s)) (s := setAll s (cR1 D s c ce i v)) (c := cuR s c v) hvn (by rw [ecn]; exact hi v hvn c0) (by rw [ecn]; show cuR s c v + sg_l1 s v * wd (s.2.2.2.1 v).2.1 ≤ D.length; omega) hM hD hS
      rw [setCe_all, ecn] at s2
      rw [ecn] at m2
      have eC : cR1 D s c ce i (v + 1) = upC (cR1 D s c ce i v) v (rdc D (cuR s c v) (s.2.2.2.1 v).2.1 i (sg_l1 s v) (cR1 D s c ce i v v) (sg_l1 s v)) := by
        funext u
        unfold upC
        by_cases c1 : u = v
        · rw [if_pos c1, c1]
          have k1 : cR1 D s c ce i v v = ce v := if_neg (fun e => by omega)
          rw [k1]
          show (if v < v + 1 ∧ sg_l0 s v = 0 then _ else _) = _
          rw [if_pos ⟨by omega, c0⟩]
        · rw [if_neg c1]
          unfold cR1
          by_cases c2 : u < v ∧ sg_l0 s u = 0
          · rw [if_pos c2, if_pos ⟨by omega, c2.2⟩]
          · rw [if_neg c2, if_neg (fun e => c2 ⟨by omega, e.2⟩)]
      have s2' : MS S2 h (setAll s (cR1 D s c ce i (v + 1))) := by
        rw [eC]
        exact s2
      have eU : cuR s c (v + 1) = if decide (1 < sg_nr s) = true then pad4 (cuR s c v + sg_l1 s v * wd (s.2.2.2.1 v).2.1) else cuR s c v + sg_l1 s v * wd (s.2.2.2.1 v).2.1 := by
        rw [cuR, if_pos c0]
        by_cases cp : 1 < sg_nr s
        · rw [if_pos cp, if_pos (by simp [cp])]
        · rw [if_neg cp, if_neg (by simp [cp])]
      have m2' : MM b B2 S2 (sat f (cuR s c (v + 1)) false) := by
        rw [eU]
        exact m2
      obtain ⟨C, S, q1, q2, q3, q4, q5, q6⟩ := ih (v + 1) (by omega) m2' (hD.same (k2 20 (by decide)) rfl) s2'
      refine ⟨C, S, q1, q2, fun j hj => (q3 j hj).trans (k2 j hj), kh2.trans q4, f2.trans q5, fun Y hY => ?_⟩
      have e3 := q6 Y hY
      refine e_259 ?_; simp only [b_259, i_int, i_long, i_null, i_stat, i_iload, i_lload, i_aload, i_istore, i_astore, i_lstore, i_iinc, i_ii, i_idz, i_i, i_ll, i_lsh, i_i2l, i_l2i, i_lcmp, i_dup, i_pop, i_dup2, i_ifeq, i_ifne, i_iflt, i_ifge, i_ifgt, i_ifle, i_cmpeq, i_cmpne, i_cmplt, i_cmpge, i_cmpgt, i_cmple, i_ifnull, i_ifnonnull, i_getf, am_wr, i_putI, i_putZ, i_putR, i_iald, i_iast, i_aald, i_aast, i_alen, i_newi, i_newq, i_new, i_recv, i_iret, i_zret, i_lret, i_aret, i_vret, List.getElem?_cons_zero, List.getElem?_cons_succ, Option.bind_some, Option.toList_some, Option.toList_none, List.cons_append, List.nil_append, x_nI, am_put, am_put2, List.length_cons, List.length_nil, List.set_cons_zero, List.set_cons_succ, Nat.reduceAdd, Nat.reduceLT, Nat.reduceLeDiff, Nat.reduceEqDiff, Nat.add_left_cancel_iff, Nat.add_eq_left, Nat.left_eq_add, Nat.succ_ne_self, Nat.reduceSub, reduceIte, ite_self, eq_self, or_true, true_or, or_false, false_or, or_self, i10, not_true_eq_false, not_false_eq_true, x_call1, x_call2, x_call3, x_call4, x_call5, x_call6, x_sl0, x_sli, x_slr, x_sln, x_sll, am_ent, List.map_nil, List.map_cons, List.sum_nil, List.sum_cons, Value.category, and_true, true_and, and_self, Nat.zero_le, List.replicate_succ, List.replicate_zero, List.reduceReplicate, x_obj_set, x_row_set, x_len_set, x_obx, x_rox, x_rv, x_obj hM.1, mo_obj, x_row (show A.2.2 (b + 4) = some (.inl (0, 2, R 4)) from hM.2.2 4 (by decide) (by decide)), ixh, r4, hcn, er, c0, decide_true, bz_true, e2, nI_1]
      exact e3
    · have eC : cR1 D s c ce i (v + 1) = cR1 D s c ce i v := by
        funext u
        unfold cR1
        by_cases c1 : u < v ∧ sg_l0 s u = 0
        · rw [if_pos c1, if_pos ⟨by omega, c1.2⟩]
        · rw [if_neg c1, if_neg (fun e => c1 ⟨by
            rcases Nat.lt_or_ge u v with h | h
            · exact h
            · have : u = v := by omega
              rw [this] at e
              exact absurd e.2 c0, e.2⟩)]
      have eU : cuR s c (v + 1) = cuR s c v := by rw [cuR, if_neg c0]
      obtain ⟨C, S, q1, q2, q3, q4, q5, q6⟩ := ih (v + 1) (by omega) (by rw [eU]; exact hM) hD (by rw [eC]; exact hS)
      refine ⟨C, S, q1, q2, q3, q4, q5, fun Y hY => ?_⟩
      have e3 := q6 Y hY
      refine e_259 ?_; simp only [b_259, i_int, i_long, i_null, i_stat, i_iload, i_lload, i_aload, i_istore, i_astore, i_lstore, i_iinc, i_ii, i_idz, i_i, i_ll, i_lsh, i_i2l, i_l2i, i_lcmp, i_dup, i_pop, i_dup2, i_ifeq, i_ifne, i_iflt, i_ifge, i_ifgt, i_ifle, i_cmpeq, i_cmpne, i_cmplt, i_cmpge, i_cmpgt, i_cmple, i_ifnull, i_ifnonnull, i_getf, am_wr, i_putI, i_putZ, i_putR, i_iald, i_iast, i_aald, i_aast, i_alen, i_newi, i_newq, i_new, i_recv, i_iret, i_zret, i_lret, i_aret, i_vret, List.getElem?_cons_zero, List.getElem?_cons_succ, Option.bind_some, Option.toList_some, Option.toList_none, List.cons_append, List.nil_append, x_nI, am_put, am_put2, List.length_cons, List.length_nil, List.set_cons_zero, List.set_cons_succ, Nat.reduceAdd, Nat.reduceLT, Nat.reduceLeDiff, Nat.reduceEqDiff, Nat.add_left_cancel_iff, Nat.add_eq_left, Nat.left_eq_add, Nat.succ_ne_self, Nat.reduceSub, reduceIte, ite_self, eq_self, or_true, true_or, or_false, false_or, or_self, i10, not_true_eq_false, not_false_eq_true, x_call1, x_call2, x_call3, x_call4, x_call5, x_call6, x_sl0, x_sli, x_slr, x_sln, x_sll, am_ent, List.map_nil, List.map_cons, List.sum_nil, List.sum_cons, Value.category, and_true, true_and, and_self, Nat.zero_le, List.replicate_succ, List.replicate_zero, List.reduceReplicate, x_obj_set, x_row_set, x_len_set, x_obx, x_rox, x_rv, x_obj hM.1, mo_obj, x_row (show A.2.2 (b + 4) = some (.inl (0, 2, R 4)) from hM.2.2 4 (by decide) (by decide)), ixh, r4, hcn, er, c0, decide_false, bz_false, nI_1]
      exact e3
theorem n_ac58 {d b h c : Nat} {f : mo_F} {D : List Nat} {s : sg_S} {ce : Nat → Nat → Int32} (h4 : 1 < sg_nr s → c % 4 = 0) (hs : STv s) (hi : ∀ v, v < s.2.2.1 → sg_l0 s v = 0 → s.2.2.2.2 * sg_l1 s v ≤ 800) (hfit : c + s.2.2.2.2 * sg_rs s ≤ D.length) : ∀ (m i : Nat), i + m = s.2.2.2.2 → ∀ {A : am_H} {R : Nat → Nat → Int32} {o : Option Value}, MM b A R (sat f (cuI s c i) false) → MDr R f D → MS R h (setAll s (cI D s c ce i)) → ∃ B S, pev (d + 3) 258 [some (.ref b), some (.int (nI h)), some (.int (bz (decide (1 < sg_nr s)))), some (.int (nI i)), o] [] A = some (none, B) ∧ MM b B S (sat f (cuI s c s.2.2.2.2) false) ∧ MS S h (setAll s (cI D s c ce s.2.2.2.2)) ∧ (∀ i, i ≠ 15 → S i = R i) ∧ KH (1 - h) R S ∧ am_fr (at21 b) A B := by
  have h5 := hs.2.2.1
  have h8 := hs.2.2.2.2
  intro m
  induction m with
  | zero =>
    intro i hii A R o hM hD hS
    have e : i = s.2.2.2.2 := by omega
    subst e
    have hh := hS.2.1
    have ixh := x_ix hh (show h < 2147483648 by omega)
    have r14 : R 14 h = nI s.2.2.2.2 := hS.2.2.1.2.2
    refine ⟨A, R, ?_, hM, hS, fun _ _ => rfl, KH.refl _ _, am_fr.refl A⟩
    refine e_258 ?_; simp only [b_258, i_int, i_long, i_null, i_stat, i_iload, i_lload, i_aload, i_istore, i_astore, i_lstore, i_iinc, i_ii, i_idz, i_i, i_ll, i_lsh, i_i2l, i_l2i, i_lcmp, i_dup, i_pop, i_dup2, i_ifeq, i_ifne, i_iflt, i_ifge, i_ifgt, i_ifle, i_cmpeq, i_cmpne, i_cmplt, i_cmpge, i_cmpgt, i_cmple, i_ifnull, i_ifnonnull, i_getf, am_wr, i_putI, i_putZ, i_putR, i_iald, i_iast, i_aald, i_aast, i_alen, i_newi, i_newq, i_new, i_recv, i_iret, i_zret, i_lret, i_aret, i_vret, List.getElem?_cons_zero, List.getElem?_cons_succ, Option.bind_some, Option.toList_some, Option.toList_none, List.cons_append, List.nil_append, x_nI, am_put, am_put2, List.length_cons, List.length_nil, List.set_cons_zero, List.set_cons_succ, Nat.reduceAdd, Nat.reduceLT, Nat.reduceLeDiff, Nat.reduceEqDiff, Nat.add_left_cancel_iff, Nat.add_eq_left, Nat.left_eq_add, Nat.succ_ne_self, Nat.reduceSub, reduceIte, ite_self, eq_self, or_true, true_or, or_false, false_or, or_self, i10, not_true_eq_false, not_false_eq_true, x_call1, x_call2, x_call3, x_call4, x_call5, x_call6, x_sl0, x_sli, x_slr, x_sln, x_sll, am_ent, List.map_nil, List.map_cons, List.sum_nil, List.sum_cons, Value.category, and_true, true_and, and_self, Nat.zero_le, List.replicate_succ, List.replicate_zero, List.reduceReplicate, x_obj_set, x_row_set, x_len_set, x_obx, x_rox, x_rv, x_obj hM.1, mo_obj, x_row (show A.2.2 (b + 14) = some (.inl (0, 2, R 14)) from hM.2.2 14 (by decide) (by decide)), ixh, r14, show nI s.2.2.2.2 ≤ nI s.2.2.2.2 from nI_le (Nat.le_refl _) (by omega)]
  | succ m ih =>
    intro i hii A R o hM hD hS
    have hh := hS.2.1
    have ixh := x_ix hh (show h < 2147483648 by omega)
    have r14 : R 14 h = nI s.2.2.2.2 := hS.2.2.1.2.2
    have hcn : ¬ nI s.2.2.2.2 ≤ nI i := nI_ge (by omega) (by omega)
    have hcu := cuI_eq (s := s) c h4 i
    have hm1 : (i + 1) * sg_rs s ≤ s.2.2.2.2 * sg_rs s := Nat.mul_le_mul_right _ (by omega)
    rw [Nat.succ_mul] at hm1
    have e0 : cR1 D s (cuI s c i) (cI D s c ce i) i 0 = cI D s c ce i := by
      funext u
      exact if_neg (fun e => by omega)
    obtain ⟨B1, S1, q1, q2, q3, q4, q5, q6⟩ := n_ac71 (d := d) (b := b) (h := h) (f := f) (D := D) (s := s) (c := cuI s c i) (i := i) (ce := cI D s c ce i) (fun hp => by
      have a1 := h4 hp
      have a2 := rs_mod hp
      have a3 : (i * sg_rs s) % 4 = 0 := by rw [Nat.mul_mod, a2, Nat.mul_zero]
      omega) hs (fun v hv c0 => by
      have h1 := hi v hv c0
      have h2 : (i + 1) * sg_l1 s v ≤ s.2.2.2.2 * sg_l1 s v := Nat.mul_le_mul_right _ (by omega)
      rw [Nat.succ_mul] at h2
      omega) (by omega) s.2.2.1 0 (by omega) hM hD (by rw [e0]; exact hS)
    obtain ⟨C, S, e2, r1, r2, r3, r4, r5⟩ := ih (i + 1) (by omega) (o := some (.int (nI s.2.2.1))) q1 (hD.same (q3 20 (by decide)) rfl) q2
    refine ⟨C, S, ?_, r1, r2, fun j hj => (r3 j hj).trans (q3 j hj), q4.trans r4, q5.trans r5⟩
    have r4' : B1.2.2 (b + 4) = some (.inl (0, 2, S1 4)) := q1.2.2 4 (by decide) (by decide)
    have s4 : S1 4 h = nI s.2.2.1 := q2.2.2.1.2.1
    have e3 := q6 (none, C) (by
      refine e_259 ?_; simp only [b_259, i_int, i_long, i_null, i_stat, i_iload, i_lload, i_aload, i_istore, i_astore, i_lstore, i_iinc, i_ii, i_idz, i_i, i_ll, i_lsh, i_i2l, i_l2i, i_lcmp, i_dup, i_pop, i_dup2, i_ifeq, i_ifne, i_iflt, i_ifge, i_ifgt, i_ifle, i_cmpeq, i_cmpne, i_cmplt, i_cmpge, i_cmpgt, i_cmple, i_ifnull, i_ifnonnull, i_getf, am_wr, i_putI, i_putZ, i_putR, i_iald, i_iast, i_aald, i_aast, i_alen, i_newi, i_newq, i_new, i_recv, i_iret, i_zret, i_lret, i_aret, i_vret, List.getElem?_cons_zero, List.getElem?_cons_succ, Option.bind_some, Option.toList_some, Option.toList_none, List.cons_append, List.nil_append, x_nI, am_put, am_put2, List.length_cons, List.length_nil, List.set_cons_zero, List.set_cons_succ, Nat.reduceAdd, Nat.reduceLT, Nat.reduceLeDiff, Nat.reduceEqDiff, Nat.add_left_cancel_iff, Nat.add_eq_left, Nat.left_eq_add, Nat.succ_ne_self, Nat.reduceSub, reduceIte, ite_self, eq_self, or_true, true_or, or_false, false_or, or_self, i10, not_true_eq_false, not_false_eq_true, x_call1, x_call2, x_call3, x_call4, x_call5, x_call6, x_sl0, x_sli, x_slr, x_sln, x_sll, am_ent, List.map_nil, List.map_cons, List.sum_nil, List.sum_cons, Value.category, and_true, true_and, and_self, Nat.zero_le, List.replicate_succ, List.replicate_zero, List.reduceReplicate, x_obj_set, x_row_set, x_len_set, x_obx, x_rox, x_rv, x_obj q1.1, mo_obj, x_row r4', ixh, s4, show nI s.2.2.1 ≤ nI s.2.2.1 from nI_le (Nat.le_refl _) (by omega), nI_1]
      exact e2)
    refine e_258 ?_; simp only [b_258, i_int, i_long, i_null, i_stat, i_iload, i_lload, i_aload, i_istore, i_astore, i_lstore, i_iinc, i_ii, i_idz, i_i, i_ll, i_lsh, i_i2l, i_l2i, i_lcmp, i_dup, i_pop, i_dup2, i_ifeq, i_ifne, i_iflt, i_ifge, i_ifgt, i_ifle, i_cmpeq, i_cmpne, i_cmplt, i_cmpge, i_cmpgt, i_cmple, i_ifnull, i_ifnonnull, i_getf, am_wr, i_putI, i_putZ, i_putR, i_iald, i_iast, i_aald, i_aast, i_alen, i_newi, i_newq, i_new, i_recv, i_iret, i_zret, i_lret, i_aret, i_vret, List.getElem?_cons_zero, List.getElem?_cons_succ, Option.bind_some, Option.toList_some, Option.toList_none, List.cons_append, List.nil_append, x_nI, am_put, am_put2, List.length_cons, List.length_nil, List.set_cons_zero, List.set_cons_succ, Nat.reduceAdd, Nat.reduceLT, Nat.reduceLeDiff, Nat.reduceEqDiff, Nat.add_left_cancel_iff, Nat.add_eq_left, Nat.left_eq_add, Nat.succ_ne_self, Nat.reduceSub, reduceIte, ite_self, eq_self, or_true, true_or, or_false, false_or, or_self, i10, not_true_eq_false, not_false_eq_true, x_call1, x_call2, x_call3, x_call4, x_call5, x_call6, x_sl0, x_sli, x_slr, x_sln, x_sll, am_ent, List.map_nil, List.map_cons, List.sum_nil, List.sum_cons, Value.category, and_true, true_and, and_self, Nat.zero_le, List.replicate_succ, List.replicate_zero, List.reduceReplicate, x_obj_set, x_row_set, x_len_set, x_obx, x_rox, x_rv, x_obj hM.1, mo_obj, x_row (show A.2.2 (b + 14) = some (.inl (0, 2, R 14)) from hM.2.2 14 (by decide) (by decide)), ixh, r14, hcn]
    exact e3
theorem n_allCells {d b h c : Nat} {A : am_H} {R : Nat → Nat → Int32} {f : mo_F} {D : List Nat} {s : sg_S} (hc : c = sg_hs s) (ht : sg_tot s s.2.2.2.2 = D.length) (hM : MM b A R (sat f c false)) (hD : MDr R f D) (hS : MS R h s) : ∃ B S c2, pev (d + 3) 256 [some (.ref b), some (.int (nI h)), none, none, none] [] A = some (none, B) ∧ MM b B S (sat f c2 false) ∧ MS S h (setAll s (cI D s (cuF s (sg_hs s) s.2.2.1) (cF1 D s (sg_hs s) (fllC s) s.2.2.1) s.2.2.2.2)) ∧ (∀ i, i ≠ 15 → S i = R i) ∧ KH (1 - h) R S ∧ am_fr (at21 b) A B := by
  have hs := hS.1
  have hh := hS.2.1
  have h5 := hs.2.2.1
  have hd8 := hD.2.1
  have hh4 : sg_hs s % 4 = 0 := by
    have h1 := sg_ls_mod s.2.1
    have h2 : sg_sum (fun v => 24 + 4 * (s.2.2.2.1 v).2.2.1 + sg_ls (s.2.2.2.1 v).2.2.2.2.1) s.2.2.1 % 4 = 0 := sum_mod (fun j _ => by have := sg_ls_mod (s.2.2.2.1 j).2.2.2.2.1; omega)
    unfold sg_hs
    omega
  have ett : sg_tot s s.2.2.2.2 = sg_hs s + sg_pf s s.2.2.1 + s.2.2.2.2 * sg_rs s := rfl
  subst hc
  have e0 : setAll s (cM D s (sg_hs s) (fun u => (s.2.2.2.1 u).2.2.2.2.2) 0) = s := by
    have e1 : cM D s (sg_hs s) (fun u => (s.2.2.2.1 u).2.2.2.2.2) 0 = fun u => (s.2.2.2.1 u).2.2.2.2.2 := by
      funext u
      exact if_neg (by omega)
    rw [e1]
    rfl
  obtain ⟨B1, S1, q1, q2, q3, q4, q5, q6⟩ := n_ac2 (d := d) (b := b) (h := h) (f := f) (D := D) (s := s) (c := sg_hs s) (ce := fun u => (s.2.2.2.1 u).2.2.2.2.2) hh4 hs (by omega) s.2.2.1 0 (by omega) (by show MM b A R (sat f (sg_hs s + sg_sum _ 0) false); rw [sg_sum]; exact hM) hD (by rw [e0]; exact hS)
  have q2' : MS S1 h (setAll s (cF1 D s (sg_hs s) (fllC s) s.2.2.1)) := q2.cells (fun v hv k _ => congrFun (if_pos hv) k)
  have hpm : sg_pf s s.2.2.1 % 4 = 0 := sum_mod (fun j _ => by
    split
    · rfl
    · exact pad4_mod _)
  have hcu := cuF_eq (s := s) (sg_hs s) hh4 s.2.2.1
  obtain ⟨C, S, e2, r1, r2, r3, r4, r5⟩ := n_ac58 (d := d) (b := b) (h := h) (f := f) (D := D) (s := s) (c := cuF s (sg_hs s) s.2.2.1) (ce := cF1 D s (sg_hs s) (fllC s) s.2.2.1) (fun _ => by omega) hs (cells_fit hs (by omega)) (by omega) s.2.2.2.2 0 (by omega) (o := none) (by show MM b B1 S1 (sat f (cuF s (sg_hs s) s.2.2.1) false); rw [hcu]; exact q1) (hD.same (q3 20 (by decide)) rfl) q2'
  refine ⟨C, S, _, ?_, r1, r2, fun i hi => (r3 i hi).trans (q3 i hi), q4.trans r4, q5.trans r5⟩
  have en := n_recordVariables (d := d) q1 q2'
  have en' : sg_nr (setAll s (cF1 D s (sg_hs s) (fllC s) s.2.2.1)) = sg_nr s := rfl
  rw [en'] at en
  have hnr := sg_nr_le s
  have ec : (nI (sg_nr s) ≤ (1 : Int32)) = (sg_nr s ≤ 1) := o_le (b := 1) (by omega) (by decide)
  have ixh := x_ix hh (show h < 2147483648 by omega)
  have r4' : B1.2.2 (b + 4) = some (.inl (0, 2, S1 4)) := q1.2.2 4 (by decide) (by decide)
  have s4 : S1 4 h = nI s.2.2.1 := q2.2.2.1.2.1
  have e3 := q6 (none, C) (by
    by_cases cc : sg_nr s ≤ 1
    · rw [show decide (1 < sg_nr s) = false by simp; omega, bz_false] at e2
      refine e_257 ?_; simp only [b_257, i_int, i_long, i_null, i_stat, i_iload, i_lload, i_aload, i_istore, i_astore, i_lstore, i_iinc, i_ii, i_idz, i_i, i_ll, i_lsh, i_i2l, i_l2i, i_lcmp, i_dup, i_pop, i_dup2, i_ifeq, i_ifne, i_iflt, i_ifge, i_ifgt, i_ifle, i_cmpeq, i_cmpne, i_cmplt, i_cmpge, i_cmpgt, i_cmple, i_ifnull, i_ifnonnull, i_getf, am_wr, i_putI, i_putZ, i_putR, i_iald, i_iast, i_aald, i_aast, i_alen, i_newi, i_newq, i_new, i_recv, i_iret, i_zret, i_lret, i_aret, i_vret, List.getElem?_cons_zero, List.getElem?_cons_succ, Option.bind_some, Option.toList_some, Option.toList_none, List.cons_append, List.nil_append, x_nI, am_put, am_put2, List.length_cons, List.length_nil, List.set_cons_zero, List.set_cons_succ, Nat.reduceAdd, Nat.reduceLT, Nat.reduceLeDiff, Nat.reduceEqDiff, Nat.add_left_cancel_iff, Nat.add_eq_left, Nat.left_eq_add, Nat.succ_ne_self, Nat.reduceSub, reduceIte, ite_self, eq_self, or_true, true_or, or_false, false_or, or_self, i10, not_true_eq_false, not_false_eq_true, x_call1, x_call2, x_call3, x_call4, x_call5, x_call6, x_sl0, x_sli, x_slr, x_sln, x_sll, am_ent, List.map_nil, List.map_cons, List.sum_nil, List.sum_cons, Value.category, and_true, true_and, and_self, Nat.zero_le, List.replicate_succ, List.replicate_zero, List.reduceReplicate, x_obj_set, x_row_set, x_len_set, x_obx, x_rox, x_rv, x_obj q1.1, mo_obj, x_row r4', ixh, s4, show nI s.2.2.1 ≤ nI s.2.2.1 from nI_le (Nat.le_refl _) (by omega), en, ec, cc]
      exact e2
    · rw [show decide (1 < sg_nr s) = true by simp; omega, bz_true] at e2
      refine e_257 ?_; simp only [b_257, i_int, i_long, i_null, i_stat, i_iload, i_lload, i_aload, i_istore, i_astore, i_lstore, i_iinc, i_ii, i_idz, i_i, i_ll, i_lsh, i_i2l, i_l2i, i_lcmp, i_dup, i_pop, i_dup2, i_ifeq, i_ifne, i_iflt, i_ifge, i_ifgt, i_ifle, i_cmpeq, i_cmpne, i_cmplt, i_cmpge, i_cmpgt, i_cmple, i_ifnull, i_ifnonnull, i_getf, am_wr, i_putI, i_putZ, i_putR, i_iald, i_iast, i_aald, i_aast, i_alen, i_newi, i_newq, i_new, i_recv, i_iret, i_zret, i_lret, i_aret, i_vret, List.getElem?_cons_zero, List.getElem?_cons_succ, Option.bind_some, Option.toList_some, Option.toList_none, List.cons_append, List.nil_append, x_nI, am_put, am_put2, List.length_cons, List.length_nil, List.set_cons_zero, List.set_cons_succ, Nat.reduceAdd, Nat.reduceLT, Nat.reduceLeDiff, Nat.reduceEqDiff, Nat.add_left_cancel_iff, Nat.add_eq_left, Nat.left_eq_add, Nat.succ_ne_self, Nat.reduceSub, reduceIte, ite_self, eq_self, or_true, true_or, or_false, false_or, or_self, i10, not_true_eq_false, not_false_eq_true, x_call1, x_call2, x_call3, x_call4, x_call5, x_call6, x_sl0, x_sli, x_slr, x_sln, x_sll, am_ent, List.map_nil, List.map_cons, List.sum_nil, List.sum_cons, Value.category, and_true, true_and, and_self, Nat.zero_le, List.replicate_succ, List.replicate_zero, List.reduceReplicate, x_obj_set, x_row_set, x_len_set, x_obx, x_rox, x_rv, x_obj q1.1, mo_obj, x_row r4', ixh, s4, show nI s.2.2.1 ≤ nI s.2.2.1 from nI_le (Nat.le_refl _) (by omega), en, ec, cc]
      exact e2)
  refine e_256 ?_; simp only [b_256, i_int, i_long, i_null, i_stat, i_iload, i_lload, i_aload, i_istore, i_astore, i_lstore, i_iinc, i_ii, i_idz, i_i, i_ll, i_lsh, i_i2l, i_l2i, i_lcmp, i_dup, i_pop, i_dup2, i_ifeq, i_ifne, i_iflt, i_ifge, i_ifgt, i_ifle, i_cmpeq, i_cmpne, i_cmplt, i_cmpge, i_cmpgt, i_cmple, i_ifnull, i_ifnonnull, i_getf, am_wr, i_putI, i_putZ, i_putR, i_iald, i_iast, i_aald, i_aast, i_alen, i_newi, i_newq, i_new, i_recv, i_iret, i_zret, i_lret, i_aret, i_vret, List.getElem?_cons_zero, List.getElem?_cons_succ, Option.bind_some, Option.toList_some, Option.toList_none, List.cons_append, List.nil_append, x_nI, am_put, am_put2, List.length_cons, List.length_nil, List.set_cons_zero, List.set_cons_succ, Nat.reduceAdd, Nat.reduceLT, Nat.reduceLeDiff, Nat.reduceEqDiff, Nat.add_left_cancel_iff, Nat.add_eq_left, Nat.left_eq_add, Nat.succ_ne_self, Nat.reduceSub, reduceIte, ite_self, eq_self, or_true, true_or, or_false, false_or, or_self, i10, not_true_eq_false, not_false_eq_true, x_call1, x_call2, x_call3, x_call4, x_call5, x_call6, x_sl0, x_sli, x_slr, x_sln, x_sll, am_ent, List.map_nil, List.map_cons, List.sum_nil, List.sum_cons, Value.category, and_true, true_and, and_self, Nat.zero_le, List.replicate_succ, List.replicate_zero, List.reduceReplicate, x_obj_set, x_row_set, x_len_set, x_obx, x_rox, x_rv]
  exact e3
