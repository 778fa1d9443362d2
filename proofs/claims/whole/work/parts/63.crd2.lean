/-! the class reads dimensions -/
def HP (s : sg_S) : Prop := NokS s ∧ dst s.1.2.1 s.1.1 ∧ dst (fun v => (s.2.2.2.1 v).1) s.2.2.1 ∧ sg_sum (fun k => if s.1.2.2 k = 0 then 1 else 0) s.1.1 ≤ 1 ∧ AV s.2.1 ∧ ∀ v, v < s.2.2.1 → AV (s.2.2.2.1 v).2.2.2.2.1
def at47 (b r : Nat) : Nat → Prop := fun q => at45 b q ∨ at2 r q
theorem BR.five {r c : Nat} {A : am_H} {D : List Nat} (h : BR r A D c) : 5 ≤ r := by
  obtain ⟨_, _, _, _, q, _⟩ := h
  exact q
theorem BR.off {r c b : Nat} {A B : am_H} {D : List Nat} (h : BR r A D c) (hf : am_fr (at45 b) A B) (hdj : r + 1 < b ∨ b + 45 ≤ r) : BR r B D c := h.kept hf (fun e => by unfold at45 at e; omega) (fun e => by unfold at45 at e; omega)
theorem am_St.off {b : Nat} {A B : am_H} (h : am_St A) (hf : am_fr (at45 b) A B) (hb : 5 ≤ b) : am_St B := h.kept hf (fun q q1 q2 => by unfold at45 at q2; omega)
theorem dd_no {s : sg_S} {nm ln : Int32} (h4 : s.1.1 ≤ 4) (h : 0 ≤ dd_c s nm ln) : isNb nm = true ∧ ¬ ln < 0 ∧ ¬ 8 < ln ∧ fnd s.1.2.1 nm s.1.1 = none ∧ s.1.1 < 4 ∧ (ln = 0 → hasG s = false) ∧ dd_s s nm ln = addD s nm ln.toNatClampNeg := by
  unfold dd_c at h
  unfold dd_s
  split at h
  · exact absurd h (by decide)
  · rename_i c1
    split at h
    · exact absurd h (by decide)
    · rename_i c2
      split at h
      · exact absurd h (by decide)
      · rename_i c3
        rw [if_neg c1, if_neg c2, if_neg c3]
        simp only [Bool.or_eq_true, Bool.not_eq_true', decide_eq_true_eq, not_or, Bool.not_eq_false, Bool.and_eq_true, not_and, Bool.not_eq_true] at c1 c2 c3
        refine ⟨c1.1.1, c1.1.2, c1.2, ?_, by omega, c3.2, rfl⟩
        cases hf : fnd s.1.2.1 nm s.1.1 with
        | none => rfl
        | some k => rw [hf] at c2; simp at c2
theorem sum_addD (s : sg_S) (nm : Int32) (ln : Nat) : sg_sum (fun k => if (addD s nm ln).1.2.2 k = 0 then 1 else 0) (addD s nm ln).1.1 = sg_sum (fun k => if s.1.2.2 k = 0 then 1 else 0) s.1.1 + (if ln = 0 then 1 else 0) := by
  show sg_sum (fun k => if (if k = s.1.1 then ln else s.1.2.2 k) = 0 then 1 else 0) (s.1.1 + 1) = _
  rw [sg_sum, if_pos rfl]
  congr 1
  exact sg_sum_congr (fun k hk => by
    have e : (if k = s.1.1 then ln else s.1.2.2 k) = s.1.2.2 k := if_neg (by omega)
    rw [e])
theorem HP_dd {s : sg_S} {nm ln : Int32} (h4 : s.1.1 ≤ 4) (h : HP s) : HP (dd_s s nm ln) ∧ (dd_s s nm ln).2 = s.2 := by
  by_cases hc : 0 ≤ dd_c s nm ln
  · obtain ⟨a1, a2, a3, a4, a5, a6, a7⟩ := dd_no h4 hc
    rw [a7]
    obtain ⟨g1, g2, g3, g4, g5, g6⟩ := h
    have hG := Gd_addD (ln := ln.toNatClampNeg) (show Gd s true from ⟨g1, g2, g3, fun e => by cases e⟩) a1 a4
    refine ⟨⟨hG.1, hG.2.1, g3, ?_, g5, g6⟩, rfl⟩
    rw [sum_addD]
    by_cases c : ln.toNatClampNeg = 0
    · have hz : ln = 0 := by
        obtain ⟨k, hk, rfl⟩ := nI_of a2
        rw [nI_clamp hk] at c
        rw [c]
        rfl
      have := a6 hz
      rw [hasG_sum, decide_eq_false_iff_not] at this
      rw [if_pos c]
      omega
    · rw [if_neg c]
      exact g4
  · have e : dd_s s nm ln = s := by
      unfold dd_c at hc
      unfold dd_s
      split
      · rfl
      · split
        · rfl
        · split
          · rfl
          · rename_i c1 c2 c3
            rw [if_neg c1, if_neg c2, if_neg c3] at hc
            exact absurd (nI_pos' (show s.1.1 < 2 ^ 31 by omega)) hc
    rw [e]
    exact ⟨h, rfl⟩
/-- place c0 of the bytes holds the dimensions of t0 -/
def DH (D : List Nat) (c0 : Nat) (t0 : sg_S) : Prop := HP t0 ∧ STv t0 ∧ seg D c0 (sg_cat (id1 t0) t0.1.1)
theorem id1_cat (t : sg_S) (k : Nat) : (sg_cat (id1 t) k).length = 12 * k := by
  rw [sg_cat_len, show (fun k => (id1 t k).length) = fun _ => 12 from funext (id1_len t), sg_sum_const]
  omega
theorem DH_k {D : List Nat} {c0 k : Nat} {t0 : sg_S} (h : DH D c0 t0) (hk : k < t0.1.1) : nmr (rd D (c0 + 12 * k + 4) 4) = t0.1.2.1 k ∧ rd D (c0 + 12 * k + 8) 4 = nI (t0.1.2.2 k) := by
  have hs := seg_cat h.2.2 hk
  rw [id1_cat] at hs
  unfold id1 at hs
  have r1 := seg_r hs
  rw [nam_len] at r1
  exact ⟨nmr_back (h.1.1.1 k hk) (seg_l hs), rd_wrd r1⟩
theorem DH_dd {D : List Nat} {c0 k : Nat} {t0 s : sg_S} (h : DH D c0 t0) (hk : k < t0.1.1) (hs : s.1 = (k, t0.1.2)) : dd_c s (t0.1.2.1 k) (nI (t0.1.2.2 k)) = nI k ∧ (dd_s s (t0.1.2.1 k) (nI (t0.1.2.2 k))).1 = (k + 1, t0.1.2) := by
  obtain ⟨hp, hv, -⟩ := h
  have h4 := hv.1
  have h8 := hv.2.1 k hk
  have e1 : s.1.1 = k := by rw [hs]
  have e2 : s.1.2.1 = t0.1.2.1 := by rw [hs]
  have e3 : s.1.2.2 = t0.1.2.2 := by rw [hs]
  have n1 : isNb (t0.1.2.1 k) = true := hp.1.1 k hk
  have n2 : ¬ nI (t0.1.2.2 k) < 0 := nI_pos (by omega)
  have n3 : ¬ (8 : Int32) < nI (t0.1.2.2 k) := nI_nlt (a := 8) h8 (by decide)
  have n4 : fnd s.1.2.1 (t0.1.2.1 k) s.1.1 = none := fnd_of_none (fun j hj e => by
    rw [e2] at e
    have := hp.2.1 j k (by omega) hk e
    omega)
  have n5 : (decide (4 ≤ s.1.1) || (decide (nI (t0.1.2.2 k) = 0) && hasG s)) = false := by
    rw [Bool.or_eq_false_iff]
    refine ⟨by simp; omega, ?_⟩
    by_cases c : t0.1.2.2 k = 0
    · have hg : hasG s = false := by
        rw [hasG_sum, decide_eq_false_iff_not, e1, e3]
        have m1 : sg_sum (fun k => if t0.1.2.2 k = 0 then 1 else 0) (k + 1) ≤ sg_sum (fun k => if t0.1.2.2 k = 0 then 1 else 0) t0.1.1 := sg_sum_mono (by omega)
        rw [sg_sum, if_pos c] at m1
        have := hp.2.2.2.1
        omega
      rw [hg, Bool.and_false]
    · have : ¬ nI (t0.1.2.2 k) = 0 := nI_ne0 (by omega) (by omega)
      simp [this]
  have k1 : (!isNb (t0.1.2.1 k) || decide (nI (t0.1.2.2 k) < 0) || decide (8 < nI (t0.1.2.2 k))) = false := by simp [n1, n2, n3]
  unfold dd_c dd_s
  rw [k1, n4, n5, nI_clamp (by omega)]
  refine ⟨by rw [e1]; rfl, ?_⟩
  show (s.1.1 + 1, upd s.1.2.1 s.1.1 (t0.1.2.1 k), fun j => if j = s.1.1 then t0.1.2.2 k else s.1.2.2 j) = _
  rw [e1, e2, e3]
  have f1 : upd t0.1.2.1 k (t0.1.2.1 k) = t0.1.2.1 := funext fun j => by
    by_cases c : j = k
    · rw [c, pk_us]
    · rw [pk_un c]
  have f2 : (fun j => if j = k then t0.1.2.2 k else t0.1.2.2 j) = t0.1.2.2 := funext fun j => by
    by_cases c : j = k
    · rw [if_pos c, c]
    · rw [if_neg c]
  rw [f1, f2]
theorem k_rdim18 {d b r n : Nat} {D : List Nat} {ρ : Nat → sg_R} (hdj : r + 1 < b ∨ b + 45 ≤ r) (hn : n ≤ 4) : ∀ (m k : Nat), k + m = n → ∀ {A : am_H} {s : sg_S} {c : Nat} {o4 o5 : Option Value}, ST b A s ρ → HP s → BR r A D c → c + 12 * m < 60000 → ∃ B ok s2 c2, pev (d + 2) 124 [some (.ref b), some (.ref r), some (.int (nI n)), some (.int (nI k)), o4, o5] [] A = some (some (.int (bz ok)), B) ∧ ST b B s2 ρ ∧ HP s2 ∧ s2.2 = s.2 ∧ BR r B D c2 ∧ c2 ≤ c + 12 * m ∧ am_fr (at47 b r) A B ∧ ∀ t0 c0, DH D c0 t0 → t0.1.1 = n → s.1 = (k, t0.1.2) → c = c0 + 12 * k → ok = true ∧ s2.1 = t0.1 ∧ c2 = c0 + 12 * n := by
  intro m
  induction m with
  | zero =>
    intro k hk A s c o4 o5 hS hP hB hc
    have hkn : k = n := by omega
    subst hkn
    refine ⟨A, true, s, c, ?_, hS, hP, rfl, hB, by omega, am_fr.refl A, fun t0 c0 hD h1 h2 h3 => ⟨rfl, by rw [h2, ← h1], h3⟩⟩
    refine e_124 ?_; simp only [b_124, i_int, i_long, i_null, i_stat, i_iload, i_lload, i_aload, i_istore, i_astore, i_lstore, i_iinc, i_ii, i_idz, i_i, i_ll, i_lsh, i_i2l, i_l2i, i_lcmp, i_dup, i_pop, i_dup2, i_ifeq, i_ifne, i_iflt, i_ifge, i_ifgt, i_ifle, i_cmpeq, i_cmpne, i_cmplt, i_cmpge, i_cmpgt, i_cmple, i_ifnull, i_ifnonnull, i_getf, am_wr, i_putI, i_putZ, i_putR, i_iald, i_iast, i_aald, i_aast, i_alen, i_newi, i_newq, i_new, i_recv, i_iret, i_zret, i_lret, i_aret, i_vret, List.getElem?_cons_zero, List.getElem?_cons_succ, Option.bind_some, Option.toList_some, Option.toList_none, List.cons_append, List.nil_append, x_nI, am_put, am_put2, List.length_cons, List.length_nil, List.set_cons_zero, List.set_cons_succ, Nat.reduceAdd, Nat.reduceLT, Nat.reduceLeDiff, Nat.reduceEqDiff, Nat.add_left_cancel_iff, Nat.add_eq_left, Nat.left_eq_add, Nat.succ_ne_self, Nat.reduceSub, reduceIte, ite_self, eq_self, or_true, true_or, or_false, false_or, or_self, i10, not_true_eq_false, not_false_eq_true, x_call1, x_call2, x_call3, x_call4, x_call5, x_call6, x_sl0, x_sli, x_slr, x_sln, x_sll, am_ent, List.map_nil, List.map_cons, List.sum_nil, List.sum_cons, Value.category, and_true, true_and, and_self, Nat.zero_le, List.replicate_succ, List.replicate_zero, List.reduceReplicate, x_obj_set, x_row_set, x_len_set, x_obx, x_rox, x_rv, show nI k ≤ nI k from nI_le (Nat.le_refl _) (by omega)]
    all_goals rfl
  | succ m ih =>
    intro k hk A s c o4 o5 hS hP hB hc
    have hcn : ¬ nI n ≤ nI k := nI_ge (by omega) (by omega)
    obtain ⟨B1, e1, b1, f1⟩ := k_takeName (d := d) (by omega) hB
    obtain ⟨B2, e2, b2, f2⟩ := k_takeWord (d := d) (by omega) b1
    rw [show c + 8 + 4 = c + 12 by omega] at b2
    have F2 := f1.trans f2
    have hS2 := hS.two F2 hdj
    obtain ⟨B3, e3, hS3, f3⟩ := k_defineDimension (d := d) (nm := nmr (rd D (c + 4) 4)) (ln := rd D (c + 8) 4) hS2
    have b3 := b2.off f3 hdj
    have h4 := hS.1.1
    obtain ⟨hP3, hs2⟩ := HP_dd (nm := nmr (rd D (c + 4) 4)) (ln := rd D (c + 8) 4) h4 hP
    have G3 : am_fr (at47 b r) A B3 := (F2.mono (fun z hz => Or.inr hz)).trans (f3.mono (fun z hz => Or.inl hz))
    have hx : ∀ t0 c0, DH D c0 t0 → t0.1.1 = n → s.1 = (k, t0.1.2) → c = c0 + 12 * k → dd_c s (nmr (rd D (c + 4) 4)) (rd D (c + 8) 4) = nI k ∧ (dd_s s (nmr (rd D (c + 4) 4)) (rd D (c + 8) 4)).1 = (k + 1, t0.1.2) := by
      intro t0 c0 hD h1 h2 h3
      obtain ⟨v1, v2⟩ := DH_k hD (show k < t0.1.1 by omega)
      rw [← h3] at v1 v2
      rw [v1, v2]
      exact DH_dd hD (by omega) h2
    cases hcc : decide (0 ≤ dd_c s (nmr (rd D (c + 4) 4)) (rd D (c + 8) 4)) with
    | false =>
      have hcd := of_decide_eq_false hcc
      refine ⟨B3, false, _, _, ?_, hS3, hP3, hs2, b3, by omega, G3, fun t0 c0 hD h1 h2 h3 => ?_⟩
      · refine e_124 ?_; simp only [b_124, i_int, i_long, i_null, i_stat, i_iload, i_lload, i_aload, i_istore, i_astore, i_lstore, i_iinc, i_ii, i_idz, i_i, i_ll, i_lsh, i_i2l, i_l2i, i_lcmp, i_dup, i_pop, i_dup2, i_ifeq, i_ifne, i_iflt, i_ifge, i_ifgt, i_ifle, i_cmpeq, i_cmpne, i_cmplt, i_cmpge, i_cmpgt, i_cmple, i_ifnull, i_ifnonnull, i_getf, am_wr, i_putI, i_putZ, i_putR, i_iald, i_iast, i_aald, i_aast, i_alen, i_newi, i_newq, i_new, i_recv, i_iret, i_zret, i_lret, i_aret, i_vret, List.getElem?_cons_zero, List.getElem?_cons_succ, Option.bind_some, Option.toList_some, Option.toList_none, List.cons_append, List.nil_append, x_nI, am_put, am_put2, List.length_cons, List.length_nil, List.set_cons_zero, List.set_cons_succ, Nat.reduceAdd, Nat.reduceLT, Nat.reduceLeDiff, Nat.reduceEqDiff, Nat.add_left_cancel_iff, Nat.add_eq_left, Nat.left_eq_add, Nat.succ_ne_self, Nat.reduceSub, reduceIte, ite_self, eq_self, or_true, true_or, or_false, false_or, or_self, i10, not_true_eq_false, not_false_eq_true, x_call1, x_call2, x_call3, x_call4, x_call5, x_call6, x_sl0, x_sli, x_slr, x_sln, x_sll, am_ent, List.map_nil, List.map_cons, List.sum_nil, List.sum_cons, Value.category, and_true, true_and, and_self, Nat.zero_le, List.replicate_succ, List.replicate_zero, List.reduceReplicate, x_obj_set, x_row_set, x_len_set, x_obx, x_rox, x_rv, hcn, x_obj hB.obj, e1, x_obj b1.obj, e2, x_obj hS2.obj, e3, hcd]
        all_goals rfl
      · rw [(hx t0 c0 hD h1 h2 h3).1] at hcd
        exact absurd (nI_pos' (show k < 2 ^ 31 by omega)) hcd
    | true =>
      have hcd := of_decide_eq_true hcc
      obtain ⟨C, ok, s2, c2, e4, q1, q2, q3, q4, q5, q6, q7⟩ := ih (k + 1) (by omega) (o4 := some (.int (nmr (rd D (c + 4) 4)))) (o5 := some (.int (rd D (c + 8) 4))) hS3 hP3 b3 (by omega)
      refine ⟨C, ok, s2, c2, ?_, q1, q2, q3.trans hs2, q4, by omega, G3.trans q6, fun t0 c0 hD h1 h2 h3 => ?_⟩
      · refine e_124 ?_; simp only [b_124, i_int, i_long, i_null, i_stat, i_iload, i_lload, i_aload, i_istore, i_astore, i_lstore, i_iinc, i_ii, i_idz, i_i, i_ll, i_lsh, i_i2l, i_l2i, i_lcmp, i_dup, i_pop, i_dup2, i_ifeq, i_ifne, i_iflt, i_ifge, i_ifgt, i_ifle, i_cmpeq, i_cmpne, i_cmplt, i_cmpge, i_cmpgt, i_cmple, i_ifnull, i_ifnonnull, i_getf, am_wr, i_putI, i_putZ, i_putR, i_iald, i_iast, i_aald, i_aast, i_alen, i_newi, i_newq, i_new, i_recv, i_iret, i_zret, i_lret, i_aret, i_vret, List.getElem?_cons_zero, List.getElem?_cons_succ, Option.bind_some, Option.toList_some, Option.toList_none, List.cons_append, List.nil_append, x_nI, am_put, am_put2, List.length_cons, List.length_nil, List.set_cons_zero, List.set_cons_succ, Nat.reduceAdd, Nat.reduceLT, Nat.reduceLeDiff, Nat.reduceEqDiff, Nat.add_left_cancel_iff, Nat.add_eq_left, Nat.left_eq_add, Nat.succ_ne_self, Nat.reduceSub, reduceIte, ite_self, eq_self, or_true, true_or, or_false, false_or, or_self, i10, not_true_eq_false, not_false_eq_true, x_call1, x_call2, x_call3, x_call4, x_call5, x_call6, x_sl0, x_sli, x_slr, x_sln, x_sll, am_ent, List.map_nil, List.map_cons, List.sum_nil, List.sum_cons, Value.category, and_true, true_and, and_self, Nat.zero_le, List.replicate_succ, List.replicate_zero, List.reduceReplicate, x_obj_set, x_row_set, x_len_set, x_obx, x_rox, x_rv, hcn, x_obj hB.obj, e1, x_obj b1.obj, e2, x_obj hS2.obj, e3, hcd, nI_1]
        exact e4
      · exact q7 t0 c0 hD h1 (hx t0 c0 hD h1 h2 h3).2 (by omega)
theorem k_rdim {d b r c : Nat} {D : List Nat} {ρ : Nat → sg_R} {A : am_H} {s : sg_S} (hdj : r + 1 < b ∨ b + 45 ≤ r) (hS : ST b A s ρ) (hP : HP s) (h0 : s.1.1 = 0) (hB : BR r A D c) (hc : c < 50000) : ∃ B ok s2 c2, pev (d + 2) 123 [some (.ref b), some (.ref r), none, none, none, none] [] A = some (some (.int (bz ok)), B) ∧ ST b B s2 ρ ∧ HP s2 ∧ s2.2 = s.2 ∧ BR r B D c2 ∧ c2 ≤ c + 56 ∧ am_fr (at47 b r) A B ∧ ∀ t0, HP t0 → STv t0 → seg D c (hea 10 t0.1.1 ++ sg_cat (id1 t0) t0.1.1) → s.1 = (0, t0.1.2) → ok = true ∧ s2.1 = t0.1 ∧ c2 = c + 8 + 12 * t0.1.1 := by
  obtain ⟨B1, e1, b1, f1⟩ := k_takeCount (d := d) (by omega) hB
  have hS1 := hS.two f1 hdj
  have hx : ∀ t0, HP t0 → STv t0 → seg D c (hea 10 t0.1.1 ++ sg_cat (id1 t0) t0.1.1) → rd D (c + 4) 4 = nI t0.1.1 ∧ DH D (c + 8) t0 := by
    intro t0 h1 h2 h3
    have s1 := seg_l h3
    unfold hea at s1
    have r1 := seg_r s1
    have r2 := seg_r h3
    rw [wrd_len] at r1
    rw [hea_len] at r2
    exact ⟨rd_wrd r1, h1, h2, r2⟩
  by_cases c1 : rd D (c + 4) 4 < 0
  · refine ⟨B1, false, s, c + 8, ?_, hS1, hP, rfl, b1, by omega, f1.mono (fun z hz => Or.inr hz), fun t0 h1 h2 h3 _ => ?_⟩
    · refine e_123 ?_; simp only [b_123, i_int, i_long, i_null, i_stat, i_iload, i_lload, i_aload, i_istore, i_astore, i_lstore, i_iinc, i_ii, i_idz, i_i, i_ll, i_lsh, i_i2l, i_l2i, i_lcmp, i_dup, i_pop, i_dup2, i_ifeq, i_ifne, i_iflt, i_ifge, i_ifgt, i_ifle, i_cmpeq, i_cmpne, i_cmplt, i_cmpge, i_cmpgt, i_cmple, i_ifnull, i_ifnonnull, i_getf, am_wr, i_putI, i_putZ, i_putR, i_iald, i_iast, i_aald, i_aast, i_alen, i_newi, i_newq, i_new, i_recv, i_iret, i_zret, i_lret, i_aret, i_vret, List.getElem?_cons_zero, List.getElem?_cons_succ, Option.bind_some, Option.toList_some, Option.toList_none, List.cons_append, List.nil_append, x_nI, am_put, am_put2, List.length_cons, List.length_nil, List.set_cons_zero, List.set_cons_succ, Nat.reduceAdd, Nat.reduceLT, Nat.reduceLeDiff, Nat.reduceEqDiff, Nat.add_left_cancel_iff, Nat.add_eq_left, Nat.left_eq_add, Nat.succ_ne_self, Nat.reduceSub, reduceIte, ite_self, eq_self, or_true, true_or, or_false, false_or, or_self, i10, not_true_eq_false, not_false_eq_true, x_call1, x_call2, x_call3, x_call4, x_call5, x_call6, x_sl0, x_sli, x_slr, x_sln, x_sll, am_ent, List.map_nil, List.map_cons, List.sum_nil, List.sum_cons, Value.category, and_true, true_and, and_self, Nat.zero_le, List.replicate_succ, List.replicate_zero, List.reduceReplicate, x_obj_set, x_row_set, x_len_set, x_obx, x_rox, x_rv, x_obj hB.obj, e1, c1]
      all_goals rfl
    · rw [(hx t0 h1 h2 h3).1] at c1
      exact absurd c1 (nI_pos (by have := h2.1; omega))
  · by_cases c2 : rd D (c + 4) 4 ≤ 4
    · obtain ⟨n, hn, en⟩ := nI_of2 (M := 4) (n := 4) rfl c1 c2
      obtain ⟨C, ok, s2, c3, e2, q1, q2, q3, q4, q5, q6, q7⟩ := k_rdim18 (d := d) (D := D) hdj hn n 0 (by omega) (o4 := none) (o5 := none) hS1 hP b1 (by omega)
      refine ⟨C, ok, s2, c3, ?_, q1, q2, q3, q4, by omega, (f1.mono (fun z hz => Or.inr hz)).trans q6, fun t0 h1 h2 h3 h5 => ?_⟩
      · refine e_123 ?_; simp only [b_123, i_int, i_long, i_null, i_stat, i_iload, i_lload, i_aload, i_istore, i_astore, i_lstore, i_iinc, i_ii, i_idz, i_i, i_ll, i_lsh, i_i2l, i_l2i, i_lcmp, i_dup, i_pop, i_dup2, i_ifeq, i_ifne, i_iflt, i_ifge, i_ifgt, i_ifle, i_cmpeq, i_cmpne, i_cmplt, i_cmpge, i_cmpgt, i_cmple, i_ifnull, i_ifnonnull, i_getf, am_wr, i_putI, i_putZ, i_putR, i_iald, i_iast, i_aald, i_aast, i_alen, i_newi, i_newq, i_new, i_recv, i_iret, i_zret, i_lret, i_aret, i_vret, List.getElem?_cons_zero, List.getElem?_cons_succ, Option.bind_some, Option.toList_some, Option.toList_none, List.cons_append, List.nil_append, x_nI, am_put, am_put2, List.length_cons, List.length_nil, List.set_cons_zero, List.set_cons_succ, Nat.reduceAdd, Nat.reduceLT, Nat.reduceLeDiff, Nat.reduceEqDiff, Nat.add_left_cancel_iff, Nat.add_eq_left, Nat.left_eq_add, Nat.succ_ne_self, Nat.reduceSub, reduceIte, ite_self, eq_self, or_true, true_or, or_false, false_or, or_self, i10, not_true_eq_false, not_false_eq_true, x_call1, x_call2, x_call3, x_call4, x_call5, x_call6, x_sl0, x_sli, x_slr, x_sln, x_sll, am_ent, List.map_nil, List.map_cons, List.sum_nil, List.sum_cons, Value.category, and_true, true_and, and_self, Nat.zero_le, List.replicate_succ, List.replicate_zero, List.reduceReplicate, x_obj_set, x_row_set, x_len_set, x_obx, x_rox, x_rv, x_obj hB.obj, e1, c1, c2]
        rw [en]
        exact e2
      · obtain ⟨i1, i2⟩ := hx t0 h1 h2 h3
        have en0 : n = t0.1.1 := (nI_eq (by omega) (by have := h2.1; omega)).mp (en.symm.trans i1)
        subst en0
        exact q7 t0 (c + 8) i2 rfl h5 (by omega)
    · refine ⟨B1, false, s, c + 8, ?_, hS1, hP, rfl, b1, by omega, f1.mono (fun z hz => Or.inr hz), fun t0 h1 h2 h3 _ => ?_⟩
      · refine e_123 ?_; simp only [b_123, i_int, i_long, i_null, i_stat, i_iload, i_lload, i_aload, i_istore, i_astore, i_lstore, i_iinc, i_ii, i_idz, i_i, i_ll, i_lsh, i_i2l, i_l2i, i_lcmp, i_dup, i_pop, i_dup2, i_ifeq, i_ifne, i_iflt, i_ifge, i_ifgt, i_ifle, i_cmpeq, i_cmpne, i_cmplt, i_cmpge, i_cmpgt, i_cmple, i_ifnull, i_ifnonnull, i_getf, am_wr, i_putI, i_putZ, i_putR, i_iald, i_iast, i_aald, i_aast, i_alen, i_newi, i_newq, i_new, i_recv, i_iret, i_zret, i_lret, i_aret, i_vret, List.getElem?_cons_zero, List.getElem?_cons_succ, Option.bind_some, Option.toList_some, Option.toList_none, List.cons_append, List.nil_append, x_nI, am_put, am_put2, List.length_cons, List.length_nil, List.set_cons_zero, List.set_cons_succ, Nat.reduceAdd, Nat.reduceLT, Nat.reduceLeDiff, Nat.reduceEqDiff, Nat.add_left_cancel_iff, Nat.add_eq_left, Nat.left_eq_add, Nat.succ_ne_self, Nat.reduceSub, reduceIte, ite_self, eq_self, or_true, true_or, or_false, false_or, or_self, i10, not_true_eq_false, not_false_eq_true, x_call1, x_call2, x_call3, x_call4, x_call5, x_call6, x_sl0, x_sli, x_slr, x_sln, x_sll, am_ent, List.map_nil, List.map_cons, List.sum_nil, List.sum_cons, Value.category, and_true, true_and, and_self, Nat.zero_le, List.replicate_succ, List.replicate_zero, List.reduceReplicate, x_obj_set, x_row_set, x_len_set, x_obx, x_rox, x_rv, x_obj hB.obj, e1, c1, c2]
        all_goals rfl
      · have h4 := h2.1
        rw [(hx t0 h1 h2 h3).1] at c2
        exact absurd (nI_le (b := 4) h4 (by decide)) c2
