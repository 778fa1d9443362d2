/-! a store in the form in which it is defined -/
def nrmS (s : sg_S) : sg_S := (s.1, s.2.1, s.2.2.1, (fun u => newV (s.2.2.2.1 u).1 (s.2.2.2.1 u).2.1 (axa (s.2.2.2.1 u)) (axb (s.2.2.2.1 u)) (s.2.2.2.1 u).2.2.2.2.1), s.2.2.2.2)
theorem nz_ax {s : sg_S} {v : Nat} (hs : STv s) (hv : v < s.2.2.1) : ((nrmS s).2.2.2.1 v).2.2.1 = (s.2.2.2.1 v).2.2.1 ∧ ∀ k, k < (s.2.2.2.1 v).2.2.1 → ((nrmS s).2.2.2.1 v).2.2.2.1 k = (s.2.2.2.1 v).2.2.2.1 k := by
  obtain ⟨-, x2, x3, -⟩ := hs.2.2.2.1 v hv
  have h4 := hs.1
  have ne : ∀ k, k < (s.2.2.2.1 v).2.2.1 → nI ((s.2.2.2.1 v).2.2.2.1 k) ≠ -1 := fun k hk => nI_ne_m1 (by have := x3 k hk; omega)
  have cl : ∀ k, k < (s.2.2.2.1 v).2.2.1 → (nI ((s.2.2.2.1 v).2.2.2.1 k)).toNatClampNeg = (s.2.2.2.1 v).2.2.2.1 k := fun k hk => nI_clamp (by have := x3 k hk; omega)
  refine ⟨?_, fun k hk => ?_⟩
  · show axn (axa (s.2.2.2.1 v)) (axb (s.2.2.2.1 v)) = _
    unfold axn axa axb
    rcases (show (s.2.2.2.1 v).2.2.1 = 0 ∨ (s.2.2.2.1 v).2.2.1 = 1 ∨ (s.2.2.2.1 v).2.2.1 = 2 by omega) with h | h | h
    · rw [if_pos (if_pos h), h]
    · rw [if_neg (by rw [if_neg (by omega)]; exact ne 0 (by omega)), if_pos (if_pos (by omega)), h]
    · rw [if_neg (by rw [if_neg (by omega)]; exact ne 0 (by omega)), if_neg (by rw [if_neg (by omega)]; exact ne 1 (by omega)), h]
  · show (if k = 0 then (axa (s.2.2.2.1 v)).toNatClampNeg else (axb (s.2.2.2.1 v)).toNatClampNeg) = _
    unfold axa axb
    rcases (show k = 0 ∨ k = 1 by omega) with rfl | rfl
    · rw [if_pos rfl, if_neg (by omega)]
      exact cl 0 hk
    · rw [if_neg (by decide), if_neg (by omega)]
      exact cl 1 hk
theorem nz_l0 {s : sg_S} {v : Nat} (hs : STv s) (hv : v < s.2.2.1) : sg_l0 (nrmS s) v = sg_l0 s v := by
  obtain ⟨e1, e2⟩ := nz_ax hs hv
  unfold sg_l0
  rw [e1]
  split
  · rename_i c
    rw [e2 0 c]
    rfl
  · rfl
theorem nz_l1 {s : sg_S} {v : Nat} (hs : STv s) (hv : v < s.2.2.1) : sg_l1 (nrmS s) v = sg_l1 s v := by
  obtain ⟨e1, e2⟩ := nz_ax hs hv
  unfold sg_l1
  rw [e1]
  split
  · rename_i c
    rw [e2 1 c]
    rfl
  · rfl
theorem nz_ps {s : sg_S} {v : Nat} (hs : STv s) (hv : v < s.2.2.1) : sg_ps (nrmS s) v = sg_ps s v := by
  unfold sg_ps sg_cn
  rw [nz_l0 hs hv, nz_l1 hs hv]
  rfl
theorem nz_nr {s : sg_S} (hs : STv s) : sg_nr (nrmS s) = sg_nr s := by
  unfold sg_nr
  exact sg_sum_congr (fun v hv => by rw [nz_l0 hs hv])
theorem nz_hs {s : sg_S} (hs : STv s) : sg_hs (nrmS s) = sg_hs s := by
  unfold sg_hs
  congr 1
  exact sg_sum_congr (fun v hv => by rw [(nz_ax hs hv).1]; rfl)
theorem nz_pf {s : sg_S} (hs : STv s) {n : Nat} (hn : n ≤ s.2.2.1) : sg_pf (nrmS s) n = sg_pf s n := by
  unfold sg_pf
  exact sg_sum_congr (fun v hv => by rw [nz_l0 hs (by omega), nz_ps hs (by omega)])
theorem nz_pg {s : sg_S} (hs : STv s) {n : Nat} (hn : n ≤ s.2.2.1) : sg_pg (nrmS s) n = sg_pg s n := by
  unfold sg_pg
  exact sg_sum_congr (fun v hv => by rw [nz_l0 hs (by omega), nz_ps hs (by omega)])
theorem nz_bg {s : sg_S} {v : Nat} (hs : STv s) (hv : v < s.2.2.1) : sg_bg (nrmS s) v = sg_bg s v := by
  unfold sg_bg
  rw [nz_l0 hs hv, nz_hs hs, nz_pf hs (show (nrmS s).2.2.1 ≤ s.2.2.1 from Nat.le_refl _), nz_pf hs (show v ≤ s.2.2.1 by omega), nz_pg hs (show v ≤ s.2.2.1 by omega)]
  rfl
theorem nz_rs {s : sg_S} (hs : STv s) : sg_rs (nrmS s) = sg_rs s := by
  unfold sg_rs
  rw [nz_nr hs]
  split
  · exact sg_sum_congr (fun v hv => by rw [nz_l0 hs hv, nz_l1 hs hv]; rfl)
  · exact nz_pg hs (Nat.le_refl _)
theorem nz_tot {s : sg_S} (hs : STv s) (r : Nat) : sg_tot (nrmS s) r = sg_tot s r := by
  unfold sg_tot
  rw [nz_hs hs, nz_rs hs, nz_pf hs (show (nrmS s).2.2.1 ≤ s.2.2.1 from Nat.le_refl _)]
  rfl
theorem nz_imv {s : sg_S} {v : Nat} (hs : STv s) (hv : v < s.2.2.1) : im_v (nrmS s) v = im_v s v := by
  obtain ⟨e1, e2⟩ := nz_ax hs hv
  unfold im_v
  rw [e1, nz_ps hs hv, nz_bg hs hv, sg_cat_congr (fun k hk => by rw [e2 k hk])]
  rfl
theorem nz_imh {s : sg_S} (hs : STv s) : im_h (nrmS s) = im_h s := by
  unfold im_h
  congr 1
  exact sg_cat_congr (fun v hv => nz_imv hs hv)
theorem nz_v {s : sg_S} (hs : STv s) : STv (nrmS s) := by
  refine ⟨hs.1, hs.2.1, hs.2.2.1, fun v hv => ?_, hs.2.2.2.2⟩
  obtain ⟨x1, x2, x3, x4⟩ := hs.2.2.2.1 v hv
  obtain ⟨e1, e2⟩ := nz_ax hs hv
  refine ⟨x1, by rw [e1]; exact x2, fun k hk => ?_, by rw [nz_l1 hs hv]; exact x4⟩
  rw [e1] at hk
  rw [e2 k hk]
  exact x3 k hk
theorem nz_nrm {s : sg_S} {v : Nat} (hs : STv s) (hv : v < s.2.2.1) : nrm (nrmS s) v := by
  obtain ⟨e1, e2⟩ := nz_ax hs hv
  have ea : axa ((nrmS s).2.2.2.1 v) = axa (s.2.2.2.1 v) := by
    unfold axa
    rw [e1]
    split
    · rfl
    · rw [e2 0 (by omega)]
  have eb : axb ((nrmS s).2.2.2.1 v) = axb (s.2.2.2.1 v) := by
    unfold axb
    rw [e1]
    split
    · rfl
    · rw [e2 1 (by omega)]
  unfold nrm
  rw [ea, eb]
  rfl
theorem img_seg (s : sg_S) : seg (img s) 0 (im_h s) := by
  unfold img
  rw [List.append_assoc]
  exact seg_self
/-- a store whose image the bytes are gives a wanted store -/
theorem WT_of {D : List Nat} {s : sg_S} (hs : STv s) (hP : HP s) (ht : sg_tot s s.2.2.2.2 = D.length) (hr : s.2.2.2.2 = 0 ∨ 0 < sg_nr s) (hi : img s = D) : WT D (nrmS s) := by
  refine ⟨hP, nz_v hs, fun v hv => nz_nrm hs hv, ?_, (nz_tot hs _).trans ht, ?_⟩
  · rw [nz_imh hs, ← hi]
    exact img_seg s
  · rw [nz_nr hs]
    exact hr
theorem ST.emp {b : Nat} {A : am_H} {s : sg_S} {ρ : Nat → sg_R} (h : ST b A (clrS s) ρ) (t0 : sg_S) : ST b A (emp t0) ρ := by
  obtain ⟨hs, hb, ⟨g1, g2, g3, q, a0, a1, a2, a3, a4, a5, a6, a7⟩, hA, hV, hR⟩ := h
  obtain ⟨h1, h2, h3, h4, q0, q1, q2, q3, q4, q5, q6, q7⟩ := hA
  exact ⟨⟨Nat.zero_le _, fun k hk => absurd hk (Nat.not_lt_zero k), Nat.zero_le _, fun v hv => absurd hv (Nat.not_lt_zero v), by show 0 < 2147483648; decide⟩, hb, ⟨g1, g2, g3, q, a0, a1, a2, a3, a4, a5, fun k hk => absurd hk (Nat.not_lt_zero k), fun v hv => absurd hv (Nat.not_lt_zero v)⟩, ⟨h1, h2, h3, h4, q0, q1, q2, q3, q4, q5, q6, fun k hk => absurd hk (Nat.not_lt_zero k)⟩, hV, fun v hv => absurd hv (Nat.not_lt_zero v)⟩
theorem clrR_0 (ρ : Nat → sg_R) {v : Nat} (hv : v < 5) : (clrR ρ 5 v).2.2.2.2.2.2.1.1 = 0 := by
  unfold clrR
  rw [if_pos hv]
theorem x_set_set (A : am_H) (p : Nat) (e e2 : am_C) : am_set (am_set A p e) p e2 = am_set A p e2 := by
  unfold am_set
  congr 2
  funext q
  by_cases c : q = p <;> simp [c]
section
variable {A : am_H} {b b' : Nat} {df : Bool} {s : sg_S} {ρ : Nat → sg_R} {s' : sg_S} {ρ' : Nat → sg_R} {q : Nat → Nat × Nat × Nat} {D : List Nat} {c : Nat} {bs : List Nat} {c2 : Nat}
/-- the class's two stores changed places, its mode is data -/
theorem CX.swap (h : CX A b b' df s ρ s' ρ' q D c bs c2) (hz : ∀ v, s'.2.2.1 ≤ v → v < 5 → (ρ' v).2.2.2.2.2.2.1.1 = 0) : CX (am_set A 5 (.inr (.inr (5, co_fs b' b false)))) b' b false s' ρ' s ρ q D c bs c2 ∧ am_fr atC A (am_set A 5 (.inr (.inr (5, co_fs b' b false)))) := by
  obtain ⟨h1, h2, h3, h4, h5, ⟨h6, h7, h8⟩, h9, h10, h11⟩ := h
  have hf : am_fr (fun z => z = 5) A (am_set A 5 (.inr (.inr (5, co_fs b' b false)))) := (am_fr.refl A).set rfl
  refine ⟨⟨h1.kept hf (fun z hz => by omega), x_set_self _ _ _, h3.symm.imp (fun e => ⟨e.2, e.1⟩) (fun e => ⟨e.2, e.1⟩), h5.kept hf (fun z z1 z2 => by omega), h4.kept hf (fun z z1 z2 => by omega), ⟨h6.kept hf (by omega), h7.kept hf (by omega), h8.kept hf (by omega)⟩, h9.kept hf (by omega) (by omega), h10.kept hf (by omega) (by omega), hz⟩, hf.mono (fun z hz => ?_)⟩
  subst hz
  unfold atC
  omega
theorem CX.spare2 {B : am_H} {s2 : sg_S} {ρ2 : Nat → sg_R} {c3 : Nat} (h : CX A b b' df s ρ s' ρ' q D c bs c2) (hf : am_fr (at47 b' 99) A B) (hst : am_St B) (hS : ST b' B s2 ρ2) (hB : BR 99 B D c3) : CX B b b' df s ρ s2 ρ2 q D c3 bs c2 ∧ am_fr atC A B := by
  obtain ⟨h1, h2, h3, h4, h5, ⟨h6, h7, h8⟩, h9, h10, h11⟩ := h
  have n : ∀ z, z < 6 ∨ 101 ≤ z ∨ (96 ≤ z ∧ z < 99) → ¬ at47 b' 99 z := fun z hz e => by
    rcases e with e | e
    · unfold at45 at e; omega
    · unfold at2 at e; omega
  have n2 : ∀ z, b ≤ z → z < b + 45 → ¬ at47 b' 99 z := fun z z1 z2 e => by
    rcases e with e | e
    · unfold at45 at e; omega
    · unfold at2 at e; omega
  refine ⟨⟨hst, (hf.2.2 _ (n _ (by omega))).trans h2, h3, h4.kept hf n2, hS, ⟨h6.kept hf (n _ (by omega)), h7.kept hf (n _ (by omega)), h8.kept hf (n _ (by omega))⟩, hB, h10.kept hf (n _ (by omega)) (n _ (by omega)), h11⟩, hf.mono (fun z hz => ?_)⟩
  unfold atC
  rcases hz with e | e
  · unfold at45 at e; omega
  · unfold at2 at e; omega
/-- taking a draft over: refused, or the store read, which has the draft as its image -/
theorem c_open {d : Nat} (T : Option sg_S) (h : CX A b b' df s ρ s' ρ' q D c bs c2) (hT : ∀ t0, T = some t0 → WT D t0) : ∃ B ok t ρt c3 bs2 c4, pev (d + 7) 113 [some (.ref 5), none] [] A = some (some (.int (if ok then nI D.length else -9)), B) ∧ am_fr atC A B ∧ (ok = false → ∃ s2' ρ2', CX B b b' df s ρ s2' ρ2' q D c3 bs2 c4) ∧ (ok = true → CX B b' b false t ρt s ρ q D c3 bs2 c4 ∧ HP t ∧ sg_tot t t.2.2.2.2 = D.length ∧ (t.2.2.2.2 = 0 ∨ 0 < sg_nr t) ∧ img t = D) ∧ ∀ t0, T = some t0 → t = setAll t0 (celF D t0 (sg_hs t0)) ∧ ok = decide (img t = D) := by
  obtain ⟨h1, h2, h3, h4, h5, h6, h9, h10, h11⟩ := id h
  have hD8 : D.length ≤ 800 := by obtain ⟨g, -, -, q3, -⟩ := h9; exact q3
  obtain ⟨B1, e1, k1, f1⟩ := k_sclear (d := d + 5) h5
  obtain ⟨cx1, F1⟩ := h.spare f1 k1
  -- the empty store, as it is wanted
  obtain ⟨es, he1, he2, he3, he4, he5, he6⟩ : ∃ es, ST b' B1 es (clrR ρ' 5) ∧ es.1.1 = 0 ∧ es.2.1.1 = 0 ∧ es.2.2.1 = 0 ∧ es.2.2.2.2 = 0 ∧ ∀ t0, T = some t0 → WT D t0 ∧ es = emp t0 := by
    cases T with
    | none => exact ⟨_, k1, rfl, rfl, rfl, rfl, fun t0 e => (by cases e)⟩
    | some t0 => exact ⟨_, k1.emp t0, rfl, rfl, rfl, rfl, fun t1 e => by cases e; exact ⟨hT t0 rfl, rfl⟩⟩
  obtain ⟨B2, ok, t, ρt, c3, e2, st2, t2, b2, f2, g2, x2⟩ := k_readFrom (d := d) (D := D) T (by omega) cx1.1 he1 he2 he3 he4 he5 (fun v hv => clrR_0 ρ' hv) cx1.2.2.2.2.2.2.1 he6
  obtain ⟨cx2, F2⟩ := cx1.spare2 f2 st2 t2 b2
  have o2 : B2.2.2 5 = some (.inr (.inr (5, co_fs b b' df))) := cx2.2.1
  cases ok with
  | false =>
    refine ⟨B2, false, t, ρt, c3, bs, c2, ?_, F1.trans F2, fun _ => ⟨t, ρt, cx2⟩, fun e => (by cases e), fun t0 e => absurd (x2 t0 e).1 (by decide)⟩
    refine e_113 ?_; simp only [b_113, i_int, i_long, i_null, i_stat, i_iload, i_lload, i_aload, i_istore, i_astore, i_lstore, i_iinc, i_ii, i_idz, i_i, i_ll, i_lsh, i_i2l, i_l2i, i_lcmp, i_dup, i_pop, i_dup2, i_ifeq, i_ifne, i_iflt, i_ifge, i_ifgt, i_ifle, i_cmpeq, i_cmpne, i_cmplt, i_cmpge, i_cmpgt, i_cmple, i_ifnull, i_ifnonnull, i_getf, am_wr, i_putI, i_putZ, i_putR, i_iald, i_iast, i_aald, i_aast, i_alen, i_newi, i_newq, i_new, i_recv, i_iret, i_zret, i_lret, i_aret, i_vret, List.getElem?_cons_zero, List.getElem?_cons_succ, Option.bind_some, Option.toList_some, Option.toList_none, List.cons_append, List.nil_append, x_nI, am_put, am_put2, List.length_cons, List.length_nil, List.set_cons_zero, List.set_cons_succ, Nat.reduceAdd, Nat.reduceLT, Nat.reduceLeDiff, Nat.reduceEqDiff, Nat.add_left_cancel_iff, Nat.add_eq_left, Nat.left_eq_add, Nat.succ_ne_self, Nat.reduceSub, reduceIte, ite_self, eq_self, or_true, true_or, or_false, false_or, or_self, i10, not_true_eq_false, not_false_eq_true, x_call1, x_call2, x_call3, x_call4, x_call5, x_call6, x_sl0, x_sli, x_slr, x_sln, x_sll, am_ent, List.map_nil, List.map_cons, List.sum_nil, List.sum_cons, Value.category, and_true, true_and, and_self, Nat.zero_le, List.replicate_succ, List.replicate_zero, List.reduceReplicate, x_obj_set, x_row_set, x_len_set, x_obx, x_rox, x_rv, x_obj h2, co_fs, x_obj h5.obj, e1, x_obj cx1.2.1, x_obj k1.obj, e2, bz_false]
    all_goals rfl
  | true =>
    obtain ⟨y1, y2, y3, y4⟩ := g2 rfl
    obtain ⟨B3, e3, b3, f3⟩ := k_writeTo (d := d + 1) (r := 101) (by omega) (by omega) st2 t2 cx2.2.2.2.2.2.2.2.1
    obtain ⟨cx3, F3⟩ := cx2.image f3 b3
    have e4 := k_matches (d := d + 6) b3 cx3.2.2.2.2.2.2.1
    have hx : ∀ t0, T = some t0 → t = setAll t0 (celF D t0 (sg_hs t0)) := fun t0 e => (x2 t0 e).2
    cases hm : decide (img t = D) with
    | false =>
      rw [hm] at e4
      refine ⟨B3, false, t, ρt, c3, _, _, ?_, (F1.trans F2).trans F3, fun _ => ⟨t, ρt, cx3⟩, fun e => (by cases e), fun t0 e => ⟨hx t0 e, hm.symm⟩⟩
      refine e_113 ?_; simp only [b_113, i_int, i_long, i_null, i_stat, i_iload, i_lload, i_aload, i_istore, i_astore, i_lstore, i_iinc, i_ii, i_idz, i_i, i_ll, i_lsh, i_i2l, i_l2i, i_lcmp, i_dup, i_pop, i_dup2, i_ifeq, i_ifne, i_iflt, i_ifge, i_ifgt, i_ifle, i_cmpeq, i_cmpne, i_cmplt, i_cmpge, i_cmpgt, i_cmple, i_ifnull, i_ifnonnull, i_getf, am_wr, i_putI, i_putZ, i_putR, i_iald, i_iast, i_aald, i_aast, i_alen, i_newi, i_newq, i_new, i_recv, i_iret, i_zret, i_lret, i_aret, i_vret, List.getElem?_cons_zero, List.getElem?_cons_succ, Option.bind_some, Option.toList_some, Option.toList_none, List.cons_append, List.nil_append, x_nI, am_put, am_put2, List.length_cons, List.length_nil, List.set_cons_zero, List.set_cons_succ, Nat.reduceAdd, Nat.reduceLT, Nat.reduceLeDiff, Nat.reduceEqDiff, Nat.add_left_cancel_iff, Nat.add_eq_left, Nat.left_eq_add, Nat.succ_ne_self, Nat.reduceSub, reduceIte, ite_self, eq_self, or_true, true_or, or_false, false_or, or_self, i10, not_true_eq_false, not_false_eq_true, x_call1, x_call2, x_call3, x_call4, x_call5, x_call6, x_sl0, x_sli, x_slr, x_sln, x_sll, am_ent, List.map_nil, List.map_cons, List.sum_nil, List.sum_cons, Value.category, and_true, true_and, and_self, Nat.zero_le, List.replicate_succ, List.replicate_zero, List.reduceReplicate, x_obj_set, x_row_set, x_len_set, x_obx, x_rox, x_rv, x_obj h2, co_fs, x_obj h5.obj, e1, x_obj cx1.2.1, x_obj k1.obj, e2, bz_true, x_obj cx2.2.1, x_obj t2.obj, e3, x_obj cx3.2.1, x_obj b3.obj, e4, bz_false]
      all_goals rfl
    | true =>
      rw [hm] at e4
      obtain ⟨cx4, F4⟩ := cx3.swap y4
      have b9 := cx3.2.2.2.2.2.2.1
      refine ⟨_, true, t, ρt, c3, _, _, ?_, ((F1.trans F2).trans F3).trans F4, fun e => (by cases e), fun _ => ⟨cx4, y1, y2, y3, of_decide_eq_true hm⟩, fun t0 e => ⟨hx t0 e, hm.symm⟩⟩
      refine e_113 ?_; simp only [b_113, i_int, i_long, i_null, i_stat, i_iload, i_lload, i_aload, i_istore, i_astore, i_lstore, i_iinc, i_ii, i_idz, i_i, i_ll, i_lsh, i_i2l, i_l2i, i_lcmp, i_dup, i_pop, i_dup2, i_ifeq, i_ifne, i_iflt, i_ifge, i_ifgt, i_ifle, i_cmpeq, i_cmpne, i_cmplt, i_cmpge, i_cmpgt, i_cmple, i_ifnull, i_ifnonnull, i_getf, am_wr, i_putI, i_putZ, i_putR, i_iald, i_iast, i_aald, i_aast, i_alen, i_newi, i_newq, i_new, i_recv, i_iret, i_zret, i_lret, i_aret, i_vret, List.getElem?_cons_zero, List.getElem?_cons_succ, Option.bind_some, Option.toList_some, Option.toList_none, List.cons_append, List.nil_append, x_nI, am_put, am_put2, List.length_cons, List.length_nil, List.set_cons_zero, List.set_cons_succ, Nat.reduceAdd, Nat.reduceLT, Nat.reduceLeDiff, Nat.reduceEqDiff, Nat.add_left_cancel_iff, Nat.add_eq_left, Nat.left_eq_add, Nat.succ_ne_self, Nat.reduceSub, reduceIte, ite_self, eq_self, or_true, true_or, or_false, false_or, or_self, i10, not_true_eq_false, not_false_eq_true, x_call1, x_call2, x_call3, x_call4, x_call5, x_call6, x_sl0, x_sli, x_slr, x_sln, x_sll, am_ent, List.map_nil, List.map_cons, List.sum_nil, List.sum_cons, Value.category, and_true, true_and, and_self, Nat.zero_le, List.replicate_succ, List.replicate_zero, List.reduceReplicate, x_obj_set, x_row_set, x_len_set, x_obx, x_rox, x_rv, x_obj h2, co_fs, x_obj h5.obj, e1, x_obj cx1.2.1, x_obj k1.obj, e2, bz_true, x_obj cx2.2.1, x_obj t2.obj, e3, x_obj cx3.2.1, x_obj b3.obj, e4, x_own (show 5 ≤ 5 by omega), x_obj b9.obj, x_set_set]
      all_goals rfl
end
