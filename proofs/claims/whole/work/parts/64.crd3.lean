/-! the class reads variables -/
/-- a heap that is B within the store at b and A elsewhere -/
def hmix (A B : am_H) (b : Nat) : am_H := (A.1, A.2.1, fun q => if b ≤ q ∧ q < b + 45 then B.2.2 q else A.2.2 q)
theorem hmix_in {A B : am_H} {b q : Nat} (h1 : b ≤ q) (h2 : q < b + 45) : (hmix A B b).2.2 q = B.2.2 q := if_pos ⟨h1, h2⟩
theorem ST.of_mix {b : Nat} {A B : am_H} {s : sg_S} {ρ : Nat → sg_R} (h : ST b (hmix A B b) s ρ) : ST b B s ρ :=
  h.kept (P := fun q => ¬ (b ≤ q ∧ q < b + 45)) (B := ((hmix A B b).1, (hmix A B b).2.1, B.2.2)) ⟨rfl, rfl, fun q hq => (hmix_in (by omega) (by omega)).symm⟩ (fun q h1 h2 h3 => h3 ⟨h1, h2⟩)
theorem AL.to_mix {b p : Nat} {A B : am_H} {a : sg_A} (h : AL p B a) (h1 : b ≤ p) (h2 : p + 5 ≤ b + 45) : AL p (hmix A B b) a :=
  h.kept (P := fun q => ¬ (p ≤ q ∧ q < p + 5)) (B := (B.1, B.2.1, (hmix A B b).2.2)) ⟨rfl, rfl, fun q hq => hmix_in (by omega) (by omega)⟩ (fun q h1 h2 h3 => h3 ⟨h1, h2⟩)
theorem mix_fr {b p r : Nat} {A B : am_H} (hf : am_fr (atAR p r) A B) (hdj : r + 1 < b ∨ b + 45 ≤ r) : am_fr (at5 p) A (hmix A B b) := by
  refine ⟨rfl, rfl, fun q hq => ?_⟩
  show (if b ≤ q ∧ q < b + 45 then B.2.2 q else A.2.2 q) = A.2.2 q
  split
  · refine hf.2.2 q (fun e => ?_)
    rcases e with e | e
    · exact hq e
    · unfold at2 at e
      omega
  · rfl
theorem ST.setL0 {b r : Nat} {A B : am_H} {s : sg_S} {ρ : Nat → sg_R} {a : sg_A} (h : ST b A s ρ) (hB : AL (b + 40) B a) (hf : am_fr (atAR (b + 40) r) A B) (hdj : r + 1 < b ∨ b + 45 ≤ r) : ST b B (setAt s 0 a) ρ :=
  (h.setAt0 (hB.to_mix (by omega) (by omega)) (mix_fr hf hdj)).of_mix
theorem ST.setL {b r k : Nat} {A B : am_H} {s : sg_S} {ρ : Nat → sg_R} {a : sg_A} (h : ST b A s ρ) (hk : k < 5) (hB : AL (b + 5 + 7 * k + 1) B a) (hf : am_fr (atAR (b + 5 + 7 * k + 1) r) A B) (hdj : r + 1 < b ∨ b + 45 ≤ r) : ST b B (setAt s (k + 1) a) (fun u => if u = k then setA (ρ k) a else ρ u) :=
  (h.setAtS hk (hB.to_mix (by omega) (by omega)) (mix_fr hf hdj)).of_mix
theorem atAR_47 {b p r : Nat} (h1 : b ≤ p) (h2 : p + 5 ≤ b + 45) : ∀ q, atAR p r q → at47 b r q := fun q hq => hq.elim (fun e => Or.inl (by unfold at5 at e; unfold at45; omega)) Or.inr
theorem dv_neg {s : sg_S} {nm ty a b : Int32} (h : ¬ dv_ok s nm ty a b) : dv_c s nm ty a b < 0 := by
  unfold dv_c
  split
  · decide
  · rename_i c1
    split
    · decide
    · rename_i c2
      split
      · decide
      · rename_i c3
        split
        · decide
        · rename_i c4
          split
          · decide
          · rename_i c5
            refine absurd ?_ h
            simp only [Bool.or_eq_true, Bool.not_eq_true', not_or, Bool.not_eq_false, Bool.and_eq_true, not_and, decide_eq_true_eq, Bool.not_eq_true] at c1 c2
            refine ⟨c1.1, c1.2, ⟨?_, ?_, ?_, c3⟩, ?_, by omega⟩
            · have := c2.1.1
              cases ha : isDb s a with
              | true => exact Or.inr rfl
              | false => simpa [ha] using this
            · have := c2.1.2
              cases hb : isDb s b with
              | true => exact Or.inr rfl
              | false => simpa [hb] using this
            · intro ha
              simpa [ha] using c2.2
            · cases hf : fnd (fun v => (s.2.2.2.1 v).1) nm s.2.2.1 with
              | none => rfl
              | some k => rw [hf] at c4; simp at c4
theorem dv_pos {s : sg_S} {nm ty a b : Int32} (h : dv_ok s nm ty a b) : dv_c s nm ty a b = nI s.2.2.1 := by
  obtain ⟨h1, h2, ⟨h3, h4, h5, h6⟩, h7, h8⟩ := h
  unfold dv_c
  have k1 : (!isNb nm || !isTb ty) = false := by simp [h1, h2]
  have k2 : (!(decide (a = -1) || isDb s a) || !(decide (b = -1) || isDb s b) || (decide (a = -1) && !decide (b = -1))) = false := by
    have g1 : (decide (a = -1) || isDb s a) = true := by
      rcases h3 with h | h <;> simp [h]
    have g2 : (decide (b = -1) || isDb s b) = true := by
      rcases h4 with h | h <;> simp [h]
    have g3 : (decide (a = -1) && !decide (b = -1)) = false := by
      by_cases c : a = -1
      · simp [c, h5 c]
      · simp [c]
    rw [g1, g2, g3]
    rfl
  rw [k1, k2, h7]
  simp [h6, show ¬ 5 ≤ s.2.2.1 by omega]
theorem HP_addV {s : sg_S} {nm : Int32} {t : Nat} {a b : Int32} {at0 : sg_A} (h : HP s) (h1 : isNb nm = true) (h2 : fnd (fun v => (s.2.2.2.1 v).1) nm s.2.2.1 = none) (h0 : AV at0) : HP (addV s nm t a b at0) := by
  obtain ⟨⟨a1, a2, a3⟩, b1, b2, b3, b4, b5⟩ := h
  refine ⟨⟨a1, a2, fun v hv => ?_⟩, b1, ?_, b3, b4, fun v hv => ?_⟩
  · by_cases c : v = s.2.2.1
    · subst c
      rw [addV_new]
      exact ⟨h1, fun k hk => (h0.1 k hk).1⟩
    · have hv2 : v < s.2.2.1 + 1 := hv
      rw [addV_old (show v < s.2.2.1 by omega)]
      exact a3 v (by omega)
  · rw [addV_names]
    exact dst_add b2 h2
  · by_cases c : v = s.2.2.1
    · subst c
      rw [addV_new]
      exact h0
    · have hv2 : v < s.2.2.1 + 1 := hv
      rw [addV_old (show v < s.2.2.1 by omega)]
      exact b5 v (by omega)
theorem setAt_old {s : sg_S} {k v : Nat} {a : sg_A} (h : v ≠ k) : (setAt s (k + 1) a).2.2.2.1 v = s.2.2.2.1 v := by
  show (if v = k then _ else _) = _
  rw [if_neg h]
theorem HP_setV {s : sg_S} {a : sg_A} (h : HP s) : HP (setAt s (s.2.2.1 + 1) a) := by
  obtain ⟨⟨a1, a2, a3⟩, b1, b2, b3, b4, b5⟩ := h
  have e : (fun v => ((setAt s (s.2.2.1 + 1) a).2.2.2.1 v).1) = fun v => (s.2.2.2.1 v).1 := funext fun v => (setAt_var s (s.2.2.1 + 1) a v).1
  refine ⟨⟨a1, a2, fun v hv => ?_⟩, b1, by rw [e]; exact b2, b3, b4, fun v hv => ?_⟩
  · have hv2 : v < s.2.2.1 := hv
    rw [setAt_old (by omega)]
    exact a3 v hv
  · have hv2 : v < s.2.2.1 := hv
    rw [setAt_old (by omega)]
    exact b5 v hv
/-- the axes of a variable as the words that define it -/
def axa (x : sg_V) : Int32 := if x.2.2.1 = 0 then -1 else nI (x.2.2.2.1 0)
def axb (x : sg_V) : Int32 := if x.2.2.1 ≤ 1 then -1 else nI (x.2.2.2.1 1)
/-- variable v of t0 is as defined, with cells not written yet -/
def nrm (t0 : sg_S) (v : Nat) : Prop := t0.2.2.2.1 v = newV (t0.2.2.2.1 v).1 (t0.2.2.2.1 v).2.1 (axa (t0.2.2.2.1 v)) (axb (t0.2.2.2.1 v)) (t0.2.2.2.1 v).2.2.2.2.1
def cutV (t0 : sg_S) (v : Nat) : sg_S := (t0.1, t0.2.1, v, t0.2.2.2.1, 0)
theorem cut_axok {t0 : sg_S} {v w : Nat} (h : STv t0) (hv : v < t0.2.2.1) : axok (cutV t0 w) (axa (t0.2.2.2.1 v)) (axb (t0.2.2.2.1 v)) := by
  obtain ⟨x1, x2, x3, x4⟩ := h.2.2.2.1 v hv
  have h4 := h.1
  unfold axa axb
  have key : ∀ k, k < (t0.2.2.2.1 v).2.2.1 → isDb (cutV t0 w) (nI ((t0.2.2.2.1 v).2.2.2.1 k)) = true := fun k hk => isDb_of (s := cutV t0 w) (x3 k hk) (by show t0.1.1 < 1000; omega)
  refine ⟨?_, ?_, ?_, ?_⟩
  · by_cases c : (t0.2.2.2.1 v).2.2.1 = 0
    · exact Or.inl (if_pos c)
    · rw [if_neg c]
      exact Or.inr (key 0 (by omega))
  · by_cases c : (t0.2.2.2.1 v).2.2.1 ≤ 1
    · exact Or.inl (if_pos c)
    · rw [if_neg c]
      exact Or.inr (key 1 (by omega))
  · intro e
    by_cases c : (t0.2.2.2.1 v).2.2.1 = 0
    · exact if_pos (by omega)
    · rw [if_neg c] at e
      exact absurd e (isDb_ne (key 0 (by omega)))
  · by_cases c : (t0.2.2.2.1 v).2.2.1 ≤ 1
    · rw [if_pos c, lenO_m1]
      decide
    · rw [if_neg c]
      unfold lenO
      rw [if_pos (key 1 (by omega)), nI_clamp (by have := x3 1 (by omega); omega)]
      show t0.1.2.2 ((t0.2.2.2.1 v).2.2.2.1 1) ≠ 0
      unfold sg_l1 at x4
      rw [if_pos (by omega)] at x4
      omega
theorem cut_ok {t0 : sg_S} {v : Nat} (hP : HP t0) (h : STv t0) (hv : v < t0.2.2.1) : dv_ok (cutV t0 v) (t0.2.2.2.1 v).1 (nI (t0.2.2.2.1 v).2.1) (axa (t0.2.2.2.1 v)) (axb (t0.2.2.2.1 v)) := by
  obtain ⟨⟨t1, t4⟩, -⟩ := h.2.2.2.1 v hv
  refine ⟨(hP.1.2.2 v hv).1, isTb_of t1 t4, cut_axok h hv, fnd_of_none (fun j hj e => ?_), by have := h.2.2.1; show v < 5; omega⟩
  have hj2 : j < v := hj
  have := hP.2.2.1 j v (by omega) hv e
  omega
theorem cut_add {t0 : sg_S} {v : Nat} (hn : nrm t0 v) : addV (cutV t0 v) (t0.2.2.2.1 v).1 (t0.2.2.2.1 v).2.1 (axa (t0.2.2.2.1 v)) (axb (t0.2.2.2.1 v)) (t0.2.2.2.1 v).2.2.2.2.1 = cutV t0 (v + 1) := by
  have e : (fun u => if u = v then newV (t0.2.2.2.1 v).1 (t0.2.2.2.1 v).2.1 (axa (t0.2.2.2.1 v)) (axb (t0.2.2.2.1 v)) (t0.2.2.2.1 v).2.2.2.2.1 else t0.2.2.2.1 u) = t0.2.2.2.1 := funext fun u => by
    by_cases c : u = v
    · rw [if_pos c, c]
      exact hn.symm
    · rw [if_neg c]
  unfold addV cutV
  simp only
  rw [e]
theorem setAt_same (s : sg_S) (k : Nat) : setAt s (k + 1) (s.2.2.2.1 k).2.2.2.2.1 = s := by
  have e : (fun v => if v = k then ((s.2.2.2.1 v).1, (s.2.2.2.1 v).2.1, (s.2.2.2.1 v).2.2.1, (s.2.2.2.1 v).2.2.2.1, (s.2.2.2.1 k).2.2.2.2.1, (s.2.2.2.1 v).2.2.2.2.2) else s.2.2.2.1 v) = s.2.2.2.1 := funext fun v => by
    by_cases c : v = k
    · subst c
      rw [if_pos rfl]
    · rw [if_neg c]
  unfold setAt
  simp only
  rw [e]
/-- what the rest of variable v looks like in the bytes -/
def vtl (t0 : sg_S) (v : Nat) : List Nat := im_a (t0.2.2.2.1 v).2.2.2.2.1 ++ wrd (t0.2.2.2.1 v).2.1 ++ wrd (sg_ps t0 v) ++ wrd (sg_bg t0 v)
theorem vtl_len (t0 : sg_S) (v : Nat) : (vtl t0 v).length = sg_ls (t0.2.2.2.1 v).2.2.2.2.1 + 12 := by
  simp only [vtl, List.length_append, im_a_len, wrd_len]
theorem k_rvar53 {d b r c : Nat} {D : List Nat} {ρ : Nat → sg_R} {A : am_H} {s : sg_S} {nm x u w : Int32} {o6 o7 : Option Value} (T : Option sg_S) (hdj : r + 1 < b ∨ b + 45 ≤ r) (hst : am_St A) (hS : ST b A s ρ) (hP : HP s) (h5 : s.2.2.1 < 5) (hz : ∀ v, s.2.2.1 ≤ v → v < 5 → (ρ v).2.2.2.2.2.2.1.1 = 0) (hB : BR r A D c) (hc : c < 50000) (hT : ∀ t0, T = some t0 → HP t0 ∧ STv t0 ∧ s.2.2.1 < t0.2.2.1 ∧ nrm t0 s.2.2.1 ∧ s = cutV t0 s.2.2.1 ∧ nm = (t0.2.2.2.1 s.2.2.1).1 ∧ u = axa (t0.2.2.2.1 s.2.2.1) ∧ w = axb (t0.2.2.2.1 s.2.2.1) ∧ seg D c (vtl t0 s.2.2.1) ∧ c % 4 = 0) : ∃ B ok s2 ρ2 c2, pev (d + 4) 134 [some (.ref b), some (.ref r), some (.ref (b + 5 + 7 * s.2.2.1 + 1)), some (.int nm), some (.int x), some (.int u), o6, o7] [.int w] A = some (some (.int (bz ok)), B) ∧ ST b B s2 ρ2 ∧ HP s2 ∧ (ok = true → s2.2.2.1 = s.2.2.1 + 1 ∧ ∀ v, s2.2.2.1 ≤ v → v < 5 → (ρ2 v).2.2.2.2.2.2.1.1 = 0) ∧ (s2.1 = s.1 ∧ s2.2.1 = s.2.1 ∧ s2.2.2.2.2 = s.2.2.2.2) ∧ BR r B D c2 ∧ c2 ≤ c + 140 ∧ am_fr (at47 b r) A B ∧ ∀ t0, T = some t0 → ok = true ∧ s2 = cutV t0 (s.2.2.1 + 1) ∧ c2 = c + (vtl t0 s.2.2.1).length := by
  have hr := hB.five
  have hb := hS.2.1
  obtain ⟨-, -, -, -, hVA, -⟩ := id hS
  obtain ⟨gg, p0, p1, p2, pA, p5⟩ := hVA s.2.2.1 h5
  obtain ⟨B1, ok, a2, c1, e1, l1, l2, l3, l4, l5, l6⟩ := k_aread (d := d) (D := D) (by omega) hst pA (hz _ (Nat.le_refl _) h5) hB hc
  -- the list that is taken to stand there
  obtain ⟨aa, ha1, ha2, ha3⟩ : ∃ aa, AL (b + 5 + 7 * s.2.2.1 + 1) B1 aa ∧ AV aa ∧ ∀ t0, T = some t0 → aa = (t0.2.2.2.1 s.2.2.1).2.2.2.2.1 ∧ ok = true ∧ c1 = c + sg_ls (t0.2.2.2.1 s.2.2.1).2.2.2.2.1 := by
    cases T with
    | none => exact ⟨a2, l1, l2, fun t0 e => (by cases e)⟩
    | some t0 =>
      obtain ⟨k1, k2, k3, k4, k5, k6, k7, k8, k9, k10⟩ := hT t0 rfl
      have hAV := k1.2.2.2.2.2 _ k3
      obtain ⟨j1, j2, j3⟩ := l6 _ hAV (seg_l (seg_l (seg_l k9))) k10
      exact ⟨_, j2, hAV, fun t1 e => by cases e; exact ⟨rfl, j1, j3⟩⟩
  have hS1 := hS.setL h5 ha1 l5 hdj
  have G1 : am_fr (at47 b r) A B1 := l5.mono (atAR_47 (by omega) (by omega))
  have hst1 : am_St B1 := hst.kept l5 (fun q q1 q2 => q2.elim (fun e => by unfold at5 at e; omega) (fun e => by unfold at2 at e; omega))
  cases ok with
  | false =>
    refine ⟨B1, false, _, _, c1, ?_, hS1, HP_setV hP, fun e => (by cases e), ⟨rfl, rfl, rfl⟩, l3, by omega, G1, fun t0 e => ?_⟩
    · refine e_134 ?_; simp only [b_134, i_int, i_long, i_null, i_stat, i_iload, i_lload, i_aload, i_istore, i_astore, i_lstore, i_iinc, i_ii, i_idz, i_i, i_ll, i_lsh, i_i2l, i_l2i, i_lcmp, i_dup, i_pop, i_dup2, i_ifeq, i_ifne, i_iflt, i_ifge, i_ifgt, i_ifle, i_cmpeq, i_cmpne, i_cmplt, i_cmpge, i_cmpgt, i_cmple, i_ifnull, i_ifnonnull, i_getf, am_wr, i_putI, i_putZ, i_putR, i_iald, i_iast, i_aald, i_aast, i_alen, i_newi, i_newq, i_new, i_recv, i_iret, i_zret, i_lret, i_aret, i_vret, List.getElem?_cons_zero, List.getElem?_cons_succ, Option.bind_some, Option.toList_some, Option.toList_none, List.cons_append, List.nil_append, x_nI, am_put, am_put2, List.length_cons, List.length_nil, List.set_cons_zero, List.set_cons_succ, Nat.reduceAdd, Nat.reduceLT, Nat.reduceLeDiff, Nat.reduceEqDiff, Nat.add_left_cancel_iff, Nat.add_eq_left, Nat.left_eq_add, Nat.succ_ne_self, Nat.reduceSub, reduceIte, ite_self, eq_self, or_true, true_or, or_false, false_or, or_self, i10, not_true_eq_false, not_false_eq_true, x_call1, x_call2, x_call3, x_call4, x_call5, x_call6, x_sl0, x_sli, x_slr, x_sln, x_sll, am_ent, List.map_nil, List.map_cons, List.sum_nil, List.sum_cons, Value.category, and_true, true_and, and_self, Nat.zero_le, List.replicate_succ, List.replicate_zero, List.reduceReplicate, x_obj_set, x_row_set, x_len_set, x_obx, x_rox, x_rv, x_obj pA.obj, e1, bz_false]
      all_goals rfl
    · exact absurd (ha3 t0 e).2.1 (by decide)
  | true =>
    obtain ⟨B2, e2, b2, f2⟩ := k_takeWord (d := d + 2) (by omega) l3
    obtain ⟨B3, e3, b3, f3⟩ := k_takeWord (d := d + 2) (by omega) b2
    obtain ⟨B4, e4, b4, f4⟩ := k_takeWord (d := d + 2) (by omega) b3
    have F4 := f2.trans (f3.trans f4)
    have hS4 := hS1.two F4 hdj
    have hst4 := hst1.two F4 hr
    obtain ⟨C, e5, f5, hC1, hC2⟩ := k_defineVariable (d := d + 1) (nm := nm) (ty := rd D c1 4) (a := u) (b := w) hst4 hS4
    have b5 := b4.off f5 hdj
    have G5 : am_fr (at47 b r) A C := (G1.trans (F4.mono (fun z hz => Or.inr hz))).trans (f5.mono (fun z hz => Or.inl hz))
    have hnv : (setAt s (s.2.2.1 + 1) aa).2.2.1 = s.2.2.1 := rfl
    by_cases ho : dv_ok (setAt s (s.2.2.1 + 1) aa) nm (rd D c1 4) u w
    · have hpos : ¬ dv_c (setAt s (s.2.2.1 + 1) aa) nm (rd D c1 4) u w < 0 := by
        rw [dv_pos ho]
        exact nI_pos (by rw [hnv]; omega)
      refine ⟨C, true, _, _, c1 + 4 + 4 + 4, ?_, hC1 ho, ?_, fun _ => ⟨rfl, fun v v1 v2 => ?_⟩, ⟨rfl, rfl, rfl⟩, b5, by omega, G5, fun t0 e => ⟨rfl, ?_, ?_⟩⟩
      · refine e_134 ?_; simp only [b_134, i_int, i_long, i_null, i_stat, i_iload, i_lload, i_aload, i_istore, i_astore, i_lstore, i_iinc, i_ii, i_idz, i_i, i_ll, i_lsh, i_i2l, i_l2i, i_lcmp, i_dup, i_pop, i_dup2, i_ifeq, i_ifne, i_iflt, i_ifge, i_ifgt, i_ifle, i_cmpeq, i_cmpne, i_cmplt, i_cmpge, i_cmpgt, i_cmple, i_ifnull, i_ifnonnull, i_getf, am_wr, i_putI, i_putZ, i_putR, i_iald, i_iast, i_aald, i_aast, i_alen, i_newi, i_newq, i_new, i_recv, i_iret, i_zret, i_lret, i_aret, i_vret, List.getElem?_cons_zero, List.getElem?_cons_succ, Option.bind_some, Option.toList_some, Option.toList_none, List.cons_append, List.nil_append, x_nI, am_put, am_put2, List.length_cons, List.length_nil, List.set_cons_zero, List.set_cons_succ, Nat.reduceAdd, Nat.reduceLT, Nat.reduceLeDiff, Nat.reduceEqDiff, Nat.add_left_cancel_iff, Nat.add_eq_left, Nat.left_eq_add, Nat.succ_ne_self, Nat.reduceSub, reduceIte, ite_self, eq_self, or_true, true_or, or_false, false_or, or_self, i10, not_true_eq_false, not_false_eq_true, x_call1, x_call2, x_call3, x_call4, x_call5, x_call6, x_sl0, x_sli, x_slr, x_sln, x_sll, am_ent, List.map_nil, List.map_cons, List.sum_nil, List.sum_cons, Value.category, and_true, true_and, and_self, Nat.zero_le, List.replicate_succ, List.replicate_zero, List.reduceReplicate, x_obj_set, x_row_set, x_len_set, x_obx, x_rox, x_rv, x_obj pA.obj, e1, bz_true, x_obj l3.obj, e2, x_obj b2.obj, e3, x_obj b3.obj, e4, x_obj hS4.obj, e5, hpos]
      · refine HP_addV (HP_setV hP) ho.1 ho.2.2.2.1 ?_
        rw [hnv, if_pos rfl]
        exact ha2
      · have v3 : s.2.2.1 + 1 ≤ v := v1
        have e1 : ∀ t a b, addR (setAt s (s.2.2.1 + 1) aa) (fun u => if u = s.2.2.1 then setA (ρ s.2.2.1) aa else ρ u) t a b v = ρ v := fun t a b => (if_neg (by show ¬ v = s.2.2.1; omega)).trans (if_neg (by omega))
        rw [e1]
        exact hz v (by omega) v2
      · obtain ⟨k1, k2, k3, k4, k5, k6, k7, k8, k9, k10⟩ := hT t0 e
        obtain ⟨m1, m2, m3⟩ := ha3 t0 e
        have sg := seg_r (seg_l (seg_l k9))
        rw [im_a_len, ← m3] at sg
        have ety : rd D c1 4 = nI (t0.2.2.2.1 s.2.2.1).2.1 := rd_wrd sg
        have t4 := (k2.2.2.2.1 _ k3).1.2
        have es : setAt s (s.2.2.1 + 1) aa = cutV t0 s.2.2.1 := by
          have h1 : aa = (s.2.2.2.1 s.2.2.1).2.2.2.2.1 := by
            rw [m1, k5]
            rfl
          rw [h1, setAt_same]
          exact k5
        have eat : ((if s.2.2.1 = s.2.2.1 then setA (ρ s.2.2.1) aa else ρ s.2.2.1) : sg_R).2.2.2.2.2.2.1 = (t0.2.2.2.1 s.2.2.1).2.2.2.2.1 := by
          rw [if_pos rfl, ← m1]
          rfl
        show addV (setAt s (s.2.2.1 + 1) aa) nm (rd D c1 4).toNatClampNeg u w ((if s.2.2.1 = s.2.2.1 then setA (ρ s.2.2.1) aa else ρ s.2.2.1) : sg_R).2.2.2.2.2.2.1 = _
        rw [eat, es, ety, nI_clamp (by omega), k6, k7, k8]
        exact cut_add k4
      · rw [(ha3 t0 e).2.2, vtl_len]
        omega
    · have hneg := dv_neg ho
      refine ⟨C, false, _, _, c1 + 4 + 4 + 4, ?_, hC2 ho, HP_setV hP, fun e => (by cases e), ⟨rfl, rfl, rfl⟩, b5, by omega, G5, fun t0 e => ?_⟩
      · refine e_134 ?_; simp only [b_134, i_int, i_long, i_null, i_stat, i_iload, i_lload, i_aload, i_istore, i_astore, i_lstore, i_iinc, i_ii, i_idz, i_i, i_ll, i_lsh, i_i2l, i_l2i, i_lcmp, i_dup, i_pop, i_dup2, i_ifeq, i_ifne, i_iflt, i_ifge, i_ifgt, i_ifle, i_cmpeq, i_cmpne, i_cmplt, i_cmpge, i_cmpgt, i_cmple, i_ifnull, i_ifnonnull, i_getf, am_wr, i_putI, i_putZ, i_putR, i_iald, i_iast, i_aald, i_aast, i_alen, i_newi, i_newq, i_new, i_recv, i_iret, i_zret, i_lret, i_aret, i_vret, List.getElem?_cons_zero, List.getElem?_cons_succ, Option.bind_some, Option.toList_some, Option.toList_none, List.cons_append, List.nil_append, x_nI, am_put, am_put2, List.length_cons, List.length_nil, List.set_cons_zero, List.set_cons_succ, Nat.reduceAdd, Nat.reduceLT, Nat.reduceLeDiff, Nat.reduceEqDiff, Nat.add_left_cancel_iff, Nat.add_eq_left, Nat.left_eq_add, Nat.succ_ne_self, Nat.reduceSub, reduceIte, ite_self, eq_self, or_true, true_or, or_false, false_or, or_self, i10, not_true_eq_false, not_false_eq_true, x_call1, x_call2, x_call3, x_call4, x_call5, x_call6, x_sl0, x_sli, x_slr, x_sln, x_sll, am_ent, List.map_nil, List.map_cons, List.sum_nil, List.sum_cons, Value.category, and_true, true_and, and_self, Nat.zero_le, List.replicate_succ, List.replicate_zero, List.reduceReplicate, x_obj_set, x_row_set, x_len_set, x_obx, x_rox, x_rv, x_obj pA.obj, e1, bz_true, x_obj l3.obj, e2, x_obj b2.obj, e3, x_obj b3.obj, e4, x_obj hS4.obj, e5, hneg]
        all_goals rfl
      · obtain ⟨k1, k2, k3, k4, k5, k6, k7, k8, k9, k10⟩ := hT t0 e
        obtain ⟨m1, m2, m3⟩ := ha3 t0 e
        have sg := seg_r (seg_l (seg_l k9))
        rw [im_a_len, ← m3] at sg
        have ety : rd D c1 4 = nI (t0.2.2.2.1 s.2.2.1).2.1 := rd_wrd sg
        have es : setAt s (s.2.2.1 + 1) aa = cutV t0 s.2.2.1 := by
          have h1 : aa = (s.2.2.2.1 s.2.2.1).2.2.2.2.1 := by
            rw [m1, k5]
            rfl
          rw [h1, setAt_same]
          exact k5
        rw [es, ety, k6, k7, k8] at ho
        exact absurd (cut_ok k1 k2 k3) ho
/-- variable v in the bytes: its name, its axes, the rest -/
theorem im_v_eq (s : sg_S) (v : Nat) : im_v s v = nam (s.2.2.2.1 v).1 ++ (wrd (s.2.2.2.1 v).2.2.1 ++ (sg_cat (fun k => wrd ((s.2.2.2.1 v).2.2.2.1 k)) (s.2.2.2.1 v).2.2.1 ++ vtl s v)) := by
  simp only [im_v, vtl, List.append_assoc]
theorem axs_len (g : Nat → Nat) (n : Nat) : (sg_cat (fun k => wrd (g k)) n).length = 4 * n := by
  rw [sg_cat_len, show (fun k => (wrd (g k)).length) = fun _ => 4 from funext fun k => wrd_len _, sg_sum_const]
  omega
theorem k_rvar {d b r c : Nat} {D : List Nat} {ρ : Nat → sg_R} {A : am_H} {s : sg_S} (T : Option sg_S) (hdj : r + 1 < b ∨ b + 45 ≤ r) (hst : am_St A) (hS : ST b A s ρ) (hP : HP s) (h5 : s.2.2.1 < 5) (hz : ∀ v, s.2.2.1 ≤ v → v < 5 → (ρ v).2.2.2.2.2.2.1.1 = 0) (hB : BR r A D c) (hc : c < 40000) (hT : ∀ t0, T = some t0 → HP t0 ∧ STv t0 ∧ s.2.2.1 < t0.2.2.1 ∧ nrm t0 s.2.2.1 ∧ s = cutV t0 s.2.2.1 ∧ seg D c (im_v t0 s.2.2.1) ∧ c % 4 = 0) : ∃ B ok s2 ρ2 c2, pev (d + 4) 133 [some (.ref b), some (.ref r), some (.ref (b + 5 + 7 * s.2.2.1 + 1)), none, none, none, none, none] [] A = some (some (.int (bz ok)), B) ∧ ST b B s2 ρ2 ∧ HP s2 ∧ (ok = true → s2.2.2.1 = s.2.2.1 + 1 ∧ ∀ v, s2.2.2.1 ≤ v → v < 5 → (ρ2 v).2.2.2.2.2.2.1.1 = 0) ∧ (s2.1 = s.1 ∧ s2.2.1 = s.2.1 ∧ s2.2.2.2.2 = s.2.2.2.2) ∧ BR r B D c2 ∧ c2 ≤ c + 170 ∧ am_fr (at47 b r) A B ∧ ∀ t0, T = some t0 → ok = true ∧ s2 = cutV t0 (s.2.2.1 + 1) ∧ c2 = c + (im_v t0 s.2.2.1).length := by
  have hr := hB.five
  obtain ⟨B1, e1, b1, f1⟩ := k_takeName (d := d + 2) (by omega) hB
  obtain ⟨B2, e2, b2, f2⟩ := k_takeWord (d := d + 2) (by omega) b1
  rw [show c + 8 + 4 = c + 12 by omega] at b2
  have F2 := f1.trans f2
  have hS2 := hS.two F2 hdj
  have hst2 := hst.two F2 hr
  have G2 : am_fr (at47 b r) A B2 := F2.mono (fun z hz => Or.inr hz)
  -- what the wanted bytes say
  have hx : ∀ t0, T = some t0 → nmr (rd D (c + 4) 4) = (t0.2.2.2.1 s.2.2.1).1 ∧ rd D (c + 8) 4 = nI (t0.2.2.2.1 s.2.2.1).2.2.1 ∧ (t0.2.2.2.1 s.2.2.1).2.2.1 ≤ 2 ∧ (∀ k, k < (t0.2.2.2.1 s.2.2.1).2.2.1 → rd D (c + 12 + 4 * k) 4 = nI ((t0.2.2.2.1 s.2.2.1).2.2.2.1 k)) ∧ seg D (c + 12 + 4 * (t0.2.2.2.1 s.2.2.1).2.2.1) (vtl t0 s.2.2.1) := by
    intro t0 e
    obtain ⟨k1, k2, k3, k4, k5, k6, k7⟩ := hT t0 e
    rw [im_v_eq] at k6
    have r1 := seg_r k6
    rw [nam_len] at r1
    have r2 := seg_r r1
    rw [wrd_len, show c + 8 + 4 = c + 12 by omega] at r2
    have r3 := seg_r r2
    rw [axs_len] at r3
    refine ⟨nmr_back (k1.1.2.2 _ k3).1 (seg_l k6), rd_wrd (seg_l r1), (k2.2.2.2.1 _ k3).2.1, fun k hk => ?_, r3⟩
    have r4 := seg_cat (seg_l r2) hk
    rw [axs_len] at r4
    exact rd_wrd r4
  by_cases c1 : rd D (c + 8) 4 < 0
  · refine ⟨B2, false, s, ρ, c + 12, ?_, hS2, hP, fun e => (by cases e), ⟨rfl, rfl, rfl⟩, b2, by omega, G2, fun t0 e => ?_⟩
    · refine e_133 ?_; simp only [b_133, i_int, i_long, i_null, i_stat, i_iload, i_lload, i_aload, i_istore, i_astore, i_lstore, i_iinc, i_ii, i_idz, i_i, i_ll, i_lsh, i_i2l, i_l2i, i_lcmp, i_dup, i_pop, i_dup2, i_ifeq, i_ifne, i_iflt, i_ifge, i_ifgt, i_ifle, i_cmpeq, i_cmpne, i_cmplt, i_cmpge, i_cmpgt, i_cmple, i_ifnull, i_ifnonnull, i_getf, am_wr, i_putI, i_putZ, i_putR, i_iald, i_iast, i_aald, i_aast, i_alen, i_newi, i_newq, i_new, i_recv, i_iret, i_zret, i_lret, i_aret, i_vret, List.getElem?_cons_zero, List.getElem?_cons_succ, Option.bind_some, Option.toList_some, Option.toList_none, List.cons_append, List.nil_append, x_nI, am_put, am_put2, List.length_cons, List.length_nil, List.set_cons_zero, List.set_cons_succ, Nat.reduceAdd, Nat.reduceLT, Nat.reduceLeDiff, Nat.reduceEqDiff, Nat.add_left_cancel_iff, Nat.add_eq_left, Nat.left_eq_add, Nat.succ_ne_self, Nat.reduceSub, reduceIte, ite_self, eq_self, or_true, true_or, or_false, false_or, or_self, i10, not_true_eq_false, not_false_eq_true, x_call1, x_call2, x_call3, x_call4, x_call5, x_call6, x_sl0, x_sli, x_slr, x_sln, x_sll, am_ent, List.map_nil, List.map_cons, List.sum_nil, List.sum_cons, Value.category, and_true, true_and, and_self, Nat.zero_le, List.replicate_succ, List.replicate_zero, List.reduceReplicate, x_obj_set, x_row_set, x_len_set, x_obx, x_rox, x_rv, x_obj hB.obj, e1, x_obj b1.obj, e2, c1]
      all_goals rfl
    · obtain ⟨-, y2, y3, -⟩ := hx t0 e
      rw [y2] at c1
      exact absurd c1 (nI_pos (by omega))
  · by_cases c2 : rd D (c + 8) 4 ≤ 2
    · obtain ⟨n, hn, en⟩ := nI_of2 (M := 2) (n := 2) rfl c1 c2
      rw [en] at e2 c1 c2
      have hnx : ∀ t0, T = some t0 → n = (t0.2.2.2.1 s.2.2.1).2.2.1 := fun t0 e => (nI_eq (by omega) (by have := (hx t0 e).2.2.1; omega)).mp (en.symm.trans (hx t0 e).2.1)
      rcases (show n = 0 ∨ n = 1 ∨ n = 2 by omega) with rfl | rfl | rfl
      · obtain ⟨C, ok, s2, ρ2, c3, e3, q1, q2, q3, q4, q5, q6, q7, q8⟩ := k_rvar53 (d := d) (D := D) (nm := nmr (rd D (c + 4) 4)) (x := nI 0) (u := -1) (w := -1) (o6 := none) (o7 := none) T hdj hst2 hS2 hP h5 hz b2 (by omega) (fun t0 e => by
          obtain ⟨k1, k2, k3, k4, k5, k6, k7⟩ := hT t0 e
          obtain ⟨y1, y2, y3, y4, y5⟩ := hx t0 e
          have hn0 := (hnx t0 e).symm
          rw [hn0] at y5
          exact ⟨k1, k2, k3, k4, k5, y1, (if_pos hn0).symm, (if_pos (by omega)).symm, y5, by omega⟩)
        refine ⟨C, ok, s2, ρ2, c3, ?_, q1, q2, q3, q4, q5, by omega, G2.trans q7, fun t0 e => ?_⟩
        · refine e_133 ?_; simp only [b_133, i_int, i_long, i_null, i_stat, i_iload, i_lload, i_aload, i_istore, i_astore, i_lstore, i_iinc, i_ii, i_idz, i_i, i_ll, i_lsh, i_i2l, i_l2i, i_lcmp, i_dup, i_pop, i_dup2, i_ifeq, i_ifne, i_iflt, i_ifge, i_ifgt, i_ifle, i_cmpeq, i_cmpne, i_cmplt, i_cmpge, i_cmpgt, i_cmple, i_ifnull, i_ifnonnull, i_getf, am_wr, i_putI, i_putZ, i_putR, i_iald, i_iast, i_aald, i_aast, i_alen, i_newi, i_newq, i_new, i_recv, i_iret, i_zret, i_lret, i_aret, i_vret, List.getElem?_cons_zero, List.getElem?_cons_succ, Option.bind_some, Option.toList_some, Option.toList_none, List.cons_append, List.nil_append, x_nI, am_put, am_put2, List.length_cons, List.length_nil, List.set_cons_zero, List.set_cons_succ, Nat.reduceAdd, Nat.reduceLT, Nat.reduceLeDiff, Nat.reduceEqDiff, Nat.add_left_cancel_iff, Nat.add_eq_left, Nat.left_eq_add, Nat.succ_ne_self, Nat.reduceSub, reduceIte, ite_self, eq_self, or_true, true_or, or_false, false_or, or_self, i10, not_true_eq_false, not_false_eq_true, x_call1, x_call2, x_call3, x_call4, x_call5, x_call6, x_sl0, x_sli, x_slr, x_sln, x_sll, am_ent, List.map_nil, List.map_cons, List.sum_nil, List.sum_cons, Value.category, and_true, true_and, and_self, Nat.zero_le, List.replicate_succ, List.replicate_zero, List.reduceReplicate, x_obj_set, x_row_set, x_len_set, x_obx, x_rox, x_rv, x_obj hB.obj, e1, x_obj b1.obj, e2, c1, c2, show nI 0 ≤ 0 by decide, show nI 0 ≤ 1 by decide]
          exact e3
        · obtain ⟨z1, z2, z3⟩ := q8 t0 e
          refine ⟨z1, z2, ?_⟩
          rw [z3, im_v_eq]
          simp only [List.length_append, nam_len, wrd_len, axs_len, ← hnx t0 e]
          omega
      · obtain ⟨B3, e3, b3, f3⟩ := k_takeWord (d := d + 2) (by omega) b2
        have hS3 := hS2.two f3 hdj
        have hst3 := hst2.two f3 hr
        obtain ⟨C, ok, s2, ρ2, c3, e4, q1, q2, q3, q4, q5, q6, q7, q8⟩ := k_rvar53 (d := d) (D := D) (nm := nmr (rd D (c + 4) 4)) (x := nI 1) (u := rd D (c + 12) 4) (w := -1) (o6 := none) (o7 := none) T hdj hst3 hS3 hP h5 hz b3 (by omega) (fun t0 e => by
          obtain ⟨k1, k2, k3, k4, k5, k6, k7⟩ := hT t0 e
          obtain ⟨y1, y2, y3, y4, y5⟩ := hx t0 e
          have hn0 := (hnx t0 e).symm
          rw [hn0] at y5
          have y6 := y4 0 (by omega)
          refine ⟨k1, k2, k3, k4, k5, y1, ?_, (if_pos (by omega)).symm, y5, by omega⟩
          unfold axa
          rw [if_neg (by omega)]
          exact y6)
        refine ⟨C, ok, s2, ρ2, c3, ?_, q1, q2, q3, q4, q5, by omega, (G2.trans (f3.mono (fun z hz => Or.inr hz))).trans q7, fun t0 e => ?_⟩
        · refine e_133 ?_; simp only [b_133, i_int, i_long, i_null, i_stat, i_iload, i_lload, i_aload, i_istore, i_astore, i_lstore, i_iinc, i_ii, i_idz, i_i, i_ll, i_lsh, i_i2l, i_l2i, i_lcmp, i_dup, i_pop, i_dup2, i_ifeq, i_ifne, i_iflt, i_ifge, i_ifgt, i_ifle, i_cmpeq, i_cmpne, i_cmplt, i_cmpge, i_cmpgt, i_cmple, i_ifnull, i_ifnonnull, i_getf, am_wr, i_putI, i_putZ, i_putR, i_iald, i_iast, i_aald, i_aast, i_alen, i_newi, i_newq, i_new, i_recv, i_iret, i_zret, i_lret, i_aret, i_vret, List.getElem?_cons_zero, List.getElem?_cons_succ, Option.bind_some, Option.toList_some, Option.toList_none, List.cons_append, List.nil_append, x_nI, am_put, am_put2, List.length_cons, List.length_nil, List.set_cons_zero, List.set_cons_succ, Nat.reduceAdd, Nat.reduceLT, Nat.reduceLeDiff, Nat.reduceEqDiff, Nat.add_left_cancel_iff, Nat.add_eq_left, Nat.left_eq_add, Nat.succ_ne_self, Nat.reduceSub, reduceIte, ite_self, eq_self, or_true, true_or, or_false, false_or, or_self, i10, not_true_eq_false, not_false_eq_true, x_call1, x_call2, x_call3, x_call4, x_call5, x_call6, x_sl0, x_sli, x_slr, x_sln, x_sll, am_ent, List.map_nil, List.map_cons, List.sum_nil, List.sum_cons, Value.category, and_true, true_and, and_self, Nat.zero_le, List.replicate_succ, List.replicate_zero, List.reduceReplicate, x_obj_set, x_row_set, x_len_set, x_obx, x_rox, x_rv, x_obj hB.obj, e1, x_obj b1.obj, e2, c1, c2, show ¬ nI 1 ≤ 0 by decide, show nI 1 ≤ 1 by decide, x_obj b2.obj, e3]
          exact e4
        · obtain ⟨z1, z2, z3⟩ := q8 t0 e
          refine ⟨z1, z2, ?_⟩
          rw [z3, im_v_eq]
          simp only [List.length_append, nam_len, wrd_len, axs_len, ← hnx t0 e]
          omega
      · obtain ⟨B3, e3, b3, f3⟩ := k_takeWord (d := d + 2) (by omega) b2
        obtain ⟨B4, e4, b4, f4⟩ := k_takeWord (d := d + 2) (by omega) b3
        have F4 := f3.trans f4
        have hS4 := hS2.two F4 hdj
        have hst4 := hst2.two F4 hr
        obtain ⟨C, ok, s2, ρ2, c3, e5, q1, q2, q3, q4, q5, q6, q7, q8⟩ := k_rvar53 (d := d) (D := D) (nm := nmr (rd D (c + 4) 4)) (x := nI 2) (u := rd D (c + 12) 4) (w := rd D (c + 12 + 4) 4) (o6 := none) (o7 := none) T hdj hst4 hS4 hP h5 hz b4 (by omega) (fun t0 e => by
          obtain ⟨k1, k2, k3, k4, k5, k6, k7⟩ := hT t0 e
          obtain ⟨y1, y2, y3, y4, y5⟩ := hx t0 e
          have hn0 := (hnx t0 e).symm
          rw [hn0] at y5
          have y6 := y4 0 (by omega)
          have y7 := y4 1 (by omega)
          refine ⟨k1, k2, k3, k4, k5, y1, ?_, ?_, y5, by omega⟩
          · unfold axa
            rw [if_neg (by omega)]
            exact y6
          · unfold axb
            rw [if_neg (by omega)]
            exact y7)
        refine ⟨C, ok, s2, ρ2, c3, ?_, q1, q2, q3, q4, q5, by omega, (G2.trans (F4.mono (fun z hz => Or.inr hz))).trans q7, fun t0 e => ?_⟩
        · refine e_133 ?_; simp only [b_133, i_int, i_long, i_null, i_stat, i_iload, i_lload, i_aload, i_istore, i_astore, i_lstore, i_iinc, i_ii, i_idz, i_i, i_ll, i_lsh, i_i2l, i_l2i, i_lcmp, i_dup, i_pop, i_dup2, i_ifeq, i_ifne, i_iflt, i_ifge, i_ifgt, i_ifle, i_cmpeq, i_cmpne, i_cmplt, i_cmpge, i_cmpgt, i_cmple, i_ifnull, i_ifnonnull, i_getf, am_wr, i_putI, i_putZ, i_putR, i_iald, i_iast, i_aald, i_aast, i_alen, i_newi, i_newq, i_new, i_recv, i_iret, i_zret, i_lret, i_aret, i_vret, List.getElem?_cons_zero, List.getElem?_cons_succ, Option.bind_some, Option.toList_some, Option.toList_none, List.cons_append, List.nil_append, x_nI, am_put, am_put2, List.length_cons, List.length_nil, List.set_cons_zero, List.set_cons_succ, Nat.reduceAdd, Nat.reduceLT, Nat.reduceLeDiff, Nat.reduceEqDiff, Nat.add_left_cancel_iff, Nat.add_eq_left, Nat.left_eq_add, Nat.succ_ne_self, Nat.reduceSub, reduceIte, ite_self, eq_self, or_true, true_or, or_false, false_or, or_self, i10, not_true_eq_false, not_false_eq_true, x_call1, x_call2, x_call3, x_call4, x_call5, x_call6, x_sl0, x_sli, x_slr, x_sln, x_sll, am_ent, List.map_nil, List.map_cons, List.sum_nil, List.sum_cons, Value.category, and_true, true_and, and_self, Nat.zero_le, List.replicate_succ, List.replicate_zero, List.reduceReplicate, x_obj_set, x_row_set, x_len_set, x_obx, x_rox, x_rv, x_obj hB.obj, e1, x_obj b1.obj, e2, c1, c2, show ¬ nI 2 ≤ 0 by decide, show ¬ nI 2 ≤ 1 by decide, x_obj b2.obj, e3, x_obj b3.obj, e4]
          exact e5
        · obtain ⟨z1, z2, z3⟩ := q8 t0 e
          refine ⟨z1, z2, ?_⟩
          rw [z3, im_v_eq]
          simp only [List.length_append, nam_len, wrd_len, axs_len, ← hnx t0 e]
          omega
    · refine ⟨B2, false, s, ρ, c + 12, ?_, hS2, hP, fun e => (by cases e), ⟨rfl, rfl, rfl⟩, b2, by omega, G2, fun t0 e => ?_⟩
      · refine e_133 ?_; simp only [b_133, i_int, i_long, i_null, i_stat, i_iload, i_lload, i_aload, i_istore, i_astore, i_lstore, i_iinc, i_ii, i_idz, i_i, i_ll, i_lsh, i_i2l, i_l2i, i_lcmp, i_dup, i_pop, i_dup2, i_ifeq, i_ifne, i_iflt, i_ifge, i_ifgt, i_ifle, i_cmpeq, i_cmpne, i_cmplt, i_cmpge, i_cmpgt, i_cmple, i_ifnull, i_ifnonnull, i_getf, am_wr, i_putI, i_putZ, i_putR, i_iald, i_iast, i_aald, i_aast, i_alen, i_newi, i_newq, i_new, i_recv, i_iret, i_zret, i_lret, i_aret, i_vret, List.getElem?_cons_zero, List.getElem?_cons_succ, Option.bind_some, Option.toList_some, Option.toList_none, List.cons_append, List.nil_append, x_nI, am_put, am_put2, List.length_cons, List.length_nil, List.set_cons_zero, List.set_cons_succ, Nat.reduceAdd, Nat.reduceLT, Nat.reduceLeDiff, Nat.reduceEqDiff, Nat.add_left_cancel_iff, Nat.add_eq_left, Nat.left_eq_add, Nat.succ_ne_self, Nat.reduceSub, reduceIte, ite_self, eq_self, or_true, true_or, or_false, false_or, or_self, i10, not_true_eq_false, not_false_eq_true, x_call1, x_call2, x_call3, x_call4, x_call5, x_call6, x_sl0, x_sli, x_slr, x_sln, x_sll, am_ent, List.map_nil, List.map_cons, List.sum_nil, List.sum_cons, Value.category, and_true, true_and, and_self, Nat.zero_le, List.replicate_succ, List.replicate_zero, List.reduceReplicate, x_obj_set, x_row_set, x_len_set, x_obx, x_rox, x_rv, x_obj hB.obj, e1, x_obj b1.obj, e2, c1, c2]
        all_goals rfl
      · obtain ⟨-, y2, y3, -⟩ := hx t0 e
        rw [y2] at c2
        exact absurd (nI_le (b := 2) y3 (by decide)) c2
