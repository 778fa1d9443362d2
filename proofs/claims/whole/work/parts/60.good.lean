/-! what stays true of the store -/
def Gd (s : sg_S) (df : Bool) : Prop := NokS s ∧ dst s.1.2.1 s.1.1 ∧ dst (fun v => (s.2.2.2.1 v).1) s.2.2.1 ∧ (df = false → sg_tot s s.2.2.2.2 ≤ 800)
theorem dst_add {g : Nat → Int32} {n : Nat} {nm : Int32} (h : dst g n) (hf : fnd g nm n = none) : dst (upd g n nm) (n + 1) := by
  intro i j hi hj e
  by_cases c1 : i = n
  · by_cases c2 : j = n
    · omega
    · subst c1
      rw [pk_us, pk_un c2] at e
      exact absurd e.symm (fnd_none hf j (by omega))
  · by_cases c2 : j = n
    · subst c2
      rw [pk_us, pk_un c1] at e
      exact absurd e (fnd_none hf i (by omega))
    · rw [pk_un c1, pk_un c2] at e
      exact h i j (by omega) (by omega) e
theorem dst_ren {g : Nat → Int32} {n k : Nat} {nm : Int32} (h : dst g n) (hk : k < n) (hf : fnd g nm n = none ∨ fnd g nm n = some k) : dst (upd g k nm) n := by
  have key : ∀ j, j < n → j ≠ k → g j ≠ nm := by
    intro j hj hjk e
    rcases hf with hf | hf
    · exact fnd_none hf j hj e
    · exact hjk (h j k hj hk (e.trans (fnd_some hf).2.symm))
  intro i j hi hj e
  by_cases c1 : i = k
  · by_cases c2 : j = k
    · omega
    · subst c1
      rw [pk_us, pk_un c2] at e
      exact absurd e.symm (key j hj c2)
  · by_cases c2 : j = k
    · subst c2
      rw [pk_us, pk_un c1] at e
      exact absurd e (key i hi c1)
    · rw [pk_un c1, pk_un c2] at e
      exact h i j hi hj e
theorem Gd_addD {s : sg_S} {nm : Int32} {ln : Nat} (h : Gd s true) (h1 : isNb nm = true) (h2 : fnd s.1.2.1 nm s.1.1 = none) : Gd (addD s nm ln) true := by
  obtain ⟨⟨a1, a2, a3⟩, b1, b2, -⟩ := h
  refine ⟨⟨fun k hk => ?_, a2, a3⟩, dst_add b1 h2, b2, fun e => by cases e⟩
  show isNb (upd s.1.2.1 s.1.1 nm k) = true
  by_cases c : k = s.1.1
  · subst c
    rw [pk_us]
    exact h1
  · rw [pk_un c]
    have : k < s.1.1 + 1 := hk
    exact a1 k (by omega)
theorem Gd_dd {s : sg_S} {nm ln : Int32} (h : Gd s true) : Gd (dd_s s nm ln) true := by
  unfold dd_s
  split
  · exact h
  · rename_i c1
    split
    · exact h
    · rename_i c2
      split
      · exact h
      · refine Gd_addD h ?_ ?_
        · cases hx : isNb nm with
          | true => rfl
          | false => simp [hx] at c1
        · cases hx : fnd s.1.2.1 nm s.1.1 with
          | none => rfl
          | some k => simp [hx] at c2
theorem addV_names (s : sg_S) (nm : Int32) (t : Nat) (a b : Int32) (at0 : sg_A) : (fun v => ((addV s nm t a b at0).2.2.2.1 v).1) = upd (fun v => (s.2.2.2.1 v).1) s.2.2.1 nm := by
  funext v
  by_cases c : v = s.2.2.1
  · subst c
    rw [pk_us, addV_new]
    rfl
  · rw [pk_un c]
    show (if v = s.2.2.1 then newV nm t a b at0 else s.2.2.2.1 v).1 = _
    rw [if_neg c]
theorem Gd_addV {s : sg_S} {nm : Int32} {t : Nat} {a b : Int32} {at0 : sg_A} (h : Gd s true) (h1 : isNb nm = true) (h2 : fnd (fun v => (s.2.2.2.1 v).1) nm s.2.2.1 = none) (h0 : at0.1 = 0) : Gd (addV s nm t a b at0) true := by
  obtain ⟨⟨a1, a2, a3⟩, b1, b2, -⟩ := h
  refine ⟨⟨a1, a2, fun v hv => ?_⟩, b1, ?_, fun e => by cases e⟩
  · by_cases c : v = s.2.2.1
    · subst c
      rw [addV_new]
      refine ⟨h1, fun k hk => ?_⟩
      have hk2 : k < at0.1 := hk
      omega
    · have hv2 : v < s.2.2.1 + 1 := hv
      rw [addV_old (show v < s.2.2.1 by omega)]
      exact a3 v (by omega)
  · rw [addV_names]
    exact dst_add b2 h2
theorem Nok_as {a : sg_A} {nm ty x y : Int32} (h : Nok a) : Nok (as_a a nm ty x y) := by
  unfold as_a
  split
  · rename_i c1
    rw [Bool.and_eq_true] at c1
    have key : ∀ n k, n ≤ a.1 + 1 → (n = a.1 + 1 → k = a.1) → Nok (al_w a n k nm ty.toNatClampNeg x y) := by
      intro n k hn hk j hj
      show isNb (upd a.2.1 k nm j) = true
      by_cases c : j = k
      · subst c
        rw [pk_us]
        exact c1.1
      · rw [pk_un c]
        have hj2 : j < n := hj
        exact h j (by omega)
    split
    · split
      · exact key _ _ (by omega) (fun e => by omega)
      · split
        · exact h
        · exact key _ _ (by omega) (fun _ => rfl)
    · exact h
  · exact h
theorem Nok_dr {a : sg_A} {nm : Int32} (h : Nok a) : Nok (dr_a a nm) := by
  unfold dr_a
  split
  · rename_i k hk
    have h1 := (fnd_some hk).1
    intro j hj
    have hj2 : j < a.1 - 1 := hj
    show isNb (if j < k then a.2.1 j else a.2.1 (j + 1)) = true
    split
    · exact h j (by omega)
    · exact h (j + 1) (by omega)
  · exact h
theorem Nok_get {s : sg_S} (h : NokS s) {L : Nat} (hL : L ≤ s.2.2.1) : Nok (getAt s L) := by
  cases L with
  | zero => exact h.2.1
  | succ k => exact (h.2.2 k (by omega)).2
theorem Gd_setAt {s : sg_S} {L : Nat} {a : sg_A} (h : Gd s true) (ha : Nok a) : Gd (setAt s L a) true := by
  obtain ⟨⟨a1, a2, a3⟩, b1, b2, -⟩ := h
  have e : (fun v => ((setAt s L a).2.2.2.1 v).1) = fun v => (s.2.2.2.1 v).1 := funext fun v => (setAt_var s L a v).1
  obtain ⟨t1, t2, t3⟩ := setAt_top s L a
  refine ⟨⟨?_, ?_, fun v hv => ⟨?_, ?_⟩⟩, ?_, ?_, fun e => by cases e⟩
  · rw [t1]; exact a1
  · cases L with
    | zero => exact ha
    | succ k => exact a2
  · rw [(setAt_var s L a v).1]
    rw [t2] at hv
    exact (a3 v hv).1
  · rw [t2] at hv
    have hg : getAt (setAt s L a) (v + 1) = ((setAt s L a).2.2.2.1 v).2.2.2.2.1 := rfl
    rw [← hg, getAt_set]
    split
    · exact ha
    · exact (a3 v hv).2
  · rw [t1]; exact b1
  · rw [e, t2]; exact b2
theorem cn_0 {g : Nat → Int32} {n : Nat} {k nm : Int32} (hn : n ≤ 10) (h : cn_c g n k nm = 0) : ∃ j, j < n ∧ k = nI j ∧ isNb nm = true ∧ (fnd g nm n = none ∨ fnd g nm n = some j) := by
  have c1 : ¬ (k < 0 ∨ nI n ≤ k) := fun e => by
    unfold cn_c at h
    rw [if_pos e] at h
    exact absurd h (by decide)
  have c2 : ¬ k < 0 := fun e => c1 (Or.inl e)
  have c3 : ¬ nI n ≤ k := fun e => c1 (Or.inr e)
  obtain ⟨j, hj, rfl⟩ := nI_of c2
  have hjn : j < n := by
    rw [o_le (by omega) hj] at c3
    omega
  refine ⟨j, hjn, rfl, ?_⟩
  rw [cn_in hjn hn] at h
  cases hx : isNb nm with
  | false => rw [hx, if_pos rfl] at h; exact absurd h (by decide)
  | true =>
    rw [hx, if_neg (by decide)] at h
    refine ⟨rfl, ?_⟩
    cases hf : fnd g nm n with
    | none => exact Or.inl rfl
    | some i =>
      rw [hf] at h
      simp only at h
      split at h
      · rename_i e
        first
        | exact Or.inr (by rw [e])
        | exact absurd h (by decide)
      · rename_i e
        first
        | exact absurd h (by decide)
        | exact Or.inr (by rw [Classical.not_not.mp e])
theorem Gd_renD {s : sg_S} {k nm : Int32} (hs : STv s) (h : Gd s true) : Gd (if cn_c s.1.2.1 s.1.1 k nm = 0 then renD s k.toNatClampNeg nm else s) true := by
  split
  · rename_i c
    have h4 := hs.1
    obtain ⟨j, hj, rfl, hx, hf⟩ := cn_0 (by omega) c
    rw [nI_clamp (by omega)]
    obtain ⟨⟨a1, a2, a3⟩, b1, b2, -⟩ := h
    refine ⟨⟨fun i hi => ?_, a2, a3⟩, dst_ren b1 hj hf, b2, fun e => by cases e⟩
    show isNb (upd s.1.2.1 j nm i) = true
    by_cases c2 : i = j
    · subst c2
      rw [pk_us]
      exact hx
    · rw [pk_un c2]
      exact a1 i hi
  · exact h
theorem renV_names (s : sg_S) (k : Nat) (nm : Int32) : (fun v => ((renV s k nm).2.2.2.1 v).1) = upd (fun v => (s.2.2.2.1 v).1) k nm := by
  funext v
  by_cases c : v = k
  · subst c
    rw [pk_us]
    show (if v = v then (nm, (s.2.2.2.1 v).2) else s.2.2.2.1 v).1 = nm
    rw [if_pos rfl]
  · rw [pk_un c]
    show (if v = k then (nm, (s.2.2.2.1 v).2) else s.2.2.2.1 v).1 = _
    rw [if_neg c]
theorem Gd_renV {s : sg_S} {k nm : Int32} (hs : STv s) (h : Gd s true) : Gd (if cn_c (fun v => (s.2.2.2.1 v).1) s.2.2.1 k nm = 0 then renV s k.toNatClampNeg nm else s) true := by
  split
  · rename_i c
    have h4 := hs.2.2.1
    obtain ⟨j, hj, rfl, hx, hf⟩ := cn_0 (by omega) c
    rw [nI_clamp (by omega)]
    obtain ⟨⟨a1, a2, a3⟩, b1, b2, -⟩ := h
    refine ⟨⟨a1, a2, fun v hv => ⟨?_, ?_⟩⟩, b1, ?_, fun e => by cases e⟩
    · have e : ((renV s j nm).2.2.2.1 v).1 = upd (fun v => (s.2.2.2.1 v).1) j nm v := congrFun (renV_names s j nm) v
      rw [e]
      by_cases c2 : v = j
      · subst c2
        rw [pk_us]
        exact hx
      · rw [pk_un c2]
        exact (a3 v hv).1
    · rw [renV_2]
      exact (a3 v hv).2
    · rw [renV_names]
      exact dst_ren b2 hj hf
  · exact h
theorem tot_setCe (s : sg_S) (v : Nat) (ce : Nat → Int32) (r : Nat) : sg_tot (setCe s v ce) r = sg_tot s r := by
  have e1 : sg_hs (setCe s v ce) = sg_hs s := by
    unfold sg_hs
    congr 1
    refine sg_sum_congr (fun u _ => ?_)
    obtain ⟨-, -, v3, -, v5, -⟩ := setCe_var s v ce u
    rw [v3, v5]
  have e2 : ∀ u, sg_ps (setCe s v ce) u = sg_ps s u := fun u => by
    unfold sg_ps sg_cn
    rw [setCe_l0, setCe_l1, (setCe_var s v ce u).2.1]
  have e3 : ∀ n, sg_pf (setCe s v ce) n = sg_pf s n := fun n => by
    unfold sg_pf
    refine sg_sum_congr (fun u _ => ?_)
    rw [setCe_l0, e2]
  have e4 : sg_rs (setCe s v ce) = sg_rs s := by
    have n1 : sg_nr (setCe s v ce) = sg_nr s := by
      unfold sg_nr
      refine sg_sum_congr (fun u _ => ?_)
      rw [setCe_l0]
    unfold sg_rs
    rw [n1]
    split
    · refine sg_sum_congr (fun u _ => ?_)
      rw [setCe_l0, setCe_l1, (setCe_var s v ce u).2.1]
    · unfold sg_pg
      refine sg_sum_congr (fun u _ => ?_)
      rw [setCe_l0, e2]
  unfold sg_tot
  rw [e1, e3, e4]
  rfl
theorem Gd_setCe {s : sg_S} {v : Nat} {ce : Nat → Int32} {df : Bool} (h : Gd s df) : Gd (setCe s v ce) df := by
  obtain ⟨⟨a1, a2, a3⟩, b1, b2, b3⟩ := h
  have e : (fun u => ((setCe s v ce).2.2.2.1 u).1) = fun u => (s.2.2.2.1 u).1 := funext fun u => (setCe_var s v ce u).1
  refine ⟨⟨a1, a2, fun u hu => ?_⟩, b1, ?_, fun hd => ?_⟩
  · obtain ⟨v1, -, -, -, v5, -⟩ := setCe_var s v ce u
    rw [v1, v5]
    exact a3 u hu
  · rw [e]; exact b2
  · rw [tot_setCe]
    exact b3 hd
theorem Gd_grown {s : sg_S} {v i : Nat} (h : Gd s false) : Gd (grown s v i) false := by
  have ht := grown_tot (v := v) (i := i) (h.2.2.2 rfl)
  obtain ⟨a, b1, b2, -⟩ := h
  refine ⟨?_, ?_, ?_, fun _ => ht⟩
  · unfold grown
    split
    · exact a
    · exact a
  · unfold grown
    split
    · exact b1
    · exact b1
  · unfold grown
    split
    · exact b2
    · exact b2
theorem Gd_pS {s : sg_S} {q : Nat → Nat × Nat × Nat} {v : Nat} {x st : Int32} (h : Gd s false) : Gd (pS_s s q v x st) false := by
  unfold pS_s
  split
  · exact h
  · split
    · exact h
    · split
      · exact h
      · exact Gd_setCe (Gd_grown h)
