/-! the class's store with one list of attributes, or one variable's cells, changed -/
theorem setCe_raw (s : sg_S) (v : Nat) (ce : Nat → Int32) (u : Nat) : sg_raw (setCe s v ce) u = if u = v then setC (sg_raw s u) ce else sg_raw s u := by
  obtain ⟨v1, v2, v3, v4, v5, v6⟩ := setCe_var s v ce u
  unfold sg_raw setC
  rw [setCe_l0, setCe_l1, v2, v3, v4, v5, v6]
  by_cases c : u = v
  · simp [c]
  · simp [c]
theorem ST.setCe {b v : Nat} {A B : am_H} {s : sg_S} {ρ : Nat → sg_R} {ce : Nat → Int32} (h : ST b A s ρ) (hv : v < s.2.2.1) (hB : VA (b + 5 + 7 * v) B (setC (sg_raw s v) ce)) (hf : am_fr (fun q => q = b + 5 + 7 * v + 6) A B) : ST b B (setCe s v ce) (fun u => if u = v then setC (ρ v) ce else ρ u) := by
  obtain ⟨hs, hb, ⟨g1, g2, g3, q, a0, a1, a2, a3, a4, a5, a6, a7⟩, hA, hV, hR⟩ := h
  have h5 := hs.2.2.1
  refine ⟨setCe_v hs v ce, hb, ⟨g1, g2, g3, q, (hf.2.2 _ (by omega)).trans a0, (hf.2.2 _ (by omega)).trans a1, (hf.2.2 _ (by omega)).trans a2, (hf.2.2 _ (by omega)).trans a3, (hf.2.2 _ (by omega)).trans a4, a5, a6, fun u hu => ?_⟩, hA.kept hf (fun q q1 q2 q3 => by omega), fun u hu => ?_, fun u hu => ?_⟩
  · rw [(setCe_var s v ce u).1]
    exact a7 u hu
  · by_cases c : u = v
    · subst c
      simp only [if_true]
      rw [hR u hv]
      exact hB
    · simp only [c, if_false]
      exact (hV u hu).kept hf (fun q q1 q2 q3 => by omega)
  · rw [setCe_raw]
    by_cases c : u = v
    · subst c
      simp only [if_true]
      rw [hR u hu]
    · simp only [c, if_false]
      exact hR u hu
theorem setAt_raw0 (s : sg_S) (a : sg_A) (u : Nat) : sg_raw (setAt s 0 a) u = sg_raw s u := rfl
def setA (v : sg_R) (a : sg_A) : sg_R := (v.1, v.2.1, v.2.2.1, v.2.2.2.1, v.2.2.2.2.1, v.2.2.2.2.2.1, a, v.2.2.2.2.2.2.2)
theorem setAt_rawS (s : sg_S) (k : Nat) (a : sg_A) (u : Nat) : sg_raw (setAt s (k + 1) a) u = if u = k then setA (sg_raw s u) a else sg_raw s u := by
  obtain ⟨-, v2, v3, v4, v5⟩ := setAt_var s (k + 1) a u
  have hg := getAt_set s (k + 1) a (u + 1)
  have e : ((setAt s (k + 1) a).2.2.2.1 u).2.2.2.2.1 = if u = k then a else (s.2.2.2.1 u).2.2.2.2.1 := by
    have : getAt (setAt s (k + 1) a) (u + 1) = ((setAt s (k + 1) a).2.2.2.1 u).2.2.2.2.1 := rfl
    rw [← this, hg]
    by_cases c : u = k
    · simp [c]
    · simp [c, getAt]
  unfold sg_raw setA
  rw [setAt_l0, setAt_l1, v2, v3, v4, v5, e]
  by_cases c : u = k
  · simp [c]
  · simp [c]
theorem ST.setAt0 {b : Nat} {A B : am_H} {s : sg_S} {ρ : Nat → sg_R} {a : sg_A} (h : ST b A s ρ) (hB : AL (b + 40) B a) (hf : am_fr (at5 (b + 40)) A B) : ST b B (setAt s 0 a) ρ := by
  obtain ⟨hs, hb, ⟨g1, g2, g3, q, a0, a1, a2, a3, a4, a5, a6, a7⟩, hA, hV, hR⟩ := h
  have n5 : ∀ j, j < 40 → ¬ at5 (b + 40) (b + j) := fun j hj e => by unfold at5 at e; omega
  exact ⟨setAt_v hs 0 a, hb, ⟨g1, g2, g3, q, (hf.2.2 _ (n5 0 (by omega))).trans a0, (hf.2.2 _ (n5 1 (by omega))).trans a1, (hf.2.2 _ (n5 2 (by omega))).trans a2, (hf.2.2 _ (n5 3 (by omega))).trans a3, (hf.2.2 _ (n5 4 (by omega))).trans a4, a5, a6, a7⟩, hB, fun u hu => (hV u hu).kept hf (fun q q1 q2 q3 => by unfold at5 at q3; omega), hR⟩
theorem ST.setAtS {b k : Nat} {A B : am_H} {s : sg_S} {ρ : Nat → sg_R} {a : sg_A} (h : ST b A s ρ) (hk : k < 5) (hB : AL (b + 5 + 7 * k + 1) B a) (hf : am_fr (at5 (b + 5 + 7 * k + 1)) A B) : ST b B (setAt s (k + 1) a) (fun u => if u = k then setA (ρ k) a else ρ u) := by
  obtain ⟨hs, hb, ⟨g1, g2, g3, q, a0, a1, a2, a3, a4, a5, a6, a7⟩, hA, hV, hR⟩ := h
  have n5 : ∀ j, j < 5 ∨ 40 ≤ j → ¬ at5 (b + 5 + 7 * k + 1) (b + j) := fun j hj e => by unfold at5 at e; omega
  refine ⟨setAt_v hs (k + 1) a, hb, ⟨g1, g2, g3, q, (hf.2.2 _ (n5 0 (by omega))).trans a0, (hf.2.2 _ (n5 1 (by omega))).trans a1, (hf.2.2 _ (n5 2 (by omega))).trans a2, (hf.2.2 _ (n5 3 (by omega))).trans a3, (hf.2.2 _ (n5 4 (by omega))).trans a4, a5, a6, fun u hu => ?_⟩, hA.kept hf (fun q q1 q2 q3 => by unfold at5 at q3; omega), fun u hu => ?_, fun u hu => ?_⟩
  · rw [(setAt_var s (k + 1) a u).1]
    exact a7 u hu
  · by_cases c : u = k
    · subst c
      simp only [if_true]
      obtain ⟨g, p0, p1, p2, pA, p5⟩ := hV u hu
      exact ⟨g, (hf.2.2 _ (fun e => by unfold at5 at e; omega)).trans p0, (hf.2.2 _ (fun e => by unfold at5 at e; omega)).trans p1, p2, hB, p5⟩
    · simp only [c, if_false]
      exact (hV u hu).kept hf (fun q q1 q2 q3 => by unfold at5 at q3; omega)
  · rw [setAt_rawS]
    by_cases c : u = k
    · subst c
      simp only [if_true]
      rw [hR u hu]
    · simp only [c, if_false]
      exact hR u hu
