/-! a list of attributes in its place: list 0 is the store's, list v + 1 variable v's -/
def getAt (s : sg_S) (L : Nat) : sg_A := match L with
  | 0 => s.2.1
  | k + 1 => (s.2.2.2.1 k).2.2.2.2.1
def setAt (s : sg_S) (L : Nat) (a : sg_A) : sg_S := match L with
  | 0 => (s.1, a, s.2.2)
  | k + 1 => (s.1, s.2.1, s.2.2.1, (fun v => if v = k then ((s.2.2.2.1 v).1, (s.2.2.2.1 v).2.1, (s.2.2.2.1 v).2.2.1, (s.2.2.2.1 v).2.2.2.1, a, (s.2.2.2.1 v).2.2.2.2.2) else s.2.2.2.1 v), s.2.2.2.2)
theorem setAt_var (s : sg_S) (L : Nat) (a : sg_A) (v : Nat) : ((setAt s L a).2.2.2.1 v).1 = (s.2.2.2.1 v).1 ∧ ((setAt s L a).2.2.2.1 v).2.1 = (s.2.2.2.1 v).2.1 ∧ ((setAt s L a).2.2.2.1 v).2.2.1 = (s.2.2.2.1 v).2.2.1 ∧ ((setAt s L a).2.2.2.1 v).2.2.2.1 = (s.2.2.2.1 v).2.2.2.1 ∧ ((setAt s L a).2.2.2.1 v).2.2.2.2.2 = (s.2.2.2.1 v).2.2.2.2.2 := by
  cases L with
  | zero => exact ⟨rfl, rfl, rfl, rfl, rfl⟩
  | succ k =>
    by_cases c : v = k
    · simp [setAt, c]
    · simp [setAt, c]
theorem setAt_top (s : sg_S) (L : Nat) (a : sg_A) : (setAt s L a).1 = s.1 ∧ (setAt s L a).2.2.1 = s.2.2.1 ∧ (setAt s L a).2.2.2.2 = s.2.2.2.2 := by
  cases L <;> exact ⟨rfl, rfl, rfl⟩
theorem setAt_l0 (s : sg_S) (L : Nat) (a : sg_A) (v : Nat) : sg_l0 (setAt s L a) v = sg_l0 s v := by
  obtain ⟨-, -, h3, h4, -⟩ := setAt_var s L a v
  unfold sg_l0
  rw [h3, h4, (setAt_top s L a).1]
theorem setAt_l1 (s : sg_S) (L : Nat) (a : sg_A) (v : Nat) : sg_l1 (setAt s L a) v = sg_l1 s v := by
  obtain ⟨-, -, h3, h4, -⟩ := setAt_var s L a v
  unfold sg_l1
  rw [h3, h4, (setAt_top s L a).1]
theorem setAt_v {s : sg_S} (h : STv s) (L : Nat) (a : sg_A) : STv (setAt s L a) := by
  obtain ⟨t1, t2, t3⟩ := setAt_top s L a
  unfold STv
  rw [t1, t2, t3]
  refine ⟨h.1, h.2.1, h.2.2.1, fun v hv => ?_, h.2.2.2.2⟩
  obtain ⟨-, v2, v3, v4, -⟩ := setAt_var s L a v
  rw [v2, v3, v4, setAt_l1]
  exact h.2.2.2.1 v hv
theorem getAt_set (s : sg_S) (L : Nat) (a : sg_A) (l : Nat) : getAt (setAt s L a) l = if l = L then a else getAt s l := by
  cases L with
  | zero =>
    cases l with
    | zero => rfl
    | succ k => rfl
  | succ j =>
    cases l with
    | zero => rfl
    | succ k =>
      by_cases c : k = j
      · simp [getAt, setAt, c]
      · simp [getAt, setAt, c]
theorem MS.lists {R : Nat → Nat → Int32} {h : Nat} {s : sg_S} (hS : MS R h s) {l : Nat} (hl : l ≤ s.2.2.1) : MA R h l (getAt s l) := by
  cases l with
  | zero => exact hS.2.2.2.2.1
  | succ k => exact (hS.2.2.2.2.2 k (by omega)).2.2.2.2.1
theorem MS_setAt {R S : Nat → Nat → Int32} {h L : Nat} {s : sg_S} {a : sg_A} (hS : MS R h s) (hsame : ∀ i, i < 9 ∨ 13 < i → S i = R i) (h9 : ∀ l, l ≠ L → S 9 (6 * h + l) = R 9 (6 * h + l)) (hr : ∀ i, 10 ≤ i → i ≤ 13 → ∀ l k, l ≠ L → k < 3 → S i (18 * h + 3 * l + k) = R i (18 * h + 3 * l + k)) (hA : MA S h L a) : MS S h (setAt s L a) := by
  obtain ⟨t1, t2, t3⟩ := setAt_top s L a
  have key : ∀ l, l ≤ s.2.2.1 → MA S h l (getAt (setAt s L a) l) := fun l hl => by
    rw [getAt_set]
    by_cases c : l = L
    · rw [if_pos c, c]; exact hA
    · rw [if_neg c]
      obtain ⟨m1, m2, m3⟩ := hS.lists hl
      refine ⟨m1, by rw [h9 l c]; exact m2, fun k hk => ?_⟩
      rw [hr 10 (by decide) (by decide) l k c (by omega), hr 11 (by decide) (by decide) l k c (by omega), hr 12 (by decide) (by decide) l k c (by omega), hr 13 (by decide) (by decide) l k c (by omega)]
      exact m3 k hk
  obtain ⟨g1, g2, g3, g4, g5, g6⟩ := hS
  refine ⟨setAt_v g1 L a, g2, ?_, ?_, key 0 (Nat.zero_le _), ?_⟩
  · rw [t1, t2, t3, hsame 1 (by omega), hsame 4 (by omega), hsame 14 (by omega)]
    exact g3
  · rw [t1, hsame 2 (by omega), hsame 3 (by omega)]
    exact g4
  · rw [t2]
    intro v hv
    obtain ⟨v1, v2, v3, v4, v5⟩ := setAt_var s L a v
    obtain ⟨w1, w2, w3, w4, w5, w6⟩ := g6 v hv
    rw [v1, v2, v3, v4, v5, hsame 5 (by omega), hsame 6 (by omega), hsame 7 (by omega), hsame 8 (by omega), hsame 15 (by omega)]
    exact ⟨w1, w2, w3, w4, key (v + 1) (by omega), w6⟩
/-- rows after an attribute has been put at place p of list L -/
def atR (R : Nat → Nat → Int32) (h L : Nat) (c9 : Nat → Int32) (p : Nat) (nm : Int32) (t : Nat) (x y : Int32) : Nat → Nat → Int32 := fun r => match r with
  | 9 => c9
  | 10 => upd (R 10) p nm
  | 11 => upd (R 11) p (nI t)
  | 12 => upd (R 12) p x
  | 13 => upd (R 13) p y
  | r => R r
theorem atR_MS {R : Nat → Nat → Int32} {h L n k : Nat} {s : sg_S} {nm : Int32} {t : Nat} {x y : Int32} {c9 : Nat → Int32} (hS : MS R h s) (hL : L ≤ s.2.2.1) (hn : n ≤ 3) (hk : k < n) (hkn : n = (getAt s L).1 ∨ (k = (getAt s L).1 ∧ n = (getAt s L).1 + 1)) (h9 : c9 (6 * h + L) = nI n) (h9' : ∀ l, l ≠ L → c9 (6 * h + l) = R 9 (6 * h + l)) (t1 : 1 ≤ t) (t4 : t ≤ 4) : MS (atR R h L c9 (18 * h + 3 * L + k) nm t x y) h (setAt s L (al_w (getAt s L) n k nm t x y)) := by
  have hA := hS.lists hL
  refine MS_setAt hS (fun i hi => ?_) h9' (fun i i1 i2 l j hl hj => ?_) ⟨hn, h9, fun j hj => ?_⟩
  · unfold atR
    split <;> first | rfl | omega
  · rcases (show i = 10 ∨ i = 11 ∨ i = 12 ∨ i = 13 by omega) with rfl | rfl | rfl | rfl <;> exact pk_un (by omega)
  · have hj2 : j < n := hj
    by_cases c : j = k
    · subst c
      simp only [atR, al_w, pk_us, if_true]
      exact ⟨trivial, trivial, trivial, trivial, t1, t4⟩
    · have hjo : j < (getAt s L).1 := by omega
      have := hA.2.2 j hjo
      simp only [atR, al_w, pk_un c, if_neg c]
      rw [pk_un (by omega), pk_un (by omega), pk_un (by omega), pk_un (by omega)]
      exact this
