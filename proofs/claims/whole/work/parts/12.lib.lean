/-! evaluation: cells, indices, locals, frames of heaps -/
theorem x_obj {A : am_H} {p ci : Nat} {fs : List Value} (h : A.2.2 p = some (.inr (.inr (ci, fs)))) : am_obj A p ci = some fs := by
  unfold am_obj
  rw [h]
  exact if_pos rfl
theorem x_row {A : am_H} {p kd n : Nat} {g : Nat → Int32} (h : A.2.2 p = some (.inl (kd, n, g))) : am_row A p kd = some (n, g) := by
  unfold am_row
  rw [h]
  exact if_pos rfl
theorem x_refs {A : am_H} {p n : Nat} {g : Nat → Option Nat} (h : A.2.2 p = some (.inr (.inl (n, g)))) : am_refs A p = some (n, g) := by
  unfold am_refs
  rw [h]
theorem x_len {A : am_H} {p kd n : Nat} {g : Nat → Int32} (h : A.2.2 p = some (.inl (kd, n, g))) : am_len A p = some n := by
  unfold am_len
  rw [h]
theorem x_own {p : Nat} (h : 5 ≤ p) : am_own p = some () := if_pos h
theorem x_ix {i n : Nat} (h : i < n) (h2 : i < 2147483648) : am_ix (nI i) n = some i := by
  unfold am_ix
  rw [if_neg (nI_pos h2), nI_clamp h2, if_pos h]
theorem x_set_self (A : am_H) (p : Nat) (e : am_C) : (am_set A p e).2.2 p = some e := if_pos rfl
theorem x_set_ne {A : am_H} {p q : Nat} {e : am_C} (h : q ≠ p) : (am_set A p e).2.2 q = A.2.2 q := if_neg h
def am_fr (P : Nat → Prop) (A B : am_H) : Prop := B.1 = A.1 ∧ B.2.1 = A.2.1 ∧ ∀ q, ¬ P q → B.2.2 q = A.2.2 q
theorem am_fr.refl {P : Nat → Prop} (A : am_H) : am_fr P A A := ⟨rfl, rfl, fun _ _ => rfl⟩
theorem am_fr.trans {P : Nat → Prop} {A B C : am_H} (h1 : am_fr P A B) (h2 : am_fr P B C) : am_fr P A C := ⟨h2.1.trans h1.1, h2.2.1.trans h1.2.1, fun q hq => (h2.2.2 q hq).trans (h1.2.2 q hq)⟩
theorem am_fr.mono {P Q : Nat → Prop} {A B : am_H} (h : am_fr P A B) (hPQ : ∀ q, P q → Q q) : am_fr Q A B := ⟨h.1, h.2.1, fun q hq => h.2.2 q (fun hp => hq (hPQ q hp))⟩
theorem am_fr.set {P : Nat → Prop} {A B : am_H} {p : Nat} {e : am_C} (h : am_fr P A B) (hp : P p) : am_fr P A (am_set B p e) := ⟨h.1, h.2.1, fun q hq => (x_set_ne (fun e0 => hq (by rw [e0]; exact hp))).trans (h.2.2 q hq)⟩
/-! numbers -/
theorem x_nI (n : Nat) : Int32.ofNat n = nI n := rfl
theorem o_lt {a b : Nat} (ha : a < 2147483648) (hb : b < 2147483648) : (nI a < nI b) = (a < b) := propext (nI_ltI ha hb)
theorem o_le {a b : Nat} (ha : a < 2147483648) (hb : b < 2147483648) : (nI a ≤ nI b) = (a ≤ b) := propext (nI_leI ha hb)
theorem o_eq {a b : Nat} (ha : a < 2147483648) (hb : b < 2147483648) : (nI a = nI b) = (a = b) := propext (nI_eq ha hb)
theorem o_of (n : Nat) : (no_index (OfNat.ofNat n) : Int32) = nI (OfNat.ofNat n) := rfl
/-! reading behind a write -/
def am_obx (e : am_C) (ci : Nat) : Option (List Value) := match e with
  | .inr (.inr (c, fs)) => if c = ci then some fs else none
  | _ => none
def am_rox (e : am_C) (kd : Nat) : Option (Nat × (Nat → Int32)) := match e with
  | .inl (k, n, g) => if k = kd then some (n, g) else none
  | _ => none
def am_lex (e : am_C) : Option Nat := match e with
  | .inl (_, n, _) => some n
  | .inr (.inl (n, _)) => some n
  | _ => none
theorem x_obj_set (A : am_H) (p q ci : Nat) (e : am_C) : am_obj (am_set A p e) q ci = if q = p then am_obx e ci else am_obj A q ci := by
  by_cases h : q = p
  · rw [if_pos h]
    unfold am_obj
    rw [h, x_set_self]
    rcases e with ⟨_, _, _⟩ | ⟨_, _⟩ | ⟨_, _⟩ <;> rfl
  · rw [if_neg h]
    unfold am_obj
    rw [x_set_ne h]
theorem x_row_set (A : am_H) (p q kd : Nat) (e : am_C) : am_row (am_set A p e) q kd = if q = p then am_rox e kd else am_row A q kd := by
  by_cases h : q = p
  · rw [if_pos h]
    unfold am_row
    rw [h, x_set_self]
    rcases e with ⟨_, _, _⟩ | ⟨_, _⟩ | ⟨_, _⟩ <;> rfl
  · rw [if_neg h]
    unfold am_row
    rw [x_set_ne h]
theorem x_len_set (A : am_H) (p q : Nat) (e : am_C) : am_len (am_set A p e) q = if q = p then am_lex e else am_len A q := by
  by_cases h : q = p
  · rw [if_pos h]
    unfold am_len
    rw [h, x_set_self]
    rcases e with ⟨_, _, _⟩ | ⟨_, _⟩ | ⟨_, _⟩ <;> rfl
  · rw [if_neg h]
    unfold am_len
    rw [x_set_ne h]
theorem x_refs_set (A : am_H) (p q : Nat) (e : am_C) (h : q ≠ p) : am_refs (am_set A p e) q = am_refs A q := by
  unfold am_refs
  rw [x_set_ne h]
theorem x_obx (ci : Nat) (fs : List Value) : am_obx (.inr (.inr (ci, fs))) ci = some fs := if_pos rfl
theorem x_rox (kd n : Nat) (g : Nat → Int32) : am_rox (.inl (kd, n, g)) kd = some (n, g) := if_pos rfl
/-! calls -/
theorem x_sl0 : am_sl [] = [] := rfl
theorem x_sli (x : Int32) (vs : List Value) : am_sl (.int x :: vs) = some (.int x) :: am_sl vs := rfl
theorem x_slr (p : Nat) (vs : List Value) : am_sl (.ref p :: vs) = some (.ref p) :: am_sl vs := rfl
theorem x_sln (vs : List Value) : am_sl (.null :: vs) = some .null :: am_sl vs := rfl
theorem x_sll (x : Int64) (vs : List Value) : am_sl (.long x :: vs) = some (.long x) :: none :: am_sl vs := rfl
theorem x_call (k : am_K) (d lab na nL : Nat) (f : am_F) (l : am_L) (s : List Value) (A : am_H) : i_call k (d + 1) lab na nL f l s A = if na ≤ s.length ∧ ((s.drop na).map fun v => v.category).sum ≤ 12 ∧ (am_sl (s.take na).reverse).length ≤ nL then (k d lab (am_ent (s.take na).reverse nL) [] A).bind fun r => f l (r.1.toList ++ s.drop na) r.2 else none := rfl
theorem x_call1 (k : am_K) (d lab nL : Nat) (f : am_F) (l : am_L) (a : Value) (s : List Value) (A : am_H) (h : (s.map fun v => v.category).sum ≤ 12 ∧ (am_sl [a]).length ≤ nL) : i_call k (d + 1) lab 1 nL f l (a :: s) A = (k d lab (am_ent [a] nL) [] A).bind fun r => f l (r.1.toList ++ s) r.2 := by
  rw [x_call, if_pos ⟨by simp, h⟩]
  rfl
theorem x_call2 (k : am_K) (d lab nL : Nat) (f : am_F) (l : am_L) (a b : Value) (s : List Value) (A : am_H) (h : (s.map fun v => v.category).sum ≤ 12 ∧ (am_sl [a, b]).length ≤ nL) : i_call k (d + 1) lab 2 nL f l (b :: a :: s) A = (k d lab (am_ent [a, b] nL) [] A).bind fun r => f l (r.1.toList ++ s) r.2 := by
  rw [x_call, if_pos ⟨by simp, h⟩]
  rfl
theorem x_call3 (k : am_K) (d lab nL : Nat) (f : am_F) (l : am_L) (a b c : Value) (s : List Value) (A : am_H) (h : (s.map fun v => v.category).sum ≤ 12 ∧ (am_sl [a, b, c]).length ≤ nL) : i_call k (d + 1) lab 3 nL f l (c :: b :: a :: s) A = (k d lab (am_ent [a, b, c] nL) [] A).bind fun r => f l (r.1.toList ++ s) r.2 := by
  rw [x_call, if_pos ⟨by simp, h⟩]
  rfl
theorem x_call4 (k : am_K) (d lab nL : Nat) (f : am_F) (l : am_L) (a b c e : Value) (s : List Value) (A : am_H) (h : (s.map fun v => v.category).sum ≤ 12 ∧ (am_sl [a, b, c, e]).length ≤ nL) : i_call k (d + 1) lab 4 nL f l (e :: c :: b :: a :: s) A = (k d lab (am_ent [a, b, c, e] nL) [] A).bind fun r => f l (r.1.toList ++ s) r.2 := by
  rw [x_call, if_pos ⟨by simp, h⟩]
  rfl
theorem x_call5 (k : am_K) (d lab nL : Nat) (f : am_F) (l : am_L) (a b c e g : Value) (s : List Value) (A : am_H) (h : (s.map fun v => v.category).sum ≤ 12 ∧ (am_sl [a, b, c, e, g]).length ≤ nL) : i_call k (d + 1) lab 5 nL f l (g :: e :: c :: b :: a :: s) A = (k d lab (am_ent [a, b, c, e, g] nL) [] A).bind fun r => f l (r.1.toList ++ s) r.2 := by
  rw [x_call, if_pos ⟨by simp, h⟩]
  rfl
theorem x_call6 (k : am_K) (d lab nL : Nat) (f : am_F) (l : am_L) (a b c e g q : Value) (s : List Value) (A : am_H) (h : (s.map fun v => v.category).sum ≤ 12 ∧ (am_sl [a, b, c, e, g, q]).length ≤ nL) : i_call k (d + 1) lab 6 nL f l (q :: g :: e :: c :: b :: a :: s) A = (k d lab (am_ent [a, b, c, e, g, q] nL) [] A).bind fun r => f l (r.1.toList ++ s) r.2 := by
  rw [x_call, if_pos ⟨by simp, h⟩]
  rfl
theorem x_rv (q : Nat) : am_rv (some q) = .ref q := rfl
