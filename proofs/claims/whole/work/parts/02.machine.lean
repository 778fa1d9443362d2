/-! the pure machine: cells (rows of numbers: kind, length, contents; rows of references; objects: class number, fields), heap (next position, slots made, cells), locals, answers -/
abbrev am_C : Type := (Nat × Nat × (Nat → Int32)) ⊕ ((Nat × (Nat → Option Nat)) ⊕ (Nat × List Value))
abbrev am_H : Type := Nat × Nat × (Nat → Option am_C)
abbrev am_L : Type := List (Option Value)
abbrev am_R : Type := Option Value × am_H
abbrev am_F : Type := am_L → List Value → am_H → Option am_R
abbrev am_K : Type := Nat → Nat → am_F
abbrev am_B : Type := am_K → Nat → am_F
def am_run (T : Nat → am_B) : Nat → am_K
  | 0 => fun _ _ _ _ _ => none
  | n + 1 => fun d lab => T lab (am_run T n) d
def am_set (A : am_H) (p : Nat) (e : am_C) : am_H := (A.1, A.2.1, fun q => if q = p then some e else A.2.2 q)
def am_new (A : am_H) (n : Nat) (e : am_C) : am_H := (A.1 + 1, A.2.1 + n, fun q => if q = A.1 then some e else A.2.2 q)
def am_rv (r : Option Nat) : Value := match r with
  | none => .null
  | some p => .ref p
/-- a store into a local: not behind a long -/
def am_put (l : am_L) (i : Nat) (v : Value) : Option am_L := if i < l.length then (match i with
  | 0 => some (l.set 0 (some v))
  | j + 1 => match l[j]? with
    | some (some (.long _)) => none
    | some (some (.double _)) => none
    | _ => some (l.set (j + 1) (some v))) else none
def am_put2 (l : am_L) (i : Nat) (v : Value) : Option am_L := if i + 1 < l.length then (match am_put l i v with
  | some l' => some (l'.set (i + 1) none)
  | none => none) else none
/-- arguments as locals -/
def am_sl : List Value → am_L
  | [] => []
  | v :: vs => if v.category = 2 then some v :: none :: am_sl vs else some v :: am_sl vs
def am_ent (vs : List Value) (n : Nat) : am_L := am_sl vs ++ List.replicate (n - (am_sl vs).length) none
-- constants
def i_int (v : Int32) (f : am_F) : am_F := fun l s A => f l (.int v :: s) A
def i_long (v : Int64) (f : am_F) : am_F := fun l s A => f l (.long v :: s) A
def i_null (f : am_F) : am_F := fun l s A => f l (.null :: s) A
def i_stat (i : Nat) (f : am_F) : am_F := fun l s A => f l (.ref i :: s) A
-- locals
def i_iload (i : Nat) (f : am_F) : am_F := fun l s A => match l[i]? with
  | some (some (.int x)) => f l (.int x :: s) A
  | _ => none
def i_lload (i : Nat) (f : am_F) : am_F := fun l s A => match l[i]? with
  | some (some (.long x)) => f l (.long x :: s) A
  | _ => none
def i_aload (i : Nat) (f : am_F) : am_F := fun l s A => match l[i]? with
  | some (some (.ref p)) => f l (.ref p :: s) A
  | some (some .null) => f l (.null :: s) A
  | _ => none
def i_istore (i : Nat) (f : am_F) : am_F := fun l s A => match s with
  | .int x :: s => (match am_put l i (.int x) with
    | some l' => f l' s A
    | none => none)
  | _ => none
def i_astore (i : Nat) (f : am_F) : am_F := fun l s A => match s with
  | .ref p :: s => (match am_put l i (.ref p) with
    | some l' => f l' s A
    | none => none)
  | .null :: s => (match am_put l i .null with
    | some l' => f l' s A
    | none => none)
  | _ => none
def i_lstore (i : Nat) (f : am_F) : am_F := fun l s A => match s with
  | .long x :: s => (match am_put2 l i (.long x) with
    | some l' => f l' s A
    | none => none)
  | _ => none
def i_iinc (i : Nat) (n : Int32) (f : am_F) : am_F := fun l s A => match l[i]? with
  | some (some (.int x)) => (match am_put l i (.int (x + n)) with
    | some l' => f l' s A
    | none => none)
  | _ => none
-- arithmetic
def i_ii (op : Int32 → Int32 → Int32) (f : am_F) : am_F := fun l s A => match s with
  | .int y :: .int x :: s => f l (.int (op x y) :: s) A
  | _ => none
def i_idz (op : Int32 → Int32 → Int32) (f : am_F) : am_F := fun l s A => match s with
  | .int y :: .int x :: s => if y = 0 then none else f l (.int (op x y) :: s) A
  | _ => none
def i_i (op : Int32 → Int32) (f : am_F) : am_F := fun l s A => match s with
  | .int x :: s => f l (.int (op x) :: s) A
  | _ => none
def i_ll (op : Int64 → Int64 → Int64) (f : am_F) : am_F := fun l s A => match s with
  | .long y :: .long x :: s => f l (.long (op x y) :: s) A
  | _ => none
def i_lsh (op : Int64 → Int32 → Int64) (f : am_F) : am_F := fun l s A => match s with
  | .int y :: .long x :: s => f l (.long (op x y) :: s) A
  | _ => none
def i_i2l (f : am_F) : am_F := fun l s A => match s with
  | .int x :: s => f l (.long x.toInt64 :: s) A
  | _ => none
def i_l2i (f : am_F) : am_F := fun l s A => match s with
  | .long x :: s => f l (.int x.toInt32 :: s) A
  | _ => none
def i_lcmp (f : am_F) : am_F := fun l s A => match s with
  | .long y :: .long x :: s => f l (.int (lg_cmp x y) :: s) A
  | _ => none
-- stack
def i_dup (f : am_F) : am_F := fun l s A => match s with
  | v :: s => if v.category = 1 then f l (v :: v :: s) A else none
  | _ => none
def i_pop (f : am_F) : am_F := fun l s A => match s with
  | v :: s => if v.category = 1 then f l s A else none
  | _ => none
def i_dup2 (f : am_F) : am_F := fun l s A => match s with
  | v :: w :: s => if v.category = 1 then (if w.category = 1 then f l (v :: w :: v :: w :: s) A else none) else none
  | _ => none
-- branches: where it goes when it holds, and when not
def i_ifeq (t f : am_F) : am_F := fun l s A => match s with
  | .int x :: s => if x = 0 then t l s A else f l s A
  | _ => none
def i_ifne (t f : am_F) : am_F := fun l s A => match s with
  | .int x :: s => if ¬ x = 0 then t l s A else f l s A
  | _ => none
def i_iflt (t f : am_F) : am_F := fun l s A => match s with
  | .int x :: s => if x < 0 then t l s A else f l s A
  | _ => none
def i_ifge (t f : am_F) : am_F := fun l s A => match s with
  | .int x :: s => if 0 ≤ x then t l s A else f l s A
  | _ => none
def i_ifgt (t f : am_F) : am_F := fun l s A => match s with
  | .int x :: s => if 0 < x then t l s A else f l s A
  | _ => none
def i_ifle (t f : am_F) : am_F := fun l s A => match s with
  | .int x :: s => if x ≤ 0 then t l s A else f l s A
  | _ => none
def i_cmpeq (t f : am_F) : am_F := fun l s A => match s with
  | .int y :: .int x :: s => if x = y then t l s A else f l s A
  | _ => none
def i_cmpne (t f : am_F) : am_F := fun l s A => match s with
  | .int y :: .int x :: s => if ¬ x = y then t l s A else f l s A
  | _ => none
def i_cmplt (t f : am_F) : am_F := fun l s A => match s with
  | .int y :: .int x :: s => if x < y then t l s A else f l s A
  | _ => none
def i_cmpge (t f : am_F) : am_F := fun l s A => match s with
  | .int y :: .int x :: s => if y ≤ x then t l s A else f l s A
  | _ => none
def i_cmpgt (t f : am_F) : am_F := fun l s A => match s with
  | .int y :: .int x :: s => if y < x then t l s A else f l s A
  | _ => none
def i_cmple (t f : am_F) : am_F := fun l s A => match s with
  | .int y :: .int x :: s => if x ≤ y then t l s A else f l s A
  | _ => none
def i_ifnull (t f : am_F) : am_F := fun l s A => match s with
  | .null :: s => t l s A
  | .ref _ :: s => f l s A
  | _ => none
def i_ifnonnull (t f : am_F) : am_F := fun l s A => match s with
  | .ref _ :: s => t l s A
  | .null :: s => f l s A
  | _ => none
/-- a switch over 0 .. n - 1 -/
def i_switch (ts : List am_F) (dflt : am_F) : am_F := fun l s A => match s with
  | .int x :: s => if x < 0 then dflt l s A else (match ts[x.toNatClampNeg]? with
    | some t => t l s A
    | none => dflt l s A)
  | _ => none
-- cells by kind
def am_obj (A : am_H) (p ci : Nat) : Option (List Value) := match A.2.2 p with
  | some (.inr (.inr (c, fs))) => if c = ci then some fs else none
  | _ => none
def am_row (A : am_H) (p kd : Nat) : Option (Nat × (Nat → Int32)) := match A.2.2 p with
  | some (.inl (k, n, g)) => if k = kd then some (n, g) else none
  | _ => none
def am_refs (A : am_H) (p : Nat) : Option (Nat × (Nat → Option Nat)) := match A.2.2 p with
  | some (.inr (.inl (n, g))) => some (n, g)
  | _ => none
def am_len (A : am_H) (p : Nat) : Option Nat := match A.2.2 p with
  | some (.inl (_, n, _)) => some n
  | some (.inr (.inl (n, _))) => some n
  | _ => none
def am_ix (i : Int32) (n : Nat) : Option Nat := if i < 0 then none else if i.toNatClampNeg < n then some i.toNatClampNeg else none
/-- positions from 5 on may be written -/
def am_own (p : Nat) : Option Unit := if 5 ≤ p then some () else none
-- fields
def i_getf (ci k : Nat) (f : am_F) : am_F := fun l s A => match s with
  | .ref p :: s => (am_obj A p ci).bind fun fs => (fs[k]?).bind fun v => f l (v :: s) A
  | _ => none
def am_wr (ci k : Nat) (v : Value) (f : am_F) (p : Nat) : am_F := fun l s A =>
  (am_obj A p ci).bind fun fs => (fs[k]?).bind fun _ => (am_own p).bind fun _ => f l s (am_set A p (.inr (.inr (ci, fs.set k v))))
def i_putI (ci k : Nat) (f : am_F) : am_F := fun l s A => match s with
  | .int x :: .ref p :: s => am_wr ci k (.int x) f p l s A
  | _ => none
def i_putZ (ci k : Nat) (f : am_F) : am_F := fun l s A => match s with
  | .int x :: .ref p :: s => if x = 0 ∨ x = 1 then am_wr ci k (.int x) f p l s A else none
  | _ => none
def i_putR (ci k : Nat) (f : am_F) : am_F := fun l s A => match s with
  | .ref q :: .ref p :: s => am_wr ci k (.ref q) f p l s A
  | _ => none
-- rows
def i_iald (kd : Nat) (f : am_F) : am_F := fun l s A => match s with
  | .int i :: .ref p :: s => (am_row A p kd).bind fun a => (am_ix i a.1).bind fun j => f l (.int (a.2 j) :: s) A
  | _ => none
def i_iast (kd : Nat) (nar : Int32 → Int32) (f : am_F) : am_F := fun l s A => match s with
  | .int x :: .int i :: .ref p :: s => (am_row A p kd).bind fun a => (am_ix i a.1).bind fun j => (am_own p).bind fun _ => f l s (am_set A p (.inl (kd, a.1, upd a.2 j (nar x))))
  | _ => none
def i_aald (f : am_F) : am_F := fun l s A => match s with
  | .int i :: .ref p :: s => (am_refs A p).bind fun a => (am_ix i a.1).bind fun j => f l (am_rv (a.2 j) :: s) A
  | _ => none
def i_aast (ci : Nat) (f : am_F) : am_F := fun l s A => match s with
  | .ref q :: .int i :: .ref p :: s => (am_refs A p).bind fun a => (am_obj A q ci).bind fun _ => (am_ix i a.1).bind fun j => (am_own p).bind fun _ => f l s (am_set A p (.inr (.inl (a.1, va_up a.2 j (some q)))))
  | _ => none
def i_alen (f : am_F) : am_F := fun l s A => match s with
  | .ref p :: s => (am_len A p).bind fun n => f l (.int (Int32.ofNat n) :: s) A
  | _ => none
/-- new rows: of at most 100000 places -/
def i_newi (kd : Nat) (f : am_F) : am_F := fun l s A => match s with
  | .int n :: s => (am_ix n 100000).bind fun N => f l (.ref A.1 :: s) (am_new A N (.inl (kd, N, fun _ => 0)))
  | _ => none
def i_newq (f : am_F) : am_F := fun l s A => match s with
  | .int n :: s => (am_ix n 100000).bind fun N => f l (.ref A.1 :: s) (am_new A N (.inr (.inl (N, fun _ => none))))
  | _ => none
def i_new (ci : Nat) (fs : List Value) (f : am_F) : am_F := fun l s A => f l (.ref A.1 :: s) (am_new A fs.length (.inr (.inr (ci, fs))))
-- Object.<init>
def i_obj (d : Nat) (f : am_F) : am_F := fun l s A => match d with
  | 0 => none
  | _ + 1 => match s with
    | .ref _ :: s => if (s.map fun v => v.category).sum ≤ 8 then f l s A else none
    | _ => none
-- calls: na arguments (with the receiver), nL locals of the callee
def i_call (k : am_K) (d lab na nL : Nat) (f : am_F) : am_F := fun l s A => match d with
  | 0 => none
  | d' + 1 => if na ≤ s.length ∧ ((s.drop na).map fun v => v.category).sum ≤ 12 ∧ (am_sl (s.take na).reverse).length ≤ nL then (k d' lab (am_ent (s.take na).reverse nL) [] A).bind fun r => f l (r.1.toList ++ s.drop na) r.2 else none
/-- the receiver is an object of that class -/
def i_recv (ci na : Nat) (f : am_F) : am_F := fun l s A => match s[na]? with
  | some (.ref p) => (am_obj A p ci).bind fun _ => f l s A
  | _ => none
-- ends
def i_iret : am_F := fun _ s A => match s with
  | [.int x] => some (some (.int x), A)
  | _ => none
def i_zret : am_F := fun _ s A => match s with
  | [.int x] => if x = 0 ∨ x = 1 then some (some (.int x), A) else none
  | _ => none
def i_lret : am_F := fun _ s A => match s with
  | [.long x] => some (some (.long x), A)
  | _ => none
def i_aret : am_F := fun _ s A => match s with
  | [.ref p] => some (some (.ref p), A)
  | [.null] => some (some .null, A)
  | _ => none
def i_vret : am_F := fun _ s A => match s with
  | [] => some (none, A)
  | _ => none
