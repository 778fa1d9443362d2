/-! the mathematical store: dimensions (count, names, lengths); a list of attributes (count, names, types, first and second values); a variable (name, type, number of axes, its axes, attributes, cells); the store (dimensions, attributes, number of variables, variables, records) -/
abbrev sg_D : Type := Nat × (Nat → Int32) × (Nat → Nat)
abbrev sg_A : Type := Nat × (Nat → Int32) × (Nat → Nat) × (Nat → Int32) × (Nat → Int32)
abbrev sg_V : Type := Int32 × Nat × Nat × (Nat → Nat) × sg_A × (Nat → Int32)
abbrev sg_S : Type := sg_D × sg_A × Nat × (Nat → sg_V) × Nat
def wd (t : Nat) : Nat := if t ≤ 2 then 1 else if t = 3 then 2 else 4
def pad4 (n : Nat) : Nat := (n + 3) / 4 * 4
def sg_flv (t : Nat) : Int32 := if t = 1 then -127 else if t = 2 then 0 else if t = 3 then -32767 else -2147483647
def sg_lst (t : Nat) : Int32 := if t = 1 then -128 else if t = 2 then 0 else if t = 3 then -32768 else -2147483648
def sg_gst (t : Nat) : Int32 := if t = 1 then 127 else if t = 2 then 255 else if t = 3 then 32767 else 2147483647
def sg_fit (t : Nat) (x : Int32) : Prop := sg_lst t ≤ x ∧ x ≤ sg_gst t
def isN (x : Int32) : Prop := 33 ≤ x ∧ x ≤ 126
def sg_sum (f : Nat → Nat) : Nat → Nat
  | 0 => 0
  | n + 1 => sg_sum f n + f n
def sg_cat (f : Nat → List Nat) : Nat → List Nat
  | 0 => []
  | n + 1 => sg_cat f n ++ f n
theorem sg_sum_congr {f g : Nat → Nat} {n : Nat} (h : ∀ k, k < n → f k = g k) : sg_sum f n = sg_sum g n := by
  induction n with
  | zero => rfl
  | succ n ih => rw [sg_sum, sg_sum, ih (fun k hk => h k (by omega)), h n (by omega)]
theorem sg_cat_congr {f g : Nat → List Nat} {n : Nat} (h : ∀ k, k < n → f k = g k) : sg_cat f n = sg_cat g n := by
  induction n with
  | zero => rfl
  | succ n ih => rw [sg_cat, sg_cat, ih (fun k hk => h k (by omega)), h n (by omega)]
theorem sg_cat_len (f : Nat → List Nat) (n : Nat) : (sg_cat f n).length = sg_sum (fun k => (f k).length) n := by
  induction n with
  | zero => rfl
  | succ n ih => rw [sg_cat, sg_sum, List.length_append, ih]
theorem sg_sum_le {f g : Nat → Nat} {n : Nat} (h : ∀ k, k < n → f k ≤ g k) : sg_sum f n ≤ sg_sum g n := by
  induction n with
  | zero => exact Nat.le_refl _
  | succ n ih =>
    have h1 := ih (fun k hk => h k (by omega))
    have h2 := h n (by omega)
    rw [sg_sum, sg_sum]
    omega
theorem sg_sum_const (c n : Nat) : sg_sum (fun _ => c) n = n * c := by
  induction n with
  | zero => simp [sg_sum]
  | succ n ih => rw [sg_sum, ih, Nat.succ_mul]
theorem sg_sum_mono {f : Nat → Nat} {m n : Nat} (h : m ≤ n) : sg_sum f m ≤ sg_sum f n := by
  induction n with
  | zero => rw [Nat.le_zero.mp h]; exact Nat.le_refl _
  | succ n ih =>
    rcases Nat.lt_or_ge n m with h1 | h1
    · rw [show m = n + 1 by omega]; exact Nat.le_refl _
    · rw [sg_sum]
      have := ih h1
      omega
/-- lengths of the axes -/
def sg_l0 (s : sg_S) (v : Nat) : Nat := if 0 < (s.2.2.2.1 v).2.2.1 then s.1.2.2 ((s.2.2.2.1 v).2.2.2.1 0) else 1
def sg_l1 (s : sg_S) (v : Nat) : Nat := if 1 < (s.2.2.2.1 v).2.2.1 then s.1.2.2 ((s.2.2.2.1 v).2.2.2.1 1) else 1
/-- cells in one piece (all, or those of a record), padded size, number of record variables -/
def sg_cn (s : sg_S) (v : Nat) : Nat := (if sg_l0 s v = 0 then 1 else sg_l0 s v) * sg_l1 s v
def sg_ps (s : sg_S) (v : Nat) : Nat := pad4 (sg_cn s v * wd (s.2.2.2.1 v).2.1)
def sg_nr (s : sg_S) : Nat := sg_sum (fun v => if sg_l0 s v = 0 then 1 else 0) s.2.2.1
def sg_ls (a : sg_A) : Nat := 8 + sg_sum (fun k => 16 + pad4 (2 * wd (a.2.2.1 k))) a.1
def sg_hs (s : sg_S) : Nat := 24 + 12 * s.1.1 + sg_ls s.2.1 + sg_sum (fun v => 24 + 4 * (s.2.2.2.1 v).2.2.1 + sg_ls (s.2.2.2.1 v).2.2.2.2.1) s.2.2.1
/-- padded sizes of the first n variables: the fixed ones, the growing ones -/
def sg_pf (s : sg_S) (n : Nat) : Nat := sg_sum (fun v => if sg_l0 s v = 0 then 0 else sg_ps s v) n
def sg_pg (s : sg_S) (n : Nat) : Nat := sg_sum (fun v => if sg_l0 s v = 0 then sg_ps s v else 0) n
def sg_bg (s : sg_S) (v : Nat) : Nat := if sg_l0 s v = 0 then sg_hs s + sg_pf s s.2.2.1 + sg_pg s v else sg_hs s + sg_pf s v
/-- bytes of a record -/
def sg_rs (s : sg_S) : Nat := if sg_nr s = 1 then sg_sum (fun v => if sg_l0 s v = 0 then sg_l1 s v * wd (s.2.2.2.1 v).2.1 else 0) s.2.2.1 else sg_pg s s.2.2.1
def sg_tot (s : sg_S) (r : Nat) : Nat := sg_hs s + sg_pf s s.2.2.1 + r * sg_rs s
/-! bytes -/
def shr8 (x : Int32) (k : Nat) : Int32 := x >>> ((8 * nI k) &&& 31)
def byt (x : Int32) (k : Nat) : Nat := (shr8 x k &&& 255).toNatClampNeg
def num (x : Int32) : Nat → List Nat
  | 0 => []
  | w + 1 => byt x w :: num x w
theorem num_len (x : Int32) (w : Nat) : (num x w).length = w := by
  induction w with
  | zero => rfl
  | succ w ih => rw [num, List.length_cons, ih]
def wrd (n : Nat) : List Nat := num (nI n) 4
def nam (x : Int32) : List Nat := num 1 4 ++ num (x <<< ((24 : Int32) &&& 31)) 4
def hea (kind n : Nat) : List Nat := wrd (if n = 0 then 0 else kind) ++ wrd n
def padl (n : Nat) : List Nat := List.replicate (pad4 n - n) 0
def ia1 (a : sg_A) (k : Nat) : List Nat := nam (a.2.1 k) ++ wrd (a.2.2.1 k) ++ wrd 2 ++ num (a.2.2.2.1 k) (wd (a.2.2.1 k)) ++ num (a.2.2.2.2 k) (wd (a.2.2.1 k)) ++ padl (2 * wd (a.2.2.1 k))
def im_a (a : sg_A) : List Nat := hea 12 a.1 ++ sg_cat (ia1 a) a.1
def im_v (s : sg_S) (v : Nat) : List Nat := nam (s.2.2.2.1 v).1 ++ wrd (s.2.2.2.1 v).2.2.1 ++ sg_cat (fun k => wrd ((s.2.2.2.1 v).2.2.2.1 k)) (s.2.2.2.1 v).2.2.1 ++ im_a (s.2.2.2.1 v).2.2.2.2.1 ++ wrd (s.2.2.2.1 v).2.1 ++ wrd (sg_ps s v) ++ wrd (sg_bg s v)
/-- n cells from place k on -/
def im_c (s : sg_S) (v k n : Nat) : List Nat := sg_cat (fun j => num ((s.2.2.2.1 v).2.2.2.2.2 (k + j)) (wd (s.2.2.2.1 v).2.1)) n
def im_f (s : sg_S) (v : Nat) : List Nat := if sg_l0 s v = 0 then [] else im_c s v 0 (sg_cn s v) ++ padl (sg_cn s v * wd (s.2.2.2.1 v).2.1)
def im_r (s : sg_S) (r v : Nat) : List Nat := if sg_l0 s v = 0 then im_c s v (r * sg_l1 s v) (sg_l1 s v) ++ (if 1 < sg_nr s then padl (sg_l1 s v * wd (s.2.2.2.1 v).2.1) else []) else []
def im_h (s : sg_S) : List Nat := num 1196573697 4 ++ wrd s.2.2.2.2 ++ hea 10 s.1.1 ++ sg_cat (fun k => nam (s.1.2.1 k) ++ wrd (s.1.2.2 k)) s.1.1 ++ im_a s.2.1 ++ hea 11 s.2.2.1 ++ sg_cat (im_v s) s.2.2.1
def img (s : sg_S) : List Nat := im_h s ++ sg_cat (im_f s) s.2.2.1 ++ sg_cat (fun r => sg_cat (im_r s r) s.2.2.1) s.2.2.2.2
