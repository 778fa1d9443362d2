/-! lengths of the image's pieces -/
theorem wrd_len (n : Nat) : (wrd n).length = 4 := num_len _ 4
theorem nam_len (x : Int32) : (nam x).length = 8 := by
  rw [nam, List.length_append, num_len, num_len]
theorem hea_len (k n : Nat) : (hea k n).length = 8 := by
  rw [hea, List.length_append, wrd_len, wrd_len]
theorem pad4_ge (n : Nat) : n ≤ pad4 n := by
  unfold pad4
  omega
theorem padl_len (n : Nat) : (padl n).length = pad4 n - n := List.length_replicate
theorem ia1_len (a : sg_A) (k : Nat) : (ia1 a k).length = 16 + pad4 (2 * wd (a.2.2.1 k)) := by
  simp only [ia1, List.length_append, nam_len, wrd_len, num_len, padl_len]
  have := pad4_ge (2 * wd (a.2.2.1 k))
  omega
theorem im_a_len (a : sg_A) : (im_a a).length = sg_ls a := by
  rw [im_a, sg_ls, List.length_append, hea_len, sg_cat_len]
  congr 1
  exact sg_sum_congr (fun k _ => ia1_len a k)
theorem pad4_mod (n : Nat) : pad4 n % 4 = 0 := by
  unfold pad4
  omega
theorem padl_mod {m n : Nat} (h : m % 4 = 0) : padl (m + n) = padl n := by
  unfold padl pad4
  congr 1
  omega
theorem sum_mod {f : Nat → Nat} {n : Nat} (h : ∀ k, k < n → f k % 4 = 0) : sg_sum f n % 4 = 0 := by
  induction n with
  | zero => rfl
  | succ n ih =>
    have h1 := ih (fun k hk => h k (by omega))
    have h2 := h n (by omega)
    rw [sg_sum]
    omega
theorem sg_ls_mod (a : sg_A) : sg_ls a % 4 = 0 := by
  have : sg_sum (fun k => 16 + pad4 (2 * wd (a.2.2.1 k))) a.1 % 4 = 0 := sum_mod (fun k _ => by
    have := pad4_mod (2 * wd (a.2.2.1 k))
    omega)
  unfold sg_ls
  omega
theorem im_v_len (s : sg_S) (v : Nat) : (im_v s v).length = 24 + 4 * (s.2.2.2.1 v).2.2.1 + sg_ls (s.2.2.2.1 v).2.2.2.2.1 := by
  simp only [im_v, List.length_append, nam_len, wrd_len, im_a_len, sg_cat_len, sg_sum_const]
  omega
theorem im_h_len (s : sg_S) : (im_h s).length = sg_hs s := by
  simp only [im_h, sg_hs, List.length_append, num_len, nam_len, wrd_len, hea_len, im_a_len, sg_cat_len, im_v_len, sg_sum_const]
  omega
theorem im_c_len (s : sg_S) (v k n : Nat) : (im_c s v k n).length = n * wd (s.2.2.2.1 v).2.1 := by
  simp only [im_c, sg_cat_len, num_len, sg_sum_const]
theorem im_f_len (s : sg_S) (v : Nat) : (im_f s v).length = if sg_l0 s v = 0 then 0 else sg_ps s v := by
  unfold im_f
  split
  · rfl
  · rw [List.length_append, im_c_len, padl_len]
    have := pad4_ge (sg_cn s v * wd (s.2.2.2.1 v).2.1)
    unfold sg_ps
    omega
theorem sg_cn_rec {s : sg_S} {v : Nat} (h : sg_l0 s v = 0) : sg_cn s v = sg_l1 s v := by
  unfold sg_cn
  rw [if_pos h, Nat.one_mul]
theorem im_r_len (s : sg_S) (r v : Nat) : (im_r s r v).length = if sg_l0 s v = 0 then (if 1 < sg_nr s then sg_ps s v else sg_l1 s v * wd (s.2.2.2.1 v).2.1) else 0 := by
  unfold im_r
  split
  · rename_i h
    rw [List.length_append, im_c_len]
    split
    · rw [padl_len]
      unfold sg_ps
      rw [sg_cn_rec h]
      have := pad4_ge (sg_l1 s v * wd (s.2.2.2.1 v).2.1)
      omega
    · rfl
  · rfl
theorem sg_sum_zero {f : Nat → Nat} {n : Nat} (h : sg_sum f n = 0) : ∀ k, k < n → f k = 0 := by
  induction n with
  | zero => intro k hk; omega
  | succ n ih =>
    rw [sg_sum] at h
    intro k hk
    rcases Nat.lt_or_ge k n with h1 | h1
    · exact ih (by omega) k h1
    · rw [show k = n by omega]; omega
theorem sg_nr_zero {s : sg_S} (h : sg_nr s = 0) : ∀ v, v < s.2.2.1 → sg_l0 s v ≠ 0 := by
  intro v hv h0
  have := sg_sum_zero h v hv
  rw [if_pos h0] at this
  omega
theorem im_rec_len (s : sg_S) (r : Nat) : (sg_cat (im_r s r) s.2.2.1).length = sg_rs s := by
  rw [sg_cat_len]
  unfold sg_rs
  by_cases h1 : sg_nr s = 1
  · rw [if_pos h1]
    refine sg_sum_congr (fun v _ => ?_)
    rw [im_r_len, h1]
    rfl
  · rw [if_neg h1]
    unfold sg_pg
    refine sg_sum_congr (fun v hv => ?_)
    rw [im_r_len]
    by_cases h0 : sg_nr s = 0
    · rw [if_neg (sg_nr_zero h0 v hv), if_neg (sg_nr_zero h0 v hv)]
    · rw [if_pos (show 1 < sg_nr s by omega)]
theorem img_len (s : sg_S) : (img s).length = sg_tot s s.2.2.2.2 := by
  unfold img sg_tot sg_pf
  simp only [List.length_append, im_h_len, sg_cat_len, im_f_len]
  rw [show (fun k => sg_sum (fun v => (im_r s k v).length) s.2.2.1) = fun _ => sg_rs s from funext fun r => by rw [← sg_cat_len]; exact im_rec_len s r, sg_sum_const]
