/-! reading back what was written -/
def seg (D : List Nat) (c : Nat) (bs : List Nat) : Prop := c + bs.length ≤ D.length ∧ ∀ i, i < bs.length → D.getD (c + i) 0 = bs.getD i 0
theorem getD_app_l {a b : List Nat} {i : Nat} (h : i < a.length) : (a ++ b).getD i 0 = a.getD i 0 := by
  simp [List.getElem?_append_left h]
theorem getD_app_r {a b : List Nat} {i : Nat} : (a ++ b).getD (a.length + i) 0 = b.getD i 0 := by
  have h : (a ++ b)[a.length + i]? = b[i]? := by rw [List.getElem?_append_right (Nat.le_add_right _ _), Nat.add_sub_cancel_left]
  simp only [List.getD_eq_getElem?_getD, h]
theorem seg_l {D : List Nat} {c : Nat} {a b : List Nat} (h : seg D c (a ++ b)) : seg D c a := by
  obtain ⟨h1, h2⟩ := h
  rw [List.length_append] at h1 h2
  exact ⟨by omega, fun i hi => by rw [h2 i (by omega), getD_app_l hi]⟩
theorem seg_r {D : List Nat} {c : Nat} {a b : List Nat} (h : seg D c (a ++ b)) : seg D (c + a.length) b := by
  obtain ⟨h1, h2⟩ := h
  rw [List.length_append] at h1 h2
  exact ⟨by omega, fun i hi => by rw [Nat.add_assoc, h2 (a.length + i) (by omega), getD_app_r]⟩
theorem seg_cat {D : List Nat} {c n : Nat} {F : Nat → List Nat} (h : seg D c (sg_cat F n)) {k : Nat} (hk : k < n) : seg D (c + (sg_cat F k).length) (F k) := by
  have e : n = (k + 1) + (n - (k + 1)) := by omega
  rw [e, cat_add, sg_cat] at h
  exact seg_r (seg_l h)
theorem seg_self {a b : List Nat} : seg (a ++ b) 0 a := ⟨by rw [List.length_append]; omega, fun i hi => by rw [Nat.zero_add, getD_app_l hi]⟩
theorem bt_byt {x : Int32} {k i : Nat} (hk : k < 4) (hi : i < 32) : bt (nI (byt x k)) i = (decide (i < 8) && bt x (8 * k + i)) := by
  rw [← byt_nI, bq_and, bq_255]
  unfold shr8
  rw [show (8 : Int32) * nI k = nI (8 * k) from pk_mul 8 k, bq_sshr (8 * k) (by omega) x hi]
  by_cases c : i < 8
  · rw [if_pos (by omega)]
    simp [c]
  · simp [c]
theorem num_get (x : Int32) : ∀ (w i : Nat), i < w → (num x w).getD i 0 = byt x (w - 1 - i) := by
  intro w
  induction w with
  | zero => intro i hi; omega
  | succ w ih =>
    intro i hi
    cases i with
    | zero => simp [num]
    | succ i =>
      have e1 : (num x (w + 1)).getD (i + 1) 0 = (num x w).getD i 0 := by simp [num]
      rw [e1, ih i (by omega)]
      congr 1
      omega
theorem rd_bits {D : List Nat} {c w : Nat} {x : Int32} (hw : w ≤ 4) (h : seg D c (num x w)) : ∀ j, j ≤ w → ∀ i, i < 32 → bt (rd D c j) i = (decide (i < 8 * j) && bt x (8 * (w - j) + i)) := by
  intro j
  induction j with
  | zero =>
    intro _ i hi
    rw [rd, bq_0]
    simp
  | succ j ih =>
    intro hj i hi
    have hb : D.getD (c + j) 0 = byt x (w - 1 - j) := by
      rw [h.2 j (by rw [num_len]; omega), num_get x w j (by omega)]
    rw [rd, bq_or, hb, bt_byt (by omega) hi, bq_shl8 _ hi]
    by_cases c8 : i < 8
    · have n8 : ¬ 8 ≤ i := by omega
      simp only [n8, decide_false, Bool.false_and, Bool.false_or, c8, decide_true, Bool.true_and]
      rw [show decide (i < 8 * (j + 1)) = true by simp; omega, Bool.true_and, show w - 1 - j = w - (j + 1) by omega]
    · have n8 : 8 ≤ i := by omega
      rw [ih (by omega) (i - 8) (by omega)]
      simp only [n8, decide_true, Bool.true_and, c8, decide_false, Bool.false_and, Bool.or_false]
      rw [show decide (i - 8 < 8 * j) = decide (i < 8 * (j + 1)) by congr 1; apply propext; omega, show 8 * (w - j) + (i - 8) = 8 * (w - (j + 1)) + i by omega]
theorem rd_4 {D : List Nat} {c : Nat} {x : Int32} (h : seg D c (num x 4)) : rd D c 4 = x := by
  apply bq_ext
  intro i hi
  rw [rd_bits (by decide) h 4 (Nat.le_refl _) i hi, show decide (i < 8 * 4) = true by simp; omega, Bool.true_and]
  congr 1
  omega
theorem rd_wrd {D : List Nat} {c n : Nat} (h : seg D c (wrd n)) : rd D c 4 = nI n := rd_4 h
theorem rd_1 {D : List Nat} {c : Nat} {x : Int32} (h : seg D c (num x 1)) : rd D c 1 = x &&& 255 := by
  apply bq_ext
  intro i hi
  rw [rd_bits (by decide) h 1 (Nat.le_refl _) i hi, bq_and, bq_255, Bool.and_comm]
  congr 1
  congr 1
  omega
theorem rd_2 {D : List Nat} {c : Nat} {x : Int32} (h : seg D c (num x 2)) : rd D c 2 = x &&& 65535 := by
  apply bq_ext
  intro i hi
  rw [rd_bits (by decide) h 2 (Nat.le_refl _) i hi, bq_and, bq_65535, Bool.and_comm]
  congr 1
  congr 1
  omega
theorem to8 {x : Int32} (h1 : -128 ≤ x.toInt) (h2 : x.toInt ≤ 127) : x.toInt8.toInt32 = x := by
  apply Int32.toInt_inj.mp
  rw [Int8.toInt_toInt32, Int32.toInt_toInt8]
  exact Int.bmod_eq_of_le (by omega) (by omega)
theorem to16 {x : Int32} (h1 : -32768 ≤ x.toInt) (h2 : x.toInt ≤ 32767) : x.toInt16.toInt32 = x := by
  apply Int32.toInt_inj.mp
  rw [Int16.toInt_toInt32, Int32.toInt_toInt16]
  exact Int.bmod_eq_of_le (by omega) (by omega)
theorem and65535_16 (y : Int32) : (y &&& 65535).toInt16 = y.toInt16 := by
  apply Int16.toBitVec_inj.mp
  rw [Int32.toBitVec_toInt16, Int32.toBitVec_toInt16, Int32.toBitVec_and]
  apply BitVec.eq_of_getLsbD_eq
  intro i hi
  have hm : ∀ i < 16, (65535 : Int32).toBitVec.getLsbD i = true := by decide
  rw [BitVec.getLsbD_signExtend, BitVec.getLsbD_signExtend, BitVec.getLsbD_and, hm i hi, if_pos (show i < 32 by omega), if_pos (show i < 32 by omega), Bool.and_true]
theorem valb_in {t : Nat} {x : Int32} (h : valb t x = true) : (am_s2 t).toInt ≤ x.toInt ∧ x.toInt ≤ (am_s3 t).toInt := by
  simp only [valb, Bool.and_eq_true, Bool.not_eq_true', decide_eq_false_iff_not] at h
  obtain ⟨h1, h2⟩ := h
  rw [Int32.lt_iff_toInt_lt] at h1 h2
  exact ⟨by omega, by omega⟩
theorem vof_back {D : List Nat} {c t : Nat} {x : Int32} (h1 : 1 ≤ t) (h4 : t ≤ 4) (hx : valb t x = true) (h : seg D c (num x (wd t))) : vof t (rd D c (wd t)) = x := by
  have hr := valb_in hx
  rcases (show t = 1 ∨ t = 2 ∨ t = 3 ∨ t = 4 by omega) with rfl | rfl | rfl | rfl
  · have e := rd_1 h
    show (rd D c 1).toInt8.toInt32 = x
    rw [e, and255_8]
    exact to8 hr.1 hr.2
  · have e := rd_1 h
    show rd D c 1 = x
    rw [e]
    have h0 : ¬ x < 0 := by
      rw [Int32.lt_iff_toInt_lt]
      have : (am_s2 2).toInt = 0 := by decide
      have h3 : (0 : Int32).toInt = 0 := by decide
      omega
    have h5 : x ≤ 255 := by
      rw [Int32.le_iff_toInt_le]
      have : (am_s3 2).toInt = 255 := by decide
      have h3 : (255 : Int32).toInt = 255 := by decide
      omega
    obtain ⟨k, hk, rfl⟩ := nI_of2 (M := 255) (n := 255) rfl h0 h5
    rw [pk_andN (by omega) 8 (by decide)]
    congr 1
    omega
  · have e := rd_2 h
    show (rd D c 2).toInt16.toInt32 = x
    rw [e, and65535_16]
    exact to16 hr.1 hr.2
  · exact rd_4 h
theorem nmr_dec : ∀ c, c < 128 → nmr (nI c <<< ((24 : Int32) &&& 31)) = nI c := by decide +kernel
theorem nmr_back {D : List Nat} {c : Nat} {x : Int32} (hx : isNb x = true) (h : seg D c (nam x)) : nmr (rd D (c + 4) 4) = x := by
  have h2 := seg_r h
  rw [num_len] at h2
  rw [rd_4 h2]
  obtain ⟨k, hk, rfl⟩ := isNb_nI hx
  exact nmr_dec k hk
theorem nmr_eq (y : Int32) : (y >>> ((24 : Int32) &&& 31)) &&& 255 = nmr y := by
  apply bq_ext
  intro i hi
  unfold nmr
  rw [bq_and, bq_255, show (24 : Int32) = nI 24 from rfl, bq_ushr 24 (by decide), bq_sshr 24 (by decide) _ hi]
  by_cases c : i < 8
  · rw [if_pos (by omega)]
    simp [c]
  · rw [bq_big (show 32 ≤ 24 + i by omega)]
    simp [c]
/-- what is read fits its type -/
theorem vof_fit {D : List Nat} {c t : Nat} (h1 : 1 ≤ t) (h4 : t ≤ 4) (hD : ∀ i, D.getD i 0 < 256) : valb t (vof t (rd D c (wd t))) = true := by
  have key : ∀ (t : Nat) (z : Int32), (am_s2 t).toInt ≤ z.toInt → z.toInt ≤ (am_s3 t).toInt → valb t z = true := by
    intro t z a1 a2
    simp only [valb, Bool.and_eq_true, Bool.not_eq_true', decide_eq_false_iff_not]
    rw [Int32.lt_iff_toInt_lt, Int32.lt_iff_toInt_lt]
    exact ⟨by omega, by omega⟩
  rcases (show t = 1 ∨ t = 2 ∨ t = 3 ∨ t = 4 by omega) with rfl | rfl | rfl | rfl
  · refine key 1 _ ?_ ?_
    · show (am_s2 1).toInt ≤ ((rd D c 1).toInt8.toInt32).toInt
      rw [Int8.toInt_toInt32]
      have := Int8.le_toInt (rd D c 1).toInt8
      have e : (am_s2 1).toInt = -128 := by decide
      omega
    · show ((rd D c 1).toInt8.toInt32).toInt ≤ (am_s3 1).toInt
      rw [Int8.toInt_toInt32]
      have := Int8.toInt_lt (rd D c 1).toInt8
      have e : (am_s3 1).toInt = 127 := by decide
      omega
  · have hb := hD (c + 0)
    have e0 : vof 2 (rd D c (wd 2)) = nI (D.getD (c + 0) 0) := by
      show (0 : Int32) <<< ((8 : Int32) &&& 31) ||| nI (D.getD (c + 0) 0) = _
      rw [show (0 : Int32) <<< ((8 : Int32) &&& 31) = 0 by decide, Int32.zero_or]
    rw [e0]
    refine key 2 _ ?_ ?_
    · rw [nI_toInt (by omega)]
      have e : (am_s2 2).toInt = 0 := by decide
      omega
    · rw [nI_toInt (by omega)]
      have e : (am_s3 2).toInt = 255 := by decide
      omega
  · refine key 3 _ ?_ ?_
    · show (am_s2 3).toInt ≤ ((rd D c 2).toInt16.toInt32).toInt
      rw [Int16.toInt_toInt32]
      have := Int16.le_toInt (rd D c 2).toInt16
      have e : (am_s2 3).toInt = -32768 := by decide
      omega
    · show ((rd D c 2).toInt16.toInt32).toInt ≤ (am_s3 3).toInt
      rw [Int16.toInt_toInt32]
      have := Int16.toInt_lt (rd D c 2).toInt16
      have e : (am_s3 3).toInt = 32767 := by decide
      omega
  · refine key 4 _ ?_ ?_
    · have := Int32.le_toInt (vof 4 (rd D c (wd 4)))
      have e : (am_s2 4).toInt = -2147483648 := by decide
      omega
    · have := Int32.toInt_lt (vof 4 (rd D c (wd 4)))
      have e : (am_s3 4).toInt = 2147483647 := by decide
      omega
