/-! eight bytes as one number; adding to the draft: numbers first -/
def v8 (bs : List Nat) (k : Nat) : Nat → Nat
  | 0 => 0
  | n + 1 => v8 bs k n * 256 + bs.getD (8 * k + n) 0
theorem v8_far {bs : List Nat} {k : Nat} (h : bs.length ≤ 8 * k) (n : Nat) : v8 bs k n = 0 := by
  induction n with
  | zero => rfl
  | succ n ih =>
    have e1 : bs.getD (8 * k + n) 0 = 0 := by simp [List.getElem?_eq_none (show bs.length ≤ 8 * k + n by omega)]
    rw [v8, ih, e1]
theorem v8_lt {bs : List Nat} {k : Nat} (h : ∀ i, bs.getD i 0 < 256) (n : Nat) : v8 bs k n < 256 ^ n := by
  induction n with
  | zero => exact Nat.one_pos
  | succ n ih =>
    have := h (8 * k + n)
    rw [v8, Nat.pow_succ]
    omega
/-- byte k of the eight of x, the first one being the highest -/
def dby (x : Int64) (k : Nat) : Nat := x.toBitVec.toNat / 2 ^ (56 - 8 * k) % 256
def adl (x : Int64) : Nat → List Nat
  | 0 => []
  | k + 1 => adl x k ++ [dby x k]
theorem adl_len (x : Int64) (n : Nat) : (adl x n).length = n := by
  induction n with
  | zero => rfl
  | succ n ih => rw [adl, List.length_append, ih]; rfl
theorem dby_lt (x : Int64) (k : Nat) : dby x k < 256 := Nat.mod_lt _ (by decide)
theorem adl_lt (x : Int64) (n : Nat) : ∀ y ∈ adl x n, y < 256 := by
  induction n with
  | zero => intro y hy; cases hy
  | succ n ih =>
    intro y hy
    rw [adl, List.mem_append] at hy
    rcases hy with hy | hy
    · exact ih y hy
    · rw [List.mem_singleton.mp hy]; exact dby_lt x n
theorem sh_k {k : Nat} (h : k < 8) : (56 : Int32) - 8 * nI k = nI (56 - 8 * k) := by
  rw [show (8 : Int32) = nI 8 from rfl, show (56 : Int32) = nI 56 from rfl, pk_mul, pk_sub (by omega)]
theorem ush_k (x : Int64) {k : Nat} : (x.toUInt64 >>> ((nI (56 - 8 * k)).toInt64.toUInt64 &&& Int64.toUInt64 63)).toInt64 = lN (x.toBitVec.toNat / 2 ^ (56 - 8 * k)) := by
  have hx : x = lN x.toBitVec.toNat := wb_inj (by rw [wb_tb]; simp)
  have := wb_shr (n := x.toBitVec.toNat) (k := 56 - 8 * k) x.toBitVec.isLt (by omega)
  rw [← hx] at this
  exact this
theorem cls_by (x : Int64) {k : Nat} : ((x.toUInt64 >>> ((nI (56 - 8 * k)).toInt64.toUInt64 &&& Int64.toUInt64 63)).toInt64).toInt32.toInt8.toInt32 = by8 (dby x k) := by
  rw [ush_k, lN_i, by8_of]
  have e : nI (x.toBitVec.toNat / 2 ^ (56 - 8 * k)) &&& 255 = nI (dby x k) := by
    rw [pk_and _ 8 (by decide)]
    congr 1
    unfold dby
    show (BitVec.ofNat 32 _).toNat % 256 = _
    rw [BitVec.toNat_ofNat]
    omega
  rw [e, nI_clamp (by have := dby_lt x k; omega)]
theorem ref_by (x : Int64) {k : Nat} (hk : k < 8) : ((x >>> ((nI (56 - 8 * k)).toInt64 &&& 63)) &&& 255).toInt32 = nI (dby x k) := by
  have h1 : (x >>> ((nI (56 - 8 * k)).toInt64 &&& 63)) &&& 255 = (x.toUInt64 >>> ((nI (56 - 8 * k)).toInt64.toUInt64 &&& Int64.toUInt64 63)).toInt64 &&& 255 := by
    apply wb_inj
    rw [Int64.toBitVec_and, Int64.toBitVec_and]
    apply BitVec.eq_of_getLsbD_eq
    intro i hi
    rw [BitVec.getLsbD_and, BitVec.getLsbD_and]
    by_cases h8 : i < 8
    · congr 1
      rw [ush_k, wb_c _ (by omega), Int64.toBitVec_shiftRight]
      show (x.toBitVec.sshiftRight ((lN (56 - 8 * k)).toBitVec.smod 64).toNat).getLsbD i = _
      rw [wb_tb, wb_sm _ (by omega), BitVec.toNat_ofNat, Nat.mod_eq_of_lt (show 56 - 8 * k < 2 ^ 64 by omega), BitVec.getLsbD_sshiftRight, wb_tb]
      rw [BitVec.getLsbD_ofNat]
      have e1 : decide (64 ≤ i) = false := by simp; omega
      have e2 : decide (i < 64) = true := by simp; omega
      rw [e1, e2, if_pos (show 56 - 8 * k + i < 64 by omega), Nat.testBit_div_two_pow, Nat.add_comm i]
      rfl
    · have hm : ∀ i < 64, 8 ≤ i → (255 : Int64).toBitVec.getLsbD i = false := by decide
      rw [hm i hi (by omega), Bool.and_false, Bool.and_false]
  rw [h1, ush_k, show (255 : Int64) = lN (2 ^ 8 - 1) from rfl, wb_mask (Nat.lt_of_le_of_lt (Nat.div_le_self _ _) x.toBitVec.isLt) (by decide), lN_i]
  rfl
theorem or_8 {a b : Nat} (ha : a < 2 ^ 56) (hb : b < 256) : (lN a <<< ((8 : Int32).toInt64 &&& 63)) ||| lN b = lN (a * 256 + b) := by
  rw [show (8 : Int32) = nI 8 from rfl, wb_shl a (by decide)]
  exact g_or (k := 8) (p := 2 ^ 8) rfl hb (by omega)
/-! the reference: eight, add -/
theorem n_eight26 {d b k : Nat} {A : am_H} {R : Nat → Nat → Int32} {f : mo_F} {bs : List Nat} (h : MW b A R f bs) (hk : k < 2147483648) (hb : ∀ i, bs.getD i 0 < 256) : ∀ (m n : Nat), n + m = 8 → ∀ o : Option Value, pev d 218 [some (.ref b), some (.int (nI k)), some (.long (lN (v8 bs k n))), none, some (.int (nI n)), o, none] [] A = some (some (.long (lN (v8 bs k 8))), A) := by
  obtain ⟨hM, h1, h2, h3⟩ := h
  intro m
  induction m with
  | zero =>
    intro n hn o
    have hn8 : n = 8 := by omega
    subst hn8
    refine e_218 ?_; simp only [b_218, i_int, i_long, i_null, i_stat, i_iload, i_lload, i_aload, i_istore, i_astore, i_lstore, i_iinc, i_ii, i_idz, i_i, i_ll, i_lsh, i_i2l, i_l2i, i_lcmp, i_dup, i_pop, i_dup2, i_ifeq, i_ifne, i_iflt, i_ifge, i_ifgt, i_ifle, i_cmpeq, i_cmpne, i_cmplt, i_cmpge, i_cmpgt, i_cmple, i_ifnull, i_ifnonnull, i_getf, am_wr, i_putI, i_putZ, i_putR, i_iald, i_iast, i_aald, i_aast, i_alen, i_newi, i_newq, i_new, i_recv, i_iret, i_zret, i_lret, i_aret, i_vret, List.getElem?_cons_zero, List.getElem?_cons_succ, Option.bind_some, Option.toList_some, Option.toList_none, List.cons_append, List.nil_append, x_nI, am_put, am_put2, List.length_cons, List.length_nil, List.set_cons_zero, List.set_cons_succ, Nat.reduceAdd, Nat.reduceLT, Nat.reduceLeDiff, Nat.reduceEqDiff, Nat.add_left_cancel_iff, Nat.add_eq_left, Nat.left_eq_add, Nat.succ_ne_self, Nat.reduceSub, reduceIte, ite_self, eq_self, or_true, true_or, or_false, false_or, or_self, i10, not_true_eq_false, not_false_eq_true, x_call1, x_call2, x_call3, x_call4, x_call5, x_call6, x_sl0, x_sli, x_slr, x_sln, x_sll, am_ent, List.map_nil, List.map_cons, List.sum_nil, List.sum_cons, Value.category, and_true, true_and, and_self, Nat.zero_le, List.replicate_succ, List.replicate_zero, List.reduceReplicate, x_obj_set, x_row_set, x_len_set, x_obx, x_rox, x_rv, show (8 : Int32) ≤ nI 8 by decide]
  | succ m ih =>
    intro n hn o
    have hc : ¬ (8 : Int32) ≤ nI n := nI_ge (b := 8) (by omega) (by decide)
    have e1 := ih (n + 1) (by omega) (some (.long (lN (8 * k + n))))
    rw [v8] at e1
    have ep : (8 : Int64) * lN k + lN n = lN (8 * k + n) := by rw [show (8 : Int64) = lN 8 from rfl, lN_mul, lN_add]
    have es : ∀ y, lN (v8 bs k n) * 256 + lN y = lN (v8 bs k n * 256 + y) := fun y => by rw [show (256 : Int64) = lN 256 from rfl, lN_mul, lN_add]
    have ec : (lN bs.length ≤ lN (8 * k + n)) = (bs.length ≤ 8 * k + n) := propext (pk_lLE (by omega) (by omega))
    by_cases c : bs.length ≤ 8 * k + n
    · have e0 : bs.getD (8 * k + n) 0 = 0 := by simp [List.getElem?_eq_none c]
      rw [e0] at e1
      refine e_218 ?_; simp only [b_218, i_int, i_long, i_null, i_stat, i_iload, i_lload, i_aload, i_istore, i_astore, i_lstore, i_iinc, i_ii, i_idz, i_i, i_ll, i_lsh, i_i2l, i_l2i, i_lcmp, i_dup, i_pop, i_dup2, i_ifeq, i_ifne, i_iflt, i_ifge, i_ifgt, i_ifle, i_cmpeq, i_cmpne, i_cmplt, i_cmpge, i_cmpgt, i_cmple, i_ifnull, i_ifnonnull, i_getf, am_wr, i_putI, i_putZ, i_putR, i_iald, i_iast, i_aald, i_aast, i_alen, i_newi, i_newq, i_new, i_recv, i_iret, i_zret, i_lret, i_aret, i_vret, List.getElem?_cons_zero, List.getElem?_cons_succ, Option.bind_some, Option.toList_some, Option.toList_none, List.cons_append, List.nil_append, x_nI, am_put, am_put2, List.length_cons, List.length_nil, List.set_cons_zero, List.set_cons_succ, Nat.reduceAdd, Nat.reduceLT, Nat.reduceLeDiff, Nat.reduceEqDiff, Nat.add_left_cancel_iff, Nat.add_eq_left, Nat.left_eq_add, Nat.succ_ne_self, Nat.reduceSub, reduceIte, ite_self, eq_self, or_true, true_or, or_false, false_or, or_self, i10, not_true_eq_false, not_false_eq_true, x_call1, x_call2, x_call3, x_call4, x_call5, x_call6, x_sl0, x_sli, x_slr, x_sln, x_sll, am_ent, List.map_nil, List.map_cons, List.sum_nil, List.sum_cons, Value.category, and_true, true_and, and_self, Nat.zero_le, List.replicate_succ, List.replicate_zero, List.reduceReplicate, x_obj_set, x_row_set, x_len_set, x_obx, x_rox, x_rv, hc, nI_l (show k < 2 ^ 31 by omega), nI_l (show n < 2 ^ 31 by omega), ep, x_obj hM.1, mo_obj, h1, nI_l (show bs.length < 2 ^ 31 by omega), lg_cmp_ge, ec, c, nI_1, show (0 : Int32).toInt64 = lN 0 from rfl, es]
      exact e1
    · have hl : 8 * k + n < bs.length := by omega
      have hy := hb (8 * k + n)
      refine e_218 ?_; simp only [b_218, i_int, i_long, i_null, i_stat, i_iload, i_lload, i_aload, i_istore, i_astore, i_lstore, i_iinc, i_ii, i_idz, i_i, i_ll, i_lsh, i_i2l, i_l2i, i_lcmp, i_dup, i_pop, i_dup2, i_ifeq, i_ifne, i_iflt, i_ifge, i_ifgt, i_ifle, i_cmpeq, i_cmpne, i_cmplt, i_cmpge, i_cmpgt, i_cmple, i_ifnull, i_ifnonnull, i_getf, am_wr, i_putI, i_putZ, i_putR, i_iald, i_iast, i_aald, i_aast, i_alen, i_newi, i_newq, i_new, i_recv, i_iret, i_zret, i_lret, i_aret, i_vret, List.getElem?_cons_zero, List.getElem?_cons_succ, Option.bind_some, Option.toList_some, Option.toList_none, List.cons_append, List.nil_append, x_nI, am_put, am_put2, List.length_cons, List.length_nil, List.set_cons_zero, List.set_cons_succ, Nat.reduceAdd, Nat.reduceLT, Nat.reduceLeDiff, Nat.reduceEqDiff, Nat.add_left_cancel_iff, Nat.add_eq_left, Nat.left_eq_add, Nat.succ_ne_self, Nat.reduceSub, reduceIte, ite_self, eq_self, or_true, true_or, or_false, false_or, or_self, i10, not_true_eq_false, not_false_eq_true, x_call1, x_call2, x_call3, x_call4, x_call5, x_call6, x_sl0, x_sli, x_slr, x_sln, x_sll, am_ent, List.map_nil, List.map_cons, List.sum_nil, List.sum_cons, Value.category, and_true, true_and, and_self, Nat.zero_le, List.replicate_succ, List.replicate_zero, List.reduceReplicate, x_obj_set, x_row_set, x_len_set, x_obx, x_rox, x_rv, hc, nI_l (show k < 2 ^ 31 by omega), nI_l (show n < 2 ^ 31 by omega), ep, x_obj hM.1, mo_obj, h1, nI_l (show bs.length < 2 ^ 31 by omega), lg_cmp_ge, ec, c, nI_1, lN_i, x_row (show A.2.2 (b + 19) = some (.inl (0, 800, R 19)) from hM.2.2 19 (by decide) (by decide)), x_ix (show 8 * k + n < 800 by omega) (show 8 * k + n < 2147483648 by omega), h3 _ hl, nI_l (show bs.getD (8 * k + n) 0 < 2 ^ 31 by omega), es]
      exact e1
theorem n_eightM {d b : Nat} {A : am_H} {R : Nat → Nat → Int32} {f : mo_F} {k : Int32} (hM : MM b A R f) (h : f.2.1 = false ∨ k < 0) : pev d 217 [some (.ref b), some (.int k), none, none, none, none, none] [] A = some (some (.long 0), A) := by
  rcases hd : f.2.1 with _ | _
  · refine e_217 ?_; simp only [b_217, i_int, i_long, i_null, i_stat, i_iload, i_lload, i_aload, i_istore, i_astore, i_lstore, i_iinc, i_ii, i_idz, i_i, i_ll, i_lsh, i_i2l, i_l2i, i_lcmp, i_dup, i_pop, i_dup2, i_ifeq, i_ifne, i_iflt, i_ifge, i_ifgt, i_ifle, i_cmpeq, i_cmpne, i_cmplt, i_cmpge, i_cmpgt, i_cmple, i_ifnull, i_ifnonnull, i_getf, am_wr, i_putI, i_putZ, i_putR, i_iald, i_iast, i_aald, i_aast, i_alen, i_newi, i_newq, i_new, i_recv, i_iret, i_zret, i_lret, i_aret, i_vret, List.getElem?_cons_zero, List.getElem?_cons_succ, Option.bind_some, Option.toList_some, Option.toList_none, List.cons_append, List.nil_append, x_nI, am_put, am_put2, List.length_cons, List.length_nil, List.set_cons_zero, List.set_cons_succ, Nat.reduceAdd, Nat.reduceLT, Nat.reduceLeDiff, Nat.reduceEqDiff, Nat.add_left_cancel_iff, Nat.add_eq_left, Nat.left_eq_add, Nat.succ_ne_self, Nat.reduceSub, reduceIte, ite_self, eq_self, or_true, true_or, or_false, false_or, or_self, i10, not_true_eq_false, not_false_eq_true, x_call1, x_call2, x_call3, x_call4, x_call5, x_call6, x_sl0, x_sli, x_slr, x_sln, x_sll, am_ent, List.map_nil, List.map_cons, List.sum_nil, List.sum_cons, Value.category, and_true, true_and, and_self, Nat.zero_le, List.replicate_succ, List.replicate_zero, List.reduceReplicate, x_obj_set, x_row_set, x_len_set, x_obx, x_rox, x_rv, x_obj hM.1, mo_obj, hd, bz_false]
  · rw [hd] at h
    have hk : k < 0 := by
      rcases h with h | h
      · cases h
      · exact h
    have hk2 : ¬ 0 ≤ k := Int32.not_le.mpr hk
    refine e_217 ?_; simp only [b_217, i_int, i_long, i_null, i_stat, i_iload, i_lload, i_aload, i_istore, i_astore, i_lstore, i_iinc, i_ii, i_idz, i_i, i_ll, i_lsh, i_i2l, i_l2i, i_lcmp, i_dup, i_pop, i_dup2, i_ifeq, i_ifne, i_iflt, i_ifge, i_ifgt, i_ifle, i_cmpeq, i_cmpne, i_cmplt, i_cmpge, i_cmpgt, i_cmple, i_ifnull, i_ifnonnull, i_getf, am_wr, i_putI, i_putZ, i_putR, i_iald, i_iast, i_aald, i_aast, i_alen, i_newi, i_newq, i_new, i_recv, i_iret, i_zret, i_lret, i_aret, i_vret, List.getElem?_cons_zero, List.getElem?_cons_succ, Option.bind_some, Option.toList_some, Option.toList_none, List.cons_append, List.nil_append, x_nI, am_put, am_put2, List.length_cons, List.length_nil, List.set_cons_zero, List.set_cons_succ, Nat.reduceAdd, Nat.reduceLT, Nat.reduceLeDiff, Nat.reduceEqDiff, Nat.add_left_cancel_iff, Nat.add_eq_left, Nat.left_eq_add, Nat.succ_ne_self, Nat.reduceSub, reduceIte, ite_self, eq_self, or_true, true_or, or_false, false_or, or_self, i10, not_true_eq_false, not_false_eq_true, x_call1, x_call2, x_call3, x_call4, x_call5, x_call6, x_sl0, x_sli, x_slr, x_sln, x_sll, am_ent, List.map_nil, List.map_cons, List.sum_nil, List.sum_cons, Value.category, and_true, true_and, and_self, Nat.zero_le, List.replicate_succ, List.replicate_zero, List.reduceReplicate, x_obj_set, x_row_set, x_len_set, x_obx, x_rox, x_rv, x_obj hM.1, mo_obj, hd, bz_true, hk2]
theorem byt_all {bs : List Nat} (h : ∀ y ∈ bs, y < 256) (i : Nat) : bs.getD i 0 < 256 := by
  by_cases c : i < bs.length
  · have : bs.getD i 0 = bs[i] := by simp [List.getD, c]
    rw [this]
    exact h _ (List.getElem_mem c)
  · simp [List.getElem?_eq_none (Nat.not_lt.mp c)]
theorem num_by (x : Int32) (w : Nat) : ∀ y ∈ num x w, y < 256 := by
  induction w with
  | zero => intro y hy; cases hy
  | succ w ih =>
    intro y hy
    rw [num] at hy
    rcases List.mem_cons.mp hy with h | h
    · rw [h]; exact byt_lt x w
    · exact ih y h
theorem cat_by {F : Nat → List Nat} {n : Nat} (h : ∀ k, k < n → ∀ y ∈ F k, y < 256) : ∀ y ∈ sg_cat F n, y < 256 := by
  induction n with
  | zero => intro y hy; cases hy
  | succ n ih =>
    intro y hy
    rw [sg_cat, List.mem_append] at hy
    rcases hy with hy | hy
    · exact ih (fun k hk => h k (by omega)) y hy
    · exact h n (by omega) y hy
theorem app_by {a b : List Nat} (ha : ∀ y ∈ a, y < 256) (hb : ∀ y ∈ b, y < 256) : ∀ y ∈ a ++ b, y < 256 := fun y hy => (List.mem_append.mp hy).elim (ha y) (hb y)
theorem padl_by (n : Nat) : ∀ y ∈ padl n, y < 256 := fun y hy => by
  rw [(List.mem_replicate.mp hy).2]
  decide
theorem nam_by (x : Int32) : ∀ y ∈ nam x, y < 256 := app_by (num_by _ _) (num_by _ _)
theorem hea_by (k n : Nat) : ∀ y ∈ hea k n, y < 256 := app_by (num_by _ _) (num_by _ _)
theorem im_a_by (a : sg_A) : ∀ y ∈ im_a a, y < 256 := app_by (hea_by _ _) (cat_by fun k _ => app_by (app_by (app_by (app_by (app_by (nam_by _) (num_by _ _)) (num_by _ _)) (num_by _ _)) (num_by _ _)) (padl_by _))
theorem im_v_by (s : sg_S) (v : Nat) : ∀ y ∈ im_v s v, y < 256 := app_by (app_by (app_by (app_by (app_by (app_by (nam_by _) (num_by _ _)) (cat_by fun k _ => num_by _ _)) (im_a_by _)) (num_by _ _)) (num_by _ _)) (num_by _ _)
theorem im_c_by (s : sg_S) (v k n : Nat) : ∀ y ∈ im_c s v k n, y < 256 := cat_by fun j _ => num_by _ _
theorem img_by (s : sg_S) : ∀ y ∈ img s, y < 256 := by
  refine app_by (app_by ?_ (cat_by fun v _ => ?_)) (cat_by fun r _ => cat_by fun v _ => ?_)
  · exact app_by (app_by (app_by (app_by (app_by (app_by (num_by _ _) (num_by _ _)) (hea_by _ _)) (cat_by fun k _ => app_by (nam_by _) (num_by _ _))) (im_a_by _)) (hea_by _ _)) (cat_by fun v _ => im_v_by s v)
  · unfold im_f
    split
    · intro y hy; cases hy
    · exact app_by (im_c_by _ _ _ _) (padl_by _)
  · unfold im_r
    split
    · refine app_by (im_c_by _ _ _ _) ?_
      split
      · exact padl_by _
      · intro y hy; cases hy
    · intro y hy; cases hy
theorem n_eight {d b k : Nat} {A : am_H} {R : Nat → Nat → Int32} {f : mo_F} {s : sg_S} (hM : MM b A R f) (hS : MS R f.1 s) (hN : NokS s) (ht : sg_tot s s.2.2.2.2 ≤ 800) (hd : f.2.1 = true) (hk : k < 2147483648) : ∃ B S, pev (d + 6) 217 [some (.ref b), some (.int (nI k)), none, none, none, none, none] [] A = some (some (.long (lN (v8 (img s) k 8))), B) ∧ MM b B S (sl f (img s).length) ∧ mw_to b A R B S := by
  obtain ⟨B, S, e1, hW, hT⟩ := n_writeImage (d := d) hN ht hM hS
  have e2 := n_eight26 (d := d + 6) hW hk (byt_all (img_by s)) 8 0 (by omega) none
  refine ⟨B, S, ?_, hW.1, hT⟩
  have hk2 : 0 ≤ nI k := nI_pos' (by omega)
  refine e_217 ?_; simp only [b_217, i_int, i_long, i_null, i_stat, i_iload, i_lload, i_aload, i_istore, i_astore, i_lstore, i_iinc, i_ii, i_idz, i_i, i_ll, i_lsh, i_i2l, i_l2i, i_lcmp, i_dup, i_pop, i_dup2, i_ifeq, i_ifne, i_iflt, i_ifge, i_ifgt, i_ifle, i_cmpeq, i_cmpne, i_cmplt, i_cmpge, i_cmpgt, i_cmple, i_ifnull, i_ifnonnull, i_getf, am_wr, i_putI, i_putZ, i_putR, i_iald, i_iast, i_aald, i_aast, i_alen, i_newi, i_newq, i_new, i_recv, i_iret, i_zret, i_lret, i_aret, i_vret, List.getElem?_cons_zero, List.getElem?_cons_succ, Option.bind_some, Option.toList_some, Option.toList_none, List.cons_append, List.nil_append, x_nI, am_put, am_put2, List.length_cons, List.length_nil, List.set_cons_zero, List.set_cons_succ, Nat.reduceAdd, Nat.reduceLT, Nat.reduceLeDiff, Nat.reduceEqDiff, Nat.add_left_cancel_iff, Nat.add_eq_left, Nat.left_eq_add, Nat.succ_ne_self, Nat.reduceSub, reduceIte, ite_self, eq_self, or_true, true_or, or_false, false_or, or_self, i10, not_true_eq_false, not_false_eq_true, x_call1, x_call2, x_call3, x_call4, x_call5, x_call6, x_sl0, x_sli, x_slr, x_sln, x_sll, am_ent, List.map_nil, List.map_cons, List.sum_nil, List.sum_cons, Value.category, and_true, true_and, and_self, Nat.zero_le, List.replicate_succ, List.replicate_zero, List.reduceReplicate, x_obj_set, x_row_set, x_len_set, x_obx, x_rox, x_rv, x_obj hM.1, mo_obj, hd, bz_true, hk2, e1]
  exact e2
theorem getD_snoc {a : List Nat} {z i : Nat} (h : i < a.length) : (a ++ [z]).getD i 0 = a.getD i 0 := by
  simp [List.getElem?_append_left h]
/-- the draft's bytes -/
def MDr (R : Nat → Nat → Int32) (f : mo_F) (D : List Nat) : Prop := f.2.2.2.1 = D.length ∧ D.length ≤ 800 ∧ ∀ i, i < D.length → R 20 i = nI (D.getD i 0)
def sdr (f : mo_F) (n : Nat) : mo_F := (f.1, f.2.1, f.2.2.1, n, f.2.2.2.2)
theorem n_add28 {d b n : Nat} {x : Int64} {D : List Nat} (hn : n ≤ 8) (hl : D.length + n ≤ 800) : ∀ (m k : Nat), k + m = n → ∀ {A : am_H} {R : Nat → Nat → Int32} {f : mo_F}, MM b A R f → MDr R f (D ++ adl x k) → ∃ B S, pev d 238 [some (.ref b), some (.long x), none, some (.int (nI n)), some (.int (nI k))] [] A = some (some (.int 1), B) ∧ MM b B S (sdr f (D.length + n)) ∧ MDr S (sdr f (D.length + n)) (D ++ adl x n) ∧ (∀ i, i ≠ 20 → S i = R i) ∧ am_fr (at21 b) A B := by
  intro m
  induction m with
  | zero =>
    intro k hk A R f hM hD
    have hkn : k = n := by omega
    subst hkn
    have hf : sdr f (D.length + k) = f := by
      have := hD.1
      rw [List.length_append, adl_len] at this
      rw [← this]
      rfl
    rw [hf]
    refine ⟨A, R, ?_, hM, hD, fun _ _ => rfl, am_fr.refl A⟩
    refine e_238 ?_; simp only [b_238, i_int, i_long, i_null, i_stat, i_iload, i_lload, i_aload, i_istore, i_astore, i_lstore, i_iinc, i_ii, i_idz, i_i, i_ll, i_lsh, i_i2l, i_l2i, i_lcmp, i_dup, i_pop, i_dup2, i_ifeq, i_ifne, i_iflt, i_ifge, i_ifgt, i_ifle, i_cmpeq, i_cmpne, i_cmplt, i_cmpge, i_cmpgt, i_cmple, i_ifnull, i_ifnonnull, i_getf, am_wr, i_putI, i_putZ, i_putR, i_iald, i_iast, i_aald, i_aast, i_alen, i_newi, i_newq, i_new, i_recv, i_iret, i_zret, i_lret, i_aret, i_vret, List.getElem?_cons_zero, List.getElem?_cons_succ, Option.bind_some, Option.toList_some, Option.toList_none, List.cons_append, List.nil_append, x_nI, am_put, am_put2, List.length_cons, List.length_nil, List.set_cons_zero, List.set_cons_succ, Nat.reduceAdd, Nat.reduceLT, Nat.reduceLeDiff, Nat.reduceEqDiff, Nat.add_left_cancel_iff, Nat.add_eq_left, Nat.left_eq_add, Nat.succ_ne_self, Nat.reduceSub, reduceIte, ite_self, eq_self, or_true, true_or, or_false, false_or, or_self, i10, not_true_eq_false, not_false_eq_true, x_call1, x_call2, x_call3, x_call4, x_call5, x_call6, x_sl0, x_sli, x_slr, x_sln, x_sll, am_ent, List.map_nil, List.map_cons, List.sum_nil, List.sum_cons, Value.category, and_true, true_and, and_self, Nat.zero_le, List.replicate_succ, List.replicate_zero, List.reduceReplicate, x_obj_set, x_row_set, x_len_set, x_obx, x_rox, x_rv, show nI k ≤ nI k from nI_le (Nat.le_refl _) (by omega)]
  | succ m ih =>
    intro k hk A R f hM hD
    have hb := hM.2.1
    obtain ⟨h1, h2, h3⟩ := hD
    have hlen : (D ++ adl x k).length = D.length + k := by rw [List.length_append, adl_len]
    rw [hlen] at h1 h2 h3
    have hc : ¬ nI n ≤ nI k := nI_ge (by omega) (by omega)
    have m1 := hM.set (i := 20) (by decide) (by decide) (upd (R 20) (D.length + k) (nI (dby x k)))
    have m2 := m1.obj (sdr f (D.length + k + 1))
    obtain ⟨B, S, e1, mB, dB, kB, fB⟩ := ih (k + 1) (by omega) m2 ⟨by rw [List.length_append, adl_len]; rfl, by rw [List.length_append, adl_len]; omega, by
      intro i hi
      rw [List.length_append, adl_len] at hi
      rw [setR_self]
      rw [adl, ← List.append_assoc]
      by_cases c : i = D.length + k
      · subst c
        rw [pk_us]
        have : (D ++ adl x k ++ [dby x k]).getD (D.length + k) 0 = dby x k := by
          rw [← hlen]
          simp
        rw [this]
      · rw [pk_un c]
        have hlt : i < (D ++ adl x k).length := by omega
        have e1 : (D ++ adl x k ++ [dby x k]).getD i 0 = (D ++ adl x k).getD i 0 := getD_snoc hlt
        rw [e1]
        exact h3 i (by omega)⟩
    refine ⟨B, S, ?_, mB, dB, fun i hi => (kB i hi).trans (setR_ne hi), (((am_fr.refl A).set ⟨by omega, by omega⟩).set ⟨by omega, by omega⟩).trans fB⟩
    have er := ref_by x (k := k) (by omega)
    refine e_238 ?_; simp only [b_238, i_int, i_long, i_null, i_stat, i_iload, i_lload, i_aload, i_istore, i_astore, i_lstore, i_iinc, i_ii, i_idz, i_i, i_ll, i_lsh, i_i2l, i_l2i, i_lcmp, i_dup, i_pop, i_dup2, i_ifeq, i_ifne, i_iflt, i_ifge, i_ifgt, i_ifle, i_cmpeq, i_cmpne, i_cmplt, i_cmpge, i_cmpgt, i_cmple, i_ifnull, i_ifnonnull, i_getf, am_wr, i_putI, i_putZ, i_putR, i_iald, i_iast, i_aald, i_aast, i_alen, i_newi, i_newq, i_new, i_recv, i_iret, i_zret, i_lret, i_aret, i_vret, List.getElem?_cons_zero, List.getElem?_cons_succ, Option.bind_some, Option.toList_some, Option.toList_none, List.cons_append, List.nil_append, x_nI, am_put, am_put2, List.length_cons, List.length_nil, List.set_cons_zero, List.set_cons_succ, Nat.reduceAdd, Nat.reduceLT, Nat.reduceLeDiff, Nat.reduceEqDiff, Nat.add_left_cancel_iff, Nat.add_eq_left, Nat.left_eq_add, Nat.succ_ne_self, Nat.reduceSub, reduceIte, ite_self, eq_self, or_true, true_or, or_false, false_or, or_self, i10, not_true_eq_false, not_false_eq_true, x_call1, x_call2, x_call3, x_call4, x_call5, x_call6, x_sl0, x_sli, x_slr, x_sln, x_sll, am_ent, List.map_nil, List.map_cons, List.sum_nil, List.sum_cons, Value.category, and_true, true_and, and_self, Nat.zero_le, List.replicate_succ, List.replicate_zero, List.reduceReplicate, x_obj_set, x_row_set, x_len_set, x_obx, x_rox, x_rv, hc, x_obj hM.1, mo_obj, h1, sh_k (show k < 8 by omega), er, x_row (show A.2.2 (b + 20) = some (.inl (0, 800, R 20)) from hM.2.2 20 (by decide) (by decide)), x_ix (show D.length + k < 800 by omega) (show D.length + k < 2147483648 by omega), x_own (show 5 ≤ b + 20 by omega), x_own hb, nI_1]
    exact e1
/-- whether n bytes more go into a draft of l bytes -/
def okA (l : Nat) (n : Int32) : Bool := !(decide (n < 1)) && (!(decide (8 < n)) && decide (l + n.toNatClampNeg ≤ 800))
theorem okA_nI {l : Nat} {n : Int32} (h1 : ¬ n < 1) (h2 : ¬ 8 < n) : ∃ k, 1 ≤ k ∧ k ≤ 8 ∧ n = nI k := by
  have p1 : ¬ n < 0 := fun e => h1 (Int32.lt_trans e (by decide))
  obtain ⟨k, hk, rfl⟩ := nI_of2 (M := 8) (n := 8) rfl p1 (Int32.not_lt.mp h2)
  refine ⟨k, ?_, hk, rfl⟩
  rcases Nat.eq_zero_or_pos k with rfl | h
  · exact absurd (by decide) h1
  · exact h
theorem n_add {d b : Nat} {A : am_H} {R : Nat → Nat → Int32} {f : mo_F} {x : Int64} {n : Int32} {D : List Nat} (hM : MM b A R f) (hD : MDr R f D) : ∃ B S, pev d 237 [some (.ref b), some (.long x), none, some (.int n), none] [] A = some (some (.int (bz (okA D.length n))), B) ∧ MM b B S (if okA D.length n then sdr f (D.length + n.toNatClampNeg) else f) ∧ MDr S (if okA D.length n then sdr f (D.length + n.toNatClampNeg) else f) (if okA D.length n then D ++ adl x n.toNatClampNeg else D) ∧ (∀ i, i ≠ 20 → S i = R i) ∧ am_fr (at21 b) A B := by
  have h2 := hD.2.1
  have h1 := hD.1
  by_cases c1 : n < 1
  · have e : okA D.length n = false := by simp [okA, c1]
    rw [e]
    refine ⟨A, R, ?_, hM, hD, fun _ _ => rfl, am_fr.refl A⟩
    refine e_237 ?_; simp only [b_237, i_int, i_long, i_null, i_stat, i_iload, i_lload, i_aload, i_istore, i_astore, i_lstore, i_iinc, i_ii, i_idz, i_i, i_ll, i_lsh, i_i2l, i_l2i, i_lcmp, i_dup, i_pop, i_dup2, i_ifeq, i_ifne, i_iflt, i_ifge, i_ifgt, i_ifle, i_cmpeq, i_cmpne, i_cmplt, i_cmpge, i_cmpgt, i_cmple, i_ifnull, i_ifnonnull, i_getf, am_wr, i_putI, i_putZ, i_putR, i_iald, i_iast, i_aald, i_aast, i_alen, i_newi, i_newq, i_new, i_recv, i_iret, i_zret, i_lret, i_aret, i_vret, List.getElem?_cons_zero, List.getElem?_cons_succ, Option.bind_some, Option.toList_some, Option.toList_none, List.cons_append, List.nil_append, x_nI, am_put, am_put2, List.length_cons, List.length_nil, List.set_cons_zero, List.set_cons_succ, Nat.reduceAdd, Nat.reduceLT, Nat.reduceLeDiff, Nat.reduceEqDiff, Nat.add_left_cancel_iff, Nat.add_eq_left, Nat.left_eq_add, Nat.succ_ne_self, Nat.reduceSub, reduceIte, ite_self, eq_self, or_true, true_or, or_false, false_or, or_self, i10, not_true_eq_false, not_false_eq_true, x_call1, x_call2, x_call3, x_call4, x_call5, x_call6, x_sl0, x_sli, x_slr, x_sln, x_sll, am_ent, List.map_nil, List.map_cons, List.sum_nil, List.sum_cons, Value.category, and_true, true_and, and_self, Nat.zero_le, List.replicate_succ, List.replicate_zero, List.reduceReplicate, x_obj_set, x_row_set, x_len_set, x_obx, x_rox, x_rv, c1]
    rfl
  · by_cases c2 : 8 < n
    · have e : okA D.length n = false := by simp [okA, c2]
      rw [e]
      refine ⟨A, R, ?_, hM, hD, fun _ _ => rfl, am_fr.refl A⟩
      refine e_237 ?_; simp only [b_237, i_int, i_long, i_null, i_stat, i_iload, i_lload, i_aload, i_istore, i_astore, i_lstore, i_iinc, i_ii, i_idz, i_i, i_ll, i_lsh, i_i2l, i_l2i, i_lcmp, i_dup, i_pop, i_dup2, i_ifeq, i_ifne, i_iflt, i_ifge, i_ifgt, i_ifle, i_cmpeq, i_cmpne, i_cmplt, i_cmpge, i_cmpgt, i_cmple, i_ifnull, i_ifnonnull, i_getf, am_wr, i_putI, i_putZ, i_putR, i_iald, i_iast, i_aald, i_aast, i_alen, i_newi, i_newq, i_new, i_recv, i_iret, i_zret, i_lret, i_aret, i_vret, List.getElem?_cons_zero, List.getElem?_cons_succ, Option.bind_some, Option.toList_some, Option.toList_none, List.cons_append, List.nil_append, x_nI, am_put, am_put2, List.length_cons, List.length_nil, List.set_cons_zero, List.set_cons_succ, Nat.reduceAdd, Nat.reduceLT, Nat.reduceLeDiff, Nat.reduceEqDiff, Nat.add_left_cancel_iff, Nat.add_eq_left, Nat.left_eq_add, Nat.succ_ne_self, Nat.reduceSub, reduceIte, ite_self, eq_self, or_true, true_or, or_false, false_or, or_self, i10, not_true_eq_false, not_false_eq_true, x_call1, x_call2, x_call3, x_call4, x_call5, x_call6, x_sl0, x_sli, x_slr, x_sln, x_sll, am_ent, List.map_nil, List.map_cons, List.sum_nil, List.sum_cons, Value.category, and_true, true_and, and_self, Nat.zero_le, List.replicate_succ, List.replicate_zero, List.reduceReplicate, x_obj_set, x_row_set, x_len_set, x_obx, x_rox, x_rv, c1, c2]
      rfl
    · obtain ⟨k, k1, k8, rfl⟩ := okA_nI (l := D.length) c1 c2
      rw [nI_clamp (by omega)]
      have ec : (nI (D.length + k) ≤ (800 : Int32)) = (D.length + k ≤ 800) := o_le (b := 800) (by omega) (by decide)
      by_cases c3 : D.length + k ≤ 800
      · have e : okA D.length (nI k) = true := by simp [okA, c1, c2, nI_clamp (show k < 2 ^ 31 by omega), c3]
        rw [e]
        obtain ⟨B, S, e1, r⟩ := n_add28 (d := d) (x := x) k8 c3 k 0 (by omega) hM (by rw [adl, List.append_nil]; exact hD)
        refine ⟨B, S, ?_, r⟩
        refine e_237 ?_; simp only [b_237, i_int, i_long, i_null, i_stat, i_iload, i_lload, i_aload, i_istore, i_astore, i_lstore, i_iinc, i_ii, i_idz, i_i, i_ll, i_lsh, i_i2l, i_l2i, i_lcmp, i_dup, i_pop, i_dup2, i_ifeq, i_ifne, i_iflt, i_ifge, i_ifgt, i_ifle, i_cmpeq, i_cmpne, i_cmplt, i_cmpge, i_cmpgt, i_cmple, i_ifnull, i_ifnonnull, i_getf, am_wr, i_putI, i_putZ, i_putR, i_iald, i_iast, i_aald, i_aast, i_alen, i_newi, i_newq, i_new, i_recv, i_iret, i_zret, i_lret, i_aret, i_vret, List.getElem?_cons_zero, List.getElem?_cons_succ, Option.bind_some, Option.toList_some, Option.toList_none, List.cons_append, List.nil_append, x_nI, am_put, am_put2, List.length_cons, List.length_nil, List.set_cons_zero, List.set_cons_succ, Nat.reduceAdd, Nat.reduceLT, Nat.reduceLeDiff, Nat.reduceEqDiff, Nat.add_left_cancel_iff, Nat.add_eq_left, Nat.left_eq_add, Nat.succ_ne_self, Nat.reduceSub, reduceIte, ite_self, eq_self, or_true, true_or, or_false, false_or, or_self, i10, not_true_eq_false, not_false_eq_true, x_call1, x_call2, x_call3, x_call4, x_call5, x_call6, x_sl0, x_sli, x_slr, x_sln, x_sll, am_ent, List.map_nil, List.map_cons, List.sum_nil, List.sum_cons, Value.category, and_true, true_and, and_self, Nat.zero_le, List.replicate_succ, List.replicate_zero, List.reduceReplicate, x_obj_set, x_row_set, x_len_set, x_obx, x_rox, x_rv, c1, c2, x_obj hM.1, mo_obj, h1, nI_add, ec, c3]
        exact e1
      · have e : okA D.length (nI k) = false := by simp [okA, nI_clamp (show k < 2 ^ 31 by omega), c3]
        rw [e]
        refine ⟨A, R, ?_, hM, hD, fun _ _ => rfl, am_fr.refl A⟩
        refine e_237 ?_; simp only [b_237, i_int, i_long, i_null, i_stat, i_iload, i_lload, i_aload, i_istore, i_astore, i_lstore, i_iinc, i_ii, i_idz, i_i, i_ll, i_lsh, i_i2l, i_l2i, i_lcmp, i_dup, i_pop, i_dup2, i_ifeq, i_ifne, i_iflt, i_ifge, i_ifgt, i_ifle, i_cmpeq, i_cmpne, i_cmplt, i_cmpge, i_cmpgt, i_cmple, i_ifnull, i_ifnonnull, i_getf, am_wr, i_putI, i_putZ, i_putR, i_iald, i_iast, i_aald, i_aast, i_alen, i_newi, i_newq, i_new, i_recv, i_iret, i_zret, i_lret, i_aret, i_vret, List.getElem?_cons_zero, List.getElem?_cons_succ, Option.bind_some, Option.toList_some, Option.toList_none, List.cons_append, List.nil_append, x_nI, am_put, am_put2, List.length_cons, List.length_nil, List.set_cons_zero, List.set_cons_succ, Nat.reduceAdd, Nat.reduceLT, Nat.reduceLeDiff, Nat.reduceEqDiff, Nat.add_left_cancel_iff, Nat.add_eq_left, Nat.left_eq_add, Nat.succ_ne_self, Nat.reduceSub, reduceIte, ite_self, eq_self, or_true, true_or, or_false, false_or, or_self, i10, not_true_eq_false, not_false_eq_true, x_call1, x_call2, x_call3, x_call4, x_call5, x_call6, x_sl0, x_sli, x_slr, x_sln, x_sll, am_ent, List.map_nil, List.map_cons, List.sum_nil, List.sum_cons, Value.category, and_true, true_and, and_self, Nat.zero_le, List.replicate_succ, List.replicate_zero, List.reduceReplicate, x_obj_set, x_row_set, x_len_set, x_obx, x_rox, x_rv, c1, c2, x_obj hM.1, mo_obj, h1, nI_add, ec, c3]
        rfl
