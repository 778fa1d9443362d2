/-! the meaning of the program: pev d lab lo st A is the answer of the run, if it ends -/
noncomputable def pev : am_K := fun d lab lo st A => @dite (Option am_R) (∃ r, am_Ev am_T d lab lo st A r) (Classical.propDecidable _) (fun h => some (Classical.choose h)) (fun _ => none)
theorem am_Ev_uniq {T : Nat → am_B} {d lab : Nat} {lo : am_L} {st : List Value} {A : am_H} {r q : am_R} (h1 : am_Ev T d lab lo st A r) (h2 : am_Ev T d lab lo st A q) : r = q := by
  obtain ⟨a, ha⟩ := h1
  obtain ⟨b, hb⟩ := h2
  have e1 := ha (max a b) (Nat.le_max_left _ _)
  have e2 := hb (max a b) (Nat.le_max_right _ _)
  exact Option.some.inj (e1.symm.trans e2)
theorem pev_of {d lab : Nat} {lo : am_L} {st : List Value} {A : am_H} {r : am_R} (h : am_Ev am_T d lab lo st A r) : pev d lab lo st A = some r := by
  have hx : ∃ r, am_Ev am_T d lab lo st A r := ⟨r, h⟩
  unfold pev
  rw [dif_pos hx]
  exact congrArg some (am_Ev_uniq (Classical.choose_spec hx) h)
theorem pev_to {d lab : Nat} {lo : am_L} {st : List Value} {A : am_H} {r : am_R} (h : pev d lab lo st A = some r) : am_Ev am_T d lab lo st A r := by
  unfold pev at h
  split at h
  · rename_i hx
    have e := Classical.choose_spec hx
    rw [Option.some.inj h] at e
    exact e
  · cases h
/-- what F answers with pev, it answers with long runs -/
def am_Cn (F : am_K → am_F) : Prop := ∀ (lo : am_L) (st : List Value) (A : am_H) (r : am_R), F pev lo st A = some r → ∃ n0, ∀ n, n0 ≤ n → F (am_run am_T n) lo st A = some r
theorem pev_go {L d : Nat} {b : am_B} (hT : am_T L = b) (hC : am_Cn (fun k => b k d)) {lo : am_L} {st : List Value} {A : am_H} {r : am_R} (h : b pev d lo st A = some r) : pev d L lo st A = some r := by
  obtain ⟨n0, h0⟩ := hC lo st A r h
  refine pev_of ⟨n0 + 1, fun n hn => ?_⟩
  cases n with
  | zero => omega
  | succ n =>
    show am_T L (am_run am_T n) d lo st A = some r
    rw [hT]
    exact h0 n (by omega)
theorem m_jump (d L : Nat) : am_Cn (fun k => k d L) := fun _ _ _ _ h => pev_to h
theorem m_end (g : am_F) : am_Cn (fun _ => g) := fun _ _ _ _ h => ⟨0, fun _ _ => h⟩
theorem m_int (v : Int32) {F : am_K → am_F} (hf : am_Cn F) : am_Cn (fun k => i_int v (F k)) := fun _ _ _ _ h => hf _ _ _ _ h
theorem m_long (v : Int64) {F : am_K → am_F} (hf : am_Cn F) : am_Cn (fun k => i_long v (F k)) := fun _ _ _ _ h => hf _ _ _ _ h
theorem m_null  {F : am_K → am_F} (hf : am_Cn F) : am_Cn (fun k => i_null (F k)) := fun _ _ _ _ h => hf _ _ _ _ h
theorem m_stat (i : Nat) {F : am_K → am_F} (hf : am_Cn F) : am_Cn (fun k => i_stat i (F k)) := fun _ _ _ _ h => hf _ _ _ _ h
theorem m_new (ci : Nat) (fs : List Value) {F : am_K → am_F} (hf : am_Cn F) : am_Cn (fun k => i_new ci fs (F k)) := fun _ _ _ _ h => hf _ _ _ _ h
theorem m_iload (i : Nat) {F : am_K → am_F} (hf : am_Cn F) : am_Cn (fun k => i_iload i (F k)) := by
  intro lo st A r hg
  simp only [i_iload] at hg ⊢
  repeat' split at hg
  all_goals first
    | cases hg; done
    | (obtain ⟨n0, h0⟩ := hf _ _ _ _ hg
       refine ⟨n0, fun n hn => ?_⟩
       simp only [*, not_false_eq_true, not_true_eq_false, if_true, if_false, h0 n hn])
theorem m_lload (i : Nat) {F : am_K → am_F} (hf : am_Cn F) : am_Cn (fun k => i_lload i (F k)) := by
  intro lo st A r hg
  simp only [i_lload] at hg ⊢
  repeat' split at hg
  all_goals first
    | cases hg; done
    | (obtain ⟨n0, h0⟩ := hf _ _ _ _ hg
       refine ⟨n0, fun n hn => ?_⟩
       simp only [*, not_false_eq_true, not_true_eq_false, if_true, if_false, h0 n hn])
theorem m_aload (i : Nat) {F : am_K → am_F} (hf : am_Cn F) : am_Cn (fun k => i_aload i (F k)) := by
  intro lo st A r hg
  simp only [i_aload] at hg ⊢
  repeat' split at hg
  all_goals first
    | cases hg; done
    | (obtain ⟨n0, h0⟩ := hf _ _ _ _ hg
       refine ⟨n0, fun n hn => ?_⟩
       simp only [*, not_false_eq_true, not_true_eq_false, if_true, if_false, h0 n hn])
theorem m_istore (i : Nat) {F : am_K → am_F} (hf : am_Cn F) : am_Cn (fun k => i_istore i (F k)) := by
  intro lo st A r hg
  simp only [i_istore] at hg ⊢
  repeat' split at hg
  all_goals first
    | cases hg; done
    | (obtain ⟨n0, h0⟩ := hf _ _ _ _ hg
       refine ⟨n0, fun n hn => ?_⟩
       simp only [*, not_false_eq_true, not_true_eq_false, if_true, if_false, h0 n hn])
theorem m_astore (i : Nat) {F : am_K → am_F} (hf : am_Cn F) : am_Cn (fun k => i_astore i (F k)) := by
  intro lo st A r hg
  simp only [i_astore] at hg ⊢
  repeat' split at hg
  all_goals first
    | cases hg; done
    | (obtain ⟨n0, h0⟩ := hf _ _ _ _ hg
       refine ⟨n0, fun n hn => ?_⟩
       simp only [*, not_false_eq_true, not_true_eq_false, if_true, if_false, h0 n hn])
theorem m_lstore (i : Nat) {F : am_K → am_F} (hf : am_Cn F) : am_Cn (fun k => i_lstore i (F k)) := by
  intro lo st A r hg
  simp only [i_lstore] at hg ⊢
  repeat' split at hg
  all_goals first
    | cases hg; done
    | (obtain ⟨n0, h0⟩ := hf _ _ _ _ hg
       refine ⟨n0, fun n hn => ?_⟩
       simp only [*, not_false_eq_true, not_true_eq_false, if_true, if_false, h0 n hn])
theorem m_iinc (i : Nat) (n : Int32) {F : am_K → am_F} (hf : am_Cn F) : am_Cn (fun k => i_iinc i n (F k)) := by
  intro lo st A r hg
  simp only [i_iinc] at hg ⊢
  repeat' split at hg
  all_goals first
    | cases hg; done
    | (obtain ⟨n0, h0⟩ := hf _ _ _ _ hg
       refine ⟨n0, fun n hn => ?_⟩
       simp only [*, not_false_eq_true, not_true_eq_false, if_true, if_false, h0 n hn])
theorem m_ii (op : Int32 → Int32 → Int32) {F : am_K → am_F} (hf : am_Cn F) : am_Cn (fun k => i_ii op (F k)) := by
  intro lo st A r hg
  simp only [i_ii] at hg ⊢
  repeat' split at hg
  all_goals first
    | cases hg; done
    | (obtain ⟨n0, h0⟩ := hf _ _ _ _ hg
       refine ⟨n0, fun n hn => ?_⟩
       simp only [*, not_false_eq_true, not_true_eq_false, if_true, if_false, h0 n hn])
theorem m_idz (op : Int32 → Int32 → Int32) {F : am_K → am_F} (hf : am_Cn F) : am_Cn (fun k => i_idz op (F k)) := by
  intro lo st A r hg
  simp only [i_idz] at hg ⊢
  repeat' split at hg
  all_goals first
    | cases hg; done
    | (obtain ⟨n0, h0⟩ := hf _ _ _ _ hg
       refine ⟨n0, fun n hn => ?_⟩
       simp only [*, not_false_eq_true, not_true_eq_false, if_true, if_false, h0 n hn])
theorem m_i (op : Int32 → Int32) {F : am_K → am_F} (hf : am_Cn F) : am_Cn (fun k => i_i op (F k)) := by
  intro lo st A r hg
  simp only [i_i] at hg ⊢
  repeat' split at hg
  all_goals first
    | cases hg; done
    | (obtain ⟨n0, h0⟩ := hf _ _ _ _ hg
       refine ⟨n0, fun n hn => ?_⟩
       simp only [*, not_false_eq_true, not_true_eq_false, if_true, if_false, h0 n hn])
theorem m_ll (op : Int64 → Int64 → Int64) {F : am_K → am_F} (hf : am_Cn F) : am_Cn (fun k => i_ll op (F k)) := by
  intro lo st A r hg
  simp only [i_ll] at hg ⊢
  repeat' split at hg
  all_goals first
    | cases hg; done
    | (obtain ⟨n0, h0⟩ := hf _ _ _ _ hg
       refine ⟨n0, fun n hn => ?_⟩
       simp only [*, not_false_eq_true, not_true_eq_false, if_true, if_false, h0 n hn])
theorem m_lsh (op : Int64 → Int32 → Int64) {F : am_K → am_F} (hf : am_Cn F) : am_Cn (fun k => i_lsh op (F k)) := by
  intro lo st A r hg
  simp only [i_lsh] at hg ⊢
  repeat' split at hg
  all_goals first
    | cases hg; done
    | (obtain ⟨n0, h0⟩ := hf _ _ _ _ hg
       refine ⟨n0, fun n hn => ?_⟩
       simp only [*, not_false_eq_true, not_true_eq_false, if_true, if_false, h0 n hn])
theorem m_i2l  {F : am_K → am_F} (hf : am_Cn F) : am_Cn (fun k => i_i2l (F k)) := by
  intro lo st A r hg
  simp only [i_i2l] at hg ⊢
  repeat' split at hg
  all_goals first
    | cases hg; done
    | (obtain ⟨n0, h0⟩ := hf _ _ _ _ hg
       refine ⟨n0, fun n hn => ?_⟩
       simp only [*, not_false_eq_true, not_true_eq_false, if_true, if_false, h0 n hn])
theorem m_l2i  {F : am_K → am_F} (hf : am_Cn F) : am_Cn (fun k => i_l2i (F k)) := by
  intro lo st A r hg
  simp only [i_l2i] at hg ⊢
  repeat' split at hg
  all_goals first
    | cases hg; done
    | (obtain ⟨n0, h0⟩ := hf _ _ _ _ hg
       refine ⟨n0, fun n hn => ?_⟩
       simp only [*, not_false_eq_true, not_true_eq_false, if_true, if_false, h0 n hn])
theorem m_lcmp  {F : am_K → am_F} (hf : am_Cn F) : am_Cn (fun k => i_lcmp (F k)) := by
  intro lo st A r hg
  simp only [i_lcmp] at hg ⊢
  repeat' split at hg
  all_goals first
    | cases hg; done
    | (obtain ⟨n0, h0⟩ := hf _ _ _ _ hg
       refine ⟨n0, fun n hn => ?_⟩
       simp only [*, not_false_eq_true, not_true_eq_false, if_true, if_false, h0 n hn])
theorem m_dup  {F : am_K → am_F} (hf : am_Cn F) : am_Cn (fun k => i_dup (F k)) := by
  intro lo st A r hg
  simp only [i_dup] at hg ⊢
  repeat' split at hg
  all_goals first
    | cases hg; done
    | (obtain ⟨n0, h0⟩ := hf _ _ _ _ hg
       refine ⟨n0, fun n hn => ?_⟩
       simp only [*, not_false_eq_true, not_true_eq_false, if_true, if_false, h0 n hn])
theorem m_pop  {F : am_K → am_F} (hf : am_Cn F) : am_Cn (fun k => i_pop (F k)) := by
  intro lo st A r hg
  simp only [i_pop] at hg ⊢
  repeat' split at hg
  all_goals first
    | cases hg; done
    | (obtain ⟨n0, h0⟩ := hf _ _ _ _ hg
       refine ⟨n0, fun n hn => ?_⟩
       simp only [*, not_false_eq_true, not_true_eq_false, if_true, if_false, h0 n hn])
theorem m_dup2  {F : am_K → am_F} (hf : am_Cn F) : am_Cn (fun k => i_dup2 (F k)) := by
  intro lo st A r hg
  simp only [i_dup2] at hg ⊢
  repeat' split at hg
  all_goals first
    | cases hg; done
    | (obtain ⟨n0, h0⟩ := hf _ _ _ _ hg
       refine ⟨n0, fun n hn => ?_⟩
       simp only [*, not_false_eq_true, not_true_eq_false, if_true, if_false, h0 n hn])
theorem m_obj (d : Nat) {F : am_K → am_F} (hf : am_Cn F) : am_Cn (fun k => i_obj d (F k)) := by
  intro lo st A r hg
  simp only [i_obj] at hg ⊢
  repeat' split at hg
  all_goals first
    | cases hg; done
    | (obtain ⟨n0, h0⟩ := hf _ _ _ _ hg
       refine ⟨n0, fun n hn => ?_⟩
       simp only [*, not_false_eq_true, not_true_eq_false, if_true, if_false, h0 n hn])
theorem m_getf (ci k0 : Nat) {F : am_K → am_F} (hf : am_Cn F) : am_Cn (fun k => i_getf ci k0 (F k)) := by
  intro lo st A r hg
  simp only [i_getf] at hg ⊢
  repeat' split at hg
  all_goals first
    | cases hg; done
    | (try unfold am_wr at hg
       simp only [Option.bind_eq_some_iff] at hg
       obtain ⟨x0, e0, x1, e1, hg⟩ := hg
       obtain ⟨n0, h0⟩ := hf _ _ _ _ hg
       refine ⟨n0, fun n hn => ?_⟩
       simp only [am_wr, *, Option.bind_some, if_true, if_false, h0 n hn])
theorem m_putI (ci k0 : Nat) {F : am_K → am_F} (hf : am_Cn F) : am_Cn (fun k => i_putI ci k0 (F k)) := by
  intro lo st A r hg
  simp only [i_putI] at hg ⊢
  repeat' split at hg
  all_goals first
    | cases hg; done
    | (try unfold am_wr at hg
       simp only [Option.bind_eq_some_iff] at hg
       obtain ⟨x0, e0, x1, e1, x2, e2, hg⟩ := hg
       obtain ⟨n0, h0⟩ := hf _ _ _ _ hg
       refine ⟨n0, fun n hn => ?_⟩
       simp only [am_wr, *, Option.bind_some, if_true, if_false, h0 n hn])
theorem m_putZ (ci k0 : Nat) {F : am_K → am_F} (hf : am_Cn F) : am_Cn (fun k => i_putZ ci k0 (F k)) := by
  intro lo st A r hg
  simp only [i_putZ] at hg ⊢
  repeat' split at hg
  all_goals first
    | cases hg; done
    | (try unfold am_wr at hg
       simp only [Option.bind_eq_some_iff] at hg
       obtain ⟨x0, e0, x1, e1, x2, e2, hg⟩ := hg
       obtain ⟨n0, h0⟩ := hf _ _ _ _ hg
       refine ⟨n0, fun n hn => ?_⟩
       simp only [am_wr, *, Option.bind_some, if_true, if_false, h0 n hn])
theorem m_putR (ci k0 : Nat) {F : am_K → am_F} (hf : am_Cn F) : am_Cn (fun k => i_putR ci k0 (F k)) := by
  intro lo st A r hg
  simp only [i_putR] at hg ⊢
  repeat' split at hg
  all_goals first
    | cases hg; done
    | (try unfold am_wr at hg
       simp only [Option.bind_eq_some_iff] at hg
       obtain ⟨x0, e0, x1, e1, x2, e2, hg⟩ := hg
       obtain ⟨n0, h0⟩ := hf _ _ _ _ hg
       refine ⟨n0, fun n hn => ?_⟩
       simp only [am_wr, *, Option.bind_some, if_true, if_false, h0 n hn])
theorem m_iald (kd : Nat) {F : am_K → am_F} (hf : am_Cn F) : am_Cn (fun k => i_iald kd (F k)) := by
  intro lo st A r hg
  simp only [i_iald] at hg ⊢
  repeat' split at hg
  all_goals first
    | cases hg; done
    | (try unfold am_wr at hg
       simp only [Option.bind_eq_some_iff] at hg
       obtain ⟨x0, e0, x1, e1, hg⟩ := hg
       obtain ⟨n0, h0⟩ := hf _ _ _ _ hg
       refine ⟨n0, fun n hn => ?_⟩
       simp only [am_wr, *, Option.bind_some, if_true, if_false, h0 n hn])
theorem m_iast (kd : Nat) (nar : Int32 → Int32) {F : am_K → am_F} (hf : am_Cn F) : am_Cn (fun k => i_iast kd nar (F k)) := by
  intro lo st A r hg
  simp only [i_iast] at hg ⊢
  repeat' split at hg
  all_goals first
    | cases hg; done
    | (try unfold am_wr at hg
       simp only [Option.bind_eq_some_iff] at hg
       obtain ⟨x0, e0, x1, e1, x2, e2, hg⟩ := hg
       obtain ⟨n0, h0⟩ := hf _ _ _ _ hg
       refine ⟨n0, fun n hn => ?_⟩
       simp only [am_wr, *, Option.bind_some, if_true, if_false, h0 n hn])
theorem m_aald  {F : am_K → am_F} (hf : am_Cn F) : am_Cn (fun k => i_aald (F k)) := by
  intro lo st A r hg
  simp only [i_aald] at hg ⊢
  repeat' split at hg
  all_goals first
    | cases hg; done
    | (try unfold am_wr at hg
       simp only [Option.bind_eq_some_iff] at hg
       obtain ⟨x0, e0, x1, e1, hg⟩ := hg
       obtain ⟨n0, h0⟩ := hf _ _ _ _ hg
       refine ⟨n0, fun n hn => ?_⟩
       simp only [am_wr, *, Option.bind_some, if_true, if_false, h0 n hn])
theorem m_aast (ci : Nat) {F : am_K → am_F} (hf : am_Cn F) : am_Cn (fun k => i_aast ci (F k)) := by
  intro lo st A r hg
  simp only [i_aast] at hg ⊢
  repeat' split at hg
  all_goals first
    | cases hg; done
    | (try unfold am_wr at hg
       simp only [Option.bind_eq_some_iff] at hg
       obtain ⟨x0, e0, x1, e1, x2, e2, x3, e3, hg⟩ := hg
       obtain ⟨n0, h0⟩ := hf _ _ _ _ hg
       refine ⟨n0, fun n hn => ?_⟩
       simp only [am_wr, *, Option.bind_some, if_true, if_false, h0 n hn])
theorem m_alen  {F : am_K → am_F} (hf : am_Cn F) : am_Cn (fun k => i_alen (F k)) := by
  intro lo st A r hg
  simp only [i_alen] at hg ⊢
  repeat' split at hg
  all_goals first
    | cases hg; done
    | (try unfold am_wr at hg
       simp only [Option.bind_eq_some_iff] at hg
       obtain ⟨x0, e0, hg⟩ := hg
       obtain ⟨n0, h0⟩ := hf _ _ _ _ hg
       refine ⟨n0, fun n hn => ?_⟩
       simp only [am_wr, *, Option.bind_some, if_true, if_false, h0 n hn])
theorem m_newi (kd : Nat) {F : am_K → am_F} (hf : am_Cn F) : am_Cn (fun k => i_newi kd (F k)) := by
  intro lo st A r hg
  simp only [i_newi] at hg ⊢
  repeat' split at hg
  all_goals first
    | cases hg; done
    | (try unfold am_wr at hg
       simp only [Option.bind_eq_some_iff] at hg
       obtain ⟨x0, e0, hg⟩ := hg
       obtain ⟨n0, h0⟩ := hf _ _ _ _ hg
       refine ⟨n0, fun n hn => ?_⟩
       simp only [am_wr, *, Option.bind_some, if_true, if_false, h0 n hn])
theorem m_newq  {F : am_K → am_F} (hf : am_Cn F) : am_Cn (fun k => i_newq (F k)) := by
  intro lo st A r hg
  simp only [i_newq] at hg ⊢
  repeat' split at hg
  all_goals first
    | cases hg; done
    | (try unfold am_wr at hg
       simp only [Option.bind_eq_some_iff] at hg
       obtain ⟨x0, e0, hg⟩ := hg
       obtain ⟨n0, h0⟩ := hf _ _ _ _ hg
       refine ⟨n0, fun n hn => ?_⟩
       simp only [am_wr, *, Option.bind_some, if_true, if_false, h0 n hn])
theorem m_recv (ci na : Nat) {F : am_K → am_F} (hf : am_Cn F) : am_Cn (fun k => i_recv ci na (F k)) := by
  intro lo st A r hg
  simp only [i_recv] at hg ⊢
  repeat' split at hg
  all_goals first
    | cases hg; done
    | (try unfold am_wr at hg
       simp only [Option.bind_eq_some_iff] at hg
       obtain ⟨x0, e0, hg⟩ := hg
       obtain ⟨n0, h0⟩ := hf _ _ _ _ hg
       refine ⟨n0, fun n hn => ?_⟩
       simp only [am_wr, *, Option.bind_some, if_true, if_false, h0 n hn])
theorem m_ifeq {G F : am_K → am_F} (ht : am_Cn G) (hf : am_Cn F) : am_Cn (fun k => i_ifeq (G k) (F k)) := by
  intro lo st A r hg
  simp only [i_ifeq] at hg ⊢
  repeat' split at hg
  all_goals first
    | cases hg; done
    | (obtain ⟨n0, h0⟩ := hf _ _ _ _ hg
       refine ⟨n0, fun n hn => ?_⟩
       simp only [*, not_false_eq_true, not_true_eq_false, if_true, if_false, h0 n hn]
       done)
    | (obtain ⟨n0, h0⟩ := ht _ _ _ _ hg
       refine ⟨n0, fun n hn => ?_⟩
       simp only [*, not_false_eq_true, not_true_eq_false, if_true, if_false, h0 n hn]
       done)
theorem m_ifne {G F : am_K → am_F} (ht : am_Cn G) (hf : am_Cn F) : am_Cn (fun k => i_ifne (G k) (F k)) := by
  intro lo st A r hg
  simp only [i_ifne] at hg ⊢
  repeat' split at hg
  all_goals first
    | cases hg; done
    | (obtain ⟨n0, h0⟩ := hf _ _ _ _ hg
       refine ⟨n0, fun n hn => ?_⟩
       simp only [*, not_false_eq_true, not_true_eq_false, if_true, if_false, h0 n hn]
       done)
    | (obtain ⟨n0, h0⟩ := ht _ _ _ _ hg
       refine ⟨n0, fun n hn => ?_⟩
       simp only [*, not_false_eq_true, not_true_eq_false, if_true, if_false, h0 n hn]
       done)
theorem m_iflt {G F : am_K → am_F} (ht : am_Cn G) (hf : am_Cn F) : am_Cn (fun k => i_iflt (G k) (F k)) := by
  intro lo st A r hg
  simp only [i_iflt] at hg ⊢
  repeat' split at hg
  all_goals first
    | cases hg; done
    | (obtain ⟨n0, h0⟩ := hf _ _ _ _ hg
       refine ⟨n0, fun n hn => ?_⟩
       simp only [*, not_false_eq_true, not_true_eq_false, if_true, if_false, h0 n hn]
       done)
    | (obtain ⟨n0, h0⟩ := ht _ _ _ _ hg
       refine ⟨n0, fun n hn => ?_⟩
       simp only [*, not_false_eq_true, not_true_eq_false, if_true, if_false, h0 n hn]
       done)
theorem m_ifge {G F : am_K → am_F} (ht : am_Cn G) (hf : am_Cn F) : am_Cn (fun k => i_ifge (G k) (F k)) := by
  intro lo st A r hg
  simp only [i_ifge] at hg ⊢
  repeat' split at hg
  all_goals first
    | cases hg; done
    | (obtain ⟨n0, h0⟩ := hf _ _ _ _ hg
       refine ⟨n0, fun n hn => ?_⟩
       simp only [*, not_false_eq_true, not_true_eq_false, if_true, if_false, h0 n hn]
       done)
    | (obtain ⟨n0, h0⟩ := ht _ _ _ _ hg
       refine ⟨n0, fun n hn => ?_⟩
       simp only [*, not_false_eq_true, not_true_eq_false, if_true, if_false, h0 n hn]
       done)
theorem m_ifgt {G F : am_K → am_F} (ht : am_Cn G) (hf : am_Cn F) : am_Cn (fun k => i_ifgt (G k) (F k)) := by
  intro lo st A r hg
  simp only [i_ifgt] at hg ⊢
  repeat' split at hg
  all_goals first
    | cases hg; done
    | (obtain ⟨n0, h0⟩ := hf _ _ _ _ hg
       refine ⟨n0, fun n hn => ?_⟩
       simp only [*, not_false_eq_true, not_true_eq_false, if_true, if_false, h0 n hn]
       done)
    | (obtain ⟨n0, h0⟩ := ht _ _ _ _ hg
       refine ⟨n0, fun n hn => ?_⟩
       simp only [*, not_false_eq_true, not_true_eq_false, if_true, if_false, h0 n hn]
       done)
theorem m_ifle {G F : am_K → am_F} (ht : am_Cn G) (hf : am_Cn F) : am_Cn (fun k => i_ifle (G k) (F k)) := by
  intro lo st A r hg
  simp only [i_ifle] at hg ⊢
  repeat' split at hg
  all_goals first
    | cases hg; done
    | (obtain ⟨n0, h0⟩ := hf _ _ _ _ hg
       refine ⟨n0, fun n hn => ?_⟩
       simp only [*, not_false_eq_true, not_true_eq_false, if_true, if_false, h0 n hn]
       done)
    | (obtain ⟨n0, h0⟩ := ht _ _ _ _ hg
       refine ⟨n0, fun n hn => ?_⟩
       simp only [*, not_false_eq_true, not_true_eq_false, if_true, if_false, h0 n hn]
       done)
theorem m_cmpeq {G F : am_K → am_F} (ht : am_Cn G) (hf : am_Cn F) : am_Cn (fun k => i_cmpeq (G k) (F k)) := by
  intro lo st A r hg
  simp only [i_cmpeq] at hg ⊢
  repeat' split at hg
  all_goals first
    | cases hg; done
    | (obtain ⟨n0, h0⟩ := hf _ _ _ _ hg
       refine ⟨n0, fun n hn => ?_⟩
       simp only [*, not_false_eq_true, not_true_eq_false, if_true, if_false, h0 n hn]
       done)
    | (obtain ⟨n0, h0⟩ := ht _ _ _ _ hg
       refine ⟨n0, fun n hn => ?_⟩
       simp only [*, not_false_eq_true, not_true_eq_false, if_true, if_false, h0 n hn]
       done)
theorem m_cmpne {G F : am_K → am_F} (ht : am_Cn G) (hf : am_Cn F) : am_Cn (fun k => i_cmpne (G k) (F k)) := by
  intro lo st A r hg
  simp only [i_cmpne] at hg ⊢
  repeat' split at hg
  all_goals first
    | cases hg; done
    | (obtain ⟨n0, h0⟩ := hf _ _ _ _ hg
       refine ⟨n0, fun n hn => ?_⟩
       simp only [*, not_false_eq_true, not_true_eq_false, if_true, if_false, h0 n hn]
       done)
    | (obtain ⟨n0, h0⟩ := ht _ _ _ _ hg
       refine ⟨n0, fun n hn => ?_⟩
       simp only [*, not_false_eq_true, not_true_eq_false, if_true, if_false, h0 n hn]
       done)
theorem m_cmplt {G F : am_K → am_F} (ht : am_Cn G) (hf : am_Cn F) : am_Cn (fun k => i_cmplt (G k) (F k)) := by
  intro lo st A r hg
  simp only [i_cmplt] at hg ⊢
  repeat' split at hg
  all_goals first
    | cases hg; done
    | (obtain ⟨n0, h0⟩ := hf _ _ _ _ hg
       refine ⟨n0, fun n hn => ?_⟩
       simp only [*, not_false_eq_true, not_true_eq_false, if_true, if_false, h0 n hn]
       done)
    | (obtain ⟨n0, h0⟩ := ht _ _ _ _ hg
       refine ⟨n0, fun n hn => ?_⟩
       simp only [*, not_false_eq_true, not_true_eq_false, if_true, if_false, h0 n hn]
       done)
theorem m_cmpge {G F : am_K → am_F} (ht : am_Cn G) (hf : am_Cn F) : am_Cn (fun k => i_cmpge (G k) (F k)) := by
  intro lo st A r hg
  simp only [i_cmpge] at hg ⊢
  repeat' split at hg
  all_goals first
    | cases hg; done
    | (obtain ⟨n0, h0⟩ := hf _ _ _ _ hg
       refine ⟨n0, fun n hn => ?_⟩
       simp only [*, not_false_eq_true, not_true_eq_false, if_true, if_false, h0 n hn]
       done)
    | (obtain ⟨n0, h0⟩ := ht _ _ _ _ hg
       refine ⟨n0, fun n hn => ?_⟩
       simp only [*, not_false_eq_true, not_true_eq_false, if_true, if_false, h0 n hn]
       done)
theorem m_cmpgt {G F : am_K → am_F} (ht : am_Cn G) (hf : am_Cn F) : am_Cn (fun k => i_cmpgt (G k) (F k)) := by
  intro lo st A r hg
  simp only [i_cmpgt] at hg ⊢
  repeat' split at hg
  all_goals first
    | cases hg; done
    | (obtain ⟨n0, h0⟩ := hf _ _ _ _ hg
       refine ⟨n0, fun n hn => ?_⟩
       simp only [*, not_false_eq_true, not_true_eq_false, if_true, if_false, h0 n hn]
       done)
    | (obtain ⟨n0, h0⟩ := ht _ _ _ _ hg
       refine ⟨n0, fun n hn => ?_⟩
       simp only [*, not_false_eq_true, not_true_eq_false, if_true, if_false, h0 n hn]
       done)
theorem m_cmple {G F : am_K → am_F} (ht : am_Cn G) (hf : am_Cn F) : am_Cn (fun k => i_cmple (G k) (F k)) := by
  intro lo st A r hg
  simp only [i_cmple] at hg ⊢
  repeat' split at hg
  all_goals first
    | cases hg; done
    | (obtain ⟨n0, h0⟩ := hf _ _ _ _ hg
       refine ⟨n0, fun n hn => ?_⟩
       simp only [*, not_false_eq_true, not_true_eq_false, if_true, if_false, h0 n hn]
       done)
    | (obtain ⟨n0, h0⟩ := ht _ _ _ _ hg
       refine ⟨n0, fun n hn => ?_⟩
       simp only [*, not_false_eq_true, not_true_eq_false, if_true, if_false, h0 n hn]
       done)
theorem m_ifnull {G F : am_K → am_F} (ht : am_Cn G) (hf : am_Cn F) : am_Cn (fun k => i_ifnull (G k) (F k)) := by
  intro lo st A r hg
  simp only [i_ifnull] at hg ⊢
  repeat' split at hg
  all_goals first
    | cases hg; done
    | (obtain ⟨n0, h0⟩ := hf _ _ _ _ hg
       refine ⟨n0, fun n hn => ?_⟩
       simp only [*, not_false_eq_true, not_true_eq_false, if_true, if_false, h0 n hn]
       done)
    | (obtain ⟨n0, h0⟩ := ht _ _ _ _ hg
       refine ⟨n0, fun n hn => ?_⟩
       simp only [*, not_false_eq_true, not_true_eq_false, if_true, if_false, h0 n hn]
       done)
theorem m_ifnonnull {G F : am_K → am_F} (ht : am_Cn G) (hf : am_Cn F) : am_Cn (fun k => i_ifnonnull (G k) (F k)) := by
  intro lo st A r hg
  simp only [i_ifnonnull] at hg ⊢
  repeat' split at hg
  all_goals first
    | cases hg; done
    | (obtain ⟨n0, h0⟩ := hf _ _ _ _ hg
       refine ⟨n0, fun n hn => ?_⟩
       simp only [*, not_false_eq_true, not_true_eq_false, if_true, if_false, h0 n hn]
       done)
    | (obtain ⟨n0, h0⟩ := ht _ _ _ _ hg
       refine ⟨n0, fun n hn => ?_⟩
       simp only [*, not_false_eq_true, not_true_eq_false, if_true, if_false, h0 n hn]
       done)
theorem m_switch {Gs : List (am_K → am_F)} {F : am_K → am_F} (ht : ∀ G ∈ Gs, am_Cn G) (hf : am_Cn F) : am_Cn (fun k => i_switch (Gs.map fun G => G k) (F k)) := by
  intro lo st A r hg
  simp only [i_switch] at hg ⊢
  split at hg
  · split at hg
    · rename_i hx
      obtain ⟨n0, h0⟩ := hf _ _ _ _ hg
      exact ⟨n0, fun n hn => by rw [if_pos hx]; exact h0 n hn⟩
    · rename_i x s0 hx
      rw [List.getElem?_map] at hg
      cases he : Gs[x.toNatClampNeg]? with
      | none =>
        rw [he] at hg
        obtain ⟨n0, h0⟩ := hf _ _ _ _ hg
        exact ⟨n0, fun n hn => by rw [if_neg hx, List.getElem?_map, he]; exact h0 n hn⟩
      | some G =>
        rw [he] at hg
        obtain ⟨n0, h0⟩ := ht G (List.mem_of_getElem? he) _ _ _ _ hg
        exact ⟨n0, fun n hn => by rw [if_neg hx, List.getElem?_map, he]; exact h0 n hn⟩
  · cases hg
theorem m_call (d lab na nL : Nat) {F : am_K → am_F} (hf : am_Cn F) : am_Cn (fun k => i_call k d lab na nL (F k)) := by
  intro lo st A r hg
  simp only [i_call] at hg ⊢
  cases d with
  | zero => cases hg
  | succ d =>
    simp only at hg ⊢
    split at hg
    · rename_i hc
      obtain ⟨r1, h1, hg⟩ := Option.bind_eq_some_iff.mp hg
      obtain ⟨n1, e1⟩ := pev_to h1
      obtain ⟨n2, e2⟩ := hf _ _ _ _ hg
      refine ⟨max n1 n2, fun n hn => ?_⟩
      rw [if_pos hc, e1 n (Nat.le_trans (Nat.le_max_left _ _) hn), Option.bind_some]
      exact e2 n (Nat.le_trans (Nat.le_max_right _ _) hn)
    · cases hg
