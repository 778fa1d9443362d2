/-! how positions, values and cells of the pure machine stand for those of the machine -/
def am_el : String := RX4
abbrev am_cl : List vw_C := [(RX0, TX0, 5), (RX1, TX1, 3), (RX2, TX2, 3), (RX3, TX3, 8), (RX4, TX4, 8), (RX5, TX5, 8), (RX6, TX6, 26)]
def am_ws : List Cond := lw_tbl.filter goodWord
theorem am_good {L : List Cond} (h : ∀ w ∈ L, w ∈ am_ws) : GoodIn am_ws L := fun w hw => ⟨h w hw, good_of_word (List.mem_filter.mp (h w hw)).2⟩
theorem am_in {w : Cond} (i : Nat) (h : lw_tbl[i]? = some w) (hg : goodWord w = true) : w ∈ am_ws := List.mem_filter.mpr ⟨List.mem_of_getElem? h, hg⟩
def am_ty (kd : Nat) : FieldType := match kd with
  | 0 => .int
  | _ => .byte
def am_ad (sA : Nat → Nat) (z p : Nat) : Nat := if p < 5 then sA p else z + (p - 5)
def am_tr (sA : Nat → Nat) (z : Nat) (v : Value) : Value := match v with
  | .ref p => .ref (am_ad sA z p)
  | v => v
theorem am_tr_cat (sA : Nat → Nat) (z : Nat) (v : Value) : (am_tr sA z v).category = v.category := by cases v <;> rfl
theorem am_cats (sA : Nat → Nat) (z : Nat) (st : List Value) : ((st.map (am_tr sA z)).map fun v => v.category).sum = (st.map fun v => v.category).sum := by
  rw [List.map_map]
  congr 1
  exact List.map_congr_left fun v _ => am_tr_cat sA z v
theorem am_ad_ne {sA : Nat → Nat} {z : Nat} (hs : ∀ p, p < 5 → sA p < z) {p q : Nat} (hp : 5 ≤ p) (hne : q ≠ p) : am_ad sA z q ≠ am_ad sA z p := by
  unfold am_ad
  rw [if_neg (Nat.not_lt.mpr hp)]
  by_cases h : q < 5
  · rw [if_pos h]
    have := hs q h
    omega
  · rw [if_neg h]
    omega
theorem am_ad_ge {sA : Nat → Nat} {z p : Nat} (hp : 5 ≤ p) : z ≤ am_ad sA z p := by
  unfold am_ad
  rw [if_neg (Nat.not_lt.mpr hp)]
  omega
def am_at (dC : Nat → ClassId) (dI : Nat → Nat → Nat) (sA : Nat → Nat) (z : Nat) (U : State) (a : Nat) (e : am_C) (H : Heap) : Prop := match e with
  | .inl (kd, n, f) => ∃ cell : Cell, H[a]? = some cell ∧ U.isArrayOf cell (am_ty kd) ∧ cell.vm ≠ .unknown ∧ n ≤ cell.slots.size ∧ cell.slots.size.toInt32 = Int32.ofNat n ∧ ∀ j : Nat, j < n → cell.slots[j]? = some (.int (f j))
  | .inr (.inl (n, g)) => ∃ (cell : Cell) (kA : Class) (comp : ClassId), H[a]? = some cell ∧ cell.vm = .none ∧ U.vm.classes[cell.cls]? = some kA ∧ kA.kind = .array comp (.object am_el) ∧ U.vm.findClass am_el = some comp ∧ cell.slots.size = n ∧ ∀ j : Nat, j < n → cell.slots[j]? = some (am_tr sA z (am_rv (g j)))
  | .inr (.inr (ci, fs)) => ∃ r : vw_C, am_cl[ci]? = some r ∧ t_OB a (dC ci) r.2.2 (dI ci) H (vp_V (fs.map (am_tr sA z)))
theorem am_at.lt {dC : Nat → ClassId} {dI : Nat → Nat → Nat} {sA : Nat → Nat} {z : Nat} {U : State} {a : Nat} {e : am_C} {H : Heap} (h : am_at dC dI sA z U a e H) : a < H.size := by
  rcases e with ⟨kd, n, f⟩ | ⟨n, g⟩ | ⟨ci, fs⟩
  · obtain ⟨cell, h1, -⟩ := h
    exact (Array.getElem?_eq_some_iff.mp h1).1
  · obtain ⟨cell, kA, comp, h1, -⟩ := h
    exact (Array.getElem?_eq_some_iff.mp h1).1
  · obtain ⟨r, -, cell, h1, -⟩ := h
    exact (Array.getElem?_eq_some_iff.mp h1).1
theorem am_at.kept {dC : Nat → ClassId} {dI : Nat → Nat → Nat} {sA : Nat → Nat} {z : Nat} {U : State} {a : Nat} {e : am_C} {H H1 : Heap} (h : am_at dC dI sA z U a e H) (hq : H1[a]? = H[a]?) : am_at dC dI sA z U a e H1 := by
  rcases e with ⟨kd, n, f⟩ | ⟨n, g⟩ | ⟨ci, fs⟩
  · obtain ⟨cell, h1, h2⟩ := h
    exact ⟨cell, hq.trans h1, h2⟩
  · obtain ⟨cell, kA, comp, h1, h2⟩ := h
    exact ⟨cell, kA, comp, hq.trans h1, h2⟩
  · obtain ⟨r, h1, h2⟩ := h
    exact ⟨r, h1, h2.kept hq⟩
theorem am_at.moved {dC : Nat → ClassId} {dI : Nat → Nat → Nat} {sA : Nat → Nat} {z : Nat} {U V : State} {a : Nat} {e : am_C} {H : Heap} (hvm : U.vm.Alike V.vm) (h : am_at dC dI sA z U a e H) : am_at dC dI sA z V a e H := by
  rcases e with ⟨kd, n, f⟩ | ⟨n, g⟩ | ⟨ci, fs⟩
  · obtain ⟨cell, h1, h2, h3⟩ := h
    exact ⟨cell, h1, State.isArrayOf_alike hvm h2, h3⟩
  · obtain ⟨cell, kA, comp, h1, h2, h3, h4, h5, h6⟩ := h
    obtain ⟨k', hk', he⟩ := hvm.2.2 _ _ h3
    exact ⟨cell, k', comp, h1, h2, hk', by rw [he]; exact h4, by rw [hvm.findClass]; exact h5, h6⟩
  · exact h
/-- the pure heap A stands for the cells from z on (position 5 is the first), and for the old rows 0 .. 4 -/
def am_P (dC : Nat → ClassId) (dI : Nat → Nat → Nat) (sA : Nat → Nat) (z : Nat) (U : State) (A : am_H) (H : Heap) : Prop := 5 ≤ A.1 ∧ H.size + 5 = z + A.1 ∧ ∀ (p : Nat) (e : am_C), A.2.2 p = some e → p < A.1 ∧ am_at dC dI sA z U (am_ad sA z p) e H
theorem am_P.moved {dC : Nat → ClassId} {dI : Nat → Nat → Nat} {sA : Nat → Nat} {z : Nat} {U V : State} {A : am_H} {H : Heap} (hvm : U.vm.Alike V.vm) (h : am_P dC dI sA z U A H) : am_P dC dI sA z V A H := ⟨h.1, h.2.1, fun p e hp => ⟨(h.2.2 p e hp).1, (h.2.2 p e hp).2.moved hvm⟩⟩
theorem am_P.set {dC : Nat → ClassId} {dI : Nat → Nat → Nat} {sA : Nat → Nat} {z : Nat} {U : State} {A : am_H} {H H1 : Heap} {p : Nat} {e0 e : am_C} (hs : ∀ p, p < 5 → sA p < z) (h : am_P dC dI sA z U A H) (hp : A.2.2 p = some e0) (h5 : 5 ≤ p) (hz : H1.size = H.size) (ho : ∀ q, q ≠ am_ad sA z p → H1[q]? = H[q]?) (he : am_at dC dI sA z U (am_ad sA z p) e H1) : am_P dC dI sA z U (am_set A p e) H1 := by
  refine ⟨h.1, by rw [hz]; exact h.2.1, fun q x hq => ?_⟩
  by_cases hqp : q = p
  · subst hqp
    have hx : e = x := by simpa [am_set] using hq
    subst hx
    exact ⟨(h.2.2 _ _ hp).1, he⟩
  · have hq' : A.2.2 q = some x := by simpa [am_set, hqp] using hq
    obtain ⟨g1, g2⟩ := h.2.2 q x hq'
    exact ⟨g1, g2.kept (ho _ (am_ad_ne hs h5 hqp))⟩
theorem am_P.new {dC : Nat → ClassId} {dI : Nat → Nat → Nat} {sA : Nat → Nat} {z : Nat} {U : State} {A : am_H} {H H1 : Heap} {n : Nat} {e : am_C} (h : am_P dC dI sA z U A H) (hz : H1.size = H.size + 1) (ho : ∀ q, q < H.size → H1[q]? = H[q]?) (he : am_at dC dI sA z U H.size e H1) : am_P dC dI sA z U (am_new A n e) H1 := by
  obtain ⟨h1, h2, h3⟩ := h
  have ha : am_ad sA z A.1 = H.size := by
    unfold am_ad
    rw [if_neg (Nat.not_lt.mpr h1)]
    omega
  refine ⟨by show 5 ≤ A.1 + 1; omega, by show H1.size + 5 = z + (A.1 + 1); omega, fun q x hq => ?_⟩
  by_cases hqp : q = A.1
  · subst hqp
    have hx : e = x := by simpa [am_new] using hq
    subst hx
    exact ⟨Nat.lt_succ_self _, by rw [ha]; exact he⟩
  · have hq' : A.2.2 q = some x := by simpa [am_new, hqp] using hq
    obtain ⟨g1, g2⟩ := h3 q x hq'
    exact ⟨Nat.lt_succ_of_lt g1, g2.kept (ho _ g2.lt)⟩
theorem am_ad_top {dC : Nat → ClassId} {dI : Nat → Nat → Nat} {sA : Nat → Nat} {z : Nat} {U : State} {A : am_H} {H : Heap} (h : am_P dC dI sA z U A H) : am_ad sA z A.1 = H.size := by
  obtain ⟨h1, h2, h3⟩ := h
  unfold am_ad
  rw [if_neg (Nat.not_lt.mpr h1)]
  omega
theorem am_obj_at {A : am_H} {p ci : Nat} {fs : List Value} (h : am_obj A p ci = some fs) : A.2.2 p = some (.inr (.inr (ci, fs))) := by
  unfold am_obj at h
  split at h
  · rename_i c fs' he
    split at h
    · rename_i hc
      subst hc
      cases h
      exact he
    · cases h
  · cases h
theorem am_row_at {A : am_H} {p kd : Nat} {a : Nat × (Nat → Int32)} (h : am_row A p kd = some a) : A.2.2 p = some (.inl (kd, a.1, a.2)) := by
  unfold am_row at h
  split at h
  · rename_i c n g he
    split at h
    · rename_i hc
      subst hc
      cases h
      exact he
    · cases h
  · cases h
theorem am_refs_at {A : am_H} {p : Nat} {a : Nat × (Nat → Option Nat)} (h : am_refs A p = some a) : A.2.2 p = some (.inr (.inl (a.1, a.2))) := by
  unfold am_refs at h
  split at h
  · rename_i n g he
    cases h
    exact he
  · cases h
theorem am_ix_at {i : Int32} {n j : Nat} (h : am_ix i n = some j) : ¬ i < 0 ∧ i.toNatClampNeg = j ∧ j < n := by
  unfold am_ix at h
  split at h
  · cases h
  · split at h
    · cases h
      exact ⟨by assumption, rfl, by assumption⟩
    · cases h
theorem am_own_at {p : Nat} {u : Unit} (h : am_own p = some u) : 5 ≤ p := by
  unfold am_own at h
  split at h
  · assumption
  · cases h
/-! the nest mates' words, the statics, the classes -/
def am_G (dC : Nat → ClassId) (dI : Nat → Nat → Nat) (sA : Nat → Nat) (z : Nat) (U : State) : Prop :=
  va_K (dC, dI) am_cl [] U ∧ (∀ q ∈ am_nestM, va_Nw (.methodLinkNest q.1 q.2.1 q.2.2.1 q.2.2.2) U) ∧ (∀ q ∈ am_nestF, va_Nw (.fieldLinkNest q.1 q.2.1 q.2.2.1 q.2.2.2.1 q.2.2.2.2.1 q.2.2.2.2.2) U) ∧ va_AO am_el U ∧ (∀ p, p < 5 → sA p < z) ∧ ∀ i, i < 4 → va_Z RX5 (am_sn i) "[I" (.ref (sA i)) (fun q => z ≤ q) U U.heap
theorem am_G.warm {dC : Nat → ClassId} {dI : Nat → Nat → Nat} {sA : Nat → Nat} {z : Nat} {s U : State} (h : am_G dC dI sA z s) (hW : s.WarmedH U.vm) (hk : ∀ q, q < z → U.heap[q]? = s.heap[q]?) : am_G dC dI sA z U :=
  ⟨va_K.moved hW.alike h.1, fun q hq => va_Nw.warmM hW (h.2.1 q hq), fun q hq => va_Nw.warmF hW (h.2.2.1 q hq), va_AO.moved hW.alike h.2.2.2.1, h.2.2.2.2.1, fun i hi => va_Z.kept (va_Z.moved hW.alike (h.2.2.2.2.2 i hi)) (fun a _ ha => hk a (Nat.not_le.mp ha))⟩
theorem am_G.calling {dC : Nat → ClassId} {dI : Nat → Nat → Nat} {sA : Nat → Nat} {z : Nat} {U : State} (h : am_G dC dI sA z U) (g : JFrame) (mk : MethodId) (a : Array Value) : am_G dC dI sA z (U.calling g mk a) :=
  ⟨va_K.moved (u := U) (U := U.calling g mk a) (Vm.Alike.refl U.vm) h.1, fun q hq => va_Nw.same rfl (u := U) (U := U.calling g mk a) rfl (h.2.1 q hq), fun q hq => va_Nw.same rfl (u := U) (U := U.calling g mk a) rfl (h.2.2.1 q hq), va_AO.moved (u := U) (U := U.calling g mk a) (Vm.Alike.refl U.vm) h.2.2.2.1, h.2.2.2.2.1, fun i hi => va_Z.moved (u := U) (U := U.calling g mk a) (Vm.Alike.refl U.vm) (h.2.2.2.2.2 i hi)⟩
/-! locals -/
def am_LR (sA : Nat → Nat) (z : Nat) (lo : am_L) (ls : Array Slot) : Prop := ls.size = lo.length ∧ lv_wf ls ∧ ∀ (i : Nat) (v : Value), lo[i]? = some (some v) → ls[i]? = some (.val (am_tr sA z v))
def am_ps (sA : Nat → Nat) (z : Nat) (lo : am_L) : List (Nat × Value) := (List.range lo.length).filterMap (fun i => match lo[i]? with
  | some (some v) => some (i, am_tr sA z v)
  | _ => none)
theorem am_ps_mem {sA : Nat → Nat} {z : Nat} {lo : am_L} {i : Nat} {v : Value} (h : lo[i]? = some (some v)) : (i, am_tr sA z v) ∈ am_ps sA z lo := by
  refine List.mem_filterMap.mpr ⟨i, List.mem_range.mpr (List.getElem?_eq_some_iff.mp h).1, ?_⟩
  simp only [h]
theorem am_LR.has {sA : Nat → Nat} {z : Nat} {lo : am_L} {ls : Array Slot} (h : am_LR sA z lo ls) : lv_has ls lo.length (am_ps sA z lo) := by
  refine ⟨h.1, h.2.1, fun q hq => ?_⟩
  obtain ⟨i, -, hi⟩ := List.mem_filterMap.mp hq
  split at hi
  · rename_i v hv
    cases hi
    exact h.2.2 i v hv
  · cases hi
theorem am_put_at {lo lo' : am_L} {i : Nat} {v : Value} (h : am_put lo i v = some lo') : i < lo.length ∧ lo' = lo.set i (some v) ∧ ∀ (j : Nat) (w : Value), j + 1 = i → lo[j]? = some (some w) → w.category = 1 := by
  unfold am_put at h
  split at h
  · rename_i hi
    cases i with
    | zero =>
      simp only [Option.some.injEq] at h
      exact ⟨hi, h.symm, fun j w hj _ => by omega⟩
    | succ k =>
      simp only at h
      refine ⟨hi, ?_, ?_⟩
      · split at h
        · cases h
        · cases h
        · exact (Option.some.inj h).symm
      · intro j w hj hw
        have hjk : j = k := by omega
        subst hjk
        cases w with
        | long x => rw [hw] at h; simp at h
        | double x => rw [hw] at h; simp at h
        | _ => rfl
  · cases h
theorem am_LR.put {sA : Nat → Nat} {z : Nat} {lo lo' : am_L} {i : Nat} {v : Value} {ls' : Array Slot} (hp : am_put lo i v = some lo') (h : lv_has ls' lo.length ((i, am_tr sA z v) :: (am_ps sA z lo).filter (fun q => !(q.1 == i) && !(q.1 + 1 == i && q.2.category == 2)))) : am_LR sA z lo' ls' := by
  obtain ⟨h1, h2, h3⟩ := am_put_at hp
  subst h2
  refine ⟨by rw [List.length_set]; exact h.1, h.2.1, fun j w hj => ?_⟩
  by_cases hji : j = i
  · subst hji
    rw [List.getElem?_set_self h1] at hj
    cases hj
    exact h.2.2 (j, am_tr sA z v) List.mem_cons_self
  · rw [List.getElem?_set_ne (fun e => hji e.symm)] at hj
    refine h.2.2 (j, am_tr sA z w) (List.mem_cons_of_mem _ (List.mem_filter.mpr ⟨am_ps_mem hj, ?_⟩))
    by_cases hj1 : j + 1 = i
    · simp [hji, am_tr_cat, h3 j w hj1 hj]
    · simp [hji, hj1]
theorem am_put2_at {lo lo' : am_L} {i : Nat} {v : Value} (h : am_put2 lo i v = some lo') : i + 1 < lo.length ∧ ∃ l1, am_put lo i v = some l1 ∧ lo' = l1.set (i + 1) none := by
  unfold am_put2 at h
  split at h
  · rename_i hi
    split at h
    · rename_i l1 h1
      cases h
      exact ⟨hi, l1, h1, rfl⟩
    · cases h
  · cases h
theorem am_LR.put2 {sA : Nat → Nat} {z : Nat} {lo lo' : am_L} {i : Nat} {v : Value} {ls' : Array Slot} (hp : am_put2 lo i v = some lo') (h : lv_has ls' lo.length ((i, am_tr sA z v) :: (am_ps sA z lo).filter (fun q => !(q.1 == i) && (!(q.1 == i + 1) && !(q.1 + 1 == i && q.2.category == 2))))) : am_LR sA z lo' ls' := by
  obtain ⟨h0, l1, hp1, rfl⟩ := am_put2_at hp
  obtain ⟨h1, rfl, h3⟩ := am_put_at hp1
  refine ⟨by rw [List.length_set, List.length_set]; exact h.1, h.2.1, fun j w hj => ?_⟩
  by_cases hj2 : j = i + 1
  · subst hj2
    rw [List.getElem?_set_self (by rw [List.length_set]; exact h0)] at hj
    cases hj
  · rw [List.getElem?_set_ne (fun e => hj2 e.symm)] at hj
    by_cases hji : j = i
    · subst hji
      rw [List.getElem?_set_self h1] at hj
      cases hj
      exact h.2.2 (j, am_tr sA z v) List.mem_cons_self
    · rw [List.getElem?_set_ne (fun e => hji e.symm)] at hj
      refine h.2.2 (j, am_tr sA z w) (List.mem_cons_of_mem _ (List.mem_filter.mpr ⟨am_ps_mem hj, ?_⟩))
      by_cases hj1 : j + 1 = i
      · simp [hji, hj2, am_tr_cat, h3 j w hj1 hj]
      · simp [hji, hj2, hj1]
theorem am_put_len {lo lo' : am_L} {i : Nat} {v : Value} (h : am_put lo i v = some lo') : lo'.length = lo.length := by
  rw [(am_put_at h).2.1, List.length_set]
theorem am_put2_len {lo lo' : am_L} {i : Nat} {v : Value} (h : am_put2 lo i v = some lo') : lo'.length = lo.length := by
  obtain ⟨-, l1, h1, rfl⟩ := am_put2_at h
  rw [List.length_set, am_put_len h1]
/-! soundness of a point: own class, code, locals, answer's type, constructor -/
abbrev am_I : Type := String × ByteArray × Nat × Option FieldType × Bool
def am_X (I : am_I) (dC : Nat → ClassId) (dI : Nat → Nat → Nat) (sA : Nat → Nat) (z : Nat) (p : Program) (s : State) (m : MethodId) (args : Array Value) (meth : Method) (c : Code) : Prop :=
  p.tables.exec = Jvm.exec ∧ c.code = I.2.1 ∧ c.maxLocals = I.2.2.1 ∧ meth.sig.returnType = I.2.2.2.1 ∧ meth.locks = false ∧ (I.2.2.2.2 = true → meth.name = "<init>") ∧ s.vm.findClass I.1 = some m.cls ∧ (∀ w ∈ am_ws, w.before args s = true) ∧ am_G dC dI sA z s
/-- an answer and the instruction that gives it -/
def am_rok (ret : Option FieldType) (v : Option Value) (ins : Instr) : Prop := (ret = none ∧ v = none ∧ ins = .return_) ∨ (∃ (ty : FieldType) (x : Int32), ret = some ty ∧ v = some (.int x) ∧ narrow ty (.int x) = .int x ∧ ins = .ireturn) ∨ (∃ x : Int64, ret = some .long ∧ v = some (.long x) ∧ ins = .lreturn) ∨ (∃ n : String, ret = some (.object n) ∧ (v = some .null ∨ ∃ q : Nat, v = some (.ref q)) ∧ ins = .areturn)
def am_E (l : Launch) (I : am_I) (dC : Nat → ClassId) (dI : Nat → Nat → Nat) (sA : Nat → Nat) (z : Nat) (p : Program) (e : Env) (R : Room) (s : State) (m : MethodId) (args : Array Value) (below : List Frame) (meth : Method) (c : Code) (mc ms : Nat) (Q : State → Prop) (r : am_R) : Prop :=
  ∀ (pc : Nat) (ls : Array Slot) (H : Heap) (locs : List Loc) (ins : Instr), decode I.2.1 pc = .ok (ins, 1) → am_rok I.2.2.2.1 r.1 ins → am_P dC dI sA z s r.2 H → (∀ q, q < z → H[q]? = s.heap[q]?) → (∀ q ∈ locs, z ≤ q.base) → W p l e R s m args below meth c H locs mc ms Q (F0 m pc ls (r.1.toList.map (am_tr sA z)))
def am_S1 (l : Launch) (I : am_I) (pc d : Nat) (lo : am_L) (st : List Value) (A : am_H) (r : am_R) : Prop := lo.length = I.2.2.1 → A.1 ≤ r.2.1 ∧ A.2.1 ≤ r.2.2.1 ∧
  ∀ (dC : Nat → ClassId) (dI : Nat → Nat → Nat) (sA : Nat → Nat) (z : Nat) (p : Program) (e : Env) (R : Room) (s : State) (m : MethodId) (args : Array Value) (below : List Frame) (meth : Method) (c : Code) (H : Heap) (locs : List Loc) (cells slots : Nat) (ls : Array Slot) (Q : State → Prop) (mc ms : Nat), am_X I dC dI sA z p s m args meth c → am_P dC dI sA z s A H → (∀ q, q < z → H[q]? = s.heap[q]?) → (∀ q ∈ locs, z ≤ q.base) → am_LR sA z lo ls → d ≤ R.frames → d * 37 ≤ R.locals → cells + (r.2.1 - A.1) = mc → slots + (r.2.2.1 - A.2.1) = ms → mc ≤ R.cells → ms ≤ R.slots → am_E l I dC dI sA z p e R s m args below meth c mc ms Q r → W p l e R s m args below meth c H locs cells slots Q (F0 m pc ls (st.map (am_tr sA z)))
def am_S (l : Launch) (I : am_I) (pc d : Nat) (f : am_F) : Prop := ∀ (lo : am_L) (st : List Value) (A : am_H) (r : am_R), f lo st A = some r → am_S1 l I pc d lo st A r
/-- a step, in general -/
theorem am_go0 {l : Launch} {I : am_I} {pc pc' d : Nat} {lo lo' : am_L} {st st' : List Value} {A A' : am_H} {r : am_R} (h : am_S1 l I pc' d lo' st' A' r) (hlen : lo'.length = lo.length) (h1 : A.1 ≤ A'.1) (h2 : A.2.1 ≤ A'.2.1)
    (hs : ∀ (dC : Nat → ClassId) (dI : Nat → Nat → Nat) (sA : Nat → Nat) (z : Nat) (p : Program) (e : Env) (R : Room) (s : State) (m : MethodId) (args : Array Value) (below : List Frame) (meth : Method) (c : Code) (H : Heap) (locs : List Loc) (cells slots : Nat) (ls : Array Slot) (Q : State → Prop), lo.length = I.2.2.1 → am_X I dC dI sA z p s m args meth c → am_P dC dI sA z s A H → (∀ q, q < z → H[q]? = s.heap[q]?) → (∀ q ∈ locs, z ≤ q.base) → am_LR sA z lo ls → d ≤ R.frames → d * 37 ≤ R.locals → cells + (A'.1 - A.1) ≤ R.cells → slots + (A'.2.1 - A.2.1) ≤ R.slots →
      (∀ (H' : Heap) (locs' : List Loc) (ls' : Array Slot), am_P dC dI sA z s A' H' → (∀ q, q < z → H'[q]? = s.heap[q]?) → (∀ q ∈ locs', z ≤ q.base) → am_LR sA z lo' ls' → W p l e R s m args below meth c H' locs' (cells + (A'.1 - A.1)) (slots + (A'.2.1 - A.2.1)) Q (F0 m pc' ls' (st'.map (am_tr sA z)))) → W p l e R s m args below meth c H locs cells slots Q (F0 m pc ls (st.map (am_tr sA z)))) : am_S1 l I pc d lo st A r := by
  intro hlo
  obtain ⟨a1, a2, a3⟩ := h (hlen.trans hlo)
  refine ⟨Nat.le_trans h1 a1, Nat.le_trans h2 a2, ?_⟩
  intro dC dI sA z p e R s m args below meth c H locs cells slots ls Q mc ms hX hP hz hl hL hr1 hr2 e1 e2 e3 e4 hE
  refine hs dC dI sA z p e R s m args below meth c H locs cells slots ls Q hlo hX hP hz hl hL hr1 hr2 (by omega) (by omega) (fun H' locs' ls' hP' hz' hl' hL' => ?_)
  exact a3 dC dI sA z p e R s m args below meth c H' locs' _ _ ls' Q mc ms hX hP' hz' hl' hL' hr1 hr2 (by omega) (by omega) e3 e4 hE
/-- a step that changes the stack alone -/
theorem am_go1 {l : Launch} {I : am_I} {pc pc' d : Nat} {lo : am_L} {st st' : List Value} {A : am_H} {r : am_R} (h : am_S1 l I pc' d lo st' A r)
    (hs : ∀ (dC : Nat → ClassId) (dI : Nat → Nat → Nat) (sA : Nat → Nat) (z : Nat) (p : Program) (e : Env) (R : Room) (s : State) (m : MethodId) (args : Array Value) (below : List Frame) (meth : Method) (c : Code) (H : Heap) (locs : List Loc) (cells slots : Nat) (ls : Array Slot) (Q : State → Prop), am_X I dC dI sA z p s m args meth c → am_P dC dI sA z s A H → (∀ q, q < z → H[q]? = s.heap[q]?) → am_LR sA z lo ls → W p l e R s m args below meth c H locs cells slots Q (F0 m pc' ls (st'.map (am_tr sA z))) → W p l e R s m args below meth c H locs cells slots Q (F0 m pc ls (st.map (am_tr sA z)))) : am_S1 l I pc d lo st A r := by
  refine am_go0 h rfl (Nat.le_refl _) (Nat.le_refl _) ?_
  intro dC dI sA z p e R s m args below meth c H locs cells slots ls Q _ hX hP hz hl hL _ _ _ _ k
  refine hs dC dI sA z p e R s m args below meth c H locs cells slots ls Q hX hP hz hL ?_
  have k1 := k H locs ls hP hz hl hL
  rw [Nat.sub_self, Nat.sub_self, Nat.add_zero, Nat.add_zero] at k1
  exact k1
/-- a step that changes locals too -/
theorem am_goL {l : Launch} {I : am_I} {pc pc' d : Nat} {lo lo' : am_L} {st st' : List Value} {A : am_H} {r : am_R} (h : am_S1 l I pc' d lo' st' A r) (hlen : lo'.length = lo.length)
    (hs : ∀ (dC : Nat → ClassId) (dI : Nat → Nat → Nat) (sA : Nat → Nat) (z : Nat) (p : Program) (e : Env) (R : Room) (s : State) (m : MethodId) (args : Array Value) (below : List Frame) (meth : Method) (c : Code) (H : Heap) (locs : List Loc) (cells slots : Nat) (ls : Array Slot) (Q : State → Prop), am_X I dC dI sA z p s m args meth c → am_LR sA z lo ls → (∀ ls' : Array Slot, am_LR sA z lo' ls' → W p l e R s m args below meth c H locs cells slots Q (F0 m pc' ls' (st'.map (am_tr sA z)))) → W p l e R s m args below meth c H locs cells slots Q (F0 m pc ls (st.map (am_tr sA z)))) : am_S1 l I pc d lo st A r := by
  refine am_go0 h hlen (Nat.le_refl _) (Nat.le_refl _) ?_
  intro dC dI sA z p e R s m args below meth c H locs cells slots ls Q _ hX hP hz hl hL _ _ _ _ k
  refine hs dC dI sA z p e R s m args below meth c H locs cells slots ls Q hX hL (fun ls' hL' => ?_)
  have k1 := k H locs ls' hP hz hl hL'
  rw [Nat.sub_self, Nat.sub_self, Nat.add_zero, Nat.add_zero] at k1
  exact k1
/-- a step that writes one cell -/
theorem am_goW {l : Launch} {I : am_I} {pc pc' d : Nat} {lo : am_L} {st st' : List Value} {A : am_H} {r : am_R} {q0 : Nat} {e0 x : am_C} (h : am_S1 l I pc' d lo st' (am_set A q0 x) r) (hq : A.2.2 q0 = some e0) (h5 : 5 ≤ q0)
    (hs : ∀ (dC : Nat → ClassId) (dI : Nat → Nat → Nat) (sA : Nat → Nat) (z : Nat) (p : Program) (e : Env) (R : Room) (s : State) (m : MethodId) (args : Array Value) (below : List Frame) (meth : Method) (c : Code) (H : Heap) (locs : List Loc) (cells slots : Nat) (ls : Array Slot) (Q : State → Prop), am_X I dC dI sA z p s m args meth c → am_P dC dI sA z s A H → am_at dC dI sA z s (am_ad sA z q0) e0 H → (∀ (H' : Heap) (k : Nat), am_at dC dI sA z s (am_ad sA z q0) x H' → H'.size = H.size → (∀ q, q ≠ am_ad sA z q0 → H'[q]? = H[q]?) → W p l e R s m args below meth c H' (locs ++ [⟨am_ad sA z q0, k⟩]) cells slots Q (F0 m pc' ls (st'.map (am_tr sA z)))) → W p l e R s m args below meth c H locs cells slots Q (F0 m pc ls (st.map (am_tr sA z)))) : am_S1 l I pc d lo st A r := by
  refine am_go0 h rfl (Nat.le_refl _) (Nat.le_refl _) ?_
  intro dC dI sA z p e R s m args below meth c H locs cells slots ls Q _ hX hP hz hl hL _ _ _ _ k
  refine hs dC dI sA z p e R s m args below meth c H locs cells slots ls Q hX hP (hP.2.2 q0 e0 hq).2 (fun H' i hat hsz ho => ?_)
  have hsA := hX.2.2.2.2.2.2.2.2.2.2.2.2.1
  have k1 := k H' (locs ++ [⟨am_ad sA z q0, i⟩]) ls (hP.set hsA hq h5 hsz ho hat) (fun q hq2 => by
    rw [ho q (fun e1 => by
      have := am_ad_ge (sA := sA) (z := z) h5
      omega)]
    exact hz q hq2) (fun q hq2 => by
    rcases List.mem_append.mp hq2 with h3 | h3
    · exact hl q h3
    · rw [List.mem_singleton.mp h3]
      exact am_ad_ge h5) hL
  have e1 : (am_set A q0 x).1 - A.1 = 0 := Nat.sub_self A.1
  have e2 : (am_set A q0 x).2.1 - A.2.1 = 0 := Nat.sub_self A.2.1
  rw [e1, e2, Nat.add_zero, Nat.add_zero] at k1
  exact k1
/-- a step that makes one cell -/
theorem am_goN {l : Launch} {I : am_I} {pc pc' d : Nat} {lo : am_L} {st st' : List Value} {A : am_H} {r : am_R} {n : Nat} {x : am_C} (h : am_S1 l I pc' d lo (.ref A.1 :: st') (am_new A n x) r)
    (hs : ∀ (dC : Nat → ClassId) (dI : Nat → Nat → Nat) (sA : Nat → Nat) (z : Nat) (p : Program) (e : Env) (R : Room) (s : State) (m : MethodId) (args : Array Value) (below : List Frame) (meth : Method) (c : Code) (H : Heap) (locs : List Loc) (cells slots : Nat) (ls : Array Slot) (Q : State → Prop), am_X I dC dI sA z p s m args meth c → cells + 1 ≤ R.cells → slots + n ≤ R.slots → (∀ H' : Heap, am_at dC dI sA z s H.size x H' → H'.size = H.size + 1 → (∀ q, q < H.size → H'[q]? = H[q]?) → W p l e R s m args below meth c H' locs (cells + 1) (slots + n) Q (F0 m pc' ls (.ref H.size :: st'.map (am_tr sA z)))) → W p l e R s m args below meth c H locs cells slots Q (F0 m pc ls (st.map (am_tr sA z)))) : am_S1 l I pc d lo st A r := by
  refine am_go0 h rfl (Nat.le_succ _) (Nat.le_add_right _ _) ?_
  intro dC dI sA z p e R s m args below meth c H locs cells slots ls Q _ hX hP hz hl hL _ _ g1 g2 k
  have e1 : (am_new A n x).1 - A.1 = 1 := Nat.add_sub_cancel_left _ _
  have e2 : (am_new A n x).2.1 - A.2.1 = n := Nat.add_sub_cancel_left _ _
  rw [e1] at g1
  rw [e2] at g2
  refine hs dC dI sA z p e R s m args below meth c H locs cells slots ls Q hX g1 g2 (fun H' hat hsz ho => ?_)
  have hzs : z ≤ H.size := by
    have h1 := hP.1
    have h2 := hP.2.1
    omega
  have k1 := k H' locs ls (hP.new hsz ho hat) (fun q hq => by rw [ho q (by omega)]; exact hz q hq) hl hL
  rw [e1, e2] at k1
  have e3 : am_tr sA z (.ref A.1) = .ref H.size := by
    show Value.ref (am_ad sA z A.1) = _
    rw [am_ad_top hP]
  rw [List.map_cons, e3] at k1
  exact k1
theorem s_iadd {l : Launch} {I : am_I} {pc d : Nat} {f : am_F} (hd : decode I.2.1 pc = .ok (.iadd, 1)) (hf : am_S l I (pc + 1) d f) : am_S l I pc d (i_ii (fun x y => x + y) f) := by
  intro lo st A r hg
  unfold i_ii at hg
  split at hg
  · exact am_go1 (hf _ _ _ _ hg) (fun _ _ _ _ _ _ _ _ _ _ _ _ _ _ _ _ _ _ _ hX _ _ _ k => lv_iadd hX.1 hX.2.1 hd k)
  · cases hg
theorem s_isub {l : Launch} {I : am_I} {pc d : Nat} {f : am_F} (hd : decode I.2.1 pc = .ok (.isub, 1)) (hf : am_S l I (pc + 1) d f) : am_S l I pc d (i_ii (fun x y => x - y) f) := by
  intro lo st A r hg
  unfold i_ii at hg
  split at hg
  · exact am_go1 (hf _ _ _ _ hg) (fun _ _ _ _ _ _ _ _ _ _ _ _ _ _ _ _ _ _ _ hX _ _ _ k => lv_isub hX.1 hX.2.1 hd k)
  · cases hg
theorem s_imul {l : Launch} {I : am_I} {pc d : Nat} {f : am_F} (hd : decode I.2.1 pc = .ok (.imul, 1)) (hf : am_S l I (pc + 1) d f) : am_S l I pc d (i_ii (fun x y => x * y) f) := by
  intro lo st A r hg
  unfold i_ii at hg
  split at hg
  · exact am_go1 (hf _ _ _ _ hg) (fun _ _ _ _ _ _ _ _ _ _ _ _ _ _ _ _ _ _ _ hX _ _ _ k => lv_imul hX.1 hX.2.1 hd k)
  · cases hg
theorem s_iand {l : Launch} {I : am_I} {pc d : Nat} {f : am_F} (hd : decode I.2.1 pc = .ok (.iand, 1)) (hf : am_S l I (pc + 1) d f) : am_S l I pc d (i_ii (fun x y => x &&& y) f) := by
  intro lo st A r hg
  unfold i_ii at hg
  split at hg
  · exact am_go1 (hf _ _ _ _ hg) (fun _ _ _ _ _ _ _ _ _ _ _ _ _ _ _ _ _ _ _ hX _ _ _ k => lv_iand hX.1 hX.2.1 hd k)
  · cases hg
theorem s_ior {l : Launch} {I : am_I} {pc d : Nat} {f : am_F} (hd : decode I.2.1 pc = .ok (.ior, 1)) (hf : am_S l I (pc + 1) d f) : am_S l I pc d (i_ii (fun x y => x ||| y) f) := by
  intro lo st A r hg
  unfold i_ii at hg
  split at hg
  · exact am_go1 (hf _ _ _ _ hg) (fun _ _ _ _ _ _ _ _ _ _ _ _ _ _ _ _ _ _ _ hX _ _ _ k => lv_ior hX.1 hX.2.1 hd k)
  · cases hg
theorem s_ishl {l : Launch} {I : am_I} {pc d : Nat} {f : am_F} (hd : decode I.2.1 pc = .ok (.ishl, 1)) (hf : am_S l I (pc + 1) d f) : am_S l I pc d (i_ii (fun x y => x <<< (y &&& 31)) f) := by
  intro lo st A r hg
  unfold i_ii at hg
  split at hg
  · exact am_go1 (hf _ _ _ _ hg) (fun _ _ _ _ _ _ _ _ _ _ _ _ _ _ _ _ _ _ _ hX _ _ _ k => lv_ishl hX.1 hX.2.1 hd k)
  · cases hg
theorem s_ishr {l : Launch} {I : am_I} {pc d : Nat} {f : am_F} (hd : decode I.2.1 pc = .ok (.ishr, 1)) (hf : am_S l I (pc + 1) d f) : am_S l I pc d (i_ii (fun x y => x >>> (y &&& 31)) f) := by
  intro lo st A r hg
  unfold i_ii at hg
  split at hg
  · exact am_go1 (hf _ _ _ _ hg) (fun _ _ _ _ _ _ _ _ _ _ _ _ _ _ _ _ _ _ _ hX _ _ _ k => lv_ishr hX.1 hX.2.1 hd k)
  · cases hg
theorem s_iushr {l : Launch} {I : am_I} {pc d : Nat} {f : am_F} (hd : decode I.2.1 pc = .ok (.iushr, 1)) (hf : am_S l I (pc + 1) d f) : am_S l I pc d (i_ii (fun x y => (x.toUInt32 >>> (y.toUInt32 &&& Int32.toUInt32 31)).toInt32) f) := by
  intro lo st A r hg
  unfold i_ii at hg
  split at hg
  · exact am_go1 (hf _ _ _ _ hg) (fun _ _ _ _ _ _ _ _ _ _ _ _ _ _ _ _ _ _ _ hX _ _ _ k => lv_iushr hX.1 hX.2.1 hd rfl k)
  · cases hg
theorem s_ladd {l : Launch} {I : am_I} {pc d : Nat} {f : am_F} (hd : decode I.2.1 pc = .ok (.ladd, 1)) (hf : am_S l I (pc + 1) d f) : am_S l I pc d (i_ll (fun x y => x + y) f) := by
  intro lo st A r hg
  unfold i_ll at hg
  split at hg
  · exact am_go1 (hf _ _ _ _ hg) (fun _ _ _ _ _ _ _ _ _ _ _ _ _ _ _ _ _ _ _ hX _ _ _ k => lv_ladd hX.1 hX.2.1 hd k)
  · cases hg
theorem s_lsub {l : Launch} {I : am_I} {pc d : Nat} {f : am_F} (hd : decode I.2.1 pc = .ok (.lsub, 1)) (hf : am_S l I (pc + 1) d f) : am_S l I pc d (i_ll (fun x y => x - y) f) := by
  intro lo st A r hg
  unfold i_ll at hg
  split at hg
  · exact am_go1 (hf _ _ _ _ hg) (fun _ _ _ _ _ _ _ _ _ _ _ _ _ _ _ _ _ _ _ hX _ _ _ k => lv_lsub hX.1 hX.2.1 hd k)
  · cases hg
theorem s_lmul {l : Launch} {I : am_I} {pc d : Nat} {f : am_F} (hd : decode I.2.1 pc = .ok (.lmul, 1)) (hf : am_S l I (pc + 1) d f) : am_S l I pc d (i_ll (fun x y => x * y) f) := by
  intro lo st A r hg
  unfold i_ll at hg
  split at hg
  · exact am_go1 (hf _ _ _ _ hg) (fun _ _ _ _ _ _ _ _ _ _ _ _ _ _ _ _ _ _ _ hX _ _ _ k => lv_lmul hX.1 hX.2.1 hd k)
  · cases hg
theorem s_land {l : Launch} {I : am_I} {pc d : Nat} {f : am_F} (hd : decode I.2.1 pc = .ok (.land, 1)) (hf : am_S l I (pc + 1) d f) : am_S l I pc d (i_ll (fun x y => x &&& y) f) := by
  intro lo st A r hg
  unfold i_ll at hg
  split at hg
  · exact am_go1 (hf _ _ _ _ hg) (fun _ _ _ _ _ _ _ _ _ _ _ _ _ _ _ _ _ _ _ hX _ _ _ k => lv_land hX.1 hX.2.1 hd k)
  · cases hg
theorem s_lor {l : Launch} {I : am_I} {pc d : Nat} {f : am_F} (hd : decode I.2.1 pc = .ok (.lor, 1)) (hf : am_S l I (pc + 1) d f) : am_S l I pc d (i_ll (fun x y => x ||| y) f) := by
  intro lo st A r hg
  unfold i_ll at hg
  split at hg
  · exact am_go1 (hf _ _ _ _ hg) (fun _ _ _ _ _ _ _ _ _ _ _ _ _ _ _ _ _ _ _ hX _ _ _ k => lv_lor hX.1 hX.2.1 hd k)
  · cases hg
theorem s_lshl {l : Launch} {I : am_I} {pc d : Nat} {f : am_F} (hd : decode I.2.1 pc = .ok (.lshl, 1)) (hf : am_S l I (pc + 1) d f) : am_S l I pc d (i_lsh (fun x y => x <<< (y.toInt64 &&& 63)) f) := by
  intro lo st A r hg
  unfold i_lsh at hg
  split at hg
  · exact am_go1 (hf _ _ _ _ hg) (fun _ _ _ _ _ _ _ _ _ _ _ _ _ _ _ _ _ _ _ hX _ _ _ k => lv_lshl hX.1 hX.2.1 hd rfl k)
  · cases hg
theorem s_lshr {l : Launch} {I : am_I} {pc d : Nat} {f : am_F} (hd : decode I.2.1 pc = .ok (.lshr, 1)) (hf : am_S l I (pc + 1) d f) : am_S l I pc d (i_lsh (fun x y => x >>> (y.toInt64 &&& 63)) f) := by
  intro lo st A r hg
  unfold i_lsh at hg
  split at hg
  · exact am_go1 (hf _ _ _ _ hg) (fun _ _ _ _ _ _ _ _ _ _ _ _ _ _ _ _ _ _ _ hX _ _ _ k => lv_lshr hX.1 hX.2.1 hd rfl k)
  · cases hg
theorem s_lushr {l : Launch} {I : am_I} {pc d : Nat} {f : am_F} (hd : decode I.2.1 pc = .ok (.lushr, 1)) (hf : am_S l I (pc + 1) d f) : am_S l I pc d (i_lsh (fun x y => (x.toUInt64 >>> (y.toInt64.toUInt64 &&& Int64.toUInt64 63)).toInt64) f) := by
  intro lo st A r hg
  unfold i_lsh at hg
  split at hg
  · exact am_go1 (hf _ _ _ _ hg) (fun _ _ _ _ _ _ _ _ _ _ _ _ _ _ _ _ _ _ _ hX _ _ _ k => lv_lushr hX.1 hX.2.1 hd rfl k)
  · cases hg
theorem s_i2b {l : Launch} {I : am_I} {pc d : Nat} {f : am_F} (hd : decode I.2.1 pc = .ok (.i2b, 1)) (hf : am_S l I (pc + 1) d f) : am_S l I pc d (i_i (fun x => x.toInt8.toInt32) f) := by
  intro lo st A r hg
  unfold i_i at hg
  split at hg
  · exact am_go1 (hf _ _ _ _ hg) (fun _ _ _ _ _ _ _ _ _ _ _ _ _ _ _ _ _ _ _ hX _ _ _ k => lv_i2b hX.1 hX.2.1 hd rfl k)
  · cases hg
theorem s_i2s {l : Launch} {I : am_I} {pc d : Nat} {f : am_F} (hd : decode I.2.1 pc = .ok (.i2s, 1)) (hf : am_S l I (pc + 1) d f) : am_S l I pc d (i_i (fun x => x.toInt16.toInt32) f) := by
  intro lo st A r hg
  unfold i_i at hg
  split at hg
  · exact am_go1 (hf _ _ _ _ hg) (fun _ _ _ _ _ _ _ _ _ _ _ _ _ _ _ _ _ _ _ hX _ _ _ k => lv_i2s hX.1 hX.2.1 hd rfl k)
  · cases hg
theorem s_i2l {l : Launch} {I : am_I} {pc d : Nat} {f : am_F} (hd : decode I.2.1 pc = .ok (.i2l, 1)) (hf : am_S l I (pc + 1) d f) : am_S l I pc d (i_i2l f) := by
  intro lo st A r hg
  unfold i_i2l at hg
  split at hg
  · exact am_go1 (hf _ _ _ _ hg) (fun _ _ _ _ _ _ _ _ _ _ _ _ _ _ _ _ _ _ _ hX _ _ _ k => lv_i2l hX.1 hX.2.1 hd rfl k)
  · cases hg
theorem s_l2i {l : Launch} {I : am_I} {pc d : Nat} {f : am_F} (hd : decode I.2.1 pc = .ok (.l2i, 1)) (hf : am_S l I (pc + 1) d f) : am_S l I pc d (i_l2i f) := by
  intro lo st A r hg
  unfold i_l2i at hg
  split at hg
  · exact am_go1 (hf _ _ _ _ hg) (fun _ _ _ _ _ _ _ _ _ _ _ _ _ _ _ _ _ _ _ hX _ _ _ k => lv_l2i hX.1 hX.2.1 hd rfl k)
  · cases hg
theorem s_lcmp {l : Launch} {I : am_I} {pc d : Nat} {f : am_F} (hd : decode I.2.1 pc = .ok (.lcmp, 1)) (hf : am_S l I (pc + 1) d f) : am_S l I pc d (i_lcmp f) := by
  intro lo st A r hg
  unfold i_lcmp at hg
  split at hg
  · exact am_go1 (hf _ _ _ _ hg) (fun _ _ _ _ _ _ _ _ _ _ _ _ _ _ _ _ _ _ _ hX _ _ _ k => W.lcmp hX.1 hX.2.1 hd k)
  · cases hg
theorem s_idiv {l : Launch} {I : am_I} {pc d : Nat} {f : am_F} (hd : decode I.2.1 pc = .ok (.idiv, 1)) (hf : am_S l I (pc + 1) d f) : am_S l I pc d (i_idz (fun x y => x / y) f) := by
  intro lo st A r hg
  unfold i_idz at hg
  split at hg
  · split at hg
    · cases hg
    · rename_i hne
      exact am_go1 (hf _ _ _ _ hg) (fun _ _ _ _ _ _ _ _ _ _ _ _ _ _ _ _ _ _ _ hX _ _ _ k => lv_idiv hX.1 hX.2.1 hd hne k)
  · cases hg
theorem s_irem {l : Launch} {I : am_I} {pc d : Nat} {f : am_F} (hd : decode I.2.1 pc = .ok (.irem, 1)) (hf : am_S l I (pc + 1) d f) : am_S l I pc d (i_idz (fun x y => x - x / y * y) f) := by
  intro lo st A r hg
  unfold i_idz at hg
  split at hg
  · split at hg
    · cases hg
    · rename_i hne
      exact am_go1 (hf _ _ _ _ hg) (fun _ _ _ _ _ _ _ _ _ _ _ _ _ _ _ _ _ _ _ hX _ _ _ k => lv_irem hX.1 hX.2.1 hd hne k)
  · cases hg
theorem s_iconst {l : Launch} {I : am_I} {pc d : Nat} {f : am_F} {n : Int} {v : Int32} (hd : decode I.2.1 pc = .ok (.iconst n, 1)) (hv : Int32.ofInt n = v) (hf : am_S l I (pc + 1) d f) : am_S l I pc d (i_int v f) :=
  fun lo st A r hg => am_go1 (hf lo (.int v :: st) A r hg) (fun _ _ _ _ _ _ _ _ _ _ _ _ _ _ _ _ _ _ _ hX _ _ _ k => lv_iconst hX.1 hX.2.1 hd hv k)
theorem s_bipush {l : Launch} {I : am_I} {pc d : Nat} {f : am_F} {n : Int} {v : Int32} (hd : decode I.2.1 pc = .ok (.bipush n, 2)) (hv : (Int8.ofInt n).toInt32 = v) (hf : am_S l I (pc + 2) d f) : am_S l I pc d (i_int v f) :=
  fun lo st A r hg => am_go1 (hf lo (.int v :: st) A r hg) (fun _ _ _ _ _ _ _ _ _ _ _ _ _ _ _ _ _ _ _ hX _ _ _ k => lv_bipush hX.1 hX.2.1 hd hv k)
theorem s_sipush {l : Launch} {I : am_I} {pc d : Nat} {f : am_F} {n : Int} {v : Int32} (hd : decode I.2.1 pc = .ok (.sipush n, 3)) (hv : (Int16.ofInt n).toInt32 = v) (hf : am_S l I (pc + 3) d f) : am_S l I pc d (i_int v f) :=
  fun lo st A r hg => am_go1 (hf lo (.int v :: st) A r hg) (fun _ _ _ _ _ _ _ _ _ _ _ _ _ _ _ _ _ _ _ hX _ _ _ k => lv_sipush hX.1 hX.2.1 hd hv k)
theorem s_lconst {l : Launch} {I : am_I} {pc d : Nat} {f : am_F} {n : Fin 2} {v : Int64} (hd : decode I.2.1 pc = .ok (.lconst n, 1)) (hv : Int64.ofNat (n : Nat) = v) (hf : am_S l I (pc + 1) d f) : am_S l I pc d (i_long v f) :=
  fun lo st A r hg => am_go1 (hf lo (.long v :: st) A r hg) (fun _ _ _ _ _ _ _ _ _ _ _ _ _ _ _ _ _ _ _ hX _ _ _ k => lv_lconst hX.1 hX.2.1 hd hv k)
theorem s_ldc {l : Launch} {I : am_I} {pc d : Nat} {f : am_F} {idx : Nat} {v : Int32} (hw : Cond.constant I.1 idx v ∈ am_ws) (hd : decode I.2.1 pc = .ok (.ldc idx, 2)) (hf : am_S l I (pc + 2) d f) : am_S l I pc d (i_int v f) :=
  fun lo st A r hg => am_go1 (hf lo (.int v :: st) A r hg) (fun _ _ _ _ _ _ _ _ _ _ _ _ _ _ _ _ _ _ _ hX _ _ _ k => lv_ldc hX.1 hX.2.1 hX.2.2.2.2.2.2.1 (hX.2.2.2.2.2.2.2.1 _ hw) hd k)
theorem s_ldc2 {l : Launch} {I : am_I} {pc d : Nat} {f : am_F} {idx : Nat} {v : Int64} (hw : Cond.constantLong I.1 idx v ∈ am_ws) (hd : decode I.2.1 pc = .ok (.ldc2_w idx, 3)) (hf : am_S l I (pc + 3) d f) : am_S l I pc d (i_long v f) :=
  fun lo st A r hg => am_go1 (hf lo (.long v :: st) A r hg) (fun _ _ _ _ _ _ _ _ _ _ _ _ _ _ _ _ _ _ _ hX _ _ _ k => lv_ldc2 hX.1 hX.2.1 hX.2.2.2.2.2.2.1 (hX.2.2.2.2.2.2.2.1 _ hw) hd k)
theorem s_null {l : Launch} {I : am_I} {pc d : Nat} {f : am_F} (hd : decode I.2.1 pc = .ok (.aconst_null, 1)) (hf : am_S l I (pc + 1) d f) : am_S l I pc d (i_null f) :=
  fun lo st A r hg => am_go1 (hf lo (.null :: st) A r hg) (fun _ _ _ _ _ _ _ _ _ _ _ _ _ _ _ _ _ _ _ hX _ _ _ k => lv_null hX.1 hX.2.1 hd k)
theorem s_iload_n {l : Launch} {I : am_I} {pc d : Nat} {f : am_F} {k0 : Fin 4} {i : Nat} (hi : (k0 : Nat) = i) (hd : decode I.2.1 pc = .ok (.iload_n k0, 1)) (hf : am_S l I (pc + 1) d f) : am_S l I pc d (i_iload i f) := by
  intro lo st A r hg
  unfold i_iload at hg
  split at hg
  · rename_i hv
    exact am_go1 (hf _ _ _ _ hg) (fun _ _ _ _ _ _ _ _ _ _ _ _ _ _ _ _ _ _ _ hX _ _ hL k => lv_iload_n hX.1 hX.2.1 hd hi (hL.2.2 _ _ hv) k)
  · cases hg
theorem s_iload {l : Launch} {I : am_I} {pc d : Nat} {f : am_F} {i : Nat} (hd : decode I.2.1 pc = .ok (.iload i, 2)) (hf : am_S l I (pc + 2) d f) : am_S l I pc d (i_iload i f) := by
  intro lo st A r hg
  unfold i_iload at hg
  split at hg
  · rename_i hv
    exact am_go1 (hf _ _ _ _ hg) (fun _ _ _ _ _ _ _ _ _ _ _ _ _ _ _ _ _ _ _ hX _ _ hL k => lv_iload hX.1 hX.2.1 hd (hL.2.2 _ _ hv) k)
  · cases hg
theorem s_lload_n {l : Launch} {I : am_I} {pc d : Nat} {f : am_F} {k0 : Fin 4} {i : Nat} (hi : (k0 : Nat) = i) (hd : decode I.2.1 pc = .ok (.lload_n k0, 1)) (hf : am_S l I (pc + 1) d f) : am_S l I pc d (i_lload i f) := by
  intro lo st A r hg
  unfold i_lload at hg
  split at hg
  · rename_i hv
    exact am_go1 (hf _ _ _ _ hg) (fun _ _ _ _ _ _ _ _ _ _ _ _ _ _ _ _ _ _ _ hX _ _ hL k => lv_lload_n hX.1 hX.2.1 hd hi (hL.2.2 _ _ hv) k)
  · cases hg
theorem s_lload {l : Launch} {I : am_I} {pc d : Nat} {f : am_F} {i : Nat} (hd : decode I.2.1 pc = .ok (.lload i, 2)) (hf : am_S l I (pc + 2) d f) : am_S l I pc d (i_lload i f) := by
  intro lo st A r hg
  unfold i_lload at hg
  split at hg
  · rename_i hv
    exact am_go1 (hf _ _ _ _ hg) (fun _ _ _ _ _ _ _ _ _ _ _ _ _ _ _ _ _ _ _ hX _ _ hL k => lv_lload hX.1 hX.2.1 hd (hL.2.2 _ _ hv) k)
  · cases hg
theorem s_aload_n {l : Launch} {I : am_I} {pc d : Nat} {f : am_F} {k0 : Fin 4} {i : Nat} (hi : (k0 : Nat) = i) (hd : decode I.2.1 pc = .ok (.aload_n k0, 1)) (hf : am_S l I (pc + 1) d f) : am_S l I pc d (i_aload i f) := by
  intro lo st A r hg
  unfold i_aload at hg
  split at hg
  · rename_i hv
    exact am_go1 (hf _ _ _ _ hg) (fun _ _ _ _ _ _ _ _ _ _ _ _ _ _ _ _ _ _ _ hX _ _ hL k => lv_aload_n hX.1 hX.2.1 hd hi (hL.2.2 _ _ hv) k)
  · rename_i hv
    exact am_go1 (hf _ _ _ _ hg) (fun _ _ _ _ _ _ _ _ _ _ _ _ _ _ _ _ _ _ _ hX _ _ hL k => lv_aload_nN hX.1 hX.2.1 hd hi (hL.2.2 _ _ hv) k)
  · cases hg
theorem s_aload {l : Launch} {I : am_I} {pc d : Nat} {f : am_F} {i : Nat} (hd : decode I.2.1 pc = .ok (.aload i, 2)) (hf : am_S l I (pc + 2) d f) : am_S l I pc d (i_aload i f) := by
  intro lo st A r hg
  unfold i_aload at hg
  split at hg
  · rename_i hv
    exact am_go1 (hf _ _ _ _ hg) (fun _ _ _ _ _ _ _ _ _ _ _ _ _ _ _ _ _ _ _ hX _ _ hL k => lv_aload hX.1 hX.2.1 hd (hL.2.2 _ _ hv) k)
  · rename_i hv
    exact am_go1 (hf _ _ _ _ hg) (fun _ _ _ _ _ _ _ _ _ _ _ _ _ _ _ _ _ _ _ hX _ _ hL k => lv_aloadN hX.1 hX.2.1 hd (hL.2.2 _ _ hv) k)
  · cases hg
theorem s_istore_n {l : Launch} {I : am_I} {pc d : Nat} {f : am_F} {k0 : Fin 4} {i : Nat} (hi : (k0 : Nat) = i) (hd : decode I.2.1 pc = .ok (.istore_n k0, 1)) (hf : am_S l I (pc + 1) d f) : am_S l I pc d (i_istore i f) := by
  intro lo st A r hg
  unfold i_istore at hg
  split at hg
  · split at hg
    · rename_i hp
      exact am_goL (hf _ _ _ _ hg) (am_put_len hp) (fun _ _ _ _ _ _ _ _ _ _ _ _ _ _ _ _ _ _ _ hX hL k => lv_istore_n hX.1 hX.2.1 hd hi hL.has (am_put_at hp).1 rfl (fun ls' h' => k ls' (am_LR.put hp h')))
    · cases hg
  · cases hg
theorem s_istore {l : Launch} {I : am_I} {pc d : Nat} {f : am_F} {i : Nat} (hd : decode I.2.1 pc = .ok (.istore i, 2)) (hf : am_S l I (pc + 2) d f) : am_S l I pc d (i_istore i f) := by
  intro lo st A r hg
  unfold i_istore at hg
  split at hg
  · split at hg
    · rename_i hp
      exact am_goL (hf _ _ _ _ hg) (am_put_len hp) (fun _ _ _ _ _ _ _ _ _ _ _ _ _ _ _ _ _ _ _ hX hL k => lv_istore hX.1 hX.2.1 hd hL.has (am_put_at hp).1 rfl (fun ls' h' => k ls' (am_LR.put hp h')))
    · cases hg
  · cases hg
theorem s_lstore_n {l : Launch} {I : am_I} {pc d : Nat} {f : am_F} {k0 : Fin 4} {i : Nat} (hi : (k0 : Nat) = i) (hd : decode I.2.1 pc = .ok (.lstore_n k0, 1)) (hf : am_S l I (pc + 1) d f) : am_S l I pc d (i_lstore i f) := by
  intro lo st A r hg
  unfold i_lstore at hg
  split at hg
  · split at hg
    · rename_i hp
      exact am_goL (hf _ _ _ _ hg) (am_put2_len hp) (fun _ _ _ _ _ _ _ _ _ _ _ _ _ _ _ _ _ _ _ hX hL k => lv_lstore_n hX.1 hX.2.1 hd hi hL.has (am_put2_at hp).1 rfl (fun ls' h' => k ls' (am_LR.put2 hp h')))
    · cases hg
  · cases hg
theorem s_lstore {l : Launch} {I : am_I} {pc d : Nat} {f : am_F} {i : Nat} (hd : decode I.2.1 pc = .ok (.lstore i, 2)) (hf : am_S l I (pc + 2) d f) : am_S l I pc d (i_lstore i f) := by
  intro lo st A r hg
  unfold i_lstore at hg
  split at hg
  · split at hg
    · rename_i hp
      exact am_goL (hf _ _ _ _ hg) (am_put2_len hp) (fun _ _ _ _ _ _ _ _ _ _ _ _ _ _ _ _ _ _ _ hX hL k => lv_lstore hX.1 hX.2.1 hd hL.has (am_put2_at hp).1 rfl (fun ls' h' => k ls' (am_LR.put2 hp h')))
    · cases hg
  · cases hg
theorem s_astore_n {l : Launch} {I : am_I} {pc d : Nat} {f : am_F} {k0 : Fin 4} {i : Nat} (hi : (k0 : Nat) = i) (hd : decode I.2.1 pc = .ok (.astore_n k0, 1)) (hf : am_S l I (pc + 1) d f) : am_S l I pc d (i_astore i f) := by
  intro lo st A r hg
  unfold i_astore at hg
  split at hg
  · split at hg
    · rename_i hp
      exact am_goL (hf _ _ _ _ hg) (am_put_len hp) (fun _ _ _ _ _ _ _ _ _ _ _ _ _ _ _ _ _ _ _ hX hL k => lv_astore_n hX.1 hX.2.1 hd hi hL.has (am_put_at hp).1 rfl (fun ls' h' => k ls' (am_LR.put hp h')))
    · cases hg
  · split at hg
    · rename_i hp
      exact am_goL (hf _ _ _ _ hg) (am_put_len hp) (fun _ _ _ _ _ _ _ _ _ _ _ _ _ _ _ _ _ _ _ hX hL k => lv_astore_nN hX.1 hX.2.1 hd hi hL.has (am_put_at hp).1 rfl (fun ls' h' => k ls' (am_LR.put hp h')))
    · cases hg
  · cases hg
theorem s_astore {l : Launch} {I : am_I} {pc d : Nat} {f : am_F} {i : Nat} (hd : decode I.2.1 pc = .ok (.astore i, 2)) (hf : am_S l I (pc + 2) d f) : am_S l I pc d (i_astore i f) := by
  intro lo st A r hg
  unfold i_astore at hg
  split at hg
  · split at hg
    · rename_i hp
      exact am_goL (hf _ _ _ _ hg) (am_put_len hp) (fun _ _ _ _ _ _ _ _ _ _ _ _ _ _ _ _ _ _ _ hX hL k => lv_astore hX.1 hX.2.1 hd hL.has (am_put_at hp).1 rfl (fun ls' h' => k ls' (am_LR.put hp h')))
    · cases hg
  · split at hg
    · rename_i hp
      exact am_goL (hf _ _ _ _ hg) (am_put_len hp) (fun _ _ _ _ _ _ _ _ _ _ _ _ _ _ _ _ _ _ _ hX hL k => lv_astoreN hX.1 hX.2.1 hd hL.has (am_put_at hp).1 rfl (fun ls' h' => k ls' (am_LR.put hp h')))
    · cases hg
  · cases hg
theorem s_iinc {l : Launch} {I : am_I} {pc d : Nat} {f : am_F} {i : Nat} {n : Int} {v : Int32} (hv : Int32.ofInt n = v) (hd : decode I.2.1 pc = .ok (.iinc i n, 3)) (hf : am_S l I (pc + 3) d f) : am_S l I pc d (i_iinc i v f) := by
  intro lo st A r hg
  unfold i_iinc at hg
  split at hg
  · rename_i x hx
    split at hg
    · rename_i hp
      refine am_goL (hf _ _ _ _ hg) (am_put_len hp) (fun dC dI sA z _ _ _ _ _ _ _ _ _ _ _ _ _ _ _ hX hL k => ?_)
      obtain ⟨j, hj⟩ := List.getElem?_of_mem (am_ps_mem (sA := sA) (z := z) hx)
      exact lv_iinc (k := j) (x := x) hX.1 hX.2.1 hd hL.has hj (by rw [hv]) (am_put_at hp).1 rfl (fun ls' h' => k ls' (am_LR.put hp h'))
    · cases hg
  · cases hg
theorem s_dup {l : Launch} {I : am_I} {pc d : Nat} {f : am_F} (hd : decode I.2.1 pc = .ok (.dup, 1)) (hf : am_S l I (pc + 1) d f) : am_S l I pc d (i_dup f) := by
  intro lo st A r hg
  unfold i_dup at hg
  split at hg
  · split at hg
    · rename_i hc
      exact am_go1 (hf _ _ _ _ hg) (fun _ _ _ _ _ _ _ _ _ _ _ _ _ _ _ _ _ _ _ hX _ _ _ k => lv_dup hX.1 hX.2.1 hd (by rw [am_tr_cat]; exact hc) k)
    · cases hg
  · cases hg
theorem s_pop {l : Launch} {I : am_I} {pc d : Nat} {f : am_F} (hd : decode I.2.1 pc = .ok (.pop, 1)) (hf : am_S l I (pc + 1) d f) : am_S l I pc d (i_pop f) := by
  intro lo st A r hg
  unfold i_pop at hg
  split at hg
  · split at hg
    · rename_i hc
      exact am_go1 (hf _ _ _ _ hg) (fun _ _ _ _ _ _ _ _ _ _ _ _ _ _ _ _ _ _ _ hX _ _ _ k => lv_pop hX.1 hX.2.1 hd (by rw [am_tr_cat]; exact hc) k)
    · cases hg
  · cases hg
theorem s_dup2 {l : Launch} {I : am_I} {pc d : Nat} {f : am_F} (hd : decode I.2.1 pc = .ok (.dup2, 1)) (hf : am_S l I (pc + 1) d f) : am_S l I pc d (i_dup2 f) := by
  intro lo st A r hg
  unfold i_dup2 at hg
  split at hg
  · split at hg
    · rename_i hc
      split at hg
      · rename_i hc2
        exact am_go1 (hf _ _ _ _ hg) (fun _ _ _ _ _ _ _ _ _ _ _ _ _ _ _ _ _ _ _ hX _ _ _ k => lv_dup2_11 hX.1 hX.2.1 hd (by rw [am_tr_cat]; exact hc) (by rw [am_tr_cat]; exact hc2) k)
      · cases hg
    · cases hg
  · cases hg
theorem s_ifeq {l : Launch} {I : am_I} {pc d : Nat} {f t : am_F} {off : Int} {tgt : Nat} (hd : decode I.2.1 pc = .ok (.ifCond .eq off, 3)) (ht : (pc : Int) + off = (tgt : Int)) (h1 : am_S l I tgt d t) (hf : am_S l I (pc + 3) d f) : am_S l I pc d (i_ifeq t f) := by
  intro lo st A r hg
  unfold i_ifeq at hg
  split at hg
  · split at hg
    · rename_i hc
      exact am_go1 (h1 _ _ _ _ hg) (fun _ _ _ _ _ _ _ _ _ _ _ _ _ _ _ _ _ _ _ hX _ _ _ k => lv_if_eq hX.1 hX.2.1 hd ht (fun _ => k) (fun hn => absurd hc hn))
    · rename_i hc
      exact am_go1 (hf _ _ _ _ hg) (fun _ _ _ _ _ _ _ _ _ _ _ _ _ _ _ _ _ _ _ hX _ _ _ k => lv_if_eq hX.1 hX.2.1 hd ht (fun hn => absurd hn hc) (fun _ => k))
  · cases hg
theorem s_ifne {l : Launch} {I : am_I} {pc d : Nat} {f t : am_F} {off : Int} {tgt : Nat} (hd : decode I.2.1 pc = .ok (.ifCond .ne off, 3)) (ht : (pc : Int) + off = (tgt : Int)) (h1 : am_S l I tgt d t) (hf : am_S l I (pc + 3) d f) : am_S l I pc d (i_ifne t f) := by
  intro lo st A r hg
  unfold i_ifne at hg
  split at hg
  · split at hg
    · rename_i hc
      exact am_go1 (h1 _ _ _ _ hg) (fun _ _ _ _ _ _ _ _ _ _ _ _ _ _ _ _ _ _ _ hX _ _ _ k => lv_if_ne hX.1 hX.2.1 hd ht (fun _ => k) (fun hn => absurd hn hc))
    · rename_i hc
      exact am_go1 (hf _ _ _ _ hg) (fun _ _ _ _ _ _ _ _ _ _ _ _ _ _ _ _ _ _ _ hX _ _ _ k => lv_if_ne hX.1 hX.2.1 hd ht (fun hn => absurd hn hc) (fun _ => k))
  · cases hg
theorem s_iflt {l : Launch} {I : am_I} {pc d : Nat} {f t : am_F} {off : Int} {tgt : Nat} (hd : decode I.2.1 pc = .ok (.ifCond .lt off, 3)) (ht : (pc : Int) + off = (tgt : Int)) (h1 : am_S l I tgt d t) (hf : am_S l I (pc + 3) d f) : am_S l I pc d (i_iflt t f) := by
  intro lo st A r hg
  unfold i_iflt at hg
  split at hg
  · split at hg
    · rename_i hc
      exact am_go1 (h1 _ _ _ _ hg) (fun _ _ _ _ _ _ _ _ _ _ _ _ _ _ _ _ _ _ _ hX _ _ _ k => lv_if_lt hX.1 hX.2.1 hd ht (fun _ => k) (fun hn => absurd hc hn))
    · rename_i hc
      exact am_go1 (hf _ _ _ _ hg) (fun _ _ _ _ _ _ _ _ _ _ _ _ _ _ _ _ _ _ _ hX _ _ _ k => lv_if_lt hX.1 hX.2.1 hd ht (fun hn => absurd hn hc) (fun _ => k))
  · cases hg
theorem s_ifge {l : Launch} {I : am_I} {pc d : Nat} {f t : am_F} {off : Int} {tgt : Nat} (hd : decode I.2.1 pc = .ok (.ifCond .ge off, 3)) (ht : (pc : Int) + off = (tgt : Int)) (h1 : am_S l I tgt d t) (hf : am_S l I (pc + 3) d f) : am_S l I pc d (i_ifge t f) := by
  intro lo st A r hg
  unfold i_ifge at hg
  split at hg
  · split at hg
    · rename_i hc
      exact am_go1 (h1 _ _ _ _ hg) (fun _ _ _ _ _ _ _ _ _ _ _ _ _ _ _ _ _ _ _ hX _ _ _ k => lv_if_ge hX.1 hX.2.1 hd ht (fun _ => k) (fun hn => absurd hc hn))
    · rename_i hc
      exact am_go1 (hf _ _ _ _ hg) (fun _ _ _ _ _ _ _ _ _ _ _ _ _ _ _ _ _ _ _ hX _ _ _ k => lv_if_ge hX.1 hX.2.1 hd ht (fun hn => absurd hn hc) (fun _ => k))
  · cases hg
theorem s_ifgt {l : Launch} {I : am_I} {pc d : Nat} {f t : am_F} {off : Int} {tgt : Nat} (hd : decode I.2.1 pc = .ok (.ifCond .gt off, 3)) (ht : (pc : Int) + off = (tgt : Int)) (h1 : am_S l I tgt d t) (hf : am_S l I (pc + 3) d f) : am_S l I pc d (i_ifgt t f) := by
  intro lo st A r hg
  unfold i_ifgt at hg
  split at hg
  · split at hg
    · rename_i hc
      exact am_go1 (h1 _ _ _ _ hg) (fun _ _ _ _ _ _ _ _ _ _ _ _ _ _ _ _ _ _ _ hX _ _ _ k => lv_if_gt hX.1 hX.2.1 hd ht (fun _ => k) (fun hn => absurd hc hn))
    · rename_i hc
      exact am_go1 (hf _ _ _ _ hg) (fun _ _ _ _ _ _ _ _ _ _ _ _ _ _ _ _ _ _ _ hX _ _ _ k => lv_if_gt hX.1 hX.2.1 hd ht (fun hn => absurd hn hc) (fun _ => k))
  · cases hg
theorem s_ifle {l : Launch} {I : am_I} {pc d : Nat} {f t : am_F} {off : Int} {tgt : Nat} (hd : decode I.2.1 pc = .ok (.ifCond .le off, 3)) (ht : (pc : Int) + off = (tgt : Int)) (h1 : am_S l I tgt d t) (hf : am_S l I (pc + 3) d f) : am_S l I pc d (i_ifle t f) := by
  intro lo st A r hg
  unfold i_ifle at hg
  split at hg
  · split at hg
    · rename_i hc
      exact am_go1 (h1 _ _ _ _ hg) (fun _ _ _ _ _ _ _ _ _ _ _ _ _ _ _ _ _ _ _ hX _ _ _ k => lv_if_le hX.1 hX.2.1 hd ht (fun _ => k) (fun hn => absurd hc hn))
    · rename_i hc
      exact am_go1 (hf _ _ _ _ hg) (fun _ _ _ _ _ _ _ _ _ _ _ _ _ _ _ _ _ _ _ hX _ _ _ k => lv_if_le hX.1 hX.2.1 hd ht (fun hn => absurd hn hc) (fun _ => k))
  · cases hg
theorem s_cmpeq {l : Launch} {I : am_I} {pc d : Nat} {f t : am_F} {off : Int} {tgt : Nat} (hd : decode I.2.1 pc = .ok (.if_icmp .eq off, 3)) (ht : (pc : Int) + off = (tgt : Int)) (h1 : am_S l I tgt d t) (hf : am_S l I (pc + 3) d f) : am_S l I pc d (i_cmpeq t f) := by
  intro lo st A r hg
  unfold i_cmpeq at hg
  split at hg
  · split at hg
    · rename_i hc
      exact am_go1 (h1 _ _ _ _ hg) (fun _ _ _ _ _ _ _ _ _ _ _ _ _ _ _ _ _ _ _ hX _ _ _ k => lv_icmp_eq hX.1 hX.2.1 hd ht (fun _ => k) (fun hn => absurd hc hn))
    · rename_i hc
      exact am_go1 (hf _ _ _ _ hg) (fun _ _ _ _ _ _ _ _ _ _ _ _ _ _ _ _ _ _ _ hX _ _ _ k => lv_icmp_eq hX.1 hX.2.1 hd ht (fun hn => absurd hn hc) (fun _ => k))
  · cases hg
theorem s_cmpne {l : Launch} {I : am_I} {pc d : Nat} {f t : am_F} {off : Int} {tgt : Nat} (hd : decode I.2.1 pc = .ok (.if_icmp .ne off, 3)) (ht : (pc : Int) + off = (tgt : Int)) (h1 : am_S l I tgt d t) (hf : am_S l I (pc + 3) d f) : am_S l I pc d (i_cmpne t f) := by
  intro lo st A r hg
  unfold i_cmpne at hg
  split at hg
  · split at hg
    · rename_i hc
      exact am_go1 (h1 _ _ _ _ hg) (fun _ _ _ _ _ _ _ _ _ _ _ _ _ _ _ _ _ _ _ hX _ _ _ k => lv_icmp_ne hX.1 hX.2.1 hd ht (fun _ => k) (fun hn => absurd hn hc))
    · rename_i hc
      exact am_go1 (hf _ _ _ _ hg) (fun _ _ _ _ _ _ _ _ _ _ _ _ _ _ _ _ _ _ _ hX _ _ _ k => lv_icmp_ne hX.1 hX.2.1 hd ht (fun hn => absurd hn hc) (fun _ => k))
  · cases hg
theorem s_cmplt {l : Launch} {I : am_I} {pc d : Nat} {f t : am_F} {off : Int} {tgt : Nat} (hd : decode I.2.1 pc = .ok (.if_icmp .lt off, 3)) (ht : (pc : Int) + off = (tgt : Int)) (h1 : am_S l I tgt d t) (hf : am_S l I (pc + 3) d f) : am_S l I pc d (i_cmplt t f) := by
  intro lo st A r hg
  unfold i_cmplt at hg
  split at hg
  · split at hg
    · rename_i hc
      exact am_go1 (h1 _ _ _ _ hg) (fun _ _ _ _ _ _ _ _ _ _ _ _ _ _ _ _ _ _ _ hX _ _ _ k => lv_icmp_lt hX.1 hX.2.1 hd ht (fun _ => k) (fun hn => absurd hc hn))
    · rename_i hc
      exact am_go1 (hf _ _ _ _ hg) (fun _ _ _ _ _ _ _ _ _ _ _ _ _ _ _ _ _ _ _ hX _ _ _ k => lv_icmp_lt hX.1 hX.2.1 hd ht (fun hn => absurd hn hc) (fun _ => k))
  · cases hg
theorem s_cmpge {l : Launch} {I : am_I} {pc d : Nat} {f t : am_F} {off : Int} {tgt : Nat} (hd : decode I.2.1 pc = .ok (.if_icmp .ge off, 3)) (ht : (pc : Int) + off = (tgt : Int)) (h1 : am_S l I tgt d t) (hf : am_S l I (pc + 3) d f) : am_S l I pc d (i_cmpge t f) := by
  intro lo st A r hg
  unfold i_cmpge at hg
  split at hg
  · split at hg
    · rename_i hc
      exact am_go1 (h1 _ _ _ _ hg) (fun _ _ _ _ _ _ _ _ _ _ _ _ _ _ _ _ _ _ _ hX _ _ _ k => lv_icmp_ge hX.1 hX.2.1 hd ht (fun _ => k) (fun hn => absurd hc hn))
    · rename_i hc
      exact am_go1 (hf _ _ _ _ hg) (fun _ _ _ _ _ _ _ _ _ _ _ _ _ _ _ _ _ _ _ hX _ _ _ k => lv_icmp_ge hX.1 hX.2.1 hd ht (fun hn => absurd hn hc) (fun _ => k))
  · cases hg
theorem s_cmpgt {l : Launch} {I : am_I} {pc d : Nat} {f t : am_F} {off : Int} {tgt : Nat} (hd : decode I.2.1 pc = .ok (.if_icmp .gt off, 3)) (ht : (pc : Int) + off = (tgt : Int)) (h1 : am_S l I tgt d t) (hf : am_S l I (pc + 3) d f) : am_S l I pc d (i_cmpgt t f) := by
  intro lo st A r hg
  unfold i_cmpgt at hg
  split at hg
  · split at hg
    · rename_i hc
      exact am_go1 (h1 _ _ _ _ hg) (fun _ _ _ _ _ _ _ _ _ _ _ _ _ _ _ _ _ _ _ hX _ _ _ k => lv_icmp_gt hX.1 hX.2.1 hd ht (fun _ => k) (fun hn => absurd hc hn))
    · rename_i hc
      exact am_go1 (hf _ _ _ _ hg) (fun _ _ _ _ _ _ _ _ _ _ _ _ _ _ _ _ _ _ _ hX _ _ _ k => lv_icmp_gt hX.1 hX.2.1 hd ht (fun hn => absurd hn hc) (fun _ => k))
  · cases hg
theorem s_cmple {l : Launch} {I : am_I} {pc d : Nat} {f t : am_F} {off : Int} {tgt : Nat} (hd : decode I.2.1 pc = .ok (.if_icmp .le off, 3)) (ht : (pc : Int) + off = (tgt : Int)) (h1 : am_S l I tgt d t) (hf : am_S l I (pc + 3) d f) : am_S l I pc d (i_cmple t f) := by
  intro lo st A r hg
  unfold i_cmple at hg
  split at hg
  · split at hg
    · rename_i hc
      exact am_go1 (h1 _ _ _ _ hg) (fun _ _ _ _ _ _ _ _ _ _ _ _ _ _ _ _ _ _ _ hX _ _ _ k => lv_icmp_le hX.1 hX.2.1 hd ht (fun _ => k) (fun hn => absurd hc hn))
    · rename_i hc
      exact am_go1 (hf _ _ _ _ hg) (fun _ _ _ _ _ _ _ _ _ _ _ _ _ _ _ _ _ _ _ hX _ _ _ k => lv_icmp_le hX.1 hX.2.1 hd ht (fun hn => absurd hn hc) (fun _ => k))
  · cases hg
theorem s_ifnull {l : Launch} {I : am_I} {pc d : Nat} {f t : am_F} {off : Int} {tgt : Nat} (hd : decode I.2.1 pc = .ok (.ifnull off, 3)) (ht : (pc : Int) + off = (tgt : Int)) (h1 : am_S l I tgt d t) (hf : am_S l I (pc + 3) d f) : am_S l I pc d (i_ifnull t f) := by
  intro lo st A r hg
  unfold i_ifnull at hg
  split at hg
  · exact am_go1 (h1 _ _ _ _ hg) (fun _ _ _ _ _ _ _ _ _ _ _ _ _ _ _ _ _ _ _ hX _ _ _ k => lv_ifnullN hX.1 hX.2.1 hd ht k)
  · exact am_go1 (hf _ _ _ _ hg) (fun _ _ _ _ _ _ _ _ _ _ _ _ _ _ _ _ _ _ _ hX _ _ _ k => lv_ifnull hX.1 hX.2.1 hd k)
  · cases hg
theorem s_ifnonnull {l : Launch} {I : am_I} {pc d : Nat} {f t : am_F} {off : Int} {tgt : Nat} (hd : decode I.2.1 pc = .ok (.ifnonnull off, 3)) (ht : (pc : Int) + off = (tgt : Int)) (h1 : am_S l I tgt d t) (hf : am_S l I (pc + 3) d f) : am_S l I pc d (i_ifnonnull t f) := by
  intro lo st A r hg
  unfold i_ifnonnull at hg
  split at hg
  · exact am_go1 (h1 _ _ _ _ hg) (fun _ _ _ _ _ _ _ _ _ _ _ _ _ _ _ _ _ _ _ hX _ _ _ k => lv_ifnonnull hX.1 hX.2.1 hd ht k)
  · exact am_go1 (hf _ _ _ _ hg) (fun _ _ _ _ _ _ _ _ _ _ _ _ _ _ _ _ _ _ _ hX _ _ _ k => lv_ifnonnullN hX.1 hX.2.1 hd k)
  · cases hg
theorem s_goto {l : Launch} {I : am_I} {pc d : Nat} {t : am_F} {off : Int} {tgt : Nat} (hd : decode I.2.1 pc = .ok (.goto off, 3)) (ht : (pc : Int) + off = (tgt : Int)) (h1 : am_S l I tgt d t) : am_S l I pc d t :=
  fun lo st A r hg => am_go1 (h1 _ _ _ _ hg) (fun _ _ _ _ _ _ _ _ _ _ _ _ _ _ _ _ _ _ _ hX _ _ _ k => lv_goto hX.1 hX.2.1 hd ht k)
