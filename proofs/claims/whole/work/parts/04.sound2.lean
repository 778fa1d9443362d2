/-! fields -/
theorem am_one {D : va_G} {cl : List vw_C} {a : Nat} {e : va_E} {H : Heap} (h : va_at D cl (a, e) H) : va_P D cl [(a, e)] H := by
  intro k q hk
  cases k with
  | zero =>
    cases hk
    exact h
  | succ k => simp at hk
/-- what the tables say of a class: its number, its fields -/
def am_Fx (ci : Nat) (C : String) (T : u_T) (N : Nat) (ty : Nat → FieldType) : Prop := am_cl[ci]? = some (C, T, N) ∧ (∀ w ∈ u_ws C T N, w ∈ am_ws) ∧ (∀ k, k < N → parseFieldDescriptor (T k).2.2.1 = some (ty k)) ∧ (∀ a, a < N → ∀ b, b < N → a ≠ b → (T a).2.1 ≠ (T b).2.1)
theorem s_getf {l : Launch} {I : am_I} {pc d : Nat} {f : am_F} {ci k idx N : Nat} {C : String} {T : u_T} {ty : Nat → FieldType} (fx : am_Fx ci C T N ty) (hk : k < N) (hl : Cond.fieldLink I.1 idx (T k).1 (T k).2.1 (T k).2.2.1 ∈ am_ws) (hd : decode I.2.1 pc = .ok (.getfield idx, 3)) (hf : am_S l I (pc + 3) d f) : am_S l I pc d (i_getf ci k f) := by
  intro lo st A r hg
  unfold i_getf at hg
  split at hg
  · rename_i p0 s0
    simp only [Option.bind_eq_some_iff] at hg
    obtain ⟨fs, h1, v, h2, hg⟩ := hg
    have hA := am_obj_at h1
    refine am_go1 (hf _ _ _ _ hg) ?_
    intro dC dI sA z p e R s m args below meth c H locs cells slots ls Q hX hP hz hL k0
    obtain ⟨hx, hb, -, -, -, -, hown, hts, hG⟩ := hX
    exact va_get (D := (dC, dI)) (cl := am_cl) (ci := ci) (ws := [(am_ad sA z p0, .inr (ci, fs.map (am_tr sA z)))]) (v := am_tr sA z v) hx hb hts fx.2.1 hown hG.1 (am_one (hP.2.2 _ _ hA).2) 0 rfl fx.1 k hk (hts _ hl) (fun _ h => h) (by rw [List.getElem?_map, h2]; rfl) hd k0
  · cases hg
theorem am_wr_go {l : Launch} {I : am_I} {pc d : Nat} {f : am_F} {ci k idx N : Nat} {C : String} {T : u_T} {ty : Nat → FieldType} (fx : am_Fx ci C T N ty) (hk : k < N) (hl : Cond.fieldLink I.1 idx (T k).1 (T k).2.1 (T k).2.2.1 ∈ am_ws) (hfin : (T k).2.2.2 = false ∨ ((T k).2.2.2 = true ∧ I.2.2.2.2 = true ∧ (T k).1 = I.1)) (hd : decode I.2.1 pc = .ok (.putfield idx, 3)) {v : Value} (hn : ∀ (sA : Nat → Nat) (z : Nat), narrow (ty k) (am_tr sA z v) = am_tr sA z v ∧ fits (ty k) (am_tr sA z v) = true) (hf : am_S l I (pc + 3) d f)
    {lo : am_L} {st : List Value} {A : am_H} {r : am_R} {p0 : Nat} (hg : am_wr ci k v f p0 lo st A = some r) : am_S1 l I pc d lo (v :: .ref p0 :: st) A r := by
  unfold am_wr at hg
  simp only [Option.bind_eq_some_iff] at hg
  obtain ⟨fs, h1, v0, h2, u, h3, hg⟩ := hg
  have hlen := (List.getElem?_eq_some_iff.mp h2).1
  refine am_goW (hf _ _ _ _ hg) (am_obj_at h1) (am_own_at h3) ?_
  intro dC dI sA z p e R s m args below meth c H locs cells slots ls Q hX hP hat k0
  obtain ⟨hx, hb, -, -, -, hin, hown, hts, hG⟩ := hX
  obtain ⟨hc, hinw, hty, hnm⟩ := fx
  have hap := va_apart (own := I.1) hts hinw ty hty hnm hG.1 hc
  obtain ⟨r0, g1, cell, q1, q2, q3, q4⟩ := hat
  have hr : r0 = (C, T, N) := Option.some.inj (g1.symm.trans hc)
  subst hr
  obtain ⟨hS, hfc, kC, hkC, hkind⟩ := hG.1.1 ci _ hc
  obtain ⟨cf, kf, fi, fd, hi, hsl⟩ := hS k hk
  have hlay := hts _ (hinw _ (u_in_lay hk))
  unfold u_lay at hlay
  have hst := (u_facts hfc hkC (u_lays hts hinw hk) hi).1
  obtain ⟨hn1, hn2⟩ := hn sA z
  have key : ∀ H' : Heap, H'[am_ad sA z p0]? = some (cell.setSlot fd.slot (am_tr sA z v)) → H'.size = H.size → (∀ q, q ≠ am_ad sA z p0 → H'[q]? = H[q]?) → W p l e R s m args below meth c H' (locs ++ [⟨am_ad sA z p0, fd.slot⟩]) cells slots Q (F0 m (pc + 3) ls (st.map (am_tr sA z))) := by
    intro H' e1 e2 e3
    refine k0 H' fd.slot ?_ e2 e3
    rw [hsl] at e1
    refine ⟨_, hc, t_OB.to (V := updV (vp_V (fs.map (am_tr sA z))) k (am_tr sA z v)) ⟨_, e1, q2, q3, t_set q4 hap hk (am_tr sA z v)⟩ (fun j _ => ?_)⟩
    rw [List.map_set]
    exact vp_updV_set (by rw [List.length_map]; exact hlen) _ j
  rcases hfin with hfin | ⟨hfin, hini, hdecl⟩
  · rw [if_neg (by rw [hfin]; decide)] at hlay
    have h6 := u_store hfc hkC hkind hlay hi (hty k hk) hn1 hn2
    exact W.putK hx hb (f := fd) ⟨hown, hts _ hl, ⟨_, _, _, hi⟩, hst⟩ (by rw [q2]; exact h6) q1 q3 (by rw [hsl]; exact k2_hasslot (q4 k hk)) rfl rfl hd key
  · rw [if_pos hfin] at hlay
    have hcf : m.cls = cf := by
      obtain ⟨_, _, c', _, _, _, -, -, hf', -, -, -, hown2, -⟩ := Cond.laysFinal_spec hlay
      have e1 : c' = cf := by have := hi.symm.trans hf'; simp at this; exact this.1.symm
      rw [hdecl] at hown2
      rw [← e1]; exact Option.some.inj (hown.symm.trans hown2)
    have h6 := u_fits hfc hkC hkind (Or.inr hlay) hi (hty k hk) hn1 hn2
    exact W.putFinK hx hb hown (hts _ hl) hi hst hcf (hin hini) (by rw [q2]; exact h6) q1 q3 (by rw [hsl]; exact k2_hasslot (q4 k hk)) rfl rfl hd key
theorem s_putI {l : Launch} {I : am_I} {pc d : Nat} {f : am_F} {ci k idx N : Nat} {C : String} {T : u_T} {ty : Nat → FieldType} (fx : am_Fx ci C T N ty) (hk : k < N) (hl : Cond.fieldLink I.1 idx (T k).1 (T k).2.1 (T k).2.2.1 ∈ am_ws) (hfin : (T k).2.2.2 = false ∨ ((T k).2.2.2 = true ∧ I.2.2.2.2 = true ∧ (T k).1 = I.1)) (hd : decode I.2.1 pc = .ok (.putfield idx, 3)) (ht : ty k = .int) (hf : am_S l I (pc + 3) d f) : am_S l I pc d (i_putI ci k f) := by
  intro lo st A r hg
  unfold i_putI at hg
  split at hg
  · exact am_wr_go fx hk hl hfin hd (fun _ _ => by rw [ht]; exact ⟨rfl, rfl⟩) hf hg
  · cases hg
theorem s_putZ {l : Launch} {I : am_I} {pc d : Nat} {f : am_F} {ci k idx N : Nat} {C : String} {T : u_T} {ty : Nat → FieldType} (fx : am_Fx ci C T N ty) (hk : k < N) (hl : Cond.fieldLink I.1 idx (T k).1 (T k).2.1 (T k).2.2.1 ∈ am_ws) (hfin : (T k).2.2.2 = false ∨ ((T k).2.2.2 = true ∧ I.2.2.2.2 = true ∧ (T k).1 = I.1)) (hd : decode I.2.1 pc = .ok (.putfield idx, 3)) (ht : ty k = .boolean) (hf : am_S l I (pc + 3) d f) : am_S l I pc d (i_putZ ci k f) := by
  intro lo st A r hg
  unfold i_putZ at hg
  split at hg
  · split at hg
    · rename_i hx
      exact am_wr_go fx hk hl hfin hd (fun _ _ => by rw [ht]; rcases hx with rfl | rfl <;> exact ⟨rfl, rfl⟩) hf hg
    · cases hg
  · cases hg
theorem s_putR {l : Launch} {I : am_I} {pc d : Nat} {f : am_F} {ci k idx N : Nat} {C : String} {T : u_T} {ty : Nat → FieldType} (fx : am_Fx ci C T N ty) (hk : k < N) (hl : Cond.fieldLink I.1 idx (T k).1 (T k).2.1 (T k).2.2.1 ∈ am_ws) (hfin : (T k).2.2.2 = false ∨ ((T k).2.2.2 = true ∧ I.2.2.2.2 = true ∧ (T k).1 = I.1)) (hd : decode I.2.1 pc = .ok (.putfield idx, 3)) (ht : ∀ a : Nat, narrow (ty k) (.ref a) = .ref a ∧ fits (ty k) (.ref a) = true) (hf : am_S l I (pc + 3) d f) : am_S l I pc d (i_putR ci k f) := by
  intro lo st A r hg
  unfold i_putR at hg
  split at hg
  · rename_i q1 p1 s1
    exact am_wr_go (v := .ref q1) fx hk hl hfin hd (fun sA z => ht _) hf hg
  · cases hg
/-! statics -/
theorem s_stat {l : Launch} {I : am_I} {pc d : Nat} {f : am_F} {i idx : Nat} (hi : i < 4) (hl : Cond.fieldLink I.1 idx RX5 (am_sn i) "[I" ∈ am_ws) (hd : decode I.2.1 pc = .ok (.getstatic idx, 3)) (hf : am_S l I (pc + 3) d f) : am_S l I pc d (i_stat i f) := by
  intro lo st A r hg
  refine am_go1 (hf lo (.ref i :: st) A r hg) ?_
  intro dC dI sA z p e R s m args below meth c H locs cells slots ls Q hX hP hz hL k0
  obtain ⟨hx, hb, -, -, -, -, hown, hts, hG⟩ := hX
  have e1 : am_tr sA z (.ref i) = .ref (sA i) := by
    show Value.ref (am_ad sA z i) = _
    unfold am_ad
    rw [if_pos (by omega)]
  rw [List.map_cons, e1] at k0
  obtain ⟨cf, kf, fi, fd, a, cell, g1, g2, g3, g4, g5, g6, g7, g8⟩ := hG.2.2.2.2.2 i hi
  exact W.gets hx hb hown (hts _ hl) g1 g2 g3 g4 (by rw [hz a (Nat.not_le.mp g8)]; exact g5) (fun e => by rw [e] at g6; cases g6) g7 rfl hd k0
theorem s_statN {l : Launch} {I : am_I} {pc d : Nat} {f : am_F} {i idx : Nat} {host : String} (hi : i < 4) (hl : (I.1, idx, RX5, am_sn i, "[I", host) ∈ am_nestF) (hd : decode I.2.1 pc = .ok (.getstatic idx, 3)) (hf : am_S l I (pc + 3) d f) : am_S l I pc d (i_stat i f) := by
  intro lo st A r hg
  refine am_go1 (hf lo (.ref i :: st) A r hg) ?_
  intro dC dI sA z p e R s m args below meth c H locs cells slots ls Q hX hP hz hL k0
  obtain ⟨hx, hb, -, -, -, -, hown, hts, hG⟩ := hX
  have e1 : am_tr sA z (.ref i) = .ref (sA i) := by
    show Value.ref (am_ad sA z i) = _
    unfold am_ad
    rw [if_pos (by omega)]
  rw [List.map_cons, e1] at k0
  obtain ⟨cf, kf, fi, fd, a, cell, g1, g2, g3, g4, g5, g6, g7, g8⟩ := hG.2.2.2.2.2 i hi
  exact va_WgetsN hx hb hown (va_Nw.use rfl (hG.2.2.1 _ hl)) g1 g2 g3 g4 (by rw [hz a (Nat.not_le.mp g8)]; exact g5) (fun e => by rw [e] at g6; cases g6) g7 rfl hd k0
/-! rows -/
theorem am_slot_self {cell : Cell} {i : Nat} {v : Value} (h : i < cell.slots.size) : (cell.setSlot i v).slots[i]? = some v := by
  simp [Cell.setSlot, h]
theorem s_iaload {l : Launch} {I : am_I} {pc d : Nat} {f : am_F} (hd : decode I.2.1 pc = .ok (.iaload, 1)) (hf : am_S l I (pc + 1) d f) : am_S l I pc d (i_iald 0 f) := by
  intro lo st A r hg
  unfold i_iald at hg
  split at hg
  · simp only [Option.bind_eq_some_iff] at hg
    obtain ⟨a, h1, j, h2, hg⟩ := hg
    obtain ⟨g0, g1, g2⟩ := am_ix_at h2
    refine am_go1 (hf _ _ _ _ hg) ?_
    intro dC dI sA z p e R s m args below meth c H locs cells slots ls Q hX hP hz hL k0
    obtain ⟨cell, c1, c2, c3, c4, c5, c6⟩ := (hP.2.2 _ _ (am_row_at h1)).2
    exact W.iald (v := .int (a.2 j)) hX.1 hX.2.1 c1 c2 c3 (fun h => by rcases h with h | h; exact g0 h; omega) (by rw [g1]; exact c6 j g2) rfl rfl hd k0
  · cases hg
theorem s_baload {l : Launch} {I : am_I} {pc d : Nat} {f : am_F} (hd : decode I.2.1 pc = .ok (.baload, 1)) (hf : am_S l I (pc + 1) d f) : am_S l I pc d (i_iald 1 f) := by
  intro lo st A r hg
  unfold i_iald at hg
  split at hg
  · simp only [Option.bind_eq_some_iff] at hg
    obtain ⟨a, h1, j, h2, hg⟩ := hg
    obtain ⟨g0, g1, g2⟩ := am_ix_at h2
    refine am_go1 (hf _ _ _ _ hg) ?_
    intro dC dI sA z p e R s m args below meth c H locs cells slots ls Q hX hP hz hL k0
    obtain ⟨cell, c1, c2, c3, c4, c5, c6⟩ := (hP.2.2 _ _ (am_row_at h1)).2
    exact W.bald (v := .int (a.2 j)) hX.1 hX.2.1 c1 c2 c3 (fun h => by rcases h with h | h; exact g0 h; omega) (by rw [g1]; exact c6 j g2) rfl rfl hd k0
  · cases hg
theorem s_iastore {l : Launch} {I : am_I} {pc d : Nat} {f : am_F} (hd : decode I.2.1 pc = .ok (.iastore, 1)) (hf : am_S l I (pc + 1) d f) : am_S l I pc d (i_iast 0 (fun x => x) f) := by
  intro lo st A r hg
  unfold i_iast at hg
  split at hg
  · rename_i x i p0 s0
    simp only [Option.bind_eq_some_iff] at hg
    obtain ⟨a, h1, j, h2, u, h3, hg⟩ := hg
    obtain ⟨g0, g1, g2⟩ := am_ix_at h2
    refine am_goW (hf _ _ _ _ hg) (am_row_at h1) (am_own_at h3) ?_
    intro dC dI sA z p e R s m args below meth c H locs cells slots ls Q hX hP hat k0
    obtain ⟨cell, c1, c2, c3, c4, c5, c6⟩ := hat
    refine W.iast hX.1 hX.2.1 c1 c2 c3 (fun h => by rcases h with h | h; exact g0 h; omega) rfl rfl hd (fun H' e1 e2 e3 => k0 H' i.toNatClampNeg ?_ e2 e3)
    rw [g1] at e1
    refine ⟨_, e1, c2, c3, by rw [k2_slotsz]; exact c4, by rw [k2_slotsz]; exact c5, fun q hq => ?_⟩
    by_cases hqj : q = j
    · subst hqj
      rw [am_slot_self (by omega)]
      simp [upd]
      try rfl
    · rw [slot_ne _ _ (fun e0 => hqj e0.symm), c6 q hq]
      simp [upd, hqj]
  · cases hg
theorem s_bastore {l : Launch} {I : am_I} {pc d : Nat} {f : am_F} (hd : decode I.2.1 pc = .ok (.bastore, 1)) (hf : am_S l I (pc + 1) d f) : am_S l I pc d (i_iast 1 (fun x => x.toInt8.toInt32) f) := by
  intro lo st A r hg
  unfold i_iast at hg
  split at hg
  · rename_i x i p0 s0
    simp only [Option.bind_eq_some_iff] at hg
    obtain ⟨a, h1, j, h2, u, h3, hg⟩ := hg
    obtain ⟨g0, g1, g2⟩ := am_ix_at h2
    refine am_goW (hf _ _ _ _ hg) (am_row_at h1) (am_own_at h3) ?_
    intro dC dI sA z p e R s m args below meth c H locs cells slots ls Q hX hP hat k0
    obtain ⟨cell, c1, c2, c3, c4, c5, c6⟩ := hat
    refine W.bast hX.1 hX.2.1 c1 c2 c3 (fun h => by rcases h with h | h; exact g0 h; omega) rfl rfl hd (fun H' e1 e2 e3 => k0 H' i.toNatClampNeg ?_ e2 e3)
    rw [g1] at e1
    refine ⟨_, e1, c2, c3, by rw [k2_slotsz]; exact c4, by rw [k2_slotsz]; exact c5, fun q hq => ?_⟩
    by_cases hqj : q = j
    · subst hqj
      rw [am_slot_self (by omega)]
      simp [upd]
      try rfl
    · rw [slot_ne _ _ (fun e0 => hqj e0.symm), c6 q hq]
      simp [upd, hqj]
  · cases hg
theorem s_aaload {l : Launch} {I : am_I} {pc d : Nat} {f : am_F} (hd : decode I.2.1 pc = .ok (.aaload, 1)) (hf : am_S l I (pc + 1) d f) : am_S l I pc d (i_aald f) := by
  intro lo st A r hg
  unfold i_aald at hg
  split at hg
  · simp only [Option.bind_eq_some_iff] at hg
    obtain ⟨a, h1, j, h2, hg⟩ := hg
    obtain ⟨g0, g1, g2⟩ := am_ix_at h2
    refine am_go1 (hf _ _ _ _ hg) ?_
    intro dC dI sA z p e R s m args below meth c H locs cells slots ls Q hX hP hz hL k0
    obtain ⟨cell, kA, comp, c1, c2, c3, c4, c5, c6, c7⟩ := (hP.2.2 _ _ (am_refs_at h1)).2
    exact W.aald (v := am_tr sA z (am_rv (a.2 j))) (ty := .object am_el) hX.1 hX.2.1 c1 ⟨fun k h => (by rw [c2] at h; cases h), kA, c3, comp, c4⟩ rfl (fun h => by rw [c2] at h; cases h) (fun h => by rcases h with h | h; exact g0 h; omega) (by rw [g1]; exact c7 j g2) rfl rfl hd k0
  · cases hg
theorem s_aastore {l : Launch} {I : am_I} {pc d : Nat} {f : am_F} (hd : decode I.2.1 pc = .ok (.aastore, 1)) (hf : am_S l I (pc + 1) d f) : am_S l I pc d (i_aast 4 f) := by
  intro lo st A r hg
  unfold i_aast at hg
  split at hg
  · rename_i q0 i p0 s0
    simp only [Option.bind_eq_some_iff] at hg
    obtain ⟨a, h1, fs, h4, j, h2, u, h3, hg⟩ := hg
    obtain ⟨g0, g1, g2⟩ := am_ix_at h2
    refine am_goW (hf _ _ _ _ hg) (am_refs_at h1) (am_own_at h3) ?_
    intro dC dI sA z p e R s m args below meth c H locs cells slots ls Q hX hP hat k0
    obtain ⟨cell, kA, comp, c1, c2, c3, c4, c5, c6, c7⟩ := hat
    obtain ⟨r0, b1, cellV, b2, b3, b4, -⟩ := (hP.2.2 _ _ (am_obj_at h4)).2
    have hcls := (hX.2.2.2.2.2.2.2.2.1.1 4 _ rfl).2
    have hcomp : comp = dC 4 := Option.some.inj (c5.symm.trans hcls.1)
    subst hcomp
    obtain ⟨kC, hkC, -⟩ := hcls.2
    refine W.aast hX.1 hX.2.1 c1 (fun q h => by rw [c2] at h; cases h) (fun h => by rw [c2] at h; cases h) c3 c4 rfl hkC ⟨g0, by omega⟩ b2 (fun q h => by rw [b4] at h; cases h) (by rw [b3]; exact hkC) (by rw [b3]; exact va_assign hcls) rfl rfl hd (fun H' e1 e2 e3 => k0 H' i.toNatClampNeg ?_ e2 e3)
    rw [g1] at e1
    refine ⟨_, kA, dC 4, e1, c2, c3, c4, c5, by rw [k2_slotsz]; exact c6, fun q hq => ?_⟩
    by_cases hqj : q = j
    · subst hqj
      rw [am_slot_self (by omega)]
      simp [va_up, am_rv, am_tr]
    · rw [slot_ne _ _ (fun e0 => hqj e0.symm), c7 q hq]
      simp [va_up, hqj]
  · cases hg
theorem s_alen {l : Launch} {I : am_I} {pc d : Nat} {f : am_F} (hd : decode I.2.1 pc = .ok (.arraylength, 1)) (hf : am_S l I (pc + 1) d f) : am_S l I pc d (i_alen f) := by
  intro lo st A r hg
  unfold i_alen at hg
  split at hg
  · simp only [Option.bind_eq_some_iff] at hg
    obtain ⟨n, h1, hg⟩ := hg
    unfold am_len at h1
    split at h1
    · rename_i hA
      cases h1
      refine am_go1 (hf _ _ _ _ hg) ?_
      intro dC dI sA z p e R s m args below meth c H locs cells slots ls Q hX hP hz hL k0
      obtain ⟨cell, c1, c2, c3, c4, c5, c6⟩ := (hP.2.2 _ _ hA).2
      exact W.alen hX.1 hX.2.1 c1 c2 c5 rfl rfl hd k0
    · rename_i hA
      cases h1
      refine am_go1 (hf _ _ _ _ hg) ?_
      intro dC dI sA z p e R s m args below meth c H locs cells slots ls Q hX hP hz hL k0
      obtain ⟨cell, kA, comp, c1, c2, c3, c4, c5, c6, c7⟩ := (hP.2.2 _ _ hA).2
      exact W.alen (ty := .object am_el) hX.1 hX.2.1 c1 ⟨fun k h => (by rw [c2] at h; cases h), kA, c3, comp, c4⟩ (by rw [c6]) rfl rfl hd k0
    · cases h1
  · cases hg
theorem s_newi {l : Launch} {I : am_I} {pc d : Nat} {f : am_F} (hw : Cond.arrayClass .int ∈ am_ws) (hd : decode I.2.1 pc = .ok (.newarray .int, 2)) (hf : am_S l I (pc + 2) d f) : am_S l I pc d (i_newi 0 f) := by
  intro lo st A r hg
  unfold i_newi at hg
  split at hg
  · simp only [Option.bind_eq_some_iff] at hg
    obtain ⟨N, h2, hg⟩ := hg
    obtain ⟨g0, g1, g2⟩ := am_ix_at h2
    refine am_goN (hf _ _ _ _ hg) ?_
    intro dC dI sA z p e R s m args below meth c H locs cells slots ls Q hX hc1 hc2 k0
    refine va_newaK (atype := .int) hX.1 hX.2.1 (hX.2.2.2.2.2.2.2.1 _ hw) rfl hd rfl g0 g1 (by show N * _ ≤ _; simp only [newarray.typeOf, componentBytes]; omega) hc1 hc2 rfl (fun H' cA e1 e2 e3 hAr _ => k0 H' ?_ e2 e3)
    refine ⟨_, e1, hAr N _, (fun h => by cases h), by rw [arrV_size]; exact Nat.le_refl _, by rw [arrV_size], fun j hj => by rw [arrV_read _ _ hj]; rfl⟩
  · cases hg
theorem s_newb {l : Launch} {I : am_I} {pc d : Nat} {f : am_F} (hw : Cond.arrayClass .byte ∈ am_ws) (hd : decode I.2.1 pc = .ok (.newarray .byte, 2)) (hf : am_S l I (pc + 2) d f) : am_S l I pc d (i_newi 1 f) := by
  intro lo st A r hg
  unfold i_newi at hg
  split at hg
  · simp only [Option.bind_eq_some_iff] at hg
    obtain ⟨N, h2, hg⟩ := hg
    obtain ⟨g0, g1, g2⟩ := am_ix_at h2
    refine am_goN (hf _ _ _ _ hg) ?_
    intro dC dI sA z p e R s m args below meth c H locs cells slots ls Q hX hc1 hc2 k0
    refine va_newaK (atype := .byte) hX.1 hX.2.1 (hX.2.2.2.2.2.2.2.1 _ hw) rfl hd rfl g0 g1 (by show N * _ ≤ _; simp only [newarray.typeOf, componentBytes]; omega) hc1 hc2 rfl (fun H' cA e1 e2 e3 hAr _ => k0 H' ?_ e2 e3)
    refine ⟨_, e1, hAr N _, (fun h => by cases h), by rw [arrV_size]; exact Nat.le_refl _, by rw [arrV_size], fun j hj => by rw [arrV_read _ _ hj]; rfl⟩
  · cases hg
theorem s_newq {l : Launch} {I : am_I} {pc d : Nat} {f : am_F} {idx : Nat} (hw : Cond.classLink I.1 idx am_el ∈ am_ws) (hd : decode I.2.1 pc = .ok (.anewarray idx, 3)) (hf : am_S l I (pc + 3) d f) : am_S l I pc d (i_newq f) := by
  intro lo st A r hg
  unfold i_newq at hg
  split at hg
  · simp only [Option.bind_eq_some_iff] at hg
    obtain ⟨N, h2, hg⟩ := hg
    obtain ⟨g0, g1, g2⟩ := am_ix_at h2
    subst g1
    refine am_goN (hf _ _ _ _ hg) ?_
    intro dC dI sA z p e R s m args below meth c H locs cells slots ls Q hX hc1 hc2 k0
    refine W.anew hX.1 hX.2.1 hX.2.2.2.2.2.2.1 (hX.2.2.2.2.2.2.2.1 _ hw) (va_AO.use hX.2.2.2.2.2.2.2.2.2.2.2.1) rfl hd rfl g0 (by omega) hc1 hc2 (fun cA kA comp f1 f2 f3 f4 => k0 _ ?_ (by rw [Array.size_push]) (fun q hq => by rw [Array.getElem?_push, if_neg (Nat.ne_of_lt hq)]))
    refine ⟨_, kA, comp, Array.getElem?_push_size, rfl, f2, f3, f4, by simp, fun j hj => ?_⟩
    simp [hj, am_rv, am_tr]
  · cases hg
theorem s_new {l : Launch} {I : am_I} {pc d : Nat} {f : am_F} {ci idx N : Nat} {C : String} {T : u_T} {ty : Nat → FieldType} {fs : List Value} (fx : am_Fx ci C T N ty) (hw1 : Cond.classLink I.1 idx C ∈ am_ws) (hw2 : Cond.instantiable C N ∈ am_ws) (hw3 : Cond.initialized C ∈ am_ws) (hN : fs.length = N) (hfs : ∀ (sA : Nat → Nat) (z : Nat) (j : Nat), j < N → defaultValue (ty j) = vp_V (fs.map (am_tr sA z)) j) (hd : decode I.2.1 pc = .ok (.new idx, 3)) (hf : am_S l I (pc + 3) d f) : am_S l I pc d (i_new ci fs f) := by
  intro lo st A r hg
  refine am_goN (hf lo _ _ r hg) ?_
  intro dC dI sA z p e R s m args below meth c H locs cells slots ls Q hX hc1 hc2 k0
  obtain ⟨hx, hb, -, -, -, -, hown, hts, hG⟩ := hX
  subst hN
  have hKn := hG.1.1 ci _ fx.1
  exact W.newcK hx hb hown (hts _ hw1) (hts _ hw2) (hts _ hw3) rfl hd hc1 hc2 hKn.2.1 rfl (fun H1 kC hkC e1 z1 o1 => k0 H1 ⟨_, fx.1, (u_born ty hts fx.2.1 hKn hkC e1 fx.2.2.1).to (hfs sA z)⟩ z1 o1)
theorem s_obj {l : Launch} {I : am_I} {pc d : Nat} {f : am_F} {idx : Nat} (hw1 : Cond.methodLink I.1 idx objectInit ∈ am_ws) (hw2 : Cond.instanceMethod objectInit ∈ am_ws) (hw3 : Cond.code objectInit ⟨#[0xb1]⟩ 1 none ∈ am_ws) (hd : decode I.2.1 pc = .ok (.invokespecial idx, 3)) (hf : am_S l I (pc + 3) d f) : am_S l I pc d (i_obj d f) := by
  intro lo st A r hg
  unfold i_obj at hg
  split at hg
  · cases hg
  · split at hg
    · split at hg
      · rename_i hcat
        refine am_go0 (hf _ _ _ _ hg) rfl (Nat.le_refl _) (Nat.le_refl _) ?_
        intro dC dI sA z p e R s m args below meth c H locs cells slots ls Q hlo hX hP hz hl hL hfr hlc _ _ kk
        obtain ⟨hx, hb, hml, -, -, -, hown, hts, hG⟩ := hX
        have k1 := kk H locs ls hP hz hl hL
        rw [Nat.sub_self, Nat.sub_self, Nat.add_zero, Nat.add_zero] at k1
        refine W.objInit hx hb hown (hts _ hw1) (hts _ hw2) (hts _ hw3) rfl (by rw [hml]; exact hL.1.trans hlo) rfl hd (by omega) ?_ k1
        show 2 * 0 + _ + 12 ≤ R.locals
        rw [am_cats]
        omega
      · cases hg
    · cases hg
/-! ends -/
theorem am_end {l : Launch} {I : am_I} {pc d : Nat} {lo : am_L} {st : List Value} {A : am_H} {v : Option Value} {ins : Instr} (hst : st = v.toList) (hd : decode I.2.1 pc = .ok (ins, 1)) (hr : am_rok I.2.2.2.1 v ins) : am_S1 l I pc d lo st A (v, A) := by
  intro hlo
  refine ⟨Nat.le_refl _, Nat.le_refl _, ?_⟩
  intro dC dI sA z p e R s m args below meth c H locs cells slots ls Q mc ms hX hP hz hl hL _ _ e1 e2 _ _ hE
  have f1 : cells = mc := by rw [← e1]; show cells = cells + (A.1 - A.1); omega
  have f2 : slots = ms := by rw [← e2]; show slots = slots + (A.2.1 - A.2.1); omega
  subst f1; subst f2; subst hst
  exact hE pc ls H locs ins hd hr hP hz hl
theorem s_iret {l : Launch} {I : am_I} {pc d : Nat} (hr : I.2.2.2.1 = some .int) (hd : decode I.2.1 pc = .ok (.ireturn, 1)) : am_S l I pc d i_iret := by
  intro lo st A r hg
  unfold i_iret at hg
  split at hg
  · rename_i x
    cases hg
    exact am_end rfl hd (Or.inr (Or.inl ⟨.int, x, hr, rfl, rfl, rfl⟩))
  · cases hg
theorem s_zret {l : Launch} {I : am_I} {pc d : Nat} (hr : I.2.2.2.1 = some .boolean) (hd : decode I.2.1 pc = .ok (.ireturn, 1)) : am_S l I pc d i_zret := by
  intro lo st A r hg
  unfold i_zret at hg
  split at hg
  · rename_i x
    split at hg
    · rename_i hx
      cases hg
      exact am_end rfl hd (Or.inr (Or.inl ⟨.boolean, x, hr, rfl, by rcases hx with rfl | rfl <;> rfl, rfl⟩))
    · cases hg
  · cases hg
theorem s_lret {l : Launch} {I : am_I} {pc d : Nat} (hr : I.2.2.2.1 = some .long) (hd : decode I.2.1 pc = .ok (.lreturn, 1)) : am_S l I pc d i_lret := by
  intro lo st A r hg
  unfold i_lret at hg
  split at hg
  · rename_i x
    cases hg
    exact am_end rfl hd (Or.inr (Or.inr (Or.inl ⟨x, hr, rfl, rfl⟩)))
  · cases hg
theorem s_aret {l : Launch} {I : am_I} {pc d : Nat} {C : String} (hr : I.2.2.2.1 = some (.object C)) (hd : decode I.2.1 pc = .ok (.areturn, 1)) : am_S l I pc d i_aret := by
  intro lo st A r hg
  unfold i_aret at hg
  split at hg
  · rename_i x
    cases hg
    exact am_end rfl hd (Or.inr (Or.inr (Or.inr ⟨C, hr, Or.inr ⟨x, rfl⟩, rfl⟩)))
  · cases hg
    exact am_end rfl hd (Or.inr (Or.inr (Or.inr ⟨C, hr, Or.inl rfl, rfl⟩)))
  · cases hg
theorem s_vret {l : Launch} {I : am_I} {pc d : Nat} (hr : I.2.2.2.1 = none) (hd : decode I.2.1 pc = .ok (.return_, 1)) : am_S l I pc d i_vret := by
  intro lo st A r hg
  unfold i_vret at hg
  split at hg
  · cases hg
    exact am_end rfl hd (Or.inl ⟨hr, rfl, rfl⟩)
  · cases hg
/-! a method's contract out of its entry -/
def am_rm (d mc ms : Nat) : Room := { frames := d, cells := mc, slots := ms, locals := d * 37 }
def am_Q (dC : Nat → ClassId) (dI : Nat → Nat → Nat) (sA : Nat → Nat) (z : Nat) (r : am_R) : Array Value → State → Outcome → State → Prop := fun _ st o t => o = .returned (r.1.map (am_tr sA z)) ∧ am_P dC dI sA z t r.2 t.heap ∧ ∀ q, q < z → t.heap[q]? = st.heap[q]?
def am_Pc (dC : Nat → ClassId) (dI : Nat → Nat → Nat) (sA : Nat → Nat) (z : Nat) (vs : List Value) (A : am_H) : Array Value → State → Prop := va_Pc (vs.map (am_tr sA z)) (fun U => am_G dC dI sA z U ∧ am_P dC dI sA z U A U.heap)
theorem am_blind {dC : Nat → ClassId} {dI : Nat → Nat → Nat} {sA : Nat → Nat} {z : Nat} {vs : List Value} {A : am_H} : FrameBlind (am_Pc dC dI sA z vs A) := fun a U g mk h => ⟨h.1, h.2.1.calling g mk a, am_P.moved (U := U) (V := U.calling g mk a) (Vm.Alike.refl U.vm) h.2.2⟩
theorem am_ent_len {vs : List Value} {n : Nat} (h : (am_sl vs).length ≤ n) : (am_ent vs n).length = n := by
  unfold am_ent
  rw [List.length_append, List.length_replicate]
  omega
theorem am_sl_len (sA : Nat → Nat) (z : Nat) (vs : List Value) : (lg_sl (vs.map (am_tr sA z))).length = (am_sl vs).length := by
  induction vs with
  | nil => rfl
  | cons v vs ih =>
    show ((if (am_tr sA z v).category = 2 then [Slot.val (am_tr sA z v), Slot.second] else [Slot.val (am_tr sA z v)]) ++ lg_sl (vs.map (am_tr sA z))).length = (if v.category = 2 then some v :: none :: am_sl vs else some v :: am_sl vs).length
    rw [am_tr_cat, List.length_append, ih]
    split
    · simp; omega
    · simp; omega
theorem am_sl_args (sA : Nat → Nat) (z : Nat) (vs : List Value) : ∀ (k i : Nat) (v : Value), (am_sl vs)[i]? = some (some v) → (k + i, am_tr sA z v) ∈ lv_args k (vs.map (am_tr sA z)) := by
  induction vs with
  | nil =>
    intro k i v h
    simp [am_sl] at h
  | cons w vs ih =>
    intro k i v h
    show (k + i, am_tr sA z v) ∈ (k, am_tr sA z w) :: lv_args (if (am_tr sA z w).category = 2 then k + 2 else k + 1) (vs.map (am_tr sA z))
    rw [am_tr_cat]
    unfold am_sl at h
    split at h
    · rename_i hc
      rw [if_pos hc]
      match i, h with
      | 0, h =>
        simp at h
        subst h
        exact List.mem_cons_self
      | 1, h => simp at h
      | j + 2, h =>
        simp at h
        have := ih (k + 2) j v h
        rw [show k + (j + 2) = k + 2 + j by omega]
        exact List.mem_cons_of_mem _ this
    · rename_i hc
      rw [if_neg hc]
      match i, h with
      | 0, h =>
        simp at h
        subst h
        exact List.mem_cons_self
      | j + 1, h =>
        simp at h
        have := ih (k + 1) j v h
        rw [show k + (j + 1) = k + 1 + j by omega]
        exact List.mem_cons_of_mem _ this
theorem am_ent_LR {sA : Nat → Nat} {z : Nat} {vs : List Value} {n : Nat} (h : (am_sl vs).length ≤ n) : am_LR sA z (am_ent vs n) ((lg_sl (vs.map (am_tr sA z)) ++ List.replicate (n - (lg_sl (vs.map (am_tr sA z))).length) Slot.unset).toArray) := by
  obtain ⟨h1, h2, h3⟩ := lv_entry (vs.map (am_tr sA z)) (n := n) (by rw [am_sl_len]; exact h)
  refine ⟨by rw [h1, am_ent_len h], h2, fun i v hi => ?_⟩
  have hi2 : (am_sl vs)[i]? = some (some v) := by
    unfold am_ent at hi
    by_cases hlt : i < (am_sl vs).length
    · rw [List.getElem?_append_left hlt] at hi
      exact hi
    · rw [List.getElem?_append_right (Nat.not_lt.mp hlt)] at hi
      have := List.mem_of_getElem? hi
      have := List.eq_of_mem_replicate this
      cases this
  have := am_sl_args sA z vs 0 i v hi2
  rw [Nat.zero_add] at this
  exact h3 _ this
/-- what a call needs of the tables: n parameters (without the receiver) -/
def am_Cl (J : am_I) (y : MethodName) (n : Nat) : Prop := J.1 = y.cls ∧ plainName y.cls = true ∧ Cond.code y J.2.1 J.2.2.1 J.2.2.2.1 ∈ am_ws ∧ Cond.initialized y.cls ∈ am_ws ∧ (y.cls ≠ "java/lang/invoke/MethodHandle" ∧ y.cls ≠ "java/lang/invoke/VarHandle" ∧ (parseMethodDescriptor y.desc).map (fun d => d.parameters.length) = some n) ∧ J.2.2.1 ≤ 14 ∧ (J.2.2.2.2 = true → y.name = "<init>")
theorem am_met {l : Launch} {J : am_I} {y : MethodName} {n : Nat} (hc : am_Cl J y n) {d : Nat} {f : am_F} (hf : am_S l J 0 d f) {vs : List Value} {A : am_H} {r : am_R} (hsl : (am_sl vs).length ≤ J.2.2.1) (hr : f (am_ent vs J.2.2.1) [] A = some r) (dC : Nat → ClassId) (dI : Nat → Nat → Nat) (sA : Nat → Nat) (z : Nat) :
    Met l y (Cond.code y J.2.1 J.2.2.1 J.2.2.2.1 :: am_ws) (am_rm d (r.2.1 - A.1) (r.2.2.1 - A.2.1)) (am_Pc dC dI sA z vs A) (am_Q dC dI sA z r) (r.2.1 - A.1) (r.2.2.1 - A.2.1) (fun q => z ≤ q) := by
  obtain ⟨j1, j2, j3, j4, j5, j6, j7⟩ := hc
  refine Met.ofW (cc := J.2.1) (maxL := J.2.2.1) (ret := J.2.2.2.1) j2 rfl ?_
  intro p e s m args below meth c s₁ B hml hv
  obtain ⟨rfl, hG, hP⟩ := hv
  have hts := atoms_spec (ws := Cond.code y J.2.1 J.2.2.1 J.2.2.2.1 :: am_ws) B.pre
  have hown : s.vm.findClass J.1 = some m.cls := by rw [j1]; exact findClass_of_methodNamed B.named
  have hlk := B.notSynchronized
  have hrt := B.returns
  have hx := B.exec
  have hb := B.bytes
  rw [lg_entry_eq]
  obtain ⟨-, -, h3⟩ := hf _ [] A r hr (am_ent_len hsl)
  refine h3 dC dI sA z p e _ s m _ below meth c s.heap [] 0 0 _ _ _ _ ⟨hx, hb, hml, hrt, hlk, fun h => (name_of_methodNamed B.named B.method).1.trans (j7 h), hown, fun w hw => hts w (List.mem_cons_of_mem _ hw), hG⟩ hP (fun _ _ => rfl) (fun q hq => by cases hq) (am_ent_LR hsl) (Nat.le_refl _) (Nat.le_refl _) (Nat.zero_add _) (Nat.zero_add _) (Nat.le_refl _) (Nat.le_refl _) ?_
  intro pc ls H locs ins hd hok hP1 hz1 hl1
  rcases hok with ⟨g1, g2, rfl⟩ | ⟨ty, x, g1, g2, g3, rfl⟩ | ⟨x, g1, g2, rfl⟩ | ⟨C, g1, g2, rfl⟩
  · obtain ⟨v, A1⟩ := r
    cases g2
    exact W.vret hx hb (hrt.trans g1) (fun t ht hW => ⟨rfl, by rw [ht]; exact hP1.moved hW.alike, fun q hq => by rw [ht]; exact hz1 q hq⟩) hl1 hd hlk
  · obtain ⟨v, A1⟩ := r
    cases g2
    exact W.zret hx hb (hrt.trans g1) g3 (fun t ht hW => ⟨rfl, by rw [ht]; exact hP1.moved hW.alike, fun q hq => by rw [ht]; exact hz1 q hq⟩) hl1 hd hlk
  · obtain ⟨v, A1⟩ := r
    cases g2
    exact W.lret hx hb (hrt.trans g1) (fun t ht hW => ⟨rfl, by rw [ht]; exact hP1.moved hW.alike, fun q hq => by rw [ht]; exact hz1 q hq⟩) hl1 hd hlk
  · obtain ⟨v, A1⟩ := r
    rcases g2 with g2 | ⟨q0, g2⟩
    · cases g2
      exact W.aret hx hb (hrt.trans g1) (Or.inl ⟨C, rfl⟩) (Or.inl rfl) (fun t ht hW => ⟨rfl, by rw [ht]; exact hP1.moved hW.alike, fun q hq => by rw [ht]; exact hz1 q hq⟩) hl1 hd hlk
    · cases g2
      exact W.aret hx hb (hrt.trans g1) (Or.inl ⟨C, rfl⟩) (Or.inr ⟨am_ad sA z q0, rfl⟩) (fun t ht hW => ⟨rfl, by rw [ht]; exact hP1.moved hW.alike, fun q hq => by rw [ht]; exact hz1 q hq⟩) hl1 hd hlk
/-! calls -/
theorem am_ret {l : Launch} {dC : Nat → ClassId} {dI : Nat → Nat → Nat} {sA : Nat → Nat} {z : Nat} {p : Program} {e : Env} {R : Room} {s : State} {m : MethodId} {args : Array Value} {below : List Frame} {meth : Method} {c : Code} {H : Heap} {locs : List Loc} {cells slots : Nat} {ls : Array Slot} {Q : State → Prop} {pc mc ms : Nat} {st0 rest : List Value} {r : am_R} {a : Array Value}
    (hrun : va_Run p l e R s m args below meth c H locs cells slots mc ms (F0 m pc ls st0) rest (am_Q dC dI sA z r a) (fun q => z ≤ q)) (hz : ∀ q, q < z → H[q]? = s.heap[q]?) (hl : ∀ q ∈ locs, z ≤ q.base)
    (kk : ∀ (H' : Heap) (locs' : List Loc), am_P dC dI sA z s r.2 H' → (∀ q, q < z → H'[q]? = s.heap[q]?) → (∀ q ∈ locs', z ≤ q.base) → W p l e R s m args below meth c H' locs' (cells + mc) (slots + ms) Q (F0 m (pc + 3) ls ((r.1.map (am_tr sA z)).toList ++ rest))) : W p l e R s m args below meth c H locs cells slots Q (F0 m pc ls st0) := by
  intro T hT X
  obtain ⟨v, st₀, t, T', L, h0, X', hL, e1, e2, ⟨hv, hP1, hk1⟩, st⟩ := hrun T hT X
  cases hv
  have hal : t.vm.Alike s.vm := by rw [← e2]; exact X'.warmed.alike.symm
  obtain ⟨t2, a1, b1⟩ := kk T'.heap (locs ++ L) (by rw [e1]; exact hP1.moved hal) (fun q hq => by rw [e1, hk1 q hq, h0]; exact hz q hq) (fun q hq => by
    rcases List.mem_append.mp hq with h | h
    · exact hl q h
    · exact hL q h) T' rfl X'
  exact ⟨t2, st t2 a1, b1⟩
theorem am_mapr (sA : Nat → Nat) (z : Nat) (o : Option Value) (rest : List Value) : (o.map (am_tr sA z)).toList ++ rest.map (am_tr sA z) = (o.toList ++ rest).map (am_tr sA z) := by
  cases o <;> rfl
theorem am_stk (sA : Nat → Nat) (z : Nat) (st : List Value) (n : Nat) : st.map (am_tr sA z) = (((st.take n).reverse).map (am_tr sA z)).reverse ++ (st.drop n).map (am_tr sA z) := by
  rw [List.map_reverse, List.reverse_reverse, ← List.map_append, List.take_append_drop]
theorem s_callS {l : Launch} {I : am_I} {pc d : Nat} {f : am_F} {k : am_K} {lab n idx : Nat} {J : am_I} {y : MethodName} (hc : am_Cl J y n) (hw1 : Cond.methodLink I.1 idx y ∈ am_ws) (hw2 : Cond.static y ∈ am_ws) (hK : ∀ d', am_S l J 0 d' (k d' lab)) (hd : decode I.2.1 pc = .ok (.invokestatic idx, 3)) (hf : am_S l I (pc + 3) d f) : am_S l I pc d (i_call k d lab n J.2.2.1 f) := by
  intro lo st A r hg
  unfold i_call at hg
  cases d with
  | zero => cases hg
  | succ d' =>
    simp only at hg
    split at hg
    · rename_i hh
      obtain ⟨hn, hcat, hsl⟩ := hh
      obtain ⟨r1, hr1, hg⟩ := Option.bind_eq_some_iff.mp hg
      obtain ⟨b1, b2, -⟩ := hK d' _ _ _ _ hr1 (am_ent_len hsl)
      refine am_go0 (hf _ _ _ _ hg) rfl b1 b2 ?_
      intro dC dI sA z p e R s m args below meth c H locs cells slots ls Q hlo hX hP hz hl hL hfr hlc hcs hss kk
      obtain ⟨hx, hb, hml, -, -, -, hown, hts, hG⟩ := hX
      have hM := am_met hc (hK d') hsl hr1 dC dI sA z
      obtain ⟨j1, j2, j3, j4, j5, j6, j7⟩ := hc
      have hpre : ∀ U : State, U.heap = H → s.WarmedH U.vm → am_Pc dC dI sA z (st.take n).reverse A (((st.take n).reverse).map (am_tr sA z)).toArray U := fun U hU hW => ⟨rfl, hG.warm hW (fun q hq => by rw [hU]; exact hz q hq), by rw [hU]; exact hP.moved hW.alike⟩
      have hrm : (am_rm d' (r1.2.1 - A.1) (r1.2.2.1 - A.2.1)).frames + 1 ≤ R.frames ∧ 8 + (J.2.2.1 + 11) + (am_rm d' (r1.2.1 - A.1) (r1.2.2.1 - A.2.1)).locals ≤ R.locals := ⟨hfr, by show 8 + (J.2.2.1 + 11) + d' * 37 ≤ R.locals; omega⟩
      have h12 : 12 + (J.2.2.1 + 11) + (am_rm d' (r1.2.1 - A.1) (r1.2.2.1 - A.2.1)).locals ≤ R.locals := by show 12 + (J.2.2.1 + 11) + d' * 37 ≤ R.locals; omega
      have hrest : 2 * (F0 m pc ls (st.map (am_tr sA z))).monitorRoom + (((st.drop n).map (am_tr sA z)).map fun v => v.category).sum ≤ 12 := by
        show 2 * 0 + _ ≤ 12
        rw [am_cats]
        omega
      have hGd : GoodIn am_ws (va_wsS I.1 idx y (Cond.code y J.2.1 J.2.2.1 J.2.2.2.1 :: am_ws)) := am_good (fun w hw => by
        unfold va_wsS at hw
        rcases List.mem_append.mp hw with h | h
        · simp only [List.mem_cons, List.not_mem_nil, or_false] at h
          rcases h with rfl | rfl | rfl
          · exact hw1
          · exact hw2
          · exact j4
        · rcases List.mem_cons.mp h with rfl | h
          · exact j3
          · exact h)
      refine am_ret (rest := (st.drop n).map (am_tr sA z)) (wi_runS h12 (nL := I.2.2.1) (Ts := am_ws) (own := I.1) ⟨hx, hb, hml, hown, hts⟩ hM (va_cwS n hts hGd rfl rfl rfl j5 hrm) ⟨am_blind, hpre⟩ rfl (by rw [List.length_map, List.length_reverse, List.length_take]; omega) (hL.1.trans hlo) (am_stk sA z st n) hrest hd ⟨hcs, hss⟩) hz hl (fun H' locs' hP' hz' hl' => ?_)
      rw [am_mapr]
      exact kk H' locs' ls hP' hz' hl' hL
    · cases hg
theorem s_callSN {l : Launch} {I : am_I} {pc d : Nat} {f : am_F} {k : am_K} {lab n idx : Nat} {J : am_I} {y : MethodName} (hc : am_Cl J y n) {host : String} (hw1 : (I.1, idx, y, host) ∈ am_nestM) (hw2 : Cond.static y ∈ am_ws) (hK : ∀ d', am_S l J 0 d' (k d' lab)) (hd : decode I.2.1 pc = .ok (.invokestatic idx, 3)) (hf : am_S l I (pc + 3) d f) : am_S l I pc d (i_call k d lab n J.2.2.1 f) := by
  intro lo st A r hg
  unfold i_call at hg
  cases d with
  | zero => cases hg
  | succ d' =>
    simp only at hg
    split at hg
    · rename_i hh
      obtain ⟨hn, hcat, hsl⟩ := hh
      obtain ⟨r1, hr1, hg⟩ := Option.bind_eq_some_iff.mp hg
      obtain ⟨b1, b2, -⟩ := hK d' _ _ _ _ hr1 (am_ent_len hsl)
      refine am_go0 (hf _ _ _ _ hg) rfl b1 b2 ?_
      intro dC dI sA z p e R s m args below meth c H locs cells slots ls Q hlo hX hP hz hl hL hfr hlc hcs hss kk
      obtain ⟨hx, hb, hml, -, -, -, hown, hts, hG⟩ := hX
      have hM := am_met hc (hK d') hsl hr1 dC dI sA z
      obtain ⟨j1, j2, j3, j4, j5, j6, j7⟩ := hc
      have hpre : ∀ U : State, U.heap = H → s.WarmedH U.vm → am_Pc dC dI sA z (st.take n).reverse A (((st.take n).reverse).map (am_tr sA z)).toArray U := fun U hU hW => ⟨rfl, hG.warm hW (fun q hq => by rw [hU]; exact hz q hq), by rw [hU]; exact hP.moved hW.alike⟩
      have hrm : (am_rm d' (r1.2.1 - A.1) (r1.2.2.1 - A.2.1)).frames + 1 ≤ R.frames ∧ 8 + (J.2.2.1 + 11) + (am_rm d' (r1.2.1 - A.1) (r1.2.2.1 - A.2.1)).locals ≤ R.locals := ⟨hfr, by show 8 + (J.2.2.1 + 11) + d' * 37 ≤ R.locals; omega⟩
      have h12 : 12 + (J.2.2.1 + 11) + (am_rm d' (r1.2.1 - A.1) (r1.2.2.1 - A.2.1)).locals ≤ R.locals := by show 12 + (J.2.2.1 + 11) + d' * 37 ≤ R.locals; omega
      have hrest : 2 * (F0 m pc ls (st.map (am_tr sA z))).monitorRoom + (((st.drop n).map (am_tr sA z)).map fun v => v.category).sum ≤ 12 := by
        show 2 * 0 + _ ≤ 12
        rw [am_cats]
        omega
      have hGd : GoodIn am_ws (Cond.code y J.2.1 J.2.2.1 J.2.2.2.1 :: am_ws) := am_good (fun w hw => by
        rcases List.mem_cons.mp hw with rfl | h
        · exact j3
        · exact h)
      refine am_ret (rest := (st.drop n).map (am_tr sA z)) (wi_runSN h12 (nL := I.2.2.1) (Ts := am_ws) (own := I.1) ⟨hx, hb, hml, hown, hts⟩ hM ⟨va_cnB n hts hGd rfl rfl rfl (hG.2.1 _ hw1) (hts _ j4) j5 hrm, hts _ hw2, trivial⟩ ⟨am_blind, hpre⟩ rfl (by rw [List.length_map, List.length_reverse, List.length_take]; omega) (hL.1.trans hlo) (am_stk sA z st n) hrest hd ⟨hcs, hss⟩) hz hl (fun H' locs' hP' hz' hl' => ?_)
      rw [am_mapr]
      exact kk H' locs' ls hP' hz' hl' hL
    · cases hg
theorem s_callV {l : Launch} {I : am_I} {pc d : Nat} {f : am_F} {k : am_K} {lab n idx ci N : Nat} {C : String} {T : u_T} {ty : Nat → FieldType} {J : am_I} {y : MethodName} (fx : am_Fx ci C T N ty) (hyC : y.cls = C) (hc : am_Cl J y n) (hw1 : Cond.methodLink I.1 idx y ∈ am_ws) (hw2 : Cond.instanceMethod y ∈ am_ws) (hw3 : Cond.selects C y y ∈ am_ws) (hK : ∀ d', am_S l J 0 d' (k d' lab)) (hd : decode I.2.1 pc = .ok (.invokevirtual idx, 3)) (hf : am_S l I (pc + 3) d f) : am_S l I pc d (i_recv ci n (i_call k d lab (n + 1) J.2.2.1 f)) := by
  intro lo st A r hg
  unfold i_recv at hg
  split at hg
  · rename_i p0 hp0
    obtain ⟨fs, hobj, hg⟩ := Option.bind_eq_some_iff.mp hg
    have htk : (st.take (n + 1)).reverse = .ref p0 :: (st.take n).reverse := by
      rw [List.take_add_one, hp0]
      simp
    unfold i_call at hg
    cases d with
    | zero => cases hg
    | succ d' =>
      simp only at hg
      split at hg
      · rename_i hh
        obtain ⟨hn, hcat, hsl⟩ := hh
        obtain ⟨r1, hr1, hg⟩ := Option.bind_eq_some_iff.mp hg
        obtain ⟨b1, b2, -⟩ := hK d' _ _ _ _ hr1 (am_ent_len hsl)
        refine am_go0 (hf _ _ _ _ hg) rfl b1 b2 ?_
        intro dC dI sA z p e R s m args below meth c H locs cells slots ls Q hlo hX hP hz hl hL hfr hlc hcs hss kk
        obtain ⟨hx, hb, hml, -, -, -, hown, hts, hG⟩ := hX
        have hM := am_met hc (hK d') hsl hr1 dC dI sA z
        obtain ⟨j1, j2, j3, j4, j5, j6, j7⟩ := hc
        have hpre : ∀ U : State, U.heap = H → s.WarmedH U.vm → am_Pc dC dI sA z (st.take (n + 1)).reverse A (Value.ref (am_ad sA z p0) :: ((st.take n).reverse).map (am_tr sA z)).toArray U := fun U hU hW => ⟨by rw [htk]; rfl, hG.warm hW (fun q hq => by rw [hU]; exact hz q hq), by rw [hU]; exact hP.moved hW.alike⟩
        have hrm : (am_rm d' (r1.2.1 - A.1) (r1.2.2.1 - A.2.1)).frames + 1 ≤ R.frames ∧ 8 + (J.2.2.1 + 11) + (am_rm d' (r1.2.1 - A.1) (r1.2.2.1 - A.2.1)).locals ≤ R.locals := ⟨hfr, by show 8 + (J.2.2.1 + 11) + d' * 37 ≤ R.locals; omega⟩
        have h12 : 12 + (J.2.2.1 + 11) + (am_rm d' (r1.2.1 - A.1) (r1.2.2.1 - A.2.1)).locals ≤ R.locals := by show 12 + (J.2.2.1 + 11) + d' * 37 ≤ R.locals; omega
        have hrest : 2 * (F0 m pc ls (st.map (am_tr sA z))).monitorRoom + (((st.drop (n + 1)).map (am_tr sA z)).map fun v => v.category).sum ≤ 12 := by
          show 2 * 0 + _ ≤ 12
          rw [am_cats]
          omega
        have hstk : st.map (am_tr sA z) = (((st.take n).reverse).map (am_tr sA z)).reverse ++ .ref (am_ad sA z p0) :: (st.drop (n + 1)).map (am_tr sA z) := by
          rw [am_stk sA z st (n + 1), htk, List.map_cons, List.reverse_cons, List.append_assoc]
          rfl
        have hcell := va_recv (cl := am_cl) (tys := []) hG.1 (am_one (a := am_ad sA z p0) (e := .inr (ci, fs.map (am_tr sA z))) (hP.2.2 _ _ (am_obj_at hobj)).2) fx.1 (q0 := 0) rfl
        have hGd : GoodIn am_ws (wsV I.1 idx C y (Cond.code y J.2.1 J.2.2.1 J.2.2.2.1 :: am_ws)) := am_good (fun w hw => by
          unfold wsV at hw
          rcases List.mem_append.mp hw with h | h
          · simp only [List.mem_cons, List.not_mem_nil, or_false] at h
            rcases h with rfl | rfl | rfl | rfl
            · exact hw1
            · exact hw2
            · exact hw3
            · rw [← hyC]; exact j4
          · rcases List.mem_cons.mp h with rfl | h
            · exact j3
            · exact h)
        refine am_ret (rest := (st.drop (n + 1)).map (am_tr sA z)) (wi_runV h12 (C := C) (nL := I.2.2.1) (Ts := am_ws) (own := I.1) ⟨hx, hb, hml, hown, hts⟩ hM (cwV n hts hGd rfl rfl rfl ⟨hyC, j5⟩ hrm) ⟨am_blind, hcell, hpre⟩ rfl (by rw [List.length_map, List.length_reverse, List.length_take]; omega) (hL.1.trans hlo) hstk hrest hd ⟨hcs, hss⟩) hz hl (fun H' locs' hP' hz' hl' => ?_)
        rw [am_mapr]
        exact kk H' locs' ls hP' hz' hl' hL
      · cases hg
  · cases hg
theorem s_callI {l : Launch} {I : am_I} {pc d : Nat} {f : am_F} {k : am_K} {lab n idx ci N : Nat} {C : String} {T : u_T} {ty : Nat → FieldType} {J : am_I} {y : MethodName} (fx : am_Fx ci C T N ty) (hyC : y.cls = C) (hc : am_Cl J y n) (hw1 : Cond.methodLink I.1 idx y ∈ am_ws) (hw2 : Cond.instanceMethod y ∈ am_ws) (hy1 : y.name = "<init>") (hrn : J.2.2.2.1 = none) (hK : ∀ d', am_S l J 0 d' (k d' lab)) (hd : decode I.2.1 pc = .ok (.invokespecial idx, 3)) (hf : am_S l I (pc + 3) d f) : am_S l I pc d (i_recv ci n (i_call k d lab (n + 1) J.2.2.1 f)) := by
  intro lo st A r hg
  unfold i_recv at hg
  split at hg
  · rename_i p0 hp0
    obtain ⟨fs, hobj, hg⟩ := Option.bind_eq_some_iff.mp hg
    have htk : (st.take (n + 1)).reverse = .ref p0 :: (st.take n).reverse := by
      rw [List.take_add_one, hp0]
      simp
    unfold i_call at hg
    cases d with
    | zero => cases hg
    | succ d' =>
      simp only at hg
      split at hg
      · rename_i hh
        obtain ⟨hn, hcat, hsl⟩ := hh
        obtain ⟨r1, hr1, hg⟩ := Option.bind_eq_some_iff.mp hg
        obtain ⟨b1, b2, -⟩ := hK d' _ _ _ _ hr1 (am_ent_len hsl)
        refine am_go0 (hf _ _ _ _ hg) rfl b1 b2 ?_
        intro dC dI sA z p e R s m args below meth c H locs cells slots ls Q hlo hX hP hz hl hL hfr hlc hcs hss kk
        obtain ⟨hx, hb, hml, -, -, -, hown, hts, hG⟩ := hX
        have hM := am_met hc (hK d') hsl hr1 dC dI sA z
        obtain ⟨j1, j2, j3, j4, j5, j6, j7⟩ := hc
        have hpre : ∀ U : State, U.heap = H → s.WarmedH U.vm → am_Pc dC dI sA z (st.take (n + 1)).reverse A (Value.ref (am_ad sA z p0) :: ((st.take n).reverse).map (am_tr sA z)).toArray U := fun U hU hW => ⟨by rw [htk]; rfl, hG.warm hW (fun q hq => by rw [hU]; exact hz q hq), by rw [hU]; exact hP.moved hW.alike⟩
        have hrm : (am_rm d' (r1.2.1 - A.1) (r1.2.2.1 - A.2.1)).frames + 1 ≤ R.frames ∧ 8 + (J.2.2.1 + 11) + (am_rm d' (r1.2.1 - A.1) (r1.2.2.1 - A.2.1)).locals ≤ R.locals := ⟨hfr, by show 8 + (J.2.2.1 + 11) + d' * 37 ≤ R.locals; omega⟩
        have h12 : 12 + (J.2.2.1 + 11) + (am_rm d' (r1.2.1 - A.1) (r1.2.2.1 - A.2.1)).locals ≤ R.locals := by show 12 + (J.2.2.1 + 11) + d' * 37 ≤ R.locals; omega
        have hrest : 2 * (F0 m pc ls (st.map (am_tr sA z))).monitorRoom + (((st.drop (n + 1)).map (am_tr sA z)).map fun v => v.category).sum ≤ 12 := by
          show 2 * 0 + _ ≤ 12
          rw [am_cats]
          omega
        have hstk : st.map (am_tr sA z) = (((st.take n).reverse).map (am_tr sA z)).reverse ++ .ref (am_ad sA z p0) :: (st.drop (n + 1)).map (am_tr sA z) := by
          rw [am_stk sA z st (n + 1), htk, List.map_cons, List.reverse_cons, List.append_assoc]
          rfl
        have hcell := va_recv (cl := am_cl) (tys := []) hG.1 (am_one (a := am_ad sA z p0) (e := .inr (ci, fs.map (am_tr sA z))) (hP.2.2 _ _ (am_obj_at hobj)).2) fx.1 (q0 := 0) rfl
        have hGd : GoodIn am_ws (Cond.code y J.2.1 J.2.2.1 J.2.2.2.1 :: am_ws) := am_good (fun w hw => by
          rcases List.mem_cons.mp hw with rfl | h
          · exact j3
          · exact h)
        refine am_ret (rest := (st.drop (n + 1)).map (am_tr sA z)) (wi_runI h12 (nL := I.2.2.1) (Ts := am_ws) (own := I.1) ⟨hx, hb, hml, hown, hts⟩ hM (cwI n hts hGd (by rw [hrn]) rfl rfl (hts _ j4) (hts _ hw1) (hts _ hw2) hy1 j5 hrm) ⟨am_blind, hpre⟩ rfl (by rw [List.length_map, List.length_reverse, List.length_take]; omega) (hL.1.trans hlo) hstk hrest hd ⟨hcs, hss⟩) hz hl (fun H' locs' hP' hz' hl' => ?_)
        rw [am_mapr]
        exact kk H' locs' ls hP' hz' hl' hL
      · cases hg
  · cases hg
/-! the switch over 0 .. n -/
theorem s_switch {l : Launch} {I : am_I} {pc d : Nat} {f : am_F} {ts : List am_F} {df : am_F} {tgs : List Nat} {dflt lo hi : Int} {offs : Array Int} {len tgt : Nat} (hd : decode I.2.1 pc = .ok (.tableswitch dflt lo hi offs, len)) (hlo : lo = 0) (hhi : hi + 1 = (ts.length : Int)) (hlen : ts.length = tgs.length) (hts : ∀ q ∈ ts.zip tgs, am_S l I q.2 d q.1) (hof : offs.toList.map (fun o => (pc : Int) + o) = tgs.map Int.ofNat ∧ (pc : Int) + dflt = (tgt : Int)) (hdf : am_S l I tgt d df) : am_S l I pc d (i_switch ts df) := by
  subst hlo
  intro lo0 st A r hg
  unfold i_switch at hg
  split at hg
  · rename_i x s0
    split at hg
    · rename_i hx
      exact am_go1 (hdf _ _ _ _ hg) (fun _ _ _ _ _ _ _ _ _ _ _ _ _ _ _ _ _ _ _ hX _ _ _ k => lv_tableOut hX.1 hX.2.1 hd (Or.inl (by have := Int32.lt_iff_toInt_lt.mp hx; simpa using this)) hof.2 k)
    · rename_i hx
      have hx0 : 0 ≤ x.toInt := by
        have := fun h => hx (Int32.lt_iff_toInt_lt.mpr h)
        simp at this
        omega
      have hc : ((x.toNatClampNeg : Nat) : Int) = x.toInt := by
        unfold Int32.toNatClampNeg
        omega
      split at hg
      · rename_i t ht
        have hj := (List.getElem?_eq_some_iff.mp ht).1
        have hj2 : x.toNatClampNeg < tgs.length := by omega
        have e1 : tgs[x.toNatClampNeg]? = some tgs[x.toNatClampNeg] := List.getElem?_eq_getElem hj2
        have hz : (ts.zip tgs)[x.toNatClampNeg]? = some (t, tgs[x.toNatClampNeg]) := by
          rw [List.getElem?_zip_eq_some]
          exact ⟨ht, e1⟩
        have hS := hts _ (List.mem_of_getElem? hz)
        have e2 : (offs.toList.map (fun o => (pc : Int) + o))[x.toNatClampNeg]? = some (Int.ofNat tgs[x.toNatClampNeg]) := by
          rw [hof.1, List.getElem?_map, e1]
          rfl
        rw [List.getElem?_map, Option.map_eq_some_iff] at e2
        obtain ⟨off, e3, e4⟩ := e2
        exact am_go1 (hS _ _ _ _ hg) (fun _ _ _ _ _ _ _ _ _ _ _ _ _ _ _ _ _ _ _ hX _ _ _ k => lv_tableIn (off := off) hX.1 hX.2.1 hd (by omega) (by omega) (by rw [show (x.toInt - 0).toNat = x.toNatClampNeg by omega, ← Array.getElem?_toList]; exact e3) e4 k)
      · rename_i ht
        have hj : ts.length ≤ x.toNatClampNeg := List.getElem?_eq_none_iff.mp ht
        exact am_go1 (hdf _ _ _ _ hg) (fun _ _ _ _ _ _ _ _ _ _ _ _ _ _ _ _ _ _ _ hX _ _ _ k => lv_tableOut hX.1 hX.2.1 hd (Or.inr (by omega)) hof.2 k)
  · cases hg
/-! the whole table: every label's block is sound, so every run is -/
def am_OK (l : Launch) (N : Nat → Option (am_I × Nat)) (k : am_K) : Prop := ∀ (lab d : Nat) (J : am_I) (pc : Nat), N lab = some (J, pc) → am_S l J pc d (k d lab)
theorem am_sound {l : Launch} {N : Nat → Option (am_I × Nat)} {T : Nat → am_B} (h : ∀ k, am_OK l N k → ∀ (lab d : Nat) (J : am_I) (pc : Nat), N lab = some (J, pc) → am_S l J pc d (T lab k d)) : ∀ n, am_OK l N (am_run T n) := by
  intro n
  induction n with
  | zero => intro lab d J pc _ lo st A r hg; cases hg
  | succ n ih => exact fun lab d J pc hN => h _ ih lab d J pc hN
/-- a run ends with r, from some number of steps on -/
def am_Ev (T : Nat → am_B) (d lab : Nat) (lo : am_L) (st : List Value) (A : am_H) (r : am_R) : Prop := ∃ n0, ∀ n, n0 ≤ n → am_run T n d lab lo st A = some r
