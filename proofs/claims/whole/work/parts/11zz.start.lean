/-! from the machine's start to one run of the pure machine -/
def am_A0 (L : Nat) (xs : Nat → Int32) : am_H := (5, 0, fun q => match q with
  | 0 => some (.inl (0, 5, am_s0))
  | 1 => some (.inl (0, 5, am_s1))
  | 2 => some (.inl (0, 5, am_s2))
  | 3 => some (.inl (0, 5, am_s3))
  | 4 => some (.inl (0, L, xs))
  | _ => none)
/-- what is left to show of the law: its run ends with 1, within the room -/
def am_Law : Prop := ∀ (L : Nat) (xs : Nat → Int32), L ≤ 3072 → ∃ A1 : am_H, pev 9 262 [some (.ref 4), none, none, none] [] (am_A0 L xs) = some (some (.int 1), A1) ∧ A1.1 ≤ 600005 ∧ A1.2.1 ≤ 7302250
theorem am_Tat {dC : Nat → ClassId} {dI : Nat → Nat → Nat} {sA : Nat → Nat} {z : Nat} {s : State} {t : Nat} {g : Nat → Int32} {A : Nat → Prop} (h : va_T .int t 5 (fun j => .int (g j)) A s s.heap) : am_at dC dI sA z s t (.inl (0, 5, g)) s.heap := by
  obtain ⟨cell, h1, h2, h3, h4, h5, h6, h7⟩ := h
  exact ⟨cell, h1, h2, h3, h4, h5, h6⟩
theorem va_T.lt {ty : FieldType} {t N : Nat} {f : Nat → Value} {A : Nat → Prop} {U : State} {H : Heap} (h : va_T ty t N f A U H) : t < H.size := by
  obtain ⟨cell, h1, -⟩ := h
  exact (Array.getElem?_eq_some_iff.mp h1).1
theorem whole_from (hlaw : am_Law) {p : Program} {e : Env} {s : State} {m : MethodId} {below : List Frame} {meth : Method} {c : Code} (l : Launch) {b L : Nat} {xs : Nat → Int32} (hL : L ≤ 3072) (C0 : lw_At p s m meth c b L xs) : W p l e room_1 s m #[Value.ref b] below meth c s.heap [] 0 0 (lw_Z below #[Value.ref b] s) (entryFrame m ([Value.ref b] : List Value).toArray 4) := by
  obtain ⟨hx, hb, hret, hml, hown, hts, hscr, hbl, hlk, hgv⟩ := C0
  have hws : ∀ w ∈ am_ws, w.before #[Value.ref b] s = true := fun w hw => hts w (List.mem_filter.mp hw).1
  obtain ⟨c0, i0, k0⟩ := uX0 hws
  obtain ⟨c1, i1, k1⟩ := uX1 hws
  obtain ⟨c2, i2, k2⟩ := uX2 hws
  obtain ⟨c3, i3, k3⟩ := uX3 hws
  obtain ⟨c4, i4, k4⟩ := uX4 hws
  obtain ⟨c5, i5, k5⟩ := uX5 hws
  obtain ⟨c6, i6, k6⟩ := uX6 hws
  obtain ⟨dC, e0, e1, e2, e3, e4, e5, e6⟩ : ∃ dC : Nat → ClassId, dC 0 = c0 ∧ dC 1 = c1 ∧ dC 2 = c2 ∧ dC 3 = c3 ∧ dC 4 = c4 ∧ dC 5 = c5 ∧ dC 6 = c6 := ⟨fun k => match k with
    | 0 => c0
    | 1 => c1
    | 2 => c2
    | 3 => c3
    | 4 => c4
    | 5 => c5
    | _ => c6, rfl, rfl, rfl, rfl, rfl, rfl, rfl⟩
  obtain ⟨dI, f0, f1, f2, f3, f4, f5, f6⟩ : ∃ dI : Nat → Nat → Nat, dI 0 = i0 ∧ dI 1 = i1 ∧ dI 2 = i2 ∧ dI 3 = i3 ∧ dI 4 = i4 ∧ dI 5 = i5 ∧ dI 6 = i6 := ⟨fun k => match k with
    | 0 => i0
    | 1 => i1
    | 2 => i2
    | 3 => i3
    | 4 => i4
    | 5 => i5
    | _ => i6, rfl, rfl, rfl, rfl, rfl, rfl, rfl⟩
  subst e0 e1 e2 e3 e4 e5 e6 f0 f1 f2 f3 f4 f5 f6
  have hK : va_K (dC, dI) am_cl [] s := by
    refine ⟨fun q r hq => ?_, fun k r hk => by simp at hk⟩
    match q, hq with
    | 0, hq => cases hq; exact k0
    | 1, hq => cases hq; exact k1
    | 2, hq => cases hq; exact k2
    | 3, hq => cases hq; exact k3
    | 4, hq => cases hq; exact k4
    | 5, hq => cases hq; exact k5
    | 6, hq => cases hq; exact k6
    | n + 7, hq => simp [am_cl] at hq
  obtain ⟨t0, a0, v0⟩ := st_0 hgv
  obtain ⟨t1, a1, v1⟩ := st_1 hgv
  obtain ⟨t2, a2, v2⟩ := st_2 hgv
  obtain ⟨t3, a3, v3⟩ := st_3 hgv
  obtain ⟨sA, g0, g1, g2, g3, g4⟩ : ∃ sA : Nat → Nat, sA 0 = t0 ∧ sA 1 = t1 ∧ sA 2 = t2 ∧ sA 3 = t3 ∧ sA 4 = b := ⟨fun k => match k with
    | 0 => t0
    | 1 => t1
    | 2 => t2
    | 3 => t3
    | _ => b, rfl, rfl, rfl, rfl, rfl⟩
  subst g0 g1 g2 g3 g4
  have hsA : ∀ p, p < 5 → sA p < s.heap.size := by
    intro p hp
    match p, hp with
    | 0, _ => exact v0.lt
    | 1, _ => exact v1.lt
    | 2, _ => exact v2.lt
    | 3, _ => exact v3.lt
    | 4, _ => exact hbl
  have hnA : ∀ a : Nat, a < s.heap.size → ¬ s.heap.size ≤ a := fun a h1 h2 => by omega
  have hG : am_G dC dI sA s.heap.size s := by
    refine ⟨hK, fun q hq => va_Nw.of rfl (hts _ (nestM_in q hq)), fun q hq => va_Nw.of rfl (hts _ (nestF_in q hq)), va_AO.of (hts _ ao_in), hsA, fun i hi => ?_⟩
    match i, hi with
    | 0, _ => exact va_Zref (hts _ ls_0) (hts _ ini_5) a0 hnA
    | 1, _ => exact va_Zref (hts _ ls_1) (hts _ ini_5) a1 hnA
    | 2, _ => exact va_Zref (hts _ ls_2) (hts _ ini_5) a2 hnA
    | 3, _ => exact va_Zref (hts _ ls_3) (hts _ ini_5) a3 hnA
  have hP : am_P dC dI sA s.heap.size s (am_A0 L xs) s.heap := by
    refine ⟨Nat.le_refl _, rfl, fun q x hq => ?_⟩
    match q, hq with
    | 0, hq => cases hq; exact ⟨(by decide : 0 < 5), am_Tat v0⟩
    | 1, hq => cases hq; exact ⟨(by decide : 1 < 5), am_Tat v1⟩
    | 2, hq => cases hq; exact ⟨(by decide : 2 < 5), am_Tat v2⟩
    | 3, hq => cases hq; exact ⟨(by decide : 3 < 5), am_Tat v3⟩
    | 4, hq =>
      cases hq
      obtain ⟨scr, s1, s2, s3, s4, s5⟩ := hscr
      exact ⟨(by decide : 4 < 5), scr, s1, s2, s3, Nat.le_of_eq s4.symm, by rw [s4], s5⟩
    | n + 5, hq => cases hq
  obtain ⟨A1, hev, hc, hs⟩ := hlaw L xs hL
  obtain ⟨n, hn⟩ := pev_to hev
  have hr := hn n (Nat.le_refl _)
  obtain ⟨h1, h2, h3⟩ := am_runs (l := l) n 262 9 _ _ n_262 _ _ _ _ hr rfl
  have hX : am_X I_167 dC dI sA s.heap.size p s m #[Value.ref (sA 4)] meth c := ⟨hx, hb, hml, hret, hlk, (fun h => by cases h), hown, hws, hG⟩
  have hLR : am_LR sA s.heap.size (am_ent [.ref 4] 4) ((lg_sl ([Value.ref 4].map (am_tr sA s.heap.size)) ++ List.replicate (4 - (lg_sl ([Value.ref 4].map (am_tr sA s.heap.size))).length) Slot.unset).toArray) := am_ent_LR (by decide)
  have key := h3 dC dI sA s.heap.size p e room_1 s m #[Value.ref (sA 4)] below meth c s.heap [] 0 0 _ (lw_Z below #[Value.ref (sA 4)] s) (A1.1 - 5) A1.2.1 hX hP (fun _ _ => rfl) (fun q hq => by cases hq) hLR (by decide) (by decide) (Nat.zero_add _) (by show 0 + (A1.2.1 - 0) = A1.2.1; omega) (by show A1.1 - 5 ≤ 600000; omega) hs ?_
  · rw [lg_entry_eq]
    exact key
  · intro pc ls H locs ins hd hok hP1 hz1 hl1
    have hi : ins = .ireturn := by
      rcases hok with ⟨_, h, _⟩ | ⟨_, _, _, _, _, h⟩ | ⟨_, _, h, _⟩ | ⟨_, _, h, _⟩
      · cases h
      · exact h
      · cases h
      · rcases h with h | ⟨_, h⟩ <;> cases h
    subst hi
    exact va_forget hl1 (W.widen (k := 600000) (n := 7302250) (by omega) hs (lw_ret hx hb hret hlk hd))
