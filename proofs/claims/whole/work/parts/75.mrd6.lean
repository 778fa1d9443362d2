/-! the reference: readVariable as a whole -/
def R57 (R : Nat → Nat → Int32) (w : Nat) (nm x : Int32) : Nat → Nat → Int32 := setR (setR R 5 (upd (R 5) w nm)) 7 (upd (R 7) w x)
theorem R57_VF (R : Nat → Nat → Int32) (h v : Nat) (nm : Int32) : VF R (R57 R (5 * h + v) nm (nI 0)) h v nm 0 (fun _ => 0) := by
  refine ⟨fun i h5 h7 _ => by unfold R57; rw [setR_ne h7, setR_ne h5], ⟨?_, fun j hj => ?_⟩, ⟨?_, fun j hj => ?_⟩, fun k hk => absurd hk (Nat.not_lt_zero k), fun j hj => ?_⟩
  · unfold R57; rw [setR_ne (by decide), setR_self, pk_us]
  · unfold R57; rw [setR_ne (by decide), setR_self, pk_un hj]
  · unfold R57; rw [setR_self, pk_us]
  · unfold R57; rw [setR_self, pk_un hj]
  · unfold R57; rw [setR_ne (by decide), setR_ne (by decide)]
theorem R57_7 (R : Nat → Nat → Int32) (h v : Nat) (nm x : Int32) : R57 R (5 * h + v) nm x 7 (5 * h + v) = x := by
  unfold R57; rw [setR_self, pk_us]
/-- rows with one axis, with two axes -/
theorem R57_VF1 (R : Nat → Nat → Int32) (h v : Nat) (nm : Int32) (d0 : Nat) : VF R (setR (R57 R (5 * h + v) nm (nI 1)) 8 (upd (R57 R (5 * h + v) nm (nI 1) 8) (10 * h + 2 * v + 0) (nI d0))) h v nm 1 (fun _ => d0) := by
  refine ⟨fun i h5 h7 h8 => by unfold R57; rw [setR_ne h8, setR_ne h7, setR_ne h5], ⟨?_, fun j hj => ?_⟩, ⟨?_, fun j hj => ?_⟩, fun k hk => ?_, fun j hj => ?_⟩
  · unfold R57; rw [setR_ne (by decide), setR_ne (by decide), setR_self, pk_us]
  · unfold R57; rw [setR_ne (by decide), setR_ne (by decide), setR_self, pk_un hj]
  · unfold R57; rw [setR_ne (by decide), setR_self, pk_us]
  · unfold R57; rw [setR_ne (by decide), setR_self, pk_un hj]
  · rw [setR_self, show k = 0 by omega, pk_us]
  · rw [setR_self, pk_un (by omega)]
    unfold R57
    rw [setR_ne (by decide), setR_ne (by decide)]
theorem R57_VF2 (R : Nat → Nat → Int32) (h v : Nat) (nm : Int32) (d0 d1 : Nat) : VF R (setR (setR (R57 R (5 * h + v) nm (nI 2)) 8 (upd (R57 R (5 * h + v) nm (nI 2) 8) (10 * h + 2 * v + 0) (nI d0))) 8 (upd ((setR (R57 R (5 * h + v) nm (nI 2)) 8 (upd (R57 R (5 * h + v) nm (nI 2) 8) (10 * h + 2 * v + 0) (nI d0))) 8) (10 * h + 2 * v + 1) (nI d1))) h v nm 2 (fun k => if k = 0 then d0 else d1) := by
  refine ⟨fun i h5 h7 h8 => by unfold R57; rw [setR_ne h8, setR_ne h8, setR_ne h7, setR_ne h5], ⟨?_, fun j hj => ?_⟩, ⟨?_, fun j hj => ?_⟩, fun k hk => ?_, fun j hj => ?_⟩
  · unfold R57; rw [setR_ne (by decide), setR_ne (by decide), setR_ne (by decide), setR_self, pk_us]
  · unfold R57; rw [setR_ne (by decide), setR_ne (by decide), setR_ne (by decide), setR_self, pk_un hj]
  · unfold R57; rw [setR_ne (by decide), setR_ne (by decide), setR_self, pk_us]
  · unfold R57; rw [setR_ne (by decide), setR_ne (by decide), setR_self, pk_un hj]
  · rw [setR_self]
    rcases (show k = 0 ∨ k = 1 by omega) with rfl | rfl
    · rw [pk_un (by omega), setR_self, pk_us]
      rfl
    · rw [pk_us]
      rfl
  · rw [setR_self, pk_un (by omega), setR_self, pk_un (by omega)]
    unfold R57
    rw [setR_ne (by decide), setR_ne (by decide)]
theorem n_rvar {d b h v c : Nat} {A : am_H} {R : Nat → Nat → Int32} {f : mo_F} {D : List Nat} {ro : Bool} {s : sg_S} (T : Option sg_S) (hH : MHn R h v s) (hP : HP s) (hnv : s.2.2.1 = v) (hv : v < 5) (hDb : ∀ i, D.getD i 0 < 256) (hM : MM b A R (sat f c ro)) (hD : MDr R f D) (hc4 : c % 4 = 0) (hc : c < 300000) (hT : ∀ t0, T = some t0 → HP t0 ∧ STv t0 ∧ v < t0.2.2.1 ∧ nrm t0 v ∧ s = cutV t0 v ∧ seg D c (im_v t0 v) ∧ ro = false) : ∃ B S ok s2 c2 ro2, pev (d + 3) 254 [some (.ref b), some (.int (nI h)), some (.int (nI v)), none, none, none] [] A = some (some (.int (bz ok)), B) ∧ MM b B S (sat f c2 ro2) ∧ KH (1 - h) R S ∧ (S 14 = R 14 ∧ S 15 = R 15) ∧ am_fr (at21 b) A B ∧ c2 ≤ c + 170 ∧ (ok = true → MHn S h v s2 ∧ HP s2 ∧ VR s s2 v ∧ c2 = c + (24 + 4 * (s2.2.2.2.1 v).2.2.1 + sg_ls (s2.2.2.2.1 v).2.2.2.2.1)) ∧ ∀ t0, T = some t0 → ok = true ∧ s2 = cutV t0 (v + 1) ∧ ro2 = false ∧ c2 = c + (im_v t0 v).length := by
  have hh := hH.2.1
  obtain ⟨g1, g2, g3, g4, g5, g6⟩ := id hH
  have h4 := g1.1
  -- what the wanted bytes say
  have hx : ∀ t0, T = some t0 → nx D c ro = (t0.2.2.2.1 v).1 ∧ rx D (c + 8) 4 (rn D c 8 ro) = nI (t0.2.2.2.1 v).2.2.1 ∧ (t0.2.2.2.1 v).2.2.1 ≤ 2 ∧ (∀ k, k < (t0.2.2.2.1 v).2.2.1 → rd D (c + 12 + 4 * k) 4 = nI ((t0.2.2.2.1 v).2.2.2.1 k)) ∧ seg D (c + 12 + 4 * (t0.2.2.2.1 v).2.2.1) (vtl t0 v) ∧ c + 12 + 4 * (t0.2.2.2.1 v).2.2.1 ≤ D.length ∧ isNb (nx D c ro) = true ∧ fnd (fun v => (s.2.2.2.1 v).1) (nx D c ro) s.2.2.1 = none ∧ rn D c 12 ro = false ∧ (∀ k, k < (t0.2.2.2.1 v).2.2.1 → (t0.2.2.2.1 v).2.2.2.1 k < s.1.1) ∧ (1 < (t0.2.2.2.1 v).2.2.1 → s.1.2.2 ((t0.2.2.2.1 v).2.2.2.1 1) ≠ 0) := by
    intro t0 e
    obtain ⟨k1, k2, k3, k4, k5, k6, k7⟩ := hT t0 e
    subst k7
    have k6' := k6
    rw [im_v_eq] at k6
    have r1 := seg_r k6
    rw [nam_len] at r1
    have r2 := seg_r r1
    rw [wrd_len, show c + 8 + 4 = c + 12 by omega] at r2
    have r3 := seg_r r2
    rw [axs_len] at r3
    have hl := r3.1
    have e1 : nx D c false = (t0.2.2.2.1 v).1 := by
      unfold nx
      rw [rn_of (by omega), if_neg (by decide)]
      exact nmr_back (k1.1.2.2 _ k3).1 (seg_l k6)
    have e2 : rx D (c + 8) 4 (rn D c 8 false) = nI (t0.2.2.2.1 v).2.2.1 := by
      rw [rn_of (by omega), rx_of (by omega)]
      exact rd_wrd (seg_l r1)
    obtain ⟨x1, x2, x3, x4⟩ := k2.2.2.2.1 _ k3
    refine ⟨e1, e2, x2, fun k hk => ?_, r3, by omega, ?_, ?_, rn_of (by omega), ?_, ?_⟩
    · have r4 := seg_cat (seg_l r2) hk
      rw [axs_len] at r4
      exact rd_wrd r4
    · rw [e1]
      exact (k1.1.2.2 _ k3).1
    · rw [e1]
      refine fnd_of_none (fun j hj e => ?_)
      rw [k5] at e hj
      have hj2 : j < v := hj
      have := k1.2.2.1 j v (by omega) k3 e
      omega
    · rw [k5]
      exact x3
    · intro h1
      rw [k5]
      show t0.1.2.2 _ ≠ 0
      unfold sg_l1 at x4
      rw [if_pos h1] at x4
      omega
  obtain ⟨B1, f1, m1, hor⟩ := n_rv0 (d := d) hH hnv hv hM hD (by omega)
  rcases hor with ⟨e1, hno⟩ | ⟨nax, n1, n2, n3, n4, go⟩
  · have kh : KH (1 - h) R (setR (setR R 5 (upd (R 5) (5 * h + v) (nx D c ro))) 7 (upd (R 7) (5 * h + v) (rx D (c + 8) 4 (rn D c 8 ro)))) := ((KH.refl (1 - h) R).upd (i := 5) (j := 5 * h + v) _ (by decide) (by decide) (by show _ < (1 - h) * 5 ∨ (1 - h) * 5 + 5 ≤ _; omega)).upd (i := 7) (j := 5 * h + v) _ (by decide) (by decide) (by show _ < (1 - h) * 5 ∨ (1 - h) * 5 + 5 ≤ _; omega)
    refine ⟨B1, _, false, s, c + 12, _, e1, m1, kh, ⟨by rw [setR_ne (by decide), setR_ne (by decide)], by rw [setR_ne (by decide), setR_ne (by decide)]⟩, f1, by omega, fun e => (by cases e), fun t0 e => ?_⟩
    obtain ⟨x1, x2, x3, x4, x5, x6, x7, x8, x9, x10, x11⟩ := hx t0 e
    exact absurd ⟨x7, x8, _, x3, x2⟩ hno
  · rw [n4] at m1
    have m1' : MM b B1 (R57 R (5 * h + v) (nx D c ro) (nI nax)) (sat f (c + 12) (rn D c 12 ro)) := m1
    have hD1 : MDr (R57 R (5 * h + v) (nx D c ro) (nI nax)) f D := hD.same rfl rfl
    have hnx : ∀ t0, T = some t0 → nax = (t0.2.2.2.1 v).2.2.1 := fun t0 e => (nI_eq (by omega) (by have := (hx t0 e).2.2.1; omega)).mp (n4.symm.trans (hx t0 e).2.1)
    have q1 : R57 R (5 * h + v) (nx D c ro) (nI nax) 1 h = nI s.1.1 := g3.1
    have q3 : ∀ j, j < s.1.1 → R57 R (5 * h + v) (nx D c ro) (nI nax) 3 (4 * h + j) = nI (s.1.2.2 j) ∧ s.1.2.2 j ≤ 8 := fun j hj => ⟨(g4 j hj).2, g1.2.1 j hj⟩
    have k57 : KH (1 - h) R (R57 R (5 * h + v) (nx D c ro) (nI nax)) := ((KH.refl (1 - h) R).upd (i := 5) (j := 5 * h + v) _ (by decide) (by decide) (by show _ < (1 - h) * 5 ∨ (1 - h) * 5 + 5 ≤ _; omega)).upd (i := 7) (j := 5 * h + v) _ (by decide) (by decide) (by show _ < (1 - h) * 5 ∨ (1 - h) * 5 + 5 ≤ _; omega)
    rcases (show nax = 0 ∨ nax = 1 ∨ nax = 2 by omega) with rfl | rfl | rfl
    · obtain ⟨B, S, ok, s2, c2, ro2, e3, z1, z2, z3, z4, z5, z6, z7⟩ := n_rvfin (d := d) (o5 := none) T (R57_VF R h v (nx D c ro)) hH hP hnv hv n1 n2 (by decide) (fun k hk => absurd hk (Nat.not_lt_zero k)) (fun e => absurd e (by decide)) hDb m1' hD (by omega) (by omega) (fun t0 e => by
        obtain ⟨k1, k2, k3, k4, k5, k6, k7⟩ := hT t0 e
        obtain ⟨x1, x2, x3, x4, x5, x6, x7, x8, x9, x10, x11⟩ := hx t0 e
        have hn := hnx t0 e
        rw [← hn] at x5
        exact ⟨k1, k2, k3, k4, k5, x1, hn, fun k hk => absurd hk (Nat.not_lt_zero k), x5, x9⟩)
      refine ⟨B, S, ok, s2, c2, ro2, go _ e3, z1, z2, z3, f1.trans z4, by omega, fun e => ?_, fun t0 e => ?_⟩
      · obtain ⟨y1, y2, y3, y4, y5⟩ := z6 e
        exact ⟨y1, y2, y3, by rw [y5, y4]; omega⟩
      · obtain ⟨y1, y2, y3, y4⟩ := z7 t0 e
        refine ⟨y1, y2, y3, ?_⟩
        rw [y4, im_v_eq]
        simp only [List.length_append, nam_len, wrd_len, axs_len, ← hnx t0 e]
        omega
    · obtain ⟨B2, f2, hor2⟩ := n_rax (d := d + 2) (k := 0) (o5 := none) hh hv n3 (by decide) h4 m1' hD1 (R57_7 R h v _ _) q1 q3 (by omega)
      rcases hor2 with ⟨m2, e2, hno⟩ | ⟨d0, hd0, -, ed0, m2, go2⟩
      · refine ⟨B2, _, false, s, _, _, go _ e2, m2, k57, ⟨rfl, rfl⟩, f1.trans f2, by omega, fun e => (by cases e), fun t0 e => ?_⟩
        obtain ⟨x1, x2, x3, x4, x5, x6, x7, x8, x9, x10, x11⟩ := hx t0 e
        have hn := hnx t0 e
        refine absurd ?_ (hno _ (x10 0 (by omega)) (fun e => by omega))
        rw [x9, rx_of (by omega)]
        exact x4 0 (by omega)
      · obtain ⟨B, S, ok, s2, c2, ro2, e3, z1, z2, z3, z4, z5, z6, z7⟩ := n_rvfin (d := d) (o5 := some (.int (nI d0))) T (R57_VF1 R h v (nx D c ro) d0) hH hP hnv hv n1 n2 (by decide) (fun k hk => hd0) (fun e => absurd e (by decide)) hDb m2 hD (by omega) (by omega) (fun t0 e => by
          obtain ⟨k1, k2, k3, k4, k5, k6, k7⟩ := hT t0 e
          obtain ⟨x1, x2, x3, x4, x5, x6, x7, x8, x9, x10, x11⟩ := hx t0 e
          have hn := hnx t0 e
          rw [← hn] at x5
          rw [x9, rx_of (by omega)] at ed0
          have y0 := x4 0 (by omega)
          refine ⟨k1, k2, k3, k4, k5, x1, hn, fun k hk => ?_, x5, ?_⟩
          · rw [show k = 0 by omega]
            exact (nI_eq (by omega) (by have := x10 0 (by omega); omega)).mp (ed0.symm.trans y0)
          · rw [x9]
            exact rn_of (by omega))
        refine ⟨B, S, ok, s2, c2, ro2, go _ (go2 _ e3), z1, z2, z3, (f1.trans f2).trans z4, by omega, fun e => ?_, fun t0 e => ?_⟩
        · obtain ⟨y1, y2, y3, y4, y5⟩ := z6 e
          exact ⟨y1, y2, y3, by rw [y5, y4]; omega⟩
        · obtain ⟨y1, y2, y3, y4⟩ := z7 t0 e
          refine ⟨y1, y2, y3, ?_⟩
          rw [y4, im_v_eq]
          simp only [List.length_append, nam_len, wrd_len, axs_len, ← hnx t0 e]
          omega
    · obtain ⟨B2, f2, hor2⟩ := n_rax (d := d + 2) (k := 0) (o5 := none) hh hv n3 (by decide) h4 m1' hD1 (R57_7 R h v _ _) q1 q3 (by omega)
      rcases hor2 with ⟨m2, e2, hno⟩ | ⟨d0, hd0, -, ed0, m2, go2⟩
      · refine ⟨B2, _, false, s, _, _, go _ e2, m2, k57, ⟨rfl, rfl⟩, f1.trans f2, by omega, fun e => (by cases e), fun t0 e => ?_⟩
        obtain ⟨x1, x2, x3, x4, x5, x6, x7, x8, x9, x10, x11⟩ := hx t0 e
        have hn := hnx t0 e
        refine absurd ?_ (hno _ (x10 0 (by omega)) (fun e => by omega))
        rw [x9, rx_of (by omega)]
        exact x4 0 (by omega)
      · have k58 : KH (1 - h) R (setR (R57 R (5 * h + v) (nx D c ro) (nI 2)) 8 (upd (R57 R (5 * h + v) (nx D c ro) (nI 2) 8) (10 * h + 2 * v + 0) (nI d0))) := k57.upd (i := 8) (j := 10 * h + 2 * v + 0) _ (by decide) (by decide) (by show _ < (1 - h) * 10 ∨ (1 - h) * 10 + 10 ≤ _; omega)
        obtain ⟨B3, f3, hor3⟩ := n_rax (d := d + 2) (k := 1) (o5 := some (.int (nI d0))) hh hv n3 (by decide) h4 m2 (hD1.same rfl rfl) (by rw [setR_ne (by decide)]; exact R57_7 R h v _ _) q1 q3 (by omega)
        rcases hor3 with ⟨m3, e3, hno⟩ | ⟨d1, hd1, hz1, ed1, m3, go3⟩
        · refine ⟨B3, _, false, s, _, _, go _ (go2 _ e3), m3, k58, ⟨rfl, rfl⟩, (f1.trans f2).trans f3, by omega, fun e => (by cases e), fun t0 e => ?_⟩
          obtain ⟨x1, x2, x3, x4, x5, x6, x7, x8, x9, x10, x11⟩ := hx t0 e
          have hn := hnx t0 e
          refine absurd ?_ (hno _ (x10 1 (by omega)) (fun _ => x11 (by omega)))
          rw [x9, rn_of (by omega), rx_of (by omega)]
          exact x4 1 (by omega)
        · obtain ⟨B, S, ok, s2, c2, ro2, e4, z1, z2, z3, z4, z5, z6, z7⟩ := n_rvfin (d := d) (o5 := some (.int (nI d1))) T (R57_VF2 R h v (nx D c ro) d0 d1) hH hP hnv hv n1 n2 (by decide) (fun k hk => by
            rcases (show k = 0 ∨ k = 1 by omega) with rfl | rfl
            · exact hd0
            · exact hd1) (fun _ => hz1 rfl) hDb m3 hD (by omega) (by omega) (fun t0 e => by
            obtain ⟨k1, k2, k3, k4, k5, k6, k7⟩ := hT t0 e
            obtain ⟨x1, x2, x3, x4, x5, x6, x7, x8, x9, x10, x11⟩ := hx t0 e
            have hn := hnx t0 e
            rw [← hn] at x5
            rw [x9] at ed0 ed1
            rw [rx_of (by omega)] at ed0
            rw [rn_of (by omega), rx_of (by omega)] at ed1
            have y0 := x4 0 (by omega)
            have y1 := x4 1 (by omega)
            refine ⟨k1, k2, k3, k4, k5, x1, hn, fun k hk => ?_, x5, ?_⟩
            · rcases (show k = 0 ∨ k = 1 by omega) with rfl | rfl
              · exact (nI_eq (a := d0) (by omega) (by have := x10 0 (by omega); omega)).mp (ed0.symm.trans y0)
              · exact (nI_eq (a := d1) (by omega) (by have := x10 1 (by omega); omega)).mp (ed1.symm.trans y1)
            · rw [x9, rn_of (by omega)]
              exact rn_of (by omega))
          refine ⟨B, S, ok, s2, c2, ro2, go _ (go2 _ (go3 _ e4)), z1, z2, z3, ((f1.trans f2).trans f3).trans z4, by omega, fun e => ?_, fun t0 e => ?_⟩
          · obtain ⟨y1, y2, y3, y4, y5⟩ := z6 e
            exact ⟨y1, y2, y3, by rw [y5, y4]; omega⟩
          · obtain ⟨y1, y2, y3, y4⟩ := z7 t0 e
            refine ⟨y1, y2, y3, ?_⟩
            rw [y4, im_v_eq]
            simp only [List.length_append, nam_len, wrd_len, axs_len, ← hnx t0 e]
            omega
