/-! the reference: a variable read stands in its rows -/
def avx (nax : Nat) (dx : Nat → Nat) : Int32 := if nax = 0 then -1 else nI (dx 0)
def bvx (nax : Nat) (dx : Nat → Nat) : Int32 := if nax ≤ 1 then -1 else nI (dx 1)
theorem vx_ok {s : sg_S} {nax : Nat} {dx : Nat → Nat} (hs : STv s) (hn : nax ≤ 2) (hd : ∀ k, k < nax → dx k < s.1.1) (hz : 1 < nax → s.1.2.2 (dx 1) ≠ 0) : axok s (avx nax dx) (bvx nax dx) ∧ axn (avx nax dx) (bvx nax dx) = nax ∧ ∀ k, k < nax → (if k = 0 then (avx nax dx).toNatClampNeg else (bvx nax dx).toNatClampNeg) = dx k := by
  have h4 := hs.1
  have key : ∀ k, k < nax → isDb s (nI (dx k)) = true := fun k hk => isDb_of (hd k hk) (by omega)
  have cl : ∀ k, k < nax → (nI (dx k)).toNatClampNeg = dx k := fun k hk => nI_clamp (by have := hd k hk; omega)
  unfold avx bvx
  rcases (show nax = 0 ∨ nax = 1 ∨ nax = 2 by omega) with rfl | rfl | rfl
  · refine ⟨⟨Or.inl rfl, Or.inl rfl, fun _ => rfl, ?_⟩, rfl, fun k hk => by omega⟩
    rw [if_pos (by decide), lenO_m1]
    decide
  · have n0 := isDb_ne (key 0 (by decide))
    refine ⟨⟨Or.inr (key 0 (by decide)), Or.inl rfl, fun e => absurd e n0, ?_⟩, ?_, fun k hk => ?_⟩
    · rw [if_pos (by decide), lenO_m1]
      decide
    · unfold axn
      exact (if_neg n0).trans (if_pos rfl)
    · rw [show k = 0 by omega, if_pos rfl, if_neg (by decide)]
      exact cl 0 (by decide)
  · have n0 := isDb_ne (key 0 (by decide))
    have n1 := isDb_ne (key 1 (by decide))
    refine ⟨⟨Or.inr (key 0 (by decide)), Or.inr (key 1 (by decide)), fun e => absurd e n0, ?_⟩, ?_, fun k hk => ?_⟩
    · rw [if_neg (by decide)]
      unfold lenO
      rw [if_pos (key 1 (by decide)), cl 1 (by decide)]
      exact hz (by decide)
    · unfold axn
      exact (if_neg n0).trans (if_neg n1)
    · rcases (show k = 0 ∨ k = 1 by omega) with rfl | rfl
      · rw [if_pos rfl, if_neg (by decide)]
        exact cl 0 (by decide)
      · rw [if_neg (by decide), if_neg (by decide)]
        exact cl 1 (by decide)
/-- rows R' are rows R with name and axes of variable v -/
def VF (R R' : Nat → Nat → Int32) (h v : Nat) (nm : Int32) (nax : Nat) (dx : Nat → Nat) : Prop := (∀ i, i ≠ 5 → i ≠ 7 → i ≠ 8 → R' i = R i) ∧ (R' 5 (5 * h + v) = nm ∧ ∀ j, j ≠ 5 * h + v → R' 5 j = R 5 j) ∧ (R' 7 (5 * h + v) = nI nax ∧ ∀ j, j ≠ 5 * h + v → R' 7 j = R 7 j) ∧ (∀ k, k < nax → R' 8 (10 * h + 2 * v + k) = nI (dx k)) ∧ ∀ j, j < 10 * h + 2 * v ∨ 10 * h + 2 * v + 2 ≤ j → R' 8 j = R 8 j
theorem VF.kh {R R' : Nat → Nat → Int32} {h v : Nat} {nm : Int32} {nax : Nat} {dx : Nat → Nat} (hF : VF R R' h v nm nax dx) (hh : h < 2) (hv : v < 5) : KH (1 - h) R R' := by
  obtain ⟨f1, ⟨-, f2⟩, ⟨-, f3⟩, -, f4⟩ := hF
  refine ⟨fun i i1 i2 j j1 j2 => ?_, fun i hi => f1 i (by omega) (by omega) (by omega)⟩
  by_cases c5 : i = 5
  · subst c5
    have j1' : (1 - h) * 5 ≤ j := j1
    have j2' : j < (1 - h) * 5 + 5 := j2
    exact f2 j (by omega)
  · by_cases c7 : i = 7
    · subst c7
      have j1' : (1 - h) * 5 ≤ j := j1
      have j2' : j < (1 - h) * 5 + 5 := j2
      exact f3 j (by omega)
    · by_cases c8 : i = 8
      · subst c8
        have j1' : (1 - h) * 10 ≤ j := j1
        have j2' : j < (1 - h) * 10 + 10 := j2
        exact f4 j (by omega)
      · exact congrFun (f1 i c5 c7 c8) j
theorem VF_MH {R R' R1 : Nat → Nat → Int32} {h v : Nat} {nm : Int32} {nax t : Nat} {dx : Nat → Nat} {s : sg_S} {aa : sg_A} (hF : VF R R' h v nm nax dx) (hK : LK h (v + 1) R' R1) (hH : MHn R h v s) (hnv : s.2.2.1 = v) (hv : v < 5) (t1 : 1 ≤ t) (t4 : t ≤ 4) (hn : nax ≤ 2) (hd : ∀ k, k < nax → dx k < s.1.1) (hz : 1 < nax → s.1.2.2 (dx 1) ≠ 0) (hA : MA R1 h (v + 1) aa) : MHn (setR R1 6 (upd (R1 6) (5 * h + v) (nI t))) h v (addV s nm t (avx nax dx) (bvx nax dx) aa) := by
  obtain ⟨g1, g2, g3, g4, g5, g6⟩ := hH
  obtain ⟨x1, x2, x3⟩ := vx_ok g1 hn hd hz
  obtain ⟨f1, ⟨f2, f3⟩, ⟨f4, f5⟩, f6, f7⟩ := hF
  have eR : ∀ i, i < 9 ∨ 13 < i → i ≠ 6 → (setR R1 6 (upd (R1 6) (5 * h + v) (nI t))) i = R' i := fun i hi h6 => (setR_ne h6).trans (hK.1 i hi)
  have eM : ∀ m a, MA R1 h m a → MA (setR R1 6 (upd (R1 6) (5 * h + v) (nI t))) h m a := fun m a hm => hm.same (fun i i1 i2 => setR_ne (by omega))
  have e6 : (setR R1 6 (upd (R1 6) (5 * h + v) (nI t))) 6 = upd (R 6) (5 * h + v) (nI t) := by
    rw [setR_self, hK.1 6 (by omega), f1 6 (by decide) (by decide) (by decide)]
  refine ⟨addV_v g1 x1 (by omega) t1 t4, g2, ?_, fun j hj => ?_, ?_, fun u hu => ?_⟩
  · rw [eR 1 (by omega) (by decide), eR 4 (by omega) (by decide), f1 1 (by decide) (by decide) (by decide), f1 4 (by decide) (by decide) (by decide)]
    exact g3
  · rw [eR 2 (by omega) (by decide), eR 3 (by omega) (by decide), f1 2 (by decide) (by decide) (by decide), f1 3 (by decide) (by decide) (by decide)]
    exact g4 j hj
  · have hA0 : MA R' h 0 s.2.1 := g5.same (fun i i1 i2 => f1 i (by omega) (by omega) (by omega))
    exact eM _ _ (hK.other hA0 (by omega))
  · rw [eR 5 (by omega) (by decide), e6, eR 7 (by omega) (by decide), eR 8 (by omega) (by decide)]
    by_cases cu : u = v
    · subst cu
      rw [← hnv, addV_new, hnv]
      rw [pk_us]
      refine ⟨f2, rfl, ?_, fun k hk => ?_, eM _ _ hA⟩
      · rw [f4]
        exact congrArg nI x2.symm
      · have hk2 : k < axn (avx nax dx) (bvx nax dx) := hk
        rw [x2] at hk2
        rw [f6 k hk2]
        exact congrArg nI (x3 k hk2).symm
    · have hu2 : u < s.2.2.1 + 1 := hu
      have hu3 : u < s.2.2.1 := by omega
      rw [addV_old hu3, f3 _ (by omega), f5 _ (by omega), pk_un (by omega)]
      obtain ⟨w1, w2, w3, w4, w5⟩ := g6 u hu3
      have xx := (g1.2.2.2.1 u hu3).2.1
      refine ⟨w1, w2, w3, fun k hk => ?_, ?_⟩
      · rw [f7 _ (by omega)]
        exact w4 k hk
      · have hA0 : MA R' h (u + 1) (s.2.2.2.1 u).2.2.2.2.1 := w5.same (fun i i1 i2 => f1 i (by omega) (by omega) (by omega))
        exact eM _ _ (hK.other hA0 (by omega))
/-- what a variable read says of the store -/
def VR (s s2 : sg_S) (v : Nat) : Prop := s2.1 = s.1 ∧ s2.2.1 = s.2.1 ∧ s2.2.2.1 = v + 1 ∧ s2.2.2.2.2 = s.2.2.2.2 ∧ ∀ u, u < v → s2.2.2.2.1 u = s.2.2.2.1 u
theorem n_rvfin {d b h v nax c : Nat} {A : am_H} {R R' : Nat → Nat → Int32} {f : mo_F} {D : List Nat} {ro : Bool} {s : sg_S} {nm : Int32} {dx : Nat → Nat} {o5 : Option Value} (T : Option sg_S) (hF : VF R R' h v nm nax dx) (hH : MHn R h v s) (hP : HP s) (hnv : s.2.2.1 = v) (hv : v < 5) (hnm : isNb nm = true) (hfn : fnd (fun v => (s.2.2.2.1 v).1) nm s.2.2.1 = none) (hn : nax ≤ 2) (hd : ∀ k, k < nax → dx k < s.1.1) (hz : 1 < nax → s.1.2.2 (dx 1) ≠ 0) (hDb : ∀ i, D.getD i 0 < 256) (hM : MM b A R' (sat f c ro)) (hD : MDr R f D) (hc4 : c % 4 = 0) (hc : c < 400000) (hT : ∀ t0, T = some t0 → HP t0 ∧ STv t0 ∧ v < t0.2.2.1 ∧ nrm t0 v ∧ s = cutV t0 v ∧ nm = (t0.2.2.2.1 v).1 ∧ nax = (t0.2.2.2.1 v).2.2.1 ∧ (∀ k, k < nax → dx k = (t0.2.2.2.1 v).2.2.2.1 k) ∧ seg D c (vtl t0 v) ∧ ro = false) : ∃ B S ok s2 c2 ro2, pev (d + 3) 255 [some (.ref b), some (.int (nI h)), some (.int (nI v)), some (.int (nI (5 * h + v))), some (.int (nI nax)), o5] [] A = some (some (.int (bz ok)), B) ∧ MM b B S (sat f c2 ro2) ∧ KH (1 - h) R S ∧ (S 14 = R 14 ∧ S 15 = R 15) ∧ am_fr (at21 b) A B ∧ c2 ≤ c + 140 ∧ (ok = true → MHn S h v s2 ∧ HP s2 ∧ VR s s2 v ∧ (s2.2.2.2.1 v).2.2.1 = nax ∧ c2 = c + sg_ls (s2.2.2.2.1 v).2.2.2.2.1 + 12) ∧ ∀ t0, T = some t0 → ok = true ∧ s2 = cutV t0 (v + 1) ∧ ro2 = false ∧ c2 = c + (vtl t0 v).length := by
  have hh := hH.2.1
  have hD' : MDr R' f D := hD.same (hF.1 20 (by decide) (by decide) (by decide)) rfl
  obtain ⟨B, R1, ok, a2, t, c2, ro2, x, k1, k2, k3, k4, k5, k6, k7⟩ := n_rtail (d := d) (o5 := o5) hh hv hn hDb hM hD' hF.2.2.1.1 hc4 hc
  have kh : KH (1 - h) R (setR R1 6 (upd (R1 6) (5 * h + v) x)) := ((hF.kh hh hv).trans (k1.kh hh (by omega))).upd (i := 6) (j := 5 * h + v) x (by decide) (by decide) (by show _ < (1 - h) * 5 ∨ (1 - h) * 5 + 5 ≤ _; omega)
  have e14 : ∀ i, 14 ≤ i → (setR R1 6 (upd (R1 6) (5 * h + v) x)) i = R i := fun i hi => by
    rw [setR_ne (by omega), k1.1 i (by omega), hF.1 i (by omega) (by omega) (by omega)]
  cases T with
  | none =>
    cases ok with
    | false => exact ⟨B, _, false, s, c2, ro2, k4, k2, kh, ⟨e14 14 (by decide), e14 15 (by decide)⟩, k3, k5, fun e => (by cases e), fun t0 e => (by cases e)⟩
    | true =>
      obtain ⟨z1, z2, ⟨z3, z4⟩, z5, z6⟩ := k6 rfl
      subst z5
      refine ⟨B, _, true, addV s nm t (avx nax dx) (bvx nax dx) a2, c2, ro2, k4, k2, kh, ⟨e14 14 (by decide), e14 15 (by decide)⟩, k3, k5, fun _ => ⟨VF_MH hF k1 hH hnv hv z3 z4 hn hd hz z1, HP_addV hP hnm hfn z2, ⟨rfl, rfl, by show s.2.2.1 + 1 = v + 1; omega, rfl, fun u hu => addV_old (by omega)⟩, ?_, ?_⟩, fun t0 e => (by cases e)⟩
      · rw [← hnv, addV_new]
        exact (vx_ok hH.1 hn hd hz).2.1
      · rw [← hnv, addV_new]
        exact z6
  | some t0 =>
    obtain ⟨y1, y2, y3, y4, y5, y6, y7, y8, y9, y10⟩ := hT t0 rfl
    have ty := (y2.2.2.2.1 v y3).1
    obtain ⟨z1, z2, z3, z4, z5⟩ := k7 _ _ _ _ (y1.2.2.2.2.2 v y3) ty.1 ty.2 y9 y10
    subst z1
    subst z3
    have ea : avx nax dx = axa (t0.2.2.2.1 v) := by
      unfold avx axa
      rw [← y7]
      split
      · rfl
      · rw [y8 0 (by omega)]
    have eb : bvx nax dx = axb (t0.2.2.2.1 v) := by
      unfold bvx axb
      rw [← y7]
      split
      · rfl
      · rw [y8 1 (by omega)]
    have es : addV s nm (t0.2.2.2.1 v).2.1 (avx nax dx) (bvx nax dx) (t0.2.2.2.1 v).2.2.2.2.1 = cutV t0 (v + 1) := by
      rw [y5, y6, ea, eb]
      exact cut_add y4
    refine ⟨B, _, true, addV s nm (t0.2.2.2.1 v).2.1 (avx nax dx) (bvx nax dx) (t0.2.2.2.1 v).2.2.2.2.1, c2, ro2, k4, k2, kh, ⟨e14 14 (by decide), e14 15 (by decide)⟩, k3, k5, fun _ => ⟨VF_MH hF k1 hH hnv hv ty.1 ty.2 hn hd hz z2, HP_addV hP hnm hfn (y1.2.2.2.2.2 v y3), ⟨rfl, rfl, by show s.2.2.1 + 1 = v + 1; omega, rfl, fun u hu => addV_old (by omega)⟩, ?_, ?_⟩, fun t1 e => ?_⟩
    · rw [← hnv, addV_new]
      exact (vx_ok hH.1 hn hd hz).2.1
    · rw [← hnv, addV_new, hnv]
      exact z5
    · cases e
      refine ⟨rfl, es, z4, ?_⟩
      rw [vtl_len]
      omega
/-- name and number of axes -/
theorem n_rv0 {d b h v c : Nat} {A : am_H} {R : Nat → Nat → Int32} {f : mo_F} {D : List Nat} {ro : Bool} {s : sg_S} (hH : MHn R h v s) (hnv : s.2.2.1 = v) (hv : v < 5) (hM : MM b A R (sat f c ro)) (hD : MDr R f D) (hc : c < 400000) : ∃ B, am_fr (at21 b) A B ∧ MM b B (setR (setR R 5 (upd (R 5) (5 * h + v) (nx D c ro))) 7 (upd (R 7) (5 * h + v) (rx D (c + 8) 4 (rn D c 8 ro)))) (sat f (c + 12) (rn D c 12 ro)) ∧ ((pev (d + 3) 254 [some (.ref b), some (.int (nI h)), some (.int (nI v)), none, none, none] [] A = some (some (.int 0), B) ∧ ¬ (isNb (nx D c ro) = true ∧ fnd (fun v => (s.2.2.2.1 v).1) (nx D c ro) s.2.2.1 = none ∧ ∃ nax, nax ≤ 2 ∧ rx D (c + 8) 4 (rn D c 8 ro) = nI nax)) ∨ ∃ nax, isNb (nx D c ro) = true ∧ fnd (fun v => (s.2.2.2.1 v).1) (nx D c ro) s.2.2.1 = none ∧ nax ≤ 2 ∧ rx D (c + 8) 4 (rn D c 8 ro) = nI nax ∧ ∀ Y, pev (d + 3) 255 [some (.ref b), some (.int (nI h)), some (.int (nI v)), some (.int (nI (5 * h + v))), some (.int (nI 0)), none] [] B = some Y → pev (d + 3) 254 [some (.ref b), some (.int (nI h)), some (.int (nI v)), none, none, none] [] A = some Y) := by
  have hb := hM.2.1
  have hh := hH.2.1
  obtain ⟨g1, g2, g3, g4, g5, g6⟩ := id hH
  obtain ⟨B1, e1, m1, f1⟩ := n_readName (d := d + 1) (by omega) hM hD
  have w1 := m1.set (i := 5) (by decide) (by decide) (upd (R 5) (5 * h + v) (nx D c ro))
  obtain ⟨B2, e2, m2, f2⟩ := n_read (d := d + 2) (w := 4) (by decide) (by omega) w1 (hD.same rfl rfl)
  rw [rn_rn] at m2
  have w2 := m2.set (i := 7) (by decide) (by decide) (upd (R 7) (5 * h + v) (rx D (c + 8) 4 (rn D c 8 ro)))
  have F2 : am_fr (at21 b) A (am_set B2 (b + 7) (.inl (0, msz 7, upd (R 7) (5 * h + v) (rx D (c + 8) 4 (rn D c 8 ro))))) := ((f1.trans ((am_fr.refl B1).set ⟨by omega, by omega⟩)).trans f2).trans ((am_fr.refl B2).set ⟨by omega, by omega⟩)
  refine ⟨_, F2, w2, ?_⟩
  have e5 : (5 : Int32) * nI h + nI v = nI (5 * h + v) := by rw [show (5 : Int32) = nI 5 from rfl, pk_mul, nI_add]
  have ix5 := x_ix (show 5 * h + v < 10 by omega) (show 5 * h + v < 2147483648 by omega)
  have r5 : B1.2.2 (b + 5) = some (.inl (0, 10, R 5)) := m1.2.2 5 (by decide) (by decide)
  have r7 : B2.2.2 (b + 7) = some (.inl (0, 10, R 7)) := m2.2.2 7 (by decide) (by decide)
  have s5 : B2.2.2 (b + 5) = some (.inl (0, 10, upd (R 5) (5 * h + v) (nx D c ro))) := m2.2.2 5 (by decide) (by decide)
  have e2' : pev (d + 2) 244 [some (.ref b), some (.int 4), none, none] [] (am_set B1 (b + 5) (.inl (0, 10, upd (R 5) (5 * h + v) (nx D c ro)))) = some (some (.int (rx D (c + 8) 4 (rn D c 8 ro))), B2) := e2
  have eN := n_isName (d := d + 2) (A := am_set B2 (b + 7) (.inl (0, 10, upd (R 7) (5 * h + v) (rx D (c + 8) 4 (rn D c 8 ro))))) (nx D c ro)
  have eV : pev (d + 2) 159 [some (.ref b), some (.int (nI h)), some (.int (nx D c ro)), some (.int (-1)), none, none] [] (am_set B2 (b + 7) (.inl (0, 10, upd (R 7) (5 * h + v) (rx D (c + 8) 4 (rn D c 8 ro))))) = some (some (.int (bz (fnd (fun v => (s.2.2.2.1 v).1) (nx D c ro) v).isSome)), am_set B2 (b + 7) (.inl (0, 10, upd (R 7) (5 * h + v) (rx D (c + 8) 4 (rn D c 8 ro))))) := by
    have := n_varNamed (d := d + 2) (b := b) (h := h) (nm := nx D c ro) (e := -1) (n := v) (g := fun v => (s.2.2.2.1 v).1) w2 hh (by omega) g3.2 (fun k hk => by
      rw [setR_ne (by decide), setR_self, pk_un (by omega)]
      exact (g6 k (by omega)).1)
    rw [nmd_fnd (by omega)] at this
    exact this
  cases cN : isNb (nx D c ro) with
  | false =>
    rw [cN] at eN
    refine Or.inl ⟨?_, fun e => by cases e.1⟩
    refine e_254 ?_; simp only [b_254, i_int, i_long, i_null, i_stat, i_iload, i_lload, i_aload, i_istore, i_astore, i_lstore, i_iinc, i_ii, i_idz, i_i, i_ll, i_lsh, i_i2l, i_l2i, i_lcmp, i_dup, i_pop, i_dup2, i_ifeq, i_ifne, i_iflt, i_ifge, i_ifgt, i_ifle, i_cmpeq, i_cmpne, i_cmplt, i_cmpge, i_cmpgt, i_cmple, i_ifnull, i_ifnonnull, i_getf, am_wr, i_putI, i_putZ, i_putR, i_iald, i_iast, i_aald, i_aast, i_alen, i_newi, i_newq, i_new, i_recv, i_iret, i_zret, i_lret, i_aret, i_vret, List.getElem?_cons_zero, List.getElem?_cons_succ, Option.bind_some, Option.toList_some, Option.toList_none, List.cons_append, List.nil_append, x_nI, am_put, am_put2, List.length_cons, List.length_nil, List.set_cons_zero, List.set_cons_succ, Nat.reduceAdd, Nat.reduceLT, Nat.reduceLeDiff, Nat.reduceEqDiff, Nat.add_left_cancel_iff, Nat.add_eq_left, Nat.left_eq_add, Nat.succ_ne_self, Nat.reduceSub, reduceIte, ite_self, eq_self, or_true, true_or, or_false, false_or, or_self, i10, not_true_eq_false, not_false_eq_true, x_call1, x_call2, x_call3, x_call4, x_call5, x_call6, x_sl0, x_sli, x_slr, x_sln, x_sll, am_ent, List.map_nil, List.map_cons, List.sum_nil, List.sum_cons, Value.category, and_true, true_and, and_self, Nat.zero_le, List.replicate_succ, List.replicate_zero, List.reduceReplicate, x_obj_set, x_row_set, x_len_set, x_obx, x_rox, x_rv, e5, x_obj hM.1, mo_obj, sat, e1, x_obj m1.1, x_row r5, ix5, x_own (show 5 ≤ b + 5 by omega), e2', x_obj m2.1, x_row r7, x_own (show 5 ≤ b + 7 by omega), x_row s5, pk_us, eN, bz_false]
    all_goals rfl
  | true =>
    rw [cN] at eN
    rw [hnv]
    cases cf : fnd (fun v => (s.2.2.2.1 v).1) (nx D c ro) v with
    | some j =>
      rw [cf] at eV
      have ed : bz (Option.isSome (some j)) = 1 := rfl
      rw [ed] at eV
      refine Or.inl ⟨?_, fun e => by cases e.2.1⟩
      refine e_254 ?_; simp only [b_254, i_int, i_long, i_null, i_stat, i_iload, i_lload, i_aload, i_istore, i_astore, i_lstore, i_iinc, i_ii, i_idz, i_i, i_ll, i_lsh, i_i2l, i_l2i, i_lcmp, i_dup, i_pop, i_dup2, i_ifeq, i_ifne, i_iflt, i_ifge, i_ifgt, i_ifle, i_cmpeq, i_cmpne, i_cmplt, i_cmpge, i_cmpgt, i_cmple, i_ifnull, i_ifnonnull, i_getf, am_wr, i_putI, i_putZ, i_putR, i_iald, i_iast, i_aald, i_aast, i_alen, i_newi, i_newq, i_new, i_recv, i_iret, i_zret, i_lret, i_aret, i_vret, List.getElem?_cons_zero, List.getElem?_cons_succ, Option.bind_some, Option.toList_some, Option.toList_none, List.cons_append, List.nil_append, x_nI, am_put, am_put2, List.length_cons, List.length_nil, List.set_cons_zero, List.set_cons_succ, Nat.reduceAdd, Nat.reduceLT, Nat.reduceLeDiff, Nat.reduceEqDiff, Nat.add_left_cancel_iff, Nat.add_eq_left, Nat.left_eq_add, Nat.succ_ne_self, Nat.reduceSub, reduceIte, ite_self, eq_self, or_true, true_or, or_false, false_or, or_self, i10, not_true_eq_false, not_false_eq_true, x_call1, x_call2, x_call3, x_call4, x_call5, x_call6, x_sl0, x_sli, x_slr, x_sln, x_sll, am_ent, List.map_nil, List.map_cons, List.sum_nil, List.sum_cons, Value.category, and_true, true_and, and_self, Nat.zero_le, List.replicate_succ, List.replicate_zero, List.reduceReplicate, x_obj_set, x_row_set, x_len_set, x_obx, x_rox, x_rv, e5, x_obj hM.1, mo_obj, sat, e1, x_obj m1.1, x_row r5, ix5, x_own (show 5 ≤ b + 5 by omega), e2', x_obj m2.1, x_row r7, x_own (show 5 ≤ b + 7 by omega), x_row s5, pk_us, eN, bz_true, eV]
      all_goals rfl
    | none =>
      rw [cf] at eV
      have ed : bz (Option.isSome (none : Option Nat)) = 0 := rfl
      rw [ed] at eV
      by_cases c1 : rx D (c + 8) 4 (rn D c 8 ro) < 0
      · refine Or.inl ⟨?_, fun ⟨_, _, nax, hn, e⟩ => ?_⟩
        · refine e_254 ?_; simp only [b_254, i_int, i_long, i_null, i_stat, i_iload, i_lload, i_aload, i_istore, i_astore, i_lstore, i_iinc, i_ii, i_idz, i_i, i_ll, i_lsh, i_i2l, i_l2i, i_lcmp, i_dup, i_pop, i_dup2, i_ifeq, i_ifne, i_iflt, i_ifge, i_ifgt, i_ifle, i_cmpeq, i_cmpne, i_cmplt, i_cmpge, i_cmpgt, i_cmple, i_ifnull, i_ifnonnull, i_getf, am_wr, i_putI, i_putZ, i_putR, i_iald, i_iast, i_aald, i_aast, i_alen, i_newi, i_newq, i_new, i_recv, i_iret, i_zret, i_lret, i_aret, i_vret, List.getElem?_cons_zero, List.getElem?_cons_succ, Option.bind_some, Option.toList_some, Option.toList_none, List.cons_append, List.nil_append, x_nI, am_put, am_put2, List.length_cons, List.length_nil, List.set_cons_zero, List.set_cons_succ, Nat.reduceAdd, Nat.reduceLT, Nat.reduceLeDiff, Nat.reduceEqDiff, Nat.add_left_cancel_iff, Nat.add_eq_left, Nat.left_eq_add, Nat.succ_ne_self, Nat.reduceSub, reduceIte, ite_self, eq_self, or_true, true_or, or_false, false_or, or_self, i10, not_true_eq_false, not_false_eq_true, x_call1, x_call2, x_call3, x_call4, x_call5, x_call6, x_sl0, x_sli, x_slr, x_sln, x_sll, am_ent, List.map_nil, List.map_cons, List.sum_nil, List.sum_cons, Value.category, and_true, true_and, and_self, Nat.zero_le, List.replicate_succ, List.replicate_zero, List.reduceReplicate, x_obj_set, x_row_set, x_len_set, x_obx, x_rox, x_rv, e5, x_obj hM.1, mo_obj, sat, e1, x_obj m1.1, x_row r5, ix5, x_own (show 5 ≤ b + 5 by omega), e2', x_obj m2.1, x_row r7, x_own (show 5 ≤ b + 7 by omega), x_row s5, pk_us, eN, bz_true, eV, c1]
          all_goals rfl
        · rw [e] at c1
          exact nI_pos (by omega) c1
      · by_cases c2 : rx D (c + 8) 4 (rn D c 8 ro) ≤ 2
        · obtain ⟨nax, hn, en⟩ := nI_of2 (M := 2) (n := 2) rfl c1 c2
          refine Or.inr ⟨nax, rfl, rfl, hn, en, fun Y hY => ?_⟩
          refine e_254 ?_; simp only [b_254, i_int, i_long, i_null, i_stat, i_iload, i_lload, i_aload, i_istore, i_astore, i_lstore, i_iinc, i_ii, i_idz, i_i, i_ll, i_lsh, i_i2l, i_l2i, i_lcmp, i_dup, i_pop, i_dup2, i_ifeq, i_ifne, i_iflt, i_ifge, i_ifgt, i_ifle, i_cmpeq, i_cmpne, i_cmplt, i_cmpge, i_cmpgt, i_cmple, i_ifnull, i_ifnonnull, i_getf, am_wr, i_putI, i_putZ, i_putR, i_iald, i_iast, i_aald, i_aast, i_alen, i_newi, i_newq, i_new, i_recv, i_iret, i_zret, i_lret, i_aret, i_vret, List.getElem?_cons_zero, List.getElem?_cons_succ, Option.bind_some, Option.toList_some, Option.toList_none, List.cons_append, List.nil_append, x_nI, am_put, am_put2, List.length_cons, List.length_nil, List.set_cons_zero, List.set_cons_succ, Nat.reduceAdd, Nat.reduceLT, Nat.reduceLeDiff, Nat.reduceEqDiff, Nat.add_left_cancel_iff, Nat.add_eq_left, Nat.left_eq_add, Nat.succ_ne_self, Nat.reduceSub, reduceIte, ite_self, eq_self, or_true, true_or, or_false, false_or, or_self, i10, not_true_eq_false, not_false_eq_true, x_call1, x_call2, x_call3, x_call4, x_call5, x_call6, x_sl0, x_sli, x_slr, x_sln, x_sll, am_ent, List.map_nil, List.map_cons, List.sum_nil, List.sum_cons, Value.category, and_true, true_and, and_self, Nat.zero_le, List.replicate_succ, List.replicate_zero, List.reduceReplicate, x_obj_set, x_row_set, x_len_set, x_obx, x_rox, x_rv, e5, x_obj hM.1, mo_obj, sat, e1, x_obj m1.1, x_row r5, ix5, x_own (show 5 ≤ b + 5 by omega), e2', x_obj m2.1, x_row r7, x_own (show 5 ≤ b + 7 by omega), x_row s5, pk_us, eN, bz_true, eV, c1, c2]
          exact hY
        · refine Or.inl ⟨?_, fun ⟨_, _, nax, hn, e⟩ => ?_⟩
          · refine e_254 ?_; simp only [b_254, i_int, i_long, i_null, i_stat, i_iload, i_lload, i_aload, i_istore, i_astore, i_lstore, i_iinc, i_ii, i_idz, i_i, i_ll, i_lsh, i_i2l, i_l2i, i_lcmp, i_dup, i_pop, i_dup2, i_ifeq, i_ifne, i_iflt, i_ifge, i_ifgt, i_ifle, i_cmpeq, i_cmpne, i_cmplt, i_cmpge, i_cmpgt, i_cmple, i_ifnull, i_ifnonnull, i_getf, am_wr, i_putI, i_putZ, i_putR, i_iald, i_iast, i_aald, i_aast, i_alen, i_newi, i_newq, i_new, i_recv, i_iret, i_zret, i_lret, i_aret, i_vret, List.getElem?_cons_zero, List.getElem?_cons_succ, Option.bind_some, Option.toList_some, Option.toList_none, List.cons_append, List.nil_append, x_nI, am_put, am_put2, List.length_cons, List.length_nil, List.set_cons_zero, List.set_cons_succ, Nat.reduceAdd, Nat.reduceLT, Nat.reduceLeDiff, Nat.reduceEqDiff, Nat.add_left_cancel_iff, Nat.add_eq_left, Nat.left_eq_add, Nat.succ_ne_self, Nat.reduceSub, reduceIte, ite_self, eq_self, or_true, true_or, or_false, false_or, or_self, i10, not_true_eq_false, not_false_eq_true, x_call1, x_call2, x_call3, x_call4, x_call5, x_call6, x_sl0, x_sli, x_slr, x_sln, x_sll, am_ent, List.map_nil, List.map_cons, List.sum_nil, List.sum_cons, Value.category, and_true, true_and, and_self, Nat.zero_le, List.replicate_succ, List.replicate_zero, List.reduceReplicate, x_obj_set, x_row_set, x_len_set, x_obx, x_rox, x_rv, e5, x_obj hM.1, mo_obj, sat, e1, x_obj m1.1, x_row r5, ix5, x_own (show 5 ≤ b + 5 by omega), e2', x_obj m2.1, x_row r7, x_own (show 5 ≤ b + 7 by omega), x_row s5, pk_us, eN, bz_true, eV, c1, c2]
            all_goals rfl
          · rw [e] at c2
            exact c2 (nI_le (b := 2) hn (by decide))
