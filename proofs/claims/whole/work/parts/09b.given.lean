theorem uX0 {s : State} {args : Array Value} (h : ∀ w ∈ am_ws, w.before args s = true) : ∃ (cC : ClassId) (iS : Nat → Nat), u_Kn s RX0 TX0 5 cC iS := u_known h inX0 (h _ w_37)
theorem uX1 {s : State} {args : Array Value} (h : ∀ w ∈ am_ws, w.before args s = true) : ∃ (cC : ClassId) (iS : Nat → Nat), u_Kn s RX1 TX1 3 cC iS := u_known h inX1 (h _ w_16)
theorem uX2 {s : State} {args : Array Value} (h : ∀ w ∈ am_ws, w.before args s = true) : ∃ (cC : ClassId) (iS : Nat → Nat), u_Kn s RX2 TX2 3 cC iS := u_known h inX2 (h _ w_10)
theorem uX3 {s : State} {args : Array Value} (h : ∀ w ∈ am_ws, w.before args s = true) : ∃ (cC : ClassId) (iS : Nat → Nat), u_Kn s RX3 TX3 8 cC iS := u_known h inX3 (h _ w_4)
theorem uX4 {s : State} {args : Array Value} (h : ∀ w ∈ am_ws, w.before args s = true) : ∃ (cC : ClassId) (iS : Nat → Nat), u_Kn s RX4 TX4 8 cC iS := u_known h inX4 (h _ w_42)
theorem uX5 {s : State} {args : Array Value} (h : ∀ w ∈ am_ws, w.before args s = true) : ∃ (cC : ClassId) (iS : Nat → Nat), u_Kn s RX5 TX5 8 cC iS := u_known h inX5 (h _ w_502)
theorem uX6 {s : State} {args : Array Value} (h : ∀ w ∈ am_ws, w.before args s = true) : ∃ (cC : ClassId) (iS : Nat → Nat), u_Kn s RX6 TX6 26 cC iS := u_known h inX6 (h _ w_505)
theorem nestM_in : ∀ q ∈ am_nestM, Cond.methodLinkNest q.1 q.2.1 q.2.2.1 q.2.2.2 ∈ lw_tbl := List.forall_mem_cons.mpr ⟨List.mem_of_getElem? (i := 227) (by decide +kernel), List.forall_mem_cons.mpr ⟨List.mem_of_getElem? (i := 230) (by decide +kernel), List.forall_mem_cons.mpr ⟨List.mem_of_getElem? (i := 245) (by decide +kernel), List.forall_mem_cons.mpr ⟨List.mem_of_getElem? (i := 289) (by decide +kernel), List.forall_mem_cons.mpr ⟨List.mem_of_getElem? (i := 290) (by decide +kernel), List.forall_mem_cons.mpr ⟨List.mem_of_getElem? (i := 291) (by decide +kernel), List.forall_mem_cons.mpr ⟨List.mem_of_getElem? (i := 298) (by decide +kernel), List.forall_mem_cons.mpr ⟨List.mem_of_getElem? (i := 340) (by decide +kernel), List.forall_mem_cons.mpr ⟨List.mem_of_getElem? (i := 365) (by decide +kernel), List.forall_mem_cons.mpr ⟨List.mem_of_getElem? (i := 517) (by decide +kernel), fun _ h => absurd h List.not_mem_nil⟩⟩⟩⟩⟩⟩⟩⟩⟩⟩
theorem nestF_in : ∀ q ∈ am_nestF, Cond.fieldLinkNest q.1 q.2.1 q.2.2.1 q.2.2.2.1 q.2.2.2.2.1 q.2.2.2.2.2 ∈ lw_tbl := List.forall_mem_cons.mpr ⟨List.mem_of_getElem? (i := 268) (by decide +kernel), List.forall_mem_cons.mpr ⟨List.mem_of_getElem? (i := 338) (by decide +kernel), List.forall_mem_cons.mpr ⟨List.mem_of_getElem? (i := 364) (by decide +kernel), List.forall_mem_cons.mpr ⟨List.mem_of_getElem? (i := 605) (by decide +kernel), fun _ h => absurd h List.not_mem_nil⟩⟩⟩⟩
theorem ao_in : Cond.arrayOver (.object am_el) ∈ lw_tbl := List.mem_of_getElem? (i := 68) (by decide +kernel)
theorem ls_0 : Cond.laysStatic RX5 (am_sn 0) "[I" ∈ lw_tbl := List.mem_of_getElem? (i := 339) (by decide +kernel)
theorem ls_1 : Cond.laysStatic RX5 (am_sn 1) "[I" ∈ lw_tbl := List.mem_of_getElem? (i := 269) (by decide +kernel)
theorem ls_2 : Cond.laysStatic RX5 (am_sn 2) "[I" ∈ lw_tbl := List.mem_of_getElem? (i := 295) (by decide +kernel)
theorem ls_3 : Cond.laysStatic RX5 (am_sn 3) "[I" ∈ lw_tbl := List.mem_of_getElem? (i := 297) (by decide +kernel)
theorem ini_5 : Cond.initialized RX5 ∈ lw_tbl := List.mem_of_getElem? (i := 45) (by decide +kernel)
def am_s0 : Nat → Int32 := fun j => match j with
  | 0 => 0
  | 1 => 1
  | 2 => 1
  | 3 => 2
  | _ => 4
theorem st_0 {s : State} {args : Array Value} (h : (Jvm.Cond.and given_1 narrow_1).before args s = true) : ∃ t : Nat, (Term.static "SlabImage" "WIDTH" "[I").eval args s none [] s = some (.ref t) ∧ va_T .int t 5 (fun j => .int (am_s0 j)) (fun q => s.heap.size ≤ q) s s.heap := by
  have fl := flat_of_before _ h
  refine va_Tof (by decide) (fl _ (by decide +kernel)) (va_eqt (fl (Cond.eq (.length (Term.static "SlabImage" "WIDTH" "[I")) (.int 5)) (by decide +kernel))) (fun j hj => ?_) (fun a ha hb => by omega)
  match j, hj with
  | 0, _ => exact va_eqt (fl (Cond.eq (.elem (Term.static "SlabImage" "WIDTH" "[I") (.int 0)) (.int (0))) (by decide +kernel))
  | 1, _ => exact va_eqt (fl (Cond.eq (.elem (Term.static "SlabImage" "WIDTH" "[I") (.int 1)) (.int (1))) (by decide +kernel))
  | 2, _ => exact va_eqt (fl (Cond.eq (.elem (Term.static "SlabImage" "WIDTH" "[I") (.int 2)) (.int (1))) (by decide +kernel))
  | 3, _ => exact va_eqt (fl (Cond.eq (.elem (Term.static "SlabImage" "WIDTH" "[I") (.int 3)) (.int (2))) (by decide +kernel))
  | 4, _ => exact va_eqt (fl (Cond.eq (.elem (Term.static "SlabImage" "WIDTH" "[I") (.int 4)) (.int (4))) (by decide +kernel))
def am_s1 : Nat → Int32 := fun j => match j with
  | 0 => 0
  | 1 => -127
  | 2 => 0
  | 3 => -32767
  | _ => -2147483647
theorem st_1 {s : State} {args : Array Value} (h : (Jvm.Cond.and given_1 narrow_1).before args s = true) : ∃ t : Nat, (Term.static "SlabImage" "FILL" "[I").eval args s none [] s = some (.ref t) ∧ va_T .int t 5 (fun j => .int (am_s1 j)) (fun q => s.heap.size ≤ q) s s.heap := by
  have fl := flat_of_before _ h
  refine va_Tof (by decide) (fl _ (by decide +kernel)) (va_eqt (fl (Cond.eq (.length (Term.static "SlabImage" "FILL" "[I")) (.int 5)) (by decide +kernel))) (fun j hj => ?_) (fun a ha hb => by omega)
  match j, hj with
  | 0, _ => exact va_eqt (fl (Cond.eq (.elem (Term.static "SlabImage" "FILL" "[I") (.int 0)) (.int (0))) (by decide +kernel))
  | 1, _ => exact va_eqt (fl (Cond.eq (.elem (Term.static "SlabImage" "FILL" "[I") (.int 1)) (.int (-127))) (by decide +kernel))
  | 2, _ => exact va_eqt (fl (Cond.eq (.elem (Term.static "SlabImage" "FILL" "[I") (.int 2)) (.int (0))) (by decide +kernel))
  | 3, _ => exact va_eqt (fl (Cond.eq (.elem (Term.static "SlabImage" "FILL" "[I") (.int 3)) (.int (-32767))) (by decide +kernel))
  | 4, _ => exact va_eqt (fl (Cond.eq (.elem (Term.static "SlabImage" "FILL" "[I") (.int 4)) (.int (-2147483647))) (by decide +kernel))
def am_s2 : Nat → Int32 := fun j => match j with
  | 0 => 0
  | 1 => -128
  | 2 => 0
  | 3 => -32768
  | _ => -2147483648
theorem st_2 {s : State} {args : Array Value} (h : (Jvm.Cond.and given_1 narrow_1).before args s = true) : ∃ t : Nat, (Term.static "SlabImage" "LEAST" "[I").eval args s none [] s = some (.ref t) ∧ va_T .int t 5 (fun j => .int (am_s2 j)) (fun q => s.heap.size ≤ q) s s.heap := by
  have fl := flat_of_before _ h
  refine va_Tof (by decide) (fl _ (by decide +kernel)) (va_eqt (fl (Cond.eq (.length (Term.static "SlabImage" "LEAST" "[I")) (.int 5)) (by decide +kernel))) (fun j hj => ?_) (fun a ha hb => by omega)
  match j, hj with
  | 0, _ => exact va_eqt (fl (Cond.eq (.elem (Term.static "SlabImage" "LEAST" "[I") (.int 0)) (.int (0))) (by decide +kernel))
  | 1, _ => exact va_eqt (fl (Cond.eq (.elem (Term.static "SlabImage" "LEAST" "[I") (.int 1)) (.int (-128))) (by decide +kernel))
  | 2, _ => exact va_eqt (fl (Cond.eq (.elem (Term.static "SlabImage" "LEAST" "[I") (.int 2)) (.int (0))) (by decide +kernel))
  | 3, _ => exact va_eqt (fl (Cond.eq (.elem (Term.static "SlabImage" "LEAST" "[I") (.int 3)) (.int (-32768))) (by decide +kernel))
  | 4, _ => exact va_eqt (fl (Cond.eq (.elem (Term.static "SlabImage" "LEAST" "[I") (.int 4)) (.int (-2147483648))) (by decide +kernel))
def am_s3 : Nat → Int32 := fun j => match j with
  | 0 => 0
  | 1 => 127
  | 2 => 255
  | 3 => 32767
  | _ => 2147483647
theorem st_3 {s : State} {args : Array Value} (h : (Jvm.Cond.and given_1 narrow_1).before args s = true) : ∃ t : Nat, (Term.static "SlabImage" "GREATEST" "[I").eval args s none [] s = some (.ref t) ∧ va_T .int t 5 (fun j => .int (am_s3 j)) (fun q => s.heap.size ≤ q) s s.heap := by
  have fl := flat_of_before _ h
  refine va_Tof (by decide) (fl _ (by decide +kernel)) (va_eqt (fl (Cond.eq (.length (Term.static "SlabImage" "GREATEST" "[I")) (.int 5)) (by decide +kernel))) (fun j hj => ?_) (fun a ha hb => by omega)
  match j, hj with
  | 0, _ => exact va_eqt (fl (Cond.eq (.elem (Term.static "SlabImage" "GREATEST" "[I") (.int 0)) (.int (0))) (by decide +kernel))
  | 1, _ => exact va_eqt (fl (Cond.eq (.elem (Term.static "SlabImage" "GREATEST" "[I") (.int 1)) (.int (127))) (by decide +kernel))
  | 2, _ => exact va_eqt (fl (Cond.eq (.elem (Term.static "SlabImage" "GREATEST" "[I") (.int 2)) (.int (255))) (by decide +kernel))
  | 3, _ => exact va_eqt (fl (Cond.eq (.elem (Term.static "SlabImage" "GREATEST" "[I") (.int 3)) (.int (32767))) (by decide +kernel))
  | 4, _ => exact va_eqt (fl (Cond.eq (.elem (Term.static "SlabImage" "GREATEST" "[I") (.int 4)) (.int (2147483647))) (by decide +kernel))
