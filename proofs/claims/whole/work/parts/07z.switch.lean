theorem sw_nil {l : Launch} {I : am_I} {d : Nat} : ∀ q ∈ ([] : List am_F).zip ([] : List Nat), am_S l I q.2 d q.1 := fun _ h => absurd h List.not_mem_nil
theorem sw_cons {l : Launch} {I : am_I} {d pc : Nat} {t : am_F} {ts : List am_F} {tgs : List Nat} (h : am_S l I pc d t) (hs : ∀ q ∈ ts.zip tgs, am_S l I q.2 d q.1) : ∀ q ∈ (t :: ts).zip (pc :: tgs), am_S l I q.2 d q.1 := by
  intro q hq
  rw [List.zip_cons_cons] at hq
  rcases List.mem_cons.mp hq with rfl | h1
  · exact h
  · exact hs q h1
