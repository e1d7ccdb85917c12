set_option maxRecDepth 1000000 in
theorem mj_RS2b : mj_refs.all (fun t => decide (mj_h2.2.2 t.1 t.2.1 = some t.2.2)) = true := by decide +kernel
theorem mj_RS2 : mj_RS mj_h2 := fun t ht => of_decide_eq_true (List.all_eq_true.mp mj_RS2b t ht)
set_option maxRecDepth 1000000 in
theorem mj_ints2 : mj_h2.1 0 1 = 0 ∧ mj_h2.2.1 0 2 = 0 ∧ mj_h2.1 2 6 = 0 ∧ mj_h2.1 9 1 = 0 ∧ mj_h2.1 9 3 = 0 ∧ mj_h2.1 565 1 = 0 ∧ mj_h2.1 565 2 = -1 ∧ mj_h2.1 567 2 = 0 ∧ mj_h2.1 573 2 = 0 ∧ mj_h2.1 573 3 = 0 ∧ mj_h2.2.1 573 4 = 0 ∧ mj_h2.1 573 9 = 0 ∧ mj_h2.1 573 10 = 0 ∧ mj_h2.1 573 18 = 0 ∧ mj_h2.1 573 34 = 0 := by decide +kernel
theorem mj_made1 : mj_run 6000 60 0 0 (mj_entry 0 [.ref 0]) [] [(0, 8)] (mj_zero mj_h0 0) = some (none, mj_K1, mj_h1) := by
  obtain ⟨h', e⟩ := mj_isn_ok mj_r1_ok
  have e2 : mj_h1 = h' := by unfold mj_h1; rw [e]
  rw [e2]
  exact e
theorem mj_made2 : mj_run 6000 60 22 0 (mj_entry 22 [.ref mj_K1.length]) [] (mj_K1 ++ [(12, 44)]) (mj_zero mj_h1 mj_K1.length) = some (none, mj_KK, mj_h2) := by
  have el : mj_K1.length = 573 := by decide +kernel
  obtain ⟨h', e⟩ := mj_isn_ok mj_r2_ok
  have e2 : mj_h2 = h' := by unfold mj_h2; rw [e]
  rw [e2, el]
  exact e
