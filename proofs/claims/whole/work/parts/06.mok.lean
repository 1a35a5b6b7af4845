/-! 06: what is true of each method, by program -/
theorem M_ok0 : (List.range 27).all (fun k => decide (363 ≤ 0 + k ∧ 0 + k < 366) || decide (0 + k = 404) || mOK (0 + k)) = true := by decide +kernel
theorem M_ok1 : (List.range 27).all (fun k => decide (363 ≤ 27 + k ∧ 27 + k < 366) || decide (27 + k = 404) || mOK (27 + k)) = true := by decide +kernel
theorem M_ok2 : (List.range 27).all (fun k => decide (363 ≤ 54 + k ∧ 54 + k < 366) || decide (54 + k = 404) || mOK (54 + k)) = true := by decide +kernel
theorem M_ok3 : (List.range 27).all (fun k => decide (363 ≤ 81 + k ∧ 81 + k < 366) || decide (81 + k = 404) || mOK (81 + k)) = true := by decide +kernel
theorem M_ok4 : (List.range 27).all (fun k => decide (363 ≤ 108 + k ∧ 108 + k < 366) || decide (108 + k = 404) || mOK (108 + k)) = true := by decide +kernel
theorem M_ok5 : (List.range 27).all (fun k => decide (363 ≤ 135 + k ∧ 135 + k < 366) || decide (135 + k = 404) || mOK (135 + k)) = true := by decide +kernel
theorem M_ok6 : (List.range 27).all (fun k => decide (363 ≤ 162 + k ∧ 162 + k < 366) || decide (162 + k = 404) || mOK (162 + k)) = true := by decide +kernel
theorem M_ok7 : (List.range 27).all (fun k => decide (363 ≤ 189 + k ∧ 189 + k < 366) || decide (189 + k = 404) || mOK (189 + k)) = true := by decide +kernel
theorem M_ok8 : (List.range 27).all (fun k => decide (363 ≤ 216 + k ∧ 216 + k < 366) || decide (216 + k = 404) || mOK (216 + k)) = true := by decide +kernel
theorem M_ok9 : (List.range 27).all (fun k => decide (363 ≤ 243 + k ∧ 243 + k < 366) || decide (243 + k = 404) || mOK (243 + k)) = true := by decide +kernel
theorem M_ok10 : (List.range 27).all (fun k => decide (363 ≤ 270 + k ∧ 270 + k < 366) || decide (270 + k = 404) || mOK (270 + k)) = true := by decide +kernel
theorem M_ok11 : (List.range 27).all (fun k => decide (363 ≤ 297 + k ∧ 297 + k < 366) || decide (297 + k = 404) || mOK (297 + k)) = true := by decide +kernel
theorem M_ok12 : (List.range 27).all (fun k => decide (363 ≤ 324 + k ∧ 324 + k < 366) || decide (324 + k = 404) || mOK (324 + k)) = true := by decide +kernel
theorem M_ok13 : (List.range 27).all (fun k => decide (363 ≤ 351 + k ∧ 351 + k < 366) || decide (351 + k = 404) || mOK (351 + k)) = true := by decide +kernel
theorem M_ok14 : (List.range 27).all (fun k => decide (363 ≤ 378 + k ∧ 378 + k < 366) || decide (378 + k = 404) || mOK (378 + k)) = true := by decide +kernel
theorem M_ok {i : Nat} (h : i < 405) (hl : i ≠ m_L_law) (hj : ¬ (363 ≤ i ∧ i < 366)) : mOK i = true := by
  have key : ∀ (a w : Nat), (List.range w).all (fun k => decide (363 ≤ a + k ∧ a + k < 366) || decide (a + k = 404) || mOK (a + k)) = true → a ≤ i → i < a + w → mOK i = true := by
    intro a w hh h1 h2
    have h3 := List.all_eq_true.mp hh (i - a) (List.mem_range.mpr (by omega))
    rw [show a + (i - a) = i by omega] at h3
    simp only [Bool.or_eq_true, decide_eq_true_eq] at h3
    rcases h3 with (h3 | h3) | h3
    · exact absurd h3 hj
    · exact absurd h3 hl
    · exact h3
  by_cases h0 : i < 27
  · exact key 0 27 M_ok0 (by omega) (by omega)
  by_cases h1 : i < 54
  · exact key 27 27 M_ok1 (by omega) (by omega)
  by_cases h2 : i < 81
  · exact key 54 27 M_ok2 (by omega) (by omega)
  by_cases h3 : i < 108
  · exact key 81 27 M_ok3 (by omega) (by omega)
  by_cases h4 : i < 135
  · exact key 108 27 M_ok4 (by omega) (by omega)
  by_cases h5 : i < 162
  · exact key 135 27 M_ok5 (by omega) (by omega)
  by_cases h6 : i < 189
  · exact key 162 27 M_ok6 (by omega) (by omega)
  by_cases h7 : i < 216
  · exact key 189 27 M_ok7 (by omega) (by omega)
  by_cases h8 : i < 243
  · exact key 216 27 M_ok8 (by omega) (by omega)
  by_cases h9 : i < 270
  · exact key 243 27 M_ok9 (by omega) (by omega)
  by_cases h10 : i < 297
  · exact key 270 27 M_ok10 (by omega) (by omega)
  by_cases h11 : i < 324
  · exact key 297 27 M_ok11 (by omega) (by omega)
  by_cases h12 : i < 351
  · exact key 324 27 M_ok12 (by omega) (by omega)
  by_cases h13 : i < 378
  · exact key 351 27 M_ok13 (by omega) (by omega)
  exact key 378 27 M_ok14 (by omega) (by omega)
