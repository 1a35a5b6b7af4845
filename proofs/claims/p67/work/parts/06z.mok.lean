/-! 06: what is true of each method -/
set_option maxRecDepth 100000 in
theorem M_okB139 : mOK 139 = true := by
  unfold mOK
  simp only [Bool.and_eq_true, decide_eq_true_eq]
  refine ⟨⟨⟨⟨⟨⟨rfl, ?_⟩, ?_⟩, ?_⟩, ?_⟩, ?_⟩, ?_⟩ <;> decide +kernel
set_option maxRecDepth 100000 in
theorem M_okB147 : mOK 147 = true := by
  unfold mOK
  simp only [Bool.and_eq_true, decide_eq_true_eq]
  refine ⟨⟨⟨⟨⟨⟨rfl, ?_⟩, ?_⟩, ?_⟩, ?_⟩, ?_⟩, ?_⟩ <;> decide +kernel
set_option maxRecDepth 100000 in
theorem M_okB194 : mOK 194 = true := by
  unfold mOK
  simp only [Bool.and_eq_true, decide_eq_true_eq]
  refine ⟨⟨⟨⟨⟨⟨rfl, ?_⟩, ?_⟩, ?_⟩, ?_⟩, ?_⟩, ?_⟩ <;> decide +kernel
set_option maxRecDepth 100000 in
theorem M_okB195 : mOK 195 = true := by
  unfold mOK
  simp only [Bool.and_eq_true, decide_eq_true_eq]
  refine ⟨⟨⟨⟨⟨⟨rfl, ?_⟩, ?_⟩, ?_⟩, ?_⟩, ?_⟩, ?_⟩ <;> decide +kernel
set_option maxRecDepth 100000 in
theorem M_okB200 : mOK 200 = true := by
  unfold mOK
  simp only [Bool.and_eq_true, decide_eq_true_eq]
  refine ⟨⟨⟨⟨⟨⟨rfl, ?_⟩, ?_⟩, ?_⟩, ?_⟩, ?_⟩, ?_⟩ <;> decide +kernel
theorem mOwn_spec {i : Nat} (h : mOwn i = true) : i < 202 ∧ mOK i = true := by
  have hl : i < 202 := by
    simp only [mOwn, Bool.and_eq_true, decide_eq_true_eq] at h
    exact h.1.1.1
  refine ⟨hl, ?_⟩
  by_cases hb139 : i = 139
  · rw [hb139]; exact M_okB139
  by_cases hb147 : i = 147
  · rw [hb147]; exact M_okB147
  by_cases hb194 : i = 194
  · rw [hb194]; exact M_okB194
  by_cases hb195 : i = 195
  · rw [hb195]; exact M_okB195
  by_cases hb200 : i = 200
  · rw [hb200]; exact M_okB200
  have hbig : mBig i = false := by simp [mBig, *]
  have key : ∀ (a w : Nat), (List.range w).all (fun k => !mOwn (a + k) || (mBig (a + k) || mOK (a + k))) = true → a ≤ i → i < a + w → mOK i = true := by
    intro a w hh h1 h2
    have h3 := List.all_eq_true.mp hh (i - a) (List.mem_range.mpr (by omega))
    rw [show a + (i - a) = i by omega, h, hbig] at h3
    simpa using h3
  by_cases h0 : i < 9
  · exact key 0 9 M_ok0 (by omega) (by omega)
  by_cases h1 : i < 18
  · exact key 9 9 M_ok1 (by omega) (by omega)
  by_cases h2 : i < 27
  · exact key 18 9 M_ok2 (by omega) (by omega)
  by_cases h3 : i < 36
  · exact key 27 9 M_ok3 (by omega) (by omega)
  by_cases h4 : i < 45
  · exact key 36 9 M_ok4 (by omega) (by omega)
  by_cases h5 : i < 54
  · exact key 45 9 M_ok5 (by omega) (by omega)
  by_cases h6 : i < 63
  · exact key 54 9 M_ok6 (by omega) (by omega)
  by_cases h7 : i < 72
  · exact key 63 9 M_ok7 (by omega) (by omega)
  by_cases h8 : i < 81
  · exact key 72 9 M_ok8 (by omega) (by omega)
  by_cases h9 : i < 90
  · exact key 81 9 M_ok9 (by omega) (by omega)
  by_cases h10 : i < 99
  · exact key 90 9 M_ok10 (by omega) (by omega)
  by_cases h11 : i < 108
  · exact key 99 9 M_ok11 (by omega) (by omega)
  by_cases h12 : i < 117
  · exact key 108 9 M_ok12 (by omega) (by omega)
  by_cases h13 : i < 126
  · exact key 117 9 M_ok13 (by omega) (by omega)
  by_cases h14 : i < 135
  · exact key 126 9 M_ok14 (by omega) (by omega)
  by_cases h15 : i < 144
  · exact key 135 9 M_ok15 (by omega) (by omega)
  by_cases h16 : i < 153
  · exact key 144 9 M_ok16 (by omega) (by omega)
  by_cases h17 : i < 162
  · exact key 153 9 M_ok17 (by omega) (by omega)
  by_cases h18 : i < 171
  · exact key 162 9 M_ok18 (by omega) (by omega)
  by_cases h19 : i < 180
  · exact key 171 9 M_ok19 (by omega) (by omega)
  by_cases h20 : i < 189
  · exact key 180 9 M_ok20 (by omega) (by omega)
  by_cases h21 : i < 198
  · exact key 189 9 M_ok21 (by omega) (by omega)
  exact key 198 4 M_ok22 (by omega) (by omega)
