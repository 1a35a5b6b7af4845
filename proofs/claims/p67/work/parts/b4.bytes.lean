/-! b4: bytes, names, pages, quotients -/
theorem fd_dec : (List.range 13).all (fun a => (List.range 12).all fun b => decide ((FP.fdiv (FP.i2f (nI a)) (FP.i2f (nI (b + 1)))) &&& 0x7fffffff ≤ 0x7f800000)) = true := by decide +kernel
theorem fd_ok {a b : Nat} (ha : a ≤ 12) (hb : 1 ≤ b) (hb2 : b ≤ 12) : vf_n32 (FP.fdiv (FP.i2f (nI a)) (FP.i2f (nI b))) := by
  have h1 := List.all_eq_true.mp fd_dec a (List.mem_range.mpr (by omega))
  have h2 := List.all_eq_true.mp h1 (b - 1) (List.mem_range.mpr (by omega))
  have e : b - 1 + 1 = b := by omega
  rw [e] at h2
  have h3 := of_decide_eq_true h2
  exact h3
