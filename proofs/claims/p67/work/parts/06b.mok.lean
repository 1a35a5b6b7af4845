/-! 06: what is true of each method, by program -/
theorem M_ok0 : (List.range 9).all (fun k => !mOwn (0 + k) || (mBig (0 + k) || mOK (0 + k))) = true := by decide +kernel
theorem M_ok1 : (List.range 9).all (fun k => !mOwn (9 + k) || (mBig (9 + k) || mOK (9 + k))) = true := by decide +kernel
theorem M_ok2 : (List.range 9).all (fun k => !mOwn (18 + k) || (mBig (18 + k) || mOK (18 + k))) = true := by decide +kernel
theorem M_ok3 : (List.range 9).all (fun k => !mOwn (27 + k) || (mBig (27 + k) || mOK (27 + k))) = true := by decide +kernel
