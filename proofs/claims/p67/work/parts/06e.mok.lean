/-! 06: what is true of each method, by program -/
theorem M_ok12 : (List.range 9).all (fun k => !mOwn (108 + k) || (mBig (108 + k) || mOK (108 + k))) = true := by decide +kernel
theorem M_ok13 : (List.range 9).all (fun k => !mOwn (117 + k) || (mBig (117 + k) || mOK (117 + k))) = true := by decide +kernel
theorem M_ok14 : (List.range 9).all (fun k => !mOwn (126 + k) || (mBig (126 + k) || mOK (126 + k))) = true := by decide +kernel
theorem M_ok15 : (List.range 9).all (fun k => !mOwn (135 + k) || (mBig (135 + k) || mOK (135 + k))) = true := by decide +kernel
