/-! 06: what is true of each method, by program -/
theorem M_ok4 : (List.range 9).all (fun k => !mOwn (36 + k) || (mBig (36 + k) || mOK (36 + k))) = true := by decide +kernel
theorem M_ok5 : (List.range 9).all (fun k => !mOwn (45 + k) || (mBig (45 + k) || mOK (45 + k))) = true := by decide +kernel
theorem M_ok6 : (List.range 9).all (fun k => !mOwn (54 + k) || (mBig (54 + k) || mOK (54 + k))) = true := by decide +kernel
theorem M_ok7 : (List.range 9).all (fun k => !mOwn (63 + k) || (mBig (63 + k) || mOK (63 + k))) = true := by decide +kernel
