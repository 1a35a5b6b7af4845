/-! 06: what is true of each method, by program -/
theorem M_ok16 : (List.range 9).all (fun k => !mOwn (144 + k) || (mBig (144 + k) || mOK (144 + k))) = true := by decide +kernel
theorem M_ok17 : (List.range 9).all (fun k => !mOwn (153 + k) || (mBig (153 + k) || mOK (153 + k))) = true := by decide +kernel
theorem M_ok18 : (List.range 9).all (fun k => !mOwn (162 + k) || (mBig (162 + k) || mOK (162 + k))) = true := by decide +kernel
theorem M_ok19 : (List.range 9).all (fun k => !mOwn (171 + k) || (mBig (171 + k) || mOK (171 + k))) = true := by decide +kernel
