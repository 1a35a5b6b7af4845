/-! 06: what is true of each method, by program -/
theorem M_ok20 : (List.range 9).all (fun k => !mOwn (180 + k) || (mBig (180 + k) || mOK (180 + k))) = true := by decide +kernel
theorem M_ok21 : (List.range 9).all (fun k => !mOwn (189 + k) || (mBig (189 + k) || mOK (189 + k))) = true := by decide +kernel
theorem M_ok22 : (List.range 4).all (fun k => !mOwn (198 + k) || (mBig (198 + k) || mOK (198 + k))) = true := by decide +kernel
