/-! 06: what is true of each method, by program -/
theorem M_ok8 : (List.range 9).all (fun k => !mOwn (72 + k) || (mBig (72 + k) || mOK (72 + k))) = true := by decide +kernel
theorem M_ok9 : (List.range 9).all (fun k => !mOwn (81 + k) || (mBig (81 + k) || mOK (81 + k))) = true := by decide +kernel
theorem M_ok10 : (List.range 9).all (fun k => !mOwn (90 + k) || (mBig (90 + k) || mOK (90 + k))) = true := by decide +kernel
theorem M_ok11 : (List.range 9).all (fun k => !mOwn (99 + k) || (mBig (99 + k) || mOK (99 + k))) = true := by decide +kernel
