theorem tr_len : lw_tbl.length = 2600 := by decide +kernel
