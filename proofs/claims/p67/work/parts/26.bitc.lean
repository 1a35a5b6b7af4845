/-! 26: Integer.bitCount -/
section BC
variable {G : GG} {as : List Value} {h : HM} {o : Option Nat} {Q : XQ}
theorem bcs1 {x : Int32} (hx : EX G m_Integer_bitCount 10 [(0, .int (bc1 x))] [] h o 0 0 Q) : EX G m_Integer_bitCount 0 [(0, .int x)] [] h o 0 0 Q := by
  refine exB_ok (t := [(.iload_n 0, 1, 0, 0, 0, 0), (.iload_n 0, 1, 0, 0, 0, 0), (.iconst 1, 1, 0, 0, 0, 0), (.iushr, 1, 0, 0, 0, 0), (.ldc_w 265, 3, 1431655765, 0, 0, 0), (.iand, 1, 0, 0, 0, 0), (.isub, 1, 0, 0, 0, 0), (.istore_n 0, 1, 0, 0, 0, 0)]) W0_ok (jj := fun q L st h o k n => EX G m_Integer_bitCount q L st h o k n Q) (fun q L st h o k n hq => hq) (by decide +kernel) ?_
  simp [exB, stp, Value.category, lkL, stL1, insL]
  exact hx
theorem bcs2 {x : Int32} (hx : EX G m_Integer_bitCount 24 [(0, .int (bc2 x))] [] h o 0 0 Q) : EX G m_Integer_bitCount 10 [(0, .int x)] [] h o 0 0 Q := by
  refine exB_ok (t := [(.iload_n 0, 1, 0, 0, 0, 0), (.ldc_w 266, 3, 858993459, 0, 0, 0), (.iand, 1, 0, 0, 0, 0), (.iload_n 0, 1, 0, 0, 0, 0), (.iconst 2, 1, 0, 0, 0, 0), (.iushr, 1, 0, 0, 0, 0), (.ldc_w 266, 3, 858993459, 0, 0, 0), (.iand, 1, 0, 0, 0, 0), (.iadd, 1, 0, 0, 0, 0), (.istore_n 0, 1, 0, 0, 0, 0)]) W0_ok (jj := fun q L st h o k n => EX G m_Integer_bitCount q L st h o k n Q) (fun q L st h o k n hq => hq) (by decide +kernel) ?_
  simp [exB, stp, Value.category, lkL, stL1, insL]
  exact hx
theorem bcs3 {x : Int32} (hx : EX G m_Integer_bitCount 34 [(0, .int (bc3 x))] [] h o 0 0 Q) : EX G m_Integer_bitCount 24 [(0, .int x)] [] h o 0 0 Q := by
  refine exB_ok (t := [(.iload_n 0, 1, 0, 0, 0, 0), (.iload_n 0, 1, 0, 0, 0, 0), (.iconst 4, 1, 0, 0, 0, 0), (.iushr, 1, 0, 0, 0, 0), (.iadd, 1, 0, 0, 0, 0), (.ldc_w 267, 3, 252645135, 0, 0, 0), (.iand, 1, 0, 0, 0, 0), (.istore_n 0, 1, 0, 0, 0, 0)]) W0_ok (jj := fun q L st h o k n => EX G m_Integer_bitCount q L st h o k n Q) (fun q L st h o k n hq => hq) (by decide +kernel) ?_
  simp [exB, stp, Value.category, lkL, stL1, insL]
  exact hx
theorem bcs4 {x : Int32} (hx : EX G m_Integer_bitCount 41 [(0, .int (bc4 x))] [] h o 0 0 Q) : EX G m_Integer_bitCount 34 [(0, .int x)] [] h o 0 0 Q := by
  refine exB_ok (t := [(.iload_n 0, 1, 0, 0, 0, 0), (.iload_n 0, 1, 0, 0, 0, 0), (.bipush 8, 2, 0, 0, 0, 0), (.iushr, 1, 0, 0, 0, 0), (.iadd, 1, 0, 0, 0, 0), (.istore_n 0, 1, 0, 0, 0, 0)]) W0_ok (jj := fun q L st h o k n => EX G m_Integer_bitCount q L st h o k n Q) (fun q L st h o k n hq => hq) (by decide +kernel) ?_
  simp [exB, stp, Value.category, lkL, stL1, insL]
  exact hx
theorem bcs5 {x : Int32} (hx : EX G m_Integer_bitCount 48 [(0, .int (bc5 x))] [] h o 0 0 Q) : EX G m_Integer_bitCount 41 [(0, .int x)] [] h o 0 0 Q := by
  refine exB_ok (t := [(.iload_n 0, 1, 0, 0, 0, 0), (.iload_n 0, 1, 0, 0, 0, 0), (.bipush 16, 2, 0, 0, 0, 0), (.iushr, 1, 0, 0, 0, 0), (.iadd, 1, 0, 0, 0, 0), (.istore_n 0, 1, 0, 0, 0, 0)]) W0_ok (jj := fun q L st h o k n => EX G m_Integer_bitCount q L st h o k n Q) (fun q L st h o k n hq => hq) (by decide +kernel) ?_
  simp [exB, stp, Value.category, lkL, stL1, insL]
  exact hx
theorem bcs6 {x : Int32} (hx : Q (.inl (some (.int (x &&& 63)))) h o) : EX G m_Integer_bitCount 48 [(0, .int x)] [] h o 0 0 Q := by
  refine exB_ok (t := [(.iload_n 0, 1, 0, 0, 0, 0), (.bipush 63, 2, 0, 0, 0, 0), (.iand, 1, 0, 0, 0, 0), (.ireturn, 1, 0, 0, 0, 0)]) W0_ok (jj := fun q L st h o k n => EX G m_Integer_bitCount q L st h o k n Q) (fun q L st h o k n hq => hq) (by decide +kernel) ?_
  simp [exB, stp, Value.category, lkL, stL1, insL, R_Integer_bitCount, C_Integer_bitCount]
  exact hx
theorem r_Integer_bitCount (hx : rx_Integer_bitCount as h o Q) : Runs G m_Integer_bitCount as h o Q := by
  obtain ⟨x, rfl, hq⟩ := E_i hx
  refine Runs.of (by decide +kernel) (Nat.le_of_ble_eq_true rfl) ?_
  exact bcs1 (bcs2 (bcs3 (bcs4 (bcs5 (bcs6 (hq _ rfl))))))
end BC
