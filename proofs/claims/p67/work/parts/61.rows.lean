/-! 61: a name in the row -/
def nmS (s : Nat → Int32) (k : Nat) : Int64 := ((s (12 + 9 * k)).toInt64 <<< ((20 : Int32).toInt64 &&& 63)) ||| (s (12 + 9 * k + 1)).toInt64
theorem nI_subN {a b : Nat} (h : b ≤ a) : nI a - nI b = nI (a - b) := by
  have e : nI a = nI (a - b) + nI b := by rw [nI_add]; congr 1; omega
  rw [e]
  exact Int32.add_sub_cancel _ _
