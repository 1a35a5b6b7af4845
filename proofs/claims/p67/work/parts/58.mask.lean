/-! 58: the reference's questions of a room, of a door -/
theorem prI : ∀ n, n < 25 → (nI n - 1).toInt = (n : Int) - 1 := by decide +kernel
theorem isIn_R {n : Nat} (hn : n < 25) (i : Int32) : isInF i.toInt64 0 (nI n - 1).toInt64 = inR n i := by
  have h0 : (0 : Int64) = (0 : Int32).toInt64 := by decide
  have e1 := prI n hn
  unfold isInF inR
  rw [h0]
  simp only [fa_wide_lt]
  by_cases c : i < 0
  · rw [if_pos c, if_pos c]
  · rw [if_neg c, if_neg c]
    have e2 : (nI n).toInt = (n : Int) := nI_toInt (by omega)
    by_cases c2 : i < nI n
    · rw [if_pos c2, if_neg]
      rw [fa_lt] at c2 ⊢
      omega
    · rw [if_neg c2, if_pos]
      rw [fa_lt] at c2 ⊢
      omega
section MQ2
variable {G : GG} {as : List Value} {h : HM} {o : Option Nat} {Q : XQ}
end MQ2
