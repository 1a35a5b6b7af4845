/-! 45: the reference's rows laid aside, its plain answers -/
theorem ne_p2 {p a b : Nat} (h : a ≠ b) : p + a ≠ p + b := by omega
section MA
variable {G : GG} {as : List Value} {h : HM} {o : Option Nat} {Q : XQ}
end MA
