/-! 56: the reference foresees -/
def aheB (i : Int32) : Bool := isInF i.toInt64 0 50
def itS (s rp bf : Nat → Int32) (i : Int32) : N3 := if s 9 ≤ 0 then (s, rp, bf) else itN (s, rp, bf) i.toNatClampNeg
def itL (s rp bf : Nat → Int32) (i ld : Int32) : Int32 := if s 9 ≤ 0 then ld else sizF (orF (poS (itN (s, rp, bf) i.toNatClampNeg).1) (nR (itN (s, rp, bf) i.toNatClampNeg).1)) 12
section MF
variable {G : GG} {as : List Value} {h : HM} {o : Option Nat} {Q : XQ}
end MF
