/-! 51: the reference's changes (2) -/
def cntS (s : Nat → Int32) (w : Nat) : Nat → Int32
  | 0 => 0
  | k + 1 => cntS s w k + s (12 + 9 * k + w)
def opnS (s : Nat → Int32) : Nat → Int32
  | 0 => 0
  | k + 1 => opnS s k + s (120 + 4 * k + 3)
def casB (s : Nat → Int32) (x : Int32) : Bool := if orF (poS s) (nR s) &&& x = 0 then false else if orF (poS s) (nR s) &&& x = orF (poS s) (nR s) then false else if s 5 < s 3 then false else true
section MB
variable {G : GG} {as : List Value} {h : HM} {o : Option Nat} {Q : XQ}
end MB
