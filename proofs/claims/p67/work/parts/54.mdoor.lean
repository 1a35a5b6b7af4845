/-! 54: the reference takes back; its doors -/
def addD (s : Nat → Int32) (a b c : Int32) : Nat → Int32 := upd (upd (upd (upd (upd s (120 + 4 * nD s) (if b ≤ a then b else a)) (120 + 4 * nD s + 1) (if b ≤ a then a else b)) (120 + 4 * nD s + 2) c) (120 + 4 * nD s + 3) 1) 10 (nI (nD s + 1))
section MV
variable {G : GG} {as : List Value} {h : HM} {o : Option Nat} {Q : XQ}
end MV
