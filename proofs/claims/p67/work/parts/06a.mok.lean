/-! 06: what is true of each method, by program -/
/-- which methods are callable by the rows below -/
def mOwn (j : Nat) : Bool := decide (j < 202) && !decide (j = 166) && !decide (j = 167) && !decide (j = 201)
/-- methods of long code: their word is read by the kernel at once -/
def mBig (j : Nat) : Bool := decide (j = 139) || decide (j = 147) || decide (j = 194) || decide (j = 195) || decide (j = 200)
