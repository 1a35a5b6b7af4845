/-! 52: the reference begins, takes back -/
def bgS (s : Nat → Int32) : Nat → Int32 := upd (upd (upd (upd (upd (fa_fill (fun _ => 0) s 216) 1 1) 2 5) 3 2) 4 7) 5 50
section MU
variable {G : GG} {as : List Value} {h : HM} {o : Option Nat} {Q : XQ}
end MU
