/-! 53: the reference keeps, takes back -/
def kpA (Pa : Nat → Int32) : Nat → Int32 := fa_fill (fun k => Pa (k + 216)) Pa 1080
def kpP (Pa As : Nat → Int32) (u : Nat) : Nat → Int32 := if u = 6 then cpy As 0 (kpA Pa) 1080 216 else cpy As 0 Pa (216 * u) 216
def kpU (u : Nat) : Nat := if u = 6 then 6 else u + 1
section MK
variable {G : GG} {as : List Value} {h : HM} {o : Option Nat} {Q : XQ}
end MK
