/-! 50: many nights of the reference -/
abbrev N3 : Type := (Nat → Int32) × (Nat → Int32) × (Nat → Int32)
def nSt (t : N3) : N3 := (n5 t.1 t.2.1 t.2.2, nRp t.1 t.2.1, senB (n3 t.1) t.2.2)
def itN (t : N3) : Nat → N3
  | 0 => t
  | k + 1 => nSt (itN t k)
def NOK (s : Nat → Int32) : Prop := RW s ∧ WD s ∧ IDX 12 (s 11) ∧ DRW (n1 s) (s 11)
section MP
variable {G : GG} {as : List Value} {h : HM} {o : Option Nat} {Q : XQ}
end MP
