/-! 48: the reference's drawn room, its way -/
def dsM (s : Nat → Int32) (g : Int32) : Int32 := if s 0 = 0 then cld s g (nR s) else if s 0 = 1 then (qtS s g (nR s)).1 else if drL s g = 0 then g else drG (drN s g) 12 0 (drL s g)
def dsQ (s : Nat → Int32) : Nat → Int32 := if s 0 = 0 then s else if s 0 = 1 then s else drS s
def DRW (s : Nat → Int32) (g : Int32) : Prop := ¬ sizF (drN s g) 12 + 1 = 0 ∧ (¬ drL s g = 0 → ¬ drL s g ≤ 0 ∧ DR (drN s g) 12 0 (drL s g))
section MD
variable {G : GG} {as : List Value} {h : HM} {o : Option Nat} {Q : XQ}
end MD
