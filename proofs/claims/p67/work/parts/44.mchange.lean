/-! 44: the reference's changes (1) -/
def tw (s : Nat → Int32) (k : Nat) (a b c : Int32) : Nat → Int32 := upd (upd (upd s (12 + 9 * k + 6) a) (12 + 9 * k + 7) b) (12 + 9 * k + 8) c
def exS (s rp bf : Nat → Int32) (g pas r : Int32) : Int32 × Int32 × Int32 := if fsr s bf r = -1 then (2, -1, -1) else if wcl s rp g (fsr s bf r) = -1 then (4, dcl s pas (fsr s bf r) r, fsr s bf r) else (3, wcl s rp g (fsr s bf r), fsr s bf r)
def cpy (F : Nat → Int32) (x : Nat) (E : Nat → Int32) (y k : Nat) : Nat → Int32 := fun i => if y ≤ i ∧ i < y + k then F (x + (i - y)) else E i
theorem cpy_0 (F : Nat → Int32) (x : Nat) (E : Nat → Int32) (y : Nat) : cpy F x E y 0 = E := funext fun i => if_neg (by omega)
theorem cpy_s (F : Nat → Int32) (x : Nat) (E : Nat → Int32) (y k : Nat) : upd (cpy F x E y k) (y + k) (F (x + k)) = cpy F x E y (k + 1) := by
  funext i
  unfold upd cpy
  by_cases e : i = y + k
  · subst e
    rw [if_pos rfl, if_pos (by omega)]
    congr 1
    omega
  · rw [if_neg e]
    by_cases c : y ≤ i ∧ i < y + k
    · rw [if_pos c, if_pos (by omega)]
    · rw [if_neg c, if_neg (by omega)]
section MC
variable {G : GG} {as : List Value} {h : HM} {o : Option Nat} {Q : XQ}
end MC
