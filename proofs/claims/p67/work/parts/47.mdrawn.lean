/-! 47: the reference's drawn room -/
def drB (x : Int32) (k : Nat) : Int32 := (x >>> (nI k &&& 31)) &&& 1
def drG (x : Int32) : Nat → Nat → Int32 → Int32
  | 0, _, _ => 0
  | j + 1, k, left => if left - drB x k ≤ 0 then nI k else drG x j (k + 1) (left - drB x k)
def DR (x : Int32) : Nat → Nat → Int32 → Prop
  | 0, _, _ => False
  | j + 1, k, left => left - drB x k ≤ 0 ∨ DR x j (k + 1) (left - drB x k)
def drV (s : Nat → Int32) : Int32 := (5 * s 4 + 3) - (5 * s 4 + 3) / 16 * 16
def drS (s : Nat → Int32) : Nat → Int32 := upd s 4 (drV s)
def drN (s : Nat → Int32) (g : Int32) : Int32 := orF (nbS (drS s) g) (nR (drS s))
def drL (s : Nat → Int32) (g : Int32) : Int32 := drV s - drV s / (sizF (drN s g) 12 + 1) * (sizF (drN s g) 12 + 1)
theorem RW_upd {s : Nat → Int32} {i : Nat} {v : Int32} (h9 : i ≠ 9) (h10 : i ≠ 10) (hw : RW s) : RW (upd s i v) := by
  have e9 : upd s i v 9 = s 9 := if_neg (fun e => h9 e.symm)
  have e10 : upd s i v 10 = s 10 := if_neg (fun e => h10 e.symm)
  unfold RW nR nD
  rw [e9, e10]
  exact hw
section MD
variable {G : GG} {as : List Value} {h : HM} {o : Option Nat} {Q : XQ}
end MD
