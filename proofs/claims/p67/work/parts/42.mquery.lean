/-! 42: the reference's questions -/
def nR (s : Nat → Int32) : Nat := (s 9).toNatClampNeg
def nD (s : Nat → Int32) : Nat := (s 10).toNatClampNeg
def RW (s : Nat → Int32) : Prop := s 9 = nI (nR s) ∧ nR s ≤ 12 ∧ s 10 = nI (nD s) ∧ nD s ≤ 24
def btP (s : Nat → Int32) (a b : Int32) (d : Nat) : Bool := if (if a < b then a else b) = (if a < b then b else a) then false else if s (120 + 4 * d) = (if a < b then a else b) then (if s (120 + 4 * d + 1) = (if a < b then b else a) then true else false) else false
def btw (s : Nat → Int32) (a b : Int32) : Int32 := frst (nD s) (btP s a b)
def adj (s : Nat → Int32) (a b : Int32) : Bool := if btw s a b = -1 then false else if s (120 + 4 * (btw s a b).toNatClampNeg + 3) = 1 then true else false
def nbS (s : Nat → Int32) (k : Int32) (j : Nat) : Int32 := tI (adj s k (nI j)) <<< (nI j &&& 31)
def sizF (x : Int32) : Nat → Int32
  | 0 => 0
  | k + 1 => sizF x k + ((x >>> (nI k &&& 31)) &&& 1)
def poS (s : Nat → Int32) (j : Nat) : Int32 := s (12 + 9 * j + 5) <<< (nI j &&& 31)
theorem btw_cases (s : Nat → Int32) (a b : Int32) : btw s a b = -1 ∨ ∃ d, d < nD s ∧ btw s a b = nI d ∧ btP s a b d = true := by
  rcases frst_cases (btP s a b) (nD s) with ⟨h1, -⟩ | ⟨i, hi, h1, h2, -⟩
  · exact Or.inl h1
  · exact Or.inr ⟨i, hi, h1, h2⟩
theorem nI_m1 {n : Nat} (h : n < 2 ^ 31) : ¬ nI n = -1 := by
  intro e
  have := congrArg Int32.toInt e
  rw [nI_toInt h] at this
  have h2 : (-1 : Int32).toInt = -1 := by decide
  omega
section MQ
variable {G : GG} {as : List Value} {h : HM} {o : Option Nat} {Q : XQ}
end MQ
