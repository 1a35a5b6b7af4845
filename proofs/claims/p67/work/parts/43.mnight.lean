/-! 43: the reference's night, its questions -/
def IDX (n : Nat) (i : Int32) : Prop := ∃ k, k < n ∧ i = nI k
def WD (s : Nat → Int32) : Prop := ∀ d, d < nD s → ∃ a b : Nat, a < 12 ∧ b < 12 ∧ s (120 + 4 * d) = nI a ∧ s (120 + 4 * d + 1) = nI b
def hrd (s : Nat → Int32) (d : Nat) : Bool := if s (120 + 4 * d + 2) < s 2 then false else if s (12 + 9 * (s (120 + 4 * d)).toNatClampNeg + 4) = 1 then true else if s (12 + 9 * (s (120 + 4 * d + 1)).toNatClampNeg + 4) = 1 then true else false
def cld (s : Nat → Int32) (g : Int32) : Nat → Int32
  | 0 => g
  | k + 1 => if adj s g (nI k) = false then cld s g k else if s (12 + 9 * (cld s g k).toNatClampNeg + 2) ≤ s (12 + 9 * k + 2) then cld s g k else nI k
theorem cld_idx {s : Nat → Int32} {g : Int32} (hg : IDX 12 g) : ∀ k, k ≤ 12 → IDX 12 (cld s g k) := by
  intro k
  induction k with
  | zero => intro _; exact hg
  | succ k ih =>
    intro hk
    rw [cld]
    split
    · exact ih (by omega)
    · split
      · exact ih (by omega)
      · exact ⟨k, by omega, rfl⟩
def qtS (s : Nat → Int32) (g : Int32) : Nat → Int32 × Int32
  | 0 => (g, 9999)
  | k + 1 => if adj s g (nI k) = false then qtS s g k else if s (120 + 4 * (btw s g (nI k)).toNatClampNeg + 2) < (qtS s g k).2 then (nI k, s (120 + 4 * (btw s g (nI k)).toNatClampNeg + 2)) else qtS s g k
def wcP (rp : Nat → Int32) (g q : Int32) (t : Nat) : Bool := if rp t = 1 then (if nI t = g then (if nI t = q then false else true) else (if nI t = q then true else false)) else false
def dcP (s : Nat → Int32) (pas d0 : Int32) (d : Nat) : Bool := if hrd s d = false then false else if nI d = pas then (if nI d = d0 then false else true) else (if nI d = d0 then true else false)
def wcl (s rp : Nat → Int32) (g q : Int32) : Int32 := frst (nR s) (wcP rp g q)
def dcl (s : Nat → Int32) (pas q r : Int32) : Int32 := frst (nD s) (dcP s pas (btw s q r))
def src (s bf : Nat → Int32) (q r : Int32) : Bool := if bf q.toNatClampNeg = 1 then (if q = r then true else adj s q r) else false
def agr (s rp : Nat → Int32) (g pas q r : Int32) : Bool := if wcl s rp g q = -1 then (if dcl s pas q r = -1 then true else false) else false
def styP (s rp bf : Nat → Int32) (g pas r : Int32) (q : Nat) : Bool := if src s bf (nI q) r = false then false else agr s rp g pas (nI q) r
def sty (s rp bf : Nat → Int32) (g pas r : Int32) : Bool := if frst (nR s) (styP s rp bf g pas r) = -1 then false else true
def fsr (s bf : Nat → Int32) (r : Int32) : Int32 := frst (nR s) (fun q => src s bf (nI q) r)
theorem adj_d {s : Nat → Int32} {a b : Int32} (h : adj s a b = true) : ∃ d, d < nD s ∧ btw s a b = nI d := by
  rcases btw_cases s a b with e | ⟨d, hd, e, -⟩
  · unfold adj at h; rw [if_pos e] at h; cases h
  · exact ⟨d, hd, e⟩
section MN
variable {G : GG} {as : List Value} {h : HM} {o : Option Nat} {Q : XQ}
end MN
