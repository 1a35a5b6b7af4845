/-! 49: a night of the reference -/
def mnS (x : Int32) : Int32 := if x ≤ 99 then x else 99
def rpP (s : Nat → Int32) (t : Nat) : Bool := if s (12 + 9 * t + 3) = 1 then (if 99 ≤ s (12 + 9 * t + 2) then false else true) else false
def n1 (s : Nat → Int32) : Nat → Int32 := upd s 7 (s 7 + 1)
def n2 (s : Nat → Int32) : Nat → Int32 := dsQ (n1 s)
def nTo (s : Nat → Int32) : Int32 := dsM (n1 s) (s 11)
def nRp (s rp : Nat → Int32) : Nat → Int32 := fa_fill (fun t => tI (rpP (n2 s) t)) rp (nR s)
def n3 (s : Nat → Int32) : Nat → Int32 := upd (n2 s) (12 + 9 * (s 11).toNatClampNeg + 2) (mnS (n2 s (12 + 9 * (s 11).toNatClampNeg + 2) + n2 s 1))
def n4 (s rp bf : Nat → Int32) : Nat → Int32 := senF (n3 s) (nR (n3 s)) (senV (n3 s) (nRp s rp) (senB (n3 s) bf) (s 11) (btw (n3 s) (s 11) (nTo s)))
def n5 (s rp bf : Nat → Int32) : Nat → Int32 := upd (upd (n4 s rp bf) 8 (n4 s rp bf 8 + (if nTo s = s 11 then 0 else 1))) 11 (nTo s)
theorem WD_upd {s : Nat → Int32} {i : Nat} {v : Int32} (h10 : i ≠ 10) (hi : i < 120) (hw : WD s) : WD (upd s i v) := by
  have e10 : upd s i v 10 = s 10 := if_neg (fun e => h10 e.symm)
  intro d hd
  have hd : d < nD s := by unfold nD at hd ⊢; rw [e10] at hd; exact hd
  have e1 : upd s i v (120 + 4 * d) = s (120 + 4 * d) := if_neg (by omega)
  have e2 : upd s i v (120 + 4 * d + 1) = s (120 + 4 * d + 1) := if_neg (by omega)
  rw [e1, e2]
  exact hw d hd
theorem dsQ_ind {P : (Nat → Int32) → Prop} {s : Nat → Int32} (h0 : P s) (h1 : P (drS s)) : P (dsQ s) := by
  unfold dsQ; split
  · exact h0
  · split
    · exact h0
    · exact h1
theorem nR_upd {s : Nat → Int32} {i : Nat} {v : Int32} (h : i ≠ 9) : nR (upd s i v) = nR s := by
  have e9 : upd s i v 9 = s 9 := if_neg (fun e => h e.symm)
  unfold nR; rw [e9]
theorem n2_RW {s : Nat → Int32} (h : RW s) : RW (n2 s) := dsQ_ind (P := RW) (RW_upd (by decide) (by decide) h) (RW_upd (by decide) (by decide) (RW_upd (by decide) (by decide) h))
theorem n2_WD {s : Nat → Int32} (h : WD s) : WD (n2 s) := dsQ_ind (P := WD) (WD_upd (by decide) (by decide) h) (WD_upd (by decide) (by decide) (WD_upd (by decide) (by decide) h))
theorem n2_nR {s : Nat → Int32} : nR (n2 s) = nR s := dsQ_ind (P := fun t => nR t = nR s) (nR_upd (by decide)) ((nR_upd (by decide)).trans (nR_upd (by decide)))
theorem n3_RW {s : Nat → Int32} (h : RW s) : RW (n3 s) := RW_upd (by omega) (by omega) (n2_RW h)
theorem n3_WD {s : Nat → Int32} {k : Nat} (hk : k < 12) (e : s 11 = nI k) (h : WD s) : WD (n3 s) := WD_upd (by omega) (by rw [e, nI_clamp (by omega)]; omega) (n2_WD h)
section MG
variable {G : GG} {as : List Value} {h : HM} {o : Option Nat} {Q : XQ}
end MG
