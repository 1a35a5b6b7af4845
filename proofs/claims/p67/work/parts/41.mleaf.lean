/-! 41: the reference's small methods -/
theorem v216_0 : vp_in 0 216 = True := q_vp (k := 0) (by decide) (by decide)
theorem v216_1 : vp_in 1 216 = True := q_vp (k := 1) (by decide) (by decide)
theorem v216_2 : vp_in 2 216 = True := q_vp (k := 2) (by decide) (by decide)
theorem v216_3 : vp_in 3 216 = True := q_vp (k := 3) (by decide) (by decide)
theorem v216_4 : vp_in 4 216 = True := q_vp (k := 4) (by decide) (by decide)
theorem v216_5 : vp_in 5 216 = True := q_vp (k := 5) (by decide) (by decide)
theorem v216_6 : vp_in 6 216 = True := q_vp (k := 6) (by decide) (by decide)
theorem v216_7 : vp_in 7 216 = True := q_vp (k := 7) (by decide) (by decide)
theorem v216_8 : vp_in 8 216 = True := q_vp (k := 8) (by decide) (by decide)
theorem v216_9 : vp_in 9 216 = True := q_vp (k := 9) (by decide) (by decide)
theorem v216_10 : vp_in 10 216 = True := q_vp (k := 10) (by decide) (by decide)
theorem v216_11 : vp_in 11 216 = True := q_vp (k := 11) (by decide) (by decide)
def trI (b : Int32) : Int32 := if b = 0 then 0 else 1
theorem trI_t {c : Bool} : trI (tI c) = tI c := by cases c <;> rfl
def ntI (b : Int32) : Int32 := if b = 0 then 1 else 0
theorem ntI_t {c : Bool} : ntI (tI c) = tI (!c) := by cases c <;> rfl
def gb2 (a b : Int32) : Int32 := if a = 0 then 1 else if b = 0 then 2 else 0
def gb3 (a b c : Int32) : Int32 := if a = 0 then 1 else if b = 0 then 2 else if c = 0 then 3 else 0
def isInF (v a b : Int64) : Bool := if v < a then false else if b < v then false else true
theorem trI_0 : trI 0 = 0 := rfl
theorem trI_1 : trI 1 = 1 := rfl
def hasF (s k : Int32) : Bool := decide ((s >>> (k &&& 31)) &&& 1 = 1)
section MLF
variable {G : GG} {as : List Value} {h : HM} {o : Option Nat} {Q : XQ}
end MLF
theorem rom_in {k w : Int32} (h : (0 ≤ k ∧ k < 12) ∧ (0 ≤ w ∧ w < 9)) : ∃ a b : Nat, a < 12 ∧ b < 9 ∧ k = nI a ∧ w = nI b := by
  obtain ⟨⟨h1, h2⟩, h3, h4⟩ := h
  refine ⟨k.toNatClampNeg, w.toNatClampNeg, ?_, ?_, (q_nI_of h1).symm, (q_nI_of h3).symm⟩
  · have := q_nI_of h1; rw [← this] at h2; exact (nI_ltI (b := 12) (by have := k.toInt_lt; have := q_clamp h1; omega) (by decide)).mp h2
  · have := q_nI_of h3; rw [← this] at h4; exact (nI_ltI (b := 9) (by have := w.toInt_lt; have := q_clamp h3; omega) (by decide)).mp h4
theorem dor_in {k w : Int32} (h : (0 ≤ k ∧ k < 24) ∧ (0 ≤ w ∧ w < 4)) : ∃ a b : Nat, a < 24 ∧ b < 4 ∧ k = nI a ∧ w = nI b := by
  obtain ⟨⟨h1, h2⟩, h3, h4⟩ := h
  refine ⟨k.toNatClampNeg, w.toNatClampNeg, ?_, ?_, (q_nI_of h1).symm, (q_nI_of h3).symm⟩
  · have := q_nI_of h1; rw [← this] at h2; exact (nI_ltI (b := 24) (by have := k.toInt_lt; have := q_clamp h1; omega) (by decide)).mp h2
  · have := q_nI_of h3; rw [← this] at h4; exact (nI_ltI (b := 4) (by have := w.toInt_lt; have := q_clamp h3; omega) (by decide)).mp h4
theorem nI_mul (a b : Nat) : nI a * nI b = nI (a * b) := by
  apply Int32.toBitVec_inj.mp
  show BitVec.ofNat 32 a * BitVec.ofNat 32 b = BitVec.ofNat 32 (a * b)
  rw [BitVec.ofNat_mul]
theorem lit_add9 (a : Nat) : (12 : Int32) + 9 * nI a = nI (12 + 9 * a) := by
  show nI 12 + nI 9 * nI a = _
  rw [nI_mul, nI_add]
theorem lit_add4 (a : Nat) : (120 : Int32) + 4 * nI a = nI (120 + 4 * a) := by
  show nI 120 + nI 4 * nI a = _
  rw [nI_mul, nI_add]
section MLF2
variable {G : GG} {as : List Value} {h : HM} {o : Option Nat} {Q : XQ}
end MLF2
