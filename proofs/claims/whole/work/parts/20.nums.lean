/-! 20: words for numbers, rows -/
theorem clamp_toInt {j : Int32} (h0 : 0 ≤ j) : (j.toNatClampNeg : Int) = j.toInt := by
  rw [Int32.le_iff_toInt_le, Int32.toInt_zero] at h0
  unfold Int32.toNatClampNeg
  omega
theorem vp_in_of {j : Int32} {len : Nat} (h0 : 0 ≤ j) (h1 : j < nI len) (hl : len < 2 ^ 31) : vp_in j len := by
  unfold vp_in
  rintro (h | h)
  · exact absurd h0 (Int32.not_le.mpr h)
  · rw [Int32.lt_iff_toInt_lt, nI_toInt hl] at h1
    have h2 := clamp_toInt h0
    omega
theorem nI_of {j : Int32} (h0 : 0 ≤ j) : nI j.toNatClampNeg = j := by
  apply Int32.toInt_inj.mp
  have h1 := clamp_toInt h0
  have h2 := j.toInt_lt
  rw [nI_toInt (by omega), h1]
theorem nI_lt {a b : Nat} (ha : a < 2 ^ 31) (hb : b < 2 ^ 31) : nI a < nI b ↔ a < b := by
  rw [Int32.lt_iff_toInt_lt, nI_toInt ha, nI_toInt hb]; omega
theorem nI_le9 {a b : Nat} (ha : a < 2 ^ 31) (hb : b < 2 ^ 31) : nI a ≤ nI b ↔ a ≤ b := by
  rw [Int32.le_iff_toInt_le, nI_toInt ha, nI_toInt hb]; omega
theorem nI_inj {a b : Nat} (ha : a < 2 ^ 31) (hb : b < 2 ^ 31) : nI a = nI b ↔ a = b := by
  constructor
  · intro h
    have := congrArg Int32.toInt h
    rw [nI_toInt ha, nI_toInt hb] at this
    omega
  · intro h; rw [h]
theorem nI_nonneg {a : Nat} (ha : a < 2 ^ 31) : 0 ≤ nI a := by
  rw [Int32.le_iff_toInt_le, nI_toInt ha, Int32.toInt_zero]; omega
theorem hup_same {h : HM} {a : Nat} {e : AE} (ha : h a = some e) : hup h a e = h := by
  funext x
  by_cases hx : x = a
  · subst hx; rw [hup_at]; exact ha.symm
  · rw [hup_ne h e hx]
theorem hup_hup (h : HM) (a : Nat) (e e2 : AE) : hup (hup h a e) a e2 = hup h a e2 := by
  funext x
  by_cases hx : x = a
  · subst hx; rw [hup_at, hup_at]
  · rw [hup_ne _ e2 hx, hup_ne _ e hx, hup_ne _ e2 hx]
theorem vp_in_k {k len : Nat} (h : k < len) (hl : len < 2 ^ 31) : vp_in (nI k) len := vp_in_of (nI_nonneg (by omega)) ((nI_lt (by omega) hl).mpr h) hl
theorem clamp_k {k : Nat} (h : k < 2 ^ 31) : (nI k).toNatClampNeg = k := nI_clamp h
/-- a row: an object of GhostRooms$Row at a with its cells at b -/
def RowAt (h : HM) (a b len : Nat) (f : Nat → Int32) : Prop := h a = some (.inr (7, [.ref b])) ∧ h b = some (.inl (0, len, .inl f))
def rget (len : Nat) (f : Nat → Int32) (j : Int32) : Int32 := if 0 ≤ j ∧ j < nI len then f j.toNatClampNeg else 0
def rset (len : Nat) (f : Nat → Int32) (j v : Int32) : Nat → Int32 := if 0 ≤ j ∧ j < nI len then upd f j.toNatClampNeg v else f
abbrev ints (len : Nat) (f : Nat → Int32) : AE := .inl (0, len, .inl f)
section ROW
variable {G : GG} {h : HM} {o : Option Nat} {Q : XQ} {a b len : Nat} {f : Nat → Int32} {j v : Int32}
theorem r_Row_get (hr : RowAt h a b len f) (hl : len < 2 ^ 31) (hq : Q (.inl (some (.int (rget len f j)))) h o) : Runs G m_Row_get [.ref a, .int j] h o Q := by
  obtain ⟨h1, h2⟩ := hr
  refine Runs.of (by decide +kernel) (Nat.le_of_ble_eq_true rfl) (X_Row_get_0 ?_)
  simp [exB, exF, stp, lv_args, Value.category, lkL, stL1, stL2, insL, contX, okw, T_Row_get_22, T_Row_get_23, R_Row_get, C_Row_get, M_Row_get, h1, h2]
  unfold rget at hq
  refine ⟨fun c1 => ?_, fun c1 => ⟨fun c2 => ?_, fun c2 => ⟨vp_in_of c1 c2 hl, ?_⟩⟩⟩
  · rw [if_neg (fun q => absurd q.1 (Int32.not_le.mpr c1))] at hq; exact hq
  · rw [if_neg (fun q => absurd q.2 (Int32.not_lt.mpr c2))] at hq; exact hq
  · rw [if_pos ⟨c1, c2⟩] at hq; exact hq
theorem r_Row_set (hr : RowAt h a b len f) (hl : len < 2 ^ 31) (hq : Q (.inl none) (hup h b (ints len (rset len f j v))) o) : Runs G m_Row_set [.ref a, .int j, .int v] h o Q := by
  obtain ⟨h1, h2⟩ := hr
  refine Runs.of (by decide +kernel) (Nat.le_of_ble_eq_true rfl) (X_Row_set_0 ?_)
  simp [exB, exF, stp, lv_args, Value.category, lkL, stL1, stL2, insL, contX, okw, T_Row_set_20, R_Row_set, C_Row_set, M_Row_set, h1, h2]
  trace_state
  unfold rset at hq
  refine ⟨fun c1 => ?_, fun c1 => ⟨fun c2 => ?_, fun c2 => ⟨vp_in_of c1 c2 hl, ?_⟩⟩⟩
  · rw [if_neg (fun q => absurd q.1 (Int32.not_le.mpr c1)), hup_same h2] at hq; exact hq
  · rw [if_neg (fun q => absurd q.2 (Int32.not_lt.mpr c2)), hup_same h2] at hq; exact hq
  · rw [if_pos ⟨c1, c2⟩] at hq; exact hq
theorem r_Row_fill (hr : RowAt h a b len f) (hab : a ≠ b) (hl : len < 2 ^ 31) (hq : Q (.inl none) (hup h b (ints len (fun k => if k < len then v else f k))) o) : Runs G m_Row_fill [.ref a, .int v] h o Q := by
  obtain ⟨h1, h2⟩ := hr
  have loop : ∀ n i : Nat, i + n = len → EX G m_Row_fill 2 [(0, .ref a), (1, .int v), (2, .int (nI i))] [] (hup h b (ints len (fun k => if k < i then v else f k))) o 0 0 Q := by
    intro n
    induction n with
    | zero =>
      intro i hi
      refine X_Row_fill_2 ?_
      simp [exB, exF, stp, lv_args, Value.category, lkL, stL1, stL2, insL, contX, okw, T_Row_fill_2, T_Row_fill_24, R_Row_fill, C_Row_fill, M_Row_fill, h1, h2, hup, hab, hup_at]
      trace_state
      sorry
    | succ n ih =>
      intro i hi
      refine X_Row_fill_2 ?_
      simp [exB, exF, stp, lv_args, Value.category, lkL, stL1, stL2, insL, contX, okw, T_Row_fill_2, T_Row_fill_24, R_Row_fill, C_Row_fill, M_Row_fill, h1, h2, hup, hab, hup_at]
      trace_state
      sorry
  refine Runs.of (by decide +kernel) (Nat.le_of_ble_eq_true rfl) (X_Row_fill_0 ?_)
  simp [exB, exF, stp, lv_args, Value.category, lkL, stL1, stL2, insL, contX, okw, T_Row_fill_2, T_Row_fill_24, R_Row_fill, C_Row_fill, M_Row_fill, h1, h2]
  have := loop len 0 (by omega)
  trace_state
  sorry
end ROW
