/-! 23a: sets of rooms, of doors -/
theorem cbit_k {k : Nat} (hk : k < 24) : cbit (nI k) = 1 <<< (nI k &&& 31) := by
  unfold cbit; rw [if_neg (nI_pos (by omega)), if_neg (show ¬ (24 : Int32) ≤ nI k from nI_ge hk (by decide))]
theorem cbit_no {i : Int32} (h : i < 0 ∨ 24 ≤ i) : cbit i = 0 := by
  unfold cbit; split
  · rfl
  · rename_i h1; rw [if_pos (h.resolve_left h1)]
theorem bt_cbit {k : Nat} (hk : k < 24) (j : Nat) : bt (cbit (nI k)) j = decide (k = j) := by
  rw [cbit_k hk]
  unfold bt
  rw [nf_sh k (by omega), BitVec.getLsbD_twoPow]
  simp
  omega
theorem z_bits {x : Int32} : x = 0 ↔ ∀ i, i < 32 → bt x i = false := by
  constructor
  · rintro rfl i _; exact b_0 i
  · intro h; exact b_ext fun i hi => by rw [h i hi, b_0]
theorem ctn_k {s : Int32} {k : Nat} (hk : k < 24) : ctn s (nI k) = bt s k := by
  unfold ctn; rw [if_neg (nI_pos (by omega)), if_neg (show ¬ (24 : Int32) ≤ nI k from nI_ge hk (by decide)), ← cbit_k hk]
  cases hb : bt s k with
  | false =>
    rw [if_pos]
    rw [z_bits]
    intro i hi
    rw [b_and, bt_cbit hk]
    by_cases e : k = i
    · subst e; rw [hb]; rfl
    · simp [e]
  | true =>
    rw [if_neg]
    intro hz
    have := (z_bits.mp hz) k (by omega)
    rw [b_and, bt_cbit hk, hb] at this
    simp at this
theorem ctn_no {s i : Int32} (h : i < 0 ∨ 24 ≤ i) : ctn s i = false := by
  unfold ctn; split
  · rfl
  · rename_i h1; rw [if_pos (h.resolve_left h1)]
theorem ctn_m1 {s : Int32} : ctn s (-1) = false := ctn_no (by decide)
theorem cbit_m1 : cbit (-1) = 0 := cbit_no (by decide)
/-- an 'or' over k < n -/
def orF (f : Nat → Int32) : Nat → Int32
  | 0 => 0
  | n + 1 => orF f n ||| f n
theorem bt_orF (f : Nat → Int32) (n j : Nat) : bt (orF f n) j = true ↔ ∃ k, k < n ∧ bt (f k) j = true := by
  induction n with
  | zero => simp [orF, b_0]
  | succ n ih =>
    rw [orF, b_or, Bool.or_eq_true, ih]
    constructor
    · rintro (⟨k, h1, h2⟩ | h)
      · exact ⟨k, by omega, h2⟩
      · exact ⟨n, by omega, h⟩
    · rintro ⟨k, h1, h2⟩
      by_cases e : k = n
      · subst e; exact Or.inr h2
      · exact Or.inl ⟨k, by omega, h2⟩
/-- the set of the k < n with p k -/
def setF (p : Nat → Bool) (n : Nat) : Int32 := orF (fun k => if p k then cbit (nI k) else 0) n
theorem bt_setF (p : Nat → Bool) {n : Nat} (hn : n ≤ 24) (j : Nat) : bt (setF p n) j = (decide (j < n) && p j) := by
  rw [Bool.eq_iff_iff, setF, bt_orF, Bool.and_eq_true, decide_eq_true_eq]
  constructor
  · rintro ⟨k, h1, h2⟩
    cases hp : p k with
    | false => rw [hp] at h2; rw [if_neg (by decide), b_0] at h2; cases h2
    | true =>
      rw [hp, if_pos rfl, bt_cbit (by omega)] at h2
      have := of_decide_eq_true h2
      subst this
      exact ⟨h1, hp⟩
  · rintro ⟨h1, h2⟩
    refine ⟨j, h1, ?_⟩
    rw [h2, if_pos rfl, bt_cbit (by omega)]
    exact decide_eq_true rfl
theorem b_compl (x : Int32) {i : Nat} (hi : i < 32) : bt (x ^^^ -1) i = !bt x i := by
  rw [b_xor, b_m1 i hi, Bool.xor_true]
theorem setF_cong {p q : Nat → Bool} {n : Nat} (hn : n ≤ 24) (h : ∀ k, k < n → p k = q k) : setF p n = setF q n := by
  apply b_ext
  intro i _
  rw [bt_setF p hn, bt_setF q hn]
  by_cases e : i < n
  · rw [h i e]
  · simp [e]
