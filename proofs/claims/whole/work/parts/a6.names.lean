/-! a6: a name in its two codes, letter by letter -/
theorem nm_dig : ∀ (n : Nat) (l : List Nat), l.length = n → (∀ v, v ∈ l → 1 ≤ v ∧ v ≤ 26) → ∀ k, (k < n → ∃ v, 1 ≤ v ∧ v ≤ 26 ∧ vl 256 96 l / 256 ^ k % 256 = 96 + v ∧ vl 32 0 l / 32 ^ k % 32 = v ∧ 0 < vl 256 96 l / 256 ^ k ∧ 0 < vl 32 0 l / 32 ^ k) ∧ (n ≤ k → vl 256 96 l / 256 ^ k = 0 ∧ vl 32 0 l / 32 ^ k = 0) := by
  intro n
  induction n with
  | zero =>
    intro l hl hv k
    have : l = [] := List.eq_nil_of_length_eq_zero hl
    subst this
    refine ⟨fun h => absurd h (Nat.not_lt_zero k), fun _ => ⟨Nat.zero_div _, Nat.zero_div _⟩⟩
  | succ n ih =>
    intro l hl hv k
    rcases nil_or_cat l with rfl | ⟨xs, x, rfl⟩
    · exact absurd hl (by simp)
    rw [List.length_append] at hl
    have hl : xs.length + 1 = n + 1 := hl
    have hx := hv x (List.mem_append_right _ (List.mem_singleton.mpr rfl))
    have ih := ih xs (by omega) (fun v h => hv v (List.mem_append_left _ h))
    rw [vl_cat, vl_cat]
    generalize vl 256 96 xs = X at *
    generalize vl 32 0 xs = Y at *
    cases k with
    | zero =>
      refine ⟨fun _ => ⟨x, hx.1, hx.2, ?_⟩, fun h => absurd h (by omega)⟩
      simp only [Nat.pow_zero, Nat.div_one]
      omega
    | succ k =>
      have e1 : (X * 256 + (96 + x)) / 256 ^ (k + 1) = X / 256 ^ k := by
        rw [Nat.pow_succ, Nat.mul_comm (256 ^ k), ← Nat.div_div_eq_div_mul]
        congr 1
        omega
      have e2 : (Y * 32 + (0 + x)) / 32 ^ (k + 1) = Y / 32 ^ k := by
        rw [Nat.pow_succ, Nat.mul_comm (32 ^ k), ← Nat.div_div_eq_div_mul]
        congr 1
        omega
      rw [e1, e2]
      obtain ⟨i1, i2⟩ := ih k
      exact ⟨fun h => i1 (by omega), fun h => i2 (by omega)⟩
theorem lsh_k {X k : Nat} (hX : X < 2 ^ 63) (hk : k < 8) : lsh (lN X) (8 * nI k) = lN (X / 256 ^ k) := by
  rw [show (8 : Int32) * nI k = nI (8 * k) from nI_mul 8 k]
  unfold lsh
  rw [wb_shr (by omega) (by omega), Nat.pow_mul]
theorem shA_k {Y k : Nat} (hY : Y < 2 ^ 63) (hk : k < 8) : shA (lN Y) (5 * nI k) = lN (Y / 32 ^ k) := by
  rw [show (5 : Int32) * nI k = nI (5 * k) from nI_mul 5 k]
  unfold shA
  rw [lN_sshr hY (by omega), Nat.pow_mul]
theorem sh5N_k {Y : Nat} (hY : Y < 2 ^ 63) (k : Nat) : sh5N (lN Y) k = lN (Y / 32 ^ k) := by
  induction k with
  | zero => rw [Nat.pow_zero, Nat.div_one]; rfl
  | succ k ih =>
    show sh5 (sh5N (lN Y) k) = _
    rw [ih]
    unfold sh5
    have h2 : Y / 32 ^ k ≤ Y := Nat.div_le_self _ _
    have h3 := lN_sshr (n := Y / 32 ^ k) (k := 5) (by omega) (by decide)
    have e : Y / 32 ^ k / 2 ^ 5 = Y / 32 ^ (k + 1) := by rw [show (2 : Nat) ^ 5 = 32 from rfl, Nat.pow_succ, ← Nat.div_div_eq_div_mul]
    rw [e] at h3
    exact h3
theorem and255 : ∀ m, m < 256 → (nI m : Int32) &&& 255 = nI m := by decide +kernel
theorem nI_255 (m : Nat) : nI m &&& 255 = nI (m % 256) := by
  have h : nI m &&& 255 = nI (m % 256) &&& 255 := by
    refine b_ext fun i hi => ?_
    rw [b_and, b_and]
    by_cases c : i < 8
    · have e : bt (nI m) i = bt (nI (m % 256)) i := by
        unfold bt
        rw [show (nI m).toBitVec = BitVec.ofNat 32 m from rfl, show (nI (m % 256)).toBitVec = BitVec.ofNat 32 (m % 256) from rfl, BitVec.getLsbD_ofNat, BitVec.getLsbD_ofNat, show (256 : Nat) = 2 ^ 8 from rfl, Nat.testBit_mod_two_pow]
        simp [c]
      rw [e]
    · have e : ∀ i, i < 32 → ¬ i < 8 → bt (255 : Int32) i = false := by decide
      rw [e i hi c, Bool.and_false, Bool.and_false]
  rw [h]
  exact and255 _ (Nat.mod_lt _ (by decide))
/-- a name's letters are told alike -/
def NMB (x y : Int64) (n : Nat) : Prop := (1 ≤ n ∧ n ≤ 8) ∧ LNN y n ∧ ltN x 8 = n ∧ ltC x 8 = nI n ∧ ∀ i : Int32, bytM y n i = ltA x i
theorem NMB_of {x y : Int64} (h : NMR x y) : ∃ n, NMB x y n := by
  obtain ⟨l, g, rfl, rfl⟩ := NMR_of h
  have hX : vl 256 96 l < 2 ^ 63 := Nat.lt_trans (vl8_lt g) (by decide)
  have hY : vl 32 0 l < 2 ^ 63 := Nat.lt_trans (vl5_lt g) (by decide)
  have hd := nm_dig l.length l rfl g.1
  obtain ⟨-, g1, g8⟩ := g
  generalize vl 256 96 l = X at *
  generalize vl 32 0 l = Y at *
  generalize l.length = n at *
  have z0 : ∀ m, m < 2 ^ 63 → (lN m = 0 ↔ m = 0) := fun m hm => pk_lEQ (b := 0) hm (by decide)
  have z1 : ∀ m, m < 2 ^ 63 → (0 < lN m ↔ 0 < m) := fun m hm => pk_lLT (a := 0) (by decide) hm
  have dX : ∀ k, X / 256 ^ k < 2 ^ 63 := fun k => Nat.lt_of_le_of_lt (Nat.div_le_self _ _) hX
  have dY : ∀ k, Y / 32 ^ k < 2 ^ 63 := fun k => Nat.lt_of_le_of_lt (Nat.div_le_self _ _) hY
  have hC : ∀ k, k ≤ 8 → ltC (lN X) k = nI (if k ≤ n then k else n) := by
    intro k
    induction k with
    | zero => intro _; rw [if_pos (Nat.zero_le n)]; rfl
    | succ k ih =>
      intro hk
      rw [ltC, lsh_k hX (by omega), ih (by omega)]
      by_cases c : k < n
      · obtain ⟨v, -, -, -, -, h5, -⟩ := (hd k).1 c
        rw [if_neg (fun e => by have := (z0 _ (dX k)).mp e; omega), if_pos (by omega), if_pos (by omega)]
        exact nI_add k 1
      · have h5 := ((hd k).2 (by omega)).1
        rw [h5, if_pos (show lN 0 = 0 from rfl), if_neg (show ¬ k + 1 ≤ n by omega)]
        by_cases c2 : k ≤ n
        · have : k = n := by omega
          rw [if_pos c2, this]
        · rw [if_neg c2]
  have e8 : ltC (lN X) 8 = nI n := by
    rw [hC 8 (Nat.le_refl 8)]
    by_cases c : 8 ≤ n
    · rw [if_pos c]; congr 1; omega
    · rw [if_neg c]
  have hN : ltN (lN X) 8 = n := by
    obtain ⟨a1, a2⟩ := ltN_le (lN X) 8
    rw [e8] at a2
    exact ((nI_eq (by omega) (by omega)).mp a2).symm
  refine ⟨n, ⟨g1, g8⟩, ⟨by omega, fun j hj => ?_, fun hh => ?_⟩, hN, e8, fun i => ?_⟩
  · rw [sh5N_k hY]
    obtain ⟨v, -, -, -, -, -, h6⟩ := (hd j).1 hj
    exact (z1 _ (dY j)).mpr h6
  · rw [sh5N_k hY, ((hd n).2 (Nat.le_refl n)).2] at hh
    have := (z1 0 (by decide)).mp hh
    omega
  · unfold bytM ltrM ltA
    rw [e8]
    cases hi : inR n i with
    | false =>
      have e0 : (if false = true then (shA (lN Y) (5 * (nI n - 1 - i)) &&& 31).toInt32 else (0 : Int32)) = 0 := if_neg (by decide)
      rw [e0, if_pos rfl]
      unfold inR at hi
      by_cases c1 : i < 0
      · rw [if_pos (Or.inl c1)]
      · rw [if_neg c1] at hi
        by_cases c2 : i < nI n
        · rw [if_pos c2] at hi; cases hi
        · rw [if_pos (Or.inr c2)]
    | true =>
      obtain ⟨j, hj, rfl⟩ := inR_t hi (by omega)
      have hlt : nI j < nI n := (nI_ltI (by omega) (by omega)).mpr hj
      have ek : nI n - 1 - nI j = nI (n - 1 - j) := by
        rw [show nI n - 1 = nI (n - 1) from nI_subN (a := n) (b := 1) g1]
        exact nI_subN (by omega)
      obtain ⟨v, v1, v2, h3, h4, -, -⟩ := (hd (n - 1 - j)).1 (by omega)
      have e1 : (if true = true then (shA (lN Y) (5 * (nI n - 1 - nI j)) &&& 31).toInt32 else (0 : Int32)) = (shA (lN Y) (5 * (nI n - 1 - nI j)) &&& 31).toInt32 := if_pos rfl
      rw [e1, ek, lsh_k hX (by omega), shA_k hY (by omega), lN_i, nI_255, h3]
      have e5 : (lN (Y / 32 ^ (n - 1 - j)) &&& 31) = lN v := by
        rw [show (31 : Int64) = lN (2 ^ 5 - 1) from rfl, wb_mask (Nat.lt_trans (dY _) (by decide)) (by decide), show (2 : Nat) ^ 5 = 32 from rfl, h4]
      rw [e5, lN_i, if_neg (nI_ne0 (by omega) (by omega)), if_neg (fun e => e.elim (nI_pos (by omega)) (fun e => e hlt))]
      exact nI_add 96 v
