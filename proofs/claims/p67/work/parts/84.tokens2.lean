/-! 84: names, words and tokens of the two -/
theorem lN_or (a b : Nat) : lN a ||| lN b = lN (a ||| b) := by
  apply Int64.toBitVec_inj.mp; rw [Int64.toBitVec_or, lN_bv, lN_bv, lN_bv]; apply BitVec.eq_of_getLsbD_eq; intro i hi; simp [BitVec.getLsbD_ofNat, Nat.testBit_or, hi]
theorem nI_64 : ∀ c, c < 256 → (nI c).toInt64 = lN c := by decide +kernel
theorem sh_or (k : Nat) (hk : k < 64) {a c : Nat} (hc : c < 2 ^ k) : (lN a <<< ((nI k).toInt64 &&& 63)) ||| lN c = lN (a * 2 ^ k + c) := by
  rw [wb_shl a hk, lN_or, Nat.mul_comm a, ← Nat.two_pow_add_eq_or_of_lt hc]
theorem nil_or_cat (l : List Nat) : l = [] ∨ ∃ xs x, l = xs ++ [x] := by
  rcases List.eq_nil_or_concat l with h | ⟨xs, x, h⟩
  · exact Or.inl h
  · exact Or.inr ⟨xs, x, by rw [h, List.concat_eq_append]⟩
def vl (B c : Nat) (l : List Nat) : Nat := l.foldl (fun a v => a * B + (c + v)) 0
theorem vl_cat (B c : Nat) (l : List Nat) (v : Nat) : vl B c (l ++ [v]) = vl B c l * B + (c + v) := by
  unfold vl; rw [List.foldl_append]; rfl
theorem vl_lt {B c m : Nat} (hB : c + m < B) : ∀ l : List Nat, (∀ v, v ∈ l → v ≤ m) → vl B c l < B ^ l.length := by
  intro l
  generalize hn : l.length = n
  induction n generalizing l with
  | zero => intro _; obtain rfl := List.eq_nil_of_length_eq_zero hn; show 0 < B ^ 0; rw [Nat.pow_zero]; decide
  | succ n ih =>
    intro h
    rcases nil_or_cat l with rfl | ⟨xs, x, rfl⟩
    · exact absurd hn (by simp)
    · have hl : xs.length = n := by simpa using hn
      rw [vl_cat]
      have h1 := ih xs hl (fun v hv => h v (by simp [hv]))
      have h2 := h x (by simp)
      rw [Nat.pow_succ]
      calc vl B c xs * B + (c + x) < vl B c xs * B + B := by omega
        _ = (vl B c xs + 1) * B := by rw [Nat.add_mul, Nat.one_mul]
        _ ≤ B ^ n * B := Nat.mul_le_mul_right _ h1
theorem vl_inj {B c m : Nat} (hB : c + m < B) : ∀ n (l l' : List Nat), l.length = n → (∀ v, v ∈ l → 1 ≤ v ∧ v ≤ m) → (∀ v, v ∈ l' → 1 ≤ v ∧ v ≤ m) → vl B c l = vl B c l' → l = l' := by
  intro n
  induction n with
  | zero =>
    intro l l' hn h h2 e
    obtain rfl := List.eq_nil_of_length_eq_zero hn
    rcases nil_or_cat l' with rfl | ⟨xs, x, rfl⟩
    · rfl
    · rw [vl_cat, show vl B c [] = 0 from rfl] at e
      have := h2 x (by simp)
      omega
  | succ n ih =>
    intro l l' hn h h2 e
    rcases nil_or_cat l with rfl | ⟨xs, x, rfl⟩
    · exact absurd hn (by simp)
    · have g1 := h x (by simp)
      rcases nil_or_cat l' with rfl | ⟨ys, y, rfl⟩
      · rw [vl_cat, show vl B c [] = 0 from rfl] at e
        omega
      · have g2 := h2 y (by simp)
        rw [vl_cat, vl_cat] at e
        have hb : 0 < B := by omega
        have e1 : (vl B c xs * B + (c + x)) % B = c + x := by rw [Nat.mul_comm, Nat.mul_add_mod]; exact Nat.mod_eq_of_lt (by omega)
        have e2 : (vl B c ys * B + (c + y)) % B = c + y := by rw [Nat.mul_comm, Nat.mul_add_mod]; exact Nat.mod_eq_of_lt (by omega)
        have d1 : (vl B c xs * B + (c + x)) / B = vl B c xs := by rw [Nat.mul_comm, Nat.mul_add_div hb, Nat.div_eq_of_lt (by omega)]; rfl
        have d2 : (vl B c ys * B + (c + y)) / B = vl B c ys := by rw [Nat.mul_comm, Nat.mul_add_div hb, Nat.div_eq_of_lt (by omega)]; rfl
        rw [e, e2] at e1
        rw [e, d2] at d1
        have := ih xs ys (by simpa using hn) (fun v hv => h v (by simp [hv])) (fun v hv => h2 v (by simp [hv])) d1.symm
        rw [this, show x = y by omega]
def LET8 (l : List Nat) : Prop := (∀ v, v ∈ l → 1 ≤ v ∧ v ≤ 26) ∧ 1 ≤ l.length ∧ l.length ≤ 8
theorem NMR_mk {l : List Nat} (h : LET8 l) : NMR (lN (vl 256 96 l)) (lN (vl 32 0 l)) := by
  refine ⟨l, h.1, h.2.1, h.2.2, rfl, ?_⟩
  unfold vl
  simp only [Nat.zero_add]
theorem NMR_of {x y : Int64} (h : NMR x y) : ∃ l, LET8 l ∧ x = lN (vl 256 96 l) ∧ y = lN (vl 32 0 l) := by
  obtain ⟨l, h1, h2, h3, rfl, rfl⟩ := h
  refine ⟨l, ⟨h1, h2, h3⟩, rfl, ?_⟩
  unfold vl
  simp only [Nat.zero_add]
theorem vl8_lt {l : List Nat} (h : LET8 l) : vl 256 96 l < 123 * 256 ^ 7 := by
  obtain ⟨h1, h2, h3⟩ := h
  rcases nil_or_cat l with rfl | ⟨xs, x, rfl⟩
  · exact absurd h2 (by decide)
  · have hx := h1 x (by simp)
    -- the first letter is below 123
    have key : ∀ n (l : List Nat), l.length = n + 1 → (∀ v, v ∈ l → 1 ≤ v ∧ v ≤ 26) → vl 256 96 l < 123 * 256 ^ n := by
      intro n
      induction n with
      | zero =>
        intro l hl hv
        rcases nil_or_cat l with rfl | ⟨xs, x, rfl⟩
        · exact absurd hl (by simp)
        · have : xs = [] := List.eq_nil_of_length_eq_zero (by simpa using hl)
          subst this
          have := hv x (by simp)
          rw [vl_cat, show vl 256 96 [] = 0 from rfl]
          omega
      | succ n ih =>
        intro l hl hv
        rcases nil_or_cat l with rfl | ⟨xs, x, rfl⟩
        · exact absurd hl (by simp)
        · have g := ih xs (by simpa using hl) (fun v hv' => hv v (by simp [hv']))
          have := hv x (by simp)
          rw [vl_cat, Nat.pow_succ]
          omega
    obtain ⟨n, hn⟩ : ∃ n, (xs ++ [x]).length = n + 1 := ⟨xs.length, by simp⟩
    have g := key n _ hn h1
    have : (256 : Nat) ^ n ≤ 256 ^ 7 := Nat.pow_le_pow_right (by decide) (by omega)
    omega
theorem vl5_lt {l : List Nat} (h : LET8 l) : vl 32 0 l < 2 ^ 40 := by
  have g := vl_lt (B := 32) (c := 0) (m := 26) (by decide) l (fun v hv => (h.1 v hv).2)
  have : (32 : Nat) ^ l.length ≤ 32 ^ 8 := Nat.pow_le_pow_right (by decide) h.2.2
  have e : (32 : Nat) ^ 8 = 2 ^ 40 := by decide
  omega
theorem NMR_eq {x y x' y' : Int64} (h : NMR x y) (h' : NMR x' y') : x = x' ↔ y = y' := by
  obtain ⟨l, g, rfl, rfl⟩ := NMR_of h
  obtain ⟨l', g', rfl, rfl⟩ := NMR_of h'
  have a1 := vl8_lt g; have a2 := vl8_lt g'
  have b1 := vl5_lt g; have b2 := vl5_lt g'
  have e7 : 123 * (256 : Nat) ^ 7 < 2 ^ 63 := by decide
  rw [fb_lN_inj (by omega) (by omega), fb_lN_inj (by omega) (by omega)]
  constructor
  · intro e
    rw [vl_inj (B := 256) (c := 96) (m := 26) (by decide) _ l l' rfl g.1 g'.1 e]
  · intro e
    rw [vl_inj (B := 32) (c := 0) (m := 26) (by decide) _ l l' rfl g.1 g'.1 e]
theorem isLet_n {c : Int32} (h : isLet c = true) : ∃ v, 1 ≤ v ∧ v ≤ 26 ∧ c = nI (96 + v) := by
  unfold isLet at h
  by_cases c1 : c < 97
  · rw [if_pos c1] at h; exact absurd h (by decide)
  rw [if_neg c1] at h
  by_cases c2 : 122 < c
  · rw [if_pos c2] at h; exact absurd h (by decide)
  have hh : inR 123 c = true := inR_in (fun x => c1 (Int32.lt_trans x (by decide))) (Int32.lt_of_le_of_lt (Int32.not_lt.mp c2) (by decide))
  obtain ⟨k, hk, rfl⟩ := inR_t hh (by decide)
  have : ¬ k < 97 := fun x => c1 (nI_lt x (by decide))
  exact ⟨k - 96, by omega, by omega, by rw [show 96 + (k - 96) = k by omega]⟩
theorem let_5 : ∀ v, v < 27 → (nI (96 + v) - 97 + 1).toInt64 = lN v := by decide +kernel
def KND (k : Int32) : Prop := k = 0 ∨ k = 1 ∨ k = 2 ∨ k = 3 ∨ k = 59 ∨ k = 40 ∨ k = 41
theorem wd_pos {by' : Nat → Int32} {n s : Nat} (h : ¬ n ≤ s) (hl : isLet (by' s) = true) : s < wdE by' n s ∧ wdE by' n s ≤ n := by
  unfold wdE
  rw [rnE_yes (by omega) hl]
  have := rnE_le (P := fun i => isLet (by' i)) (n := n) (n - (s + 1)) (s + 1) (by omega)
  omega
theorem dg_pos {by' : Nat → Int32} {n s : Nat} (h : ¬ n ≤ s) (hl : isDig (by' s) = true) : s < dgE by' n s ∧ dgE by' n s ≤ n := by
  unfold dgE
  rw [rnE_yes (by omega) hl]
  have := rnE_le (P := fun i => isDig (by' i)) (n := n) (n - (s + 1)) (s + 1) (by omega)
  omega
