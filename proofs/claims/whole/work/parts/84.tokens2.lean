/-! 84: names, words and tokens of the two -/
theorem lN_or (a b : Nat) : lN a ||| lN b = lN (a ||| b) := by
  apply Int64.toBitVec_inj.mp; rw [Int64.toBitVec_or, lN_bv, lN_bv, lN_bv]; apply BitVec.eq_of_getLsbD_eq; intro i hi; simp [BitVec.getLsbD_ofNat, Nat.testBit_or, hi]
theorem nI_64 : ∀ c, c < 256 → (nI c).toInt64 = lN c := by decide +kernel
theorem sh_or (k : Nat) (hk : k < 64) {a c : Nat} (hc : c < 2 ^ k) : (lN a <<< ((nI k).toInt64 &&& 63)) ||| lN c = lN (a * 2 ^ k + c) := by
  rw [wb_shl a hk, lN_or, Nat.mul_comm a, ← Nat.two_pow_add_eq_or_of_lt hc]
theorem nil_or_cat (l : List Nat) : l = [] ∨ ∃ xs x, l = xs ++ [x] := by
  rcases List.eq_nil_or_concat l with h | ⟨xs, x, h⟩
  · exact Or.inl h
  · exact Or.inr ⟨xs, x, by rw [h, List.concat_eq_append]⟩
def vl (B c : Nat) (l : List Nat) : Nat := l.foldl (fun a v => a * B + (c + v)) 0
theorem vl_cat (B c : Nat) (l : List Nat) (v : Nat) : vl B c (l ++ [v]) = vl B c l * B + (c + v) := by
  unfold vl; rw [List.foldl_append]; rfl
theorem vl_lt {B c m : Nat} (hB : c + m < B) : ∀ l : List Nat, (∀ v, v ∈ l → v ≤ m) → vl B c l < B ^ l.length := by
  intro l
  generalize hn : l.length = n
  induction n generalizing l with
  | zero => intro _; obtain rfl := List.eq_nil_of_length_eq_zero hn; show 0 < B ^ 0; rw [Nat.pow_zero]; decide
  | succ n ih =>
    intro h
    rcases nil_or_cat l with rfl | ⟨xs, x, rfl⟩
    · exact absurd hn (by simp)
    · have hl : xs.length = n := by simpa using hn
      rw [vl_cat]
      have h1 := ih xs hl (fun v hv => h v (by simp [hv]))
      have h2 := h x (by simp)
      rw [Nat.pow_succ]
      calc vl B c xs * B + (c + x) < vl B c xs * B + B := by omega
        _ = (vl B c xs + 1) * B := by rw [Nat.add_mul, Nat.one_mul]
        _ ≤ B ^ n * B := Nat.mul_le_mul_right _ h1
theorem vl_inj {B c m : Nat} (hB : c + m < B) : ∀ n (l l' : List Nat), l.length = n → (∀ v, v ∈ l → 1 ≤ v ∧ v ≤ m) → (∀ v, v ∈ l' → 1 ≤ v ∧ v ≤ m) → vl B c l = vl B c l' → l = l' := by
  intro n
  induction n with
  | zero =>
    intro l l' hn h h2 e
    obtain rfl := List.eq_nil_of_length_eq_zero hn
    rcases nil_or_cat l' with rfl | ⟨xs, x, rfl⟩
    · rfl
    · rw [vl_cat, show vl B c [] = 0 from rfl] at e
      have := h2 x (by simp)
      omega
  | succ n ih =>
    intro l l' hn h h2 e
    rcases nil_or_cat l with rfl | ⟨xs, x, rfl⟩
    · exact absurd hn (by simp)
    · have g1 := h x (by simp)
      rcases nil_or_cat l' with rfl | ⟨ys, y, rfl⟩
      · rw [vl_cat, show vl B c [] = 0 from rfl] at e
        omega
      · have g2 := h2 y (by simp)
        rw [vl_cat, vl_cat] at e
        have hb : 0 < B := by omega
        have e1 : (vl B c xs * B + (c + x)) % B = c + x := by rw [Nat.mul_comm, Nat.mul_add_mod]; exact Nat.mod_eq_of_lt (by omega)
        have e2 : (vl B c ys * B + (c + y)) % B = c + y := by rw [Nat.mul_comm, Nat.mul_add_mod]; exact Nat.mod_eq_of_lt (by omega)
        have d1 : (vl B c xs * B + (c + x)) / B = vl B c xs := by rw [Nat.mul_comm, Nat.mul_add_div hb, Nat.div_eq_of_lt (by omega)]; rfl
        have d2 : (vl B c ys * B + (c + y)) / B = vl B c ys := by rw [Nat.mul_comm, Nat.mul_add_div hb, Nat.div_eq_of_lt (by omega)]; rfl
        rw [e, e2] at e1
        rw [e, d2] at d1
        have := ih xs ys (by simpa using hn) (fun v hv => h v (by simp [hv])) (fun v hv => h2 v (by simp [hv])) d1.symm
        rw [this, show x = y by omega]
def LET8 (l : List Nat) : Prop := (∀ v, v ∈ l → 1 ≤ v ∧ v ≤ 26) ∧ 1 ≤ l.length ∧ l.length ≤ 8
theorem NMR_mk {l : List Nat} (h : LET8 l) : NMR (lN (vl 256 96 l)) (lN (vl 32 0 l)) := by
  refine ⟨l, h.1, h.2.1, h.2.2, rfl, ?_⟩
  unfold vl
  simp only [Nat.zero_add]
theorem NMR_of {x y : Int64} (h : NMR x y) : ∃ l, LET8 l ∧ x = lN (vl 256 96 l) ∧ y = lN (vl 32 0 l) := by
  obtain ⟨l, h1, h2, h3, rfl, rfl⟩ := h
  refine ⟨l, ⟨h1, h2, h3⟩, rfl, ?_⟩
  unfold vl
  simp only [Nat.zero_add]
theorem vl8_lt {l : List Nat} (h : LET8 l) : vl 256 96 l < 123 * 256 ^ 7 := by
  obtain ⟨h1, h2, h3⟩ := h
  rcases nil_or_cat l with rfl | ⟨xs, x, rfl⟩
  · exact absurd h2 (by decide)
  · have hx := h1 x (by simp)
    -- the first letter is below 123
    have key : ∀ n (l : List Nat), l.length = n + 1 → (∀ v, v ∈ l → 1 ≤ v ∧ v ≤ 26) → vl 256 96 l < 123 * 256 ^ n := by
      intro n
      induction n with
      | zero =>
        intro l hl hv
        rcases nil_or_cat l with rfl | ⟨xs, x, rfl⟩
        · exact absurd hl (by simp)
        · have : xs = [] := List.eq_nil_of_length_eq_zero (by simpa using hl)
          subst this
          have := hv x (by simp)
          rw [vl_cat, show vl 256 96 [] = 0 from rfl]
          omega
      | succ n ih =>
        intro l hl hv
        rcases nil_or_cat l with rfl | ⟨xs, x, rfl⟩
        · exact absurd hl (by simp)
        · have g := ih xs (by simpa using hl) (fun v hv' => hv v (by simp [hv']))
          have := hv x (by simp)
          rw [vl_cat, Nat.pow_succ]
          omega
    obtain ⟨n, hn⟩ : ∃ n, (xs ++ [x]).length = n + 1 := ⟨xs.length, by simp⟩
    have g := key n _ hn h1
    have : (256 : Nat) ^ n ≤ 256 ^ 7 := Nat.pow_le_pow_right (by decide) (by omega)
    omega
theorem vl5_lt {l : List Nat} (h : LET8 l) : vl 32 0 l < 2 ^ 40 := by
  have g := vl_lt (B := 32) (c := 0) (m := 26) (by decide) l (fun v hv => (h.1 v hv).2)
  have : (32 : Nat) ^ l.length ≤ 32 ^ 8 := Nat.pow_le_pow_right (by decide) h.2.2
  have e : (32 : Nat) ^ 8 = 2 ^ 40 := by decide
  omega
theorem NMR_eq {x y x' y' : Int64} (h : NMR x y) (h' : NMR x' y') : x = x' ↔ y = y' := by
  obtain ⟨l, g, rfl, rfl⟩ := NMR_of h
  obtain ⟨l', g', rfl, rfl⟩ := NMR_of h'
  have a1 := vl8_lt g; have a2 := vl8_lt g'
  have b1 := vl5_lt g; have b2 := vl5_lt g'
  have e7 : 123 * (256 : Nat) ^ 7 < 2 ^ 63 := by decide
  rw [fb_lN_inj (by omega) (by omega), fb_lN_inj (by omega) (by omega)]
  constructor
  · intro e
    rw [vl_inj (B := 256) (c := 96) (m := 26) (by decide) _ l l' rfl g.1 g'.1 e]
  · intro e
    rw [vl_inj (B := 32) (c := 0) (m := 26) (by decide) _ l l' rfl g.1 g'.1 e]
theorem isLet_n {c : Int32} (h : isLet c = true) : ∃ v, 1 ≤ v ∧ v ≤ 26 ∧ c = nI (96 + v) := by
  unfold isLet at h
  by_cases c1 : c < 97
  · rw [if_pos c1] at h; exact absurd h (by decide)
  rw [if_neg c1] at h
  by_cases c2 : 122 < c
  · rw [if_pos c2] at h; exact absurd h (by decide)
  have hh : inR 123 c = true := inR_in (fun x => c1 (Int32.lt_trans x (by decide))) (Int32.lt_of_le_of_lt (Int32.not_lt.mp c2) (by decide))
  obtain ⟨k, hk, rfl⟩ := inR_t hh (by decide)
  have : ¬ k < 97 := fun x => c1 (nI_lt x (by decide))
  exact ⟨k - 96, by omega, by omega, by rw [show 96 + (k - 96) = k by omega]⟩
theorem let_5 : ∀ v, v < 27 → (nI (96 + v) - 97 + 1).toInt64 = lN v := by decide +kernel
/-- a word's letters, in both codes -/
theorem word_NMR (by' : Nat → Int32) (s : Nat) : ∀ d, (∀ i, s ≤ i → i < s + d → isLet (by' i) = true) → ∃ l : List Nat, (∀ v, v ∈ l → 1 ≤ v ∧ v ≤ 26) ∧ l.length = d ∧ w8 by' s d = lN (vl 256 96 l) ∧ w5 by' s d = lN (vl 32 0 l) := by
  intro d
  induction d with
  | zero => intro _; exact ⟨[], by simp, rfl, rfl, rfl⟩
  | succ d ih =>
    intro h
    obtain ⟨l, h1, h2, h3, h4⟩ := ih (fun i a b => h i a (by omega))
    obtain ⟨v, g1, g2, g3⟩ := isLet_n (h (s + d) (by omega) (by omega))
    refine ⟨l ++ [v], ?_, by simp [h2], ?_, ?_⟩
    · intro w hw
      rcases List.mem_append.mp hw with hw | hw
      · exact h1 w hw
      · rw [List.mem_singleton.mp hw]; exact ⟨g1, g2⟩
    · rw [w8, h3, g3, nI_64 _ (by omega), vl_cat]
      exact sh_or 8 (by decide) (by omega)
    · rw [w5, h4, g3, let_5 v (by omega), vl_cat]
      have := sh_or 5 (by decide) (a := vl 32 0 l) (c := v) (by omega)
      rw [Nat.zero_add]
      exact this
theorem NMR_word {by' : Nat → Int32} {s d : Nat} (h : ∀ i, s ≤ i → i < s + d → isLet (by' i) = true) (h1 : 1 ≤ d) (h8 : d ≤ 8) : NMR (w8 by' s d) (w5 by' s d) := by
  obtain ⟨l, g1, g2, g3, g4⟩ := word_NMR by' s d h
  rw [g3, g4]
  exact NMR_mk ⟨g1, by omega, by omega⟩
theorem m10_eq (by' : Nat → Int32) (s : Nat) : ∀ d, m10 by' s d = n10 by' s d := by
  intro d
  induction d with
  | zero => rfl
  | succ d ih => rw [m10, n10, ih, Int32.mul_comm]
def KND (k : Int32) : Prop := k = 0 ∨ k = 1 ∨ k = 2 ∨ k = 3 ∨ k = 59 ∨ k = 40 ∨ k = 41
def NE (K : KT) (M : MT) : Prop := K.2.2.2.2.2.2.2.2.2.2.2.2.2.2.2.2.2.1 = 0 ∧ K.2.2.2.2.2.2.2.2.2.2.2.2.2.2.2.2.2.2.1 = -1 ∧ M.2.2.2.2.2.2.2.2.2.1 = -1
def TOK (K : KT) (M : MT) : Prop := (∃ n q, TKP K n q ∧ TMP M n q) ∧ K.2.2.2.2.2.2.2.2.2.2.1 = M.2.1 ∧ K.2.2.2.2.2.2.2.2.2.2.2.2.2.1 = M.2.2.2.2.2.1 ∧ M.2.2.2.2.2.2.1 = soK K.2.2.2.2.2.2.2.2.2.2.2.2.2.2.1 ∧ (K.2.2.2.2.2.2.2.2.2.2.2.2.2.2.1 = 2 → M.2.2.2.2.2.2.2.1 = K.2.2.2.2.2.2.2.2.2.2.2.2.2.2.2.2.1) ∧ (M.2.2.2.2.2.2.1 = 3 → M.2.2.2.2.2.2.2.1 = K.2.2.2.2.2.2.2.2.2.2.2.2.2.2.1) ∧ (K.2.2.2.2.2.2.2.2.2.2.2.2.2.2.1 = 1 → NMR K.2.2.2.2.2.2.2.2.2.2.2.2.2.2.2.1 M.2.2.2.2.2.2.2.2.2.2.2.2.1) ∧ KND K.2.2.2.2.2.2.2.2.2.2.2.2.2.2.1 ∧ NE K M
theorem wd_pos {by' : Nat → Int32} {n s : Nat} (h : ¬ n ≤ s) (hl : isLet (by' s) = true) : s < wdE by' n s ∧ wdE by' n s ≤ n := by
  unfold wdE
  rw [rnE_yes (by omega) hl]
  have := rnE_le (P := fun i => isLet (by' i)) (n := n) (n - (s + 1)) (s + 1) (by omega)
  omega
theorem dg_pos {by' : Nat → Int32} {n s : Nat} (h : ¬ n ≤ s) (hl : isDig (by' s) = true) : s < dgE by' n s ∧ dgE by' n s ≤ n := by
  unfold dgE
  rw [rnE_yes (by omega) hl]
  have := rnE_le (P := fun i => isDig (by' i)) (n := n) (n - (s + 1)) (s + 1) (by omega)
  omega
theorem TOK_adv {K : KT} {M : MT} {n q : Nat} (h : TKP K n q) (h2 : TMP M n q) (e : K.2.2.2.2.2.2.2.2.2.2.1 = M.2.1) (hne : NE K M) : TOK (advT K n q) (advN M n q) := by
  have hs := skp_le (by' := M.2.1) h.1
  have a1 : TKP (advT K n q) n (tkE K.2.2.2.2.2.2.2.2.2.2.1 n (skp K.2.2.2.2.2.2.2.2.2.2.1 n q)) := adv_TKP h
  have a2 : TMP (advN M n q) n (tkE K.2.2.2.2.2.2.2.2.2.2.1 n (skp K.2.2.2.2.2.2.2.2.2.2.1 n q)) := by
    refine ⟨a1.1, h2.2.1, ?_, h2.2.2.2.1, h2.2.2.2.2⟩
    rw [e]; rfl
  refine ⟨⟨n, _, a1, a2⟩, e, ?_, ?_, ?_, ?_, ?_, ?_, hne⟩
  · show nI (skp K.2.2.2.2.2.2.2.2.2.2.1 n q) = nI (skp M.2.1 n q)
    rw [e]
  · show soK (tkK M.2.1 n (skp M.2.1 n q)) = soK (tkK K.2.2.2.2.2.2.2.2.2.2.1 n (skp K.2.2.2.2.2.2.2.2.2.2.1 n q))
    rw [e]
  all_goals
    unfold advT
    try unfold advN
    dsimp only
    rw [e]
    generalize skp M.2.1 n q = s at *
    generalize M.2.1 = by' at *
    clear a1 a2 h h2 e hne
  · intro h3
    unfold tkN rvV tkK at *
    by_cases c1 : n ≤ s
    · rw [if_pos c1] at h3; exact absurd h3 (by decide)
    simp only [if_neg c1] at h3 ⊢
    cases c2 : isLet (by' s) with
    | true =>
      simp only [c2, if_true] at h3
      unfold wdK at h3
      split at h3 <;> exact absurd h3 (by decide)
    | false =>
      simp only [c2, Bool.false_eq_true, if_false] at h3 ⊢
      cases c3 : isDig (by' s) with
      | true =>
        simp only [c3, if_true] at h3 ⊢
        unfold dgK at h3
        by_cases c4 : dgE by' n s - s ≤ 4
        · have e4 : cap 4 (dgE by' n s - s) = dgE by' n s - s := by unfold cap; split <;> omega
          rw [e4, m10_eq]
        · rw [if_neg c4] at h3; exact absurd h3 (by decide)
      | false =>
        simp only [c3, Bool.false_eq_true, if_false] at h3
        by_cases c59 : by' s = 59
        · rw [if_pos c59, c59] at h3; exact absurd h3 (by decide)
        rw [if_neg c59] at h3
        by_cases c40 : by' s = 40
        · rw [if_pos c40, c40] at h3; exact absurd h3 (by decide)
        rw [if_neg c40] at h3
        by_cases c41 : by' s = 41
        · rw [if_pos c41, c41] at h3; exact absurd h3 (by decide)
        rw [if_neg c41] at h3; exact absurd h3 (by decide)
  · intro h3
    unfold rvV tkK at *
    by_cases c1 : n ≤ s
    · rw [if_pos c1] at h3; exact absurd h3 (by decide)
    simp only [if_neg c1] at h3 ⊢
    cases c2 : isLet (by' s) with
    | true =>
      simp only [c2, if_true] at h3
      unfold wdK at h3
      split at h3 <;> exact absurd h3 (by decide)
    | false =>
      simp only [c2, Bool.false_eq_true, if_false] at h3 ⊢
      cases c3 : isDig (by' s) with
      | true =>
        simp only [c3, if_true] at h3 ⊢
        unfold dgK at h3
        split at h3 <;> exact absurd h3 (by decide)
      | false =>
        simp only [c3, Bool.false_eq_true, if_false] at h3 ⊢
        by_cases c59 : by' s = 59
        · rw [if_pos c59]
        rw [if_neg c59] at h3 ⊢
        by_cases c40 : by' s = 40
        · rw [if_pos c40]
        rw [if_neg c40] at h3 ⊢
        by_cases c41 : by' s = 41
        · rw [if_pos c41]
        rw [if_neg c41] at h3; exact absurd h3 (by decide)
  · intro h3
    unfold tkW rvW tkK at *
    by_cases c1 : n ≤ s
    · rw [if_pos c1] at h3; exact absurd h3 (by decide)
    simp only [if_neg c1] at h3 ⊢
    cases c2 : isLet (by' s) with
    | true =>
      simp only [c2, if_true] at h3 ⊢
      unfold wdK at h3
      have hp := wd_pos c1 c2
      by_cases c4 : wdE by' n s - s ≤ 8
      · have e4 : cap 8 (wdE by' n s - s) = wdE by' n s - s := by unfold cap; split <;> omega
        rw [e4]
        refine NMR_word (fun i hi1 hi2 => ?_) (by omega) c4
        exact rnE_in (P := fun i => isLet (by' i)) (n := n) (n - s) s (by omega) i hi1 (by unfold wdE at *; omega)
      · rw [if_neg c4] at h3; exact absurd h3 (by decide)
    | false =>
      simp only [c2, Bool.false_eq_true, if_false] at h3
      cases c3 : isDig (by' s) with
      | true =>
        simp only [c3, if_true] at h3
        unfold dgK at h3
        split at h3 <;> exact absurd h3 (by decide)
      | false =>
        simp only [c3, Bool.false_eq_true, if_false] at h3
        by_cases c59 : by' s = 59
        · rw [if_pos c59, c59] at h3; exact absurd h3 (by decide)
        rw [if_neg c59] at h3
        by_cases c40 : by' s = 40
        · rw [if_pos c40, c40] at h3; exact absurd h3 (by decide)
        rw [if_neg c40] at h3
        by_cases c41 : by' s = 41
        · rw [if_pos c41, c41] at h3; exact absurd h3 (by decide)
        rw [if_neg c41] at h3; exact absurd h3 (by decide)
  · unfold tkK wdK dgK KND
    by_cases c1 : n ≤ s
    · rw [if_pos c1]; exact Or.inl rfl
    rw [if_neg c1]
    cases c2 : isLet (by' s) with
    | true => rw [if_pos rfl]; split <;> simp
    | false =>
      rw [if_neg (by decide)]
      cases c3 : isDig (by' s) with
      | true => rw [if_pos rfl]; split <;> simp
      | false =>
        rw [if_neg (by decide)]
        by_cases c59 : by' s = 59
        · rw [if_pos c59, c59]; decide
        rw [if_neg c59]
        by_cases c40 : by' s = 40
        · rw [if_pos c40, c40]; decide
        rw [if_neg c40]
        by_cases c41 : by' s = 41
        · rw [if_pos c41, c41]; decide
        rw [if_neg c41]; decide
/-- the words that both know -/
def WRD (k : Nat) (x : Int64) : Prop := NMR (pkT k (txL k).length) x
def wdM (T : MT) (w : Int64) : Bool := decide (T.2.2.2.2.2.2.2.2.1 = 0) && decide (T.2.2.2.2.2.2.1 = 1) && decide (T.2.2.2.2.2.2.2.2.2.2.2.2.1 = w)
def sgM (T : MT) (c : Int32) : Bool := decide (T.2.2.2.2.2.2.2.2.1 = 0) && decide (T.2.2.2.2.2.2.1 = 3) && decide (T.2.2.2.2.2.2.2.1 = c)
theorem so_1 {k : Int32} (h : KND k) : soK k = 1 ↔ k = 1 := by
  rcases h with rfl | rfl | rfl | rfl | rfl | rfl | rfl <;> decide
theorem so_2 {k : Int32} (h : KND k) : soK k = 2 ↔ k = 2 := by
  rcases h with rfl | rfl | rfl | rfl | rfl | rfl | rfl <;> decide
theorem so_0 {k : Int32} (h : KND k) : soK k = 0 ↔ k = 0 := by
  rcases h with rfl | rfl | rfl | rfl | rfl | rfl | rfl <;> decide
theorem so_3 {k : Int32} (h : KND k) : soK k = 3 ↔ (k = 59 ∨ k = 40 ∨ k = 41) := by
  rcases h with rfl | rfl | rfl | rfl | rfl | rfl | rfl <;> decide
theorem so_4 {k : Int32} (h : KND k) : soK k = 4 ↔ k = 3 := by
  rcases h with rfl | rfl | rfl | rfl | rfl | rfl | rfl <;> decide
theorem tok_word {K : KT} {M : MT} (h : TOK K M) (he : M.2.2.2.2.2.2.2.2.1 = 0) {k : Nat} {x : Int64} (hw : WRD k x) : wdM M x = isW K k := by
  obtain ⟨-, -, -, h4, -, -, h7, h8, -⟩ := h
  unfold wdM isW
  rw [decide_eq_true he, Bool.true_and]
  by_cases c : K.2.2.2.2.2.2.2.2.2.2.2.2.2.2.1 = 1
  · rw [decide_eq_true c, decide_eq_true (show M.2.2.2.2.2.2.1 = 1 by rw [h4]; exact (so_1 h8).mpr c), Bool.true_and, Bool.true_and]
    exact decide_eq_decide.mpr (NMR_eq (h7 c) hw).symm
  · rw [decide_eq_false c, decide_eq_false (show ¬ M.2.2.2.2.2.2.1 = 1 by rw [h4]; exact fun x => c ((so_1 h8).mp x)), Bool.false_and, Bool.false_and]
theorem tok_sign {K : KT} {M : MT} (h : TOK K M) (he : M.2.2.2.2.2.2.2.2.1 = 0) {c : Int32} (hc : c = 59 ∨ c = 40 ∨ c = 41) : sgM M c = decide (K.2.2.2.2.2.2.2.2.2.2.2.2.2.2.1 = c) := by
  obtain ⟨-, -, -, h4, -, h6, -, h8, -⟩ := h
  unfold sgM
  rw [decide_eq_true he, Bool.true_and]
  by_cases c3 : M.2.2.2.2.2.2.1 = 3
  · rw [decide_eq_true c3, Bool.true_and, h6 c3]
  · rw [decide_eq_false c3, Bool.false_and]
    refine (decide_eq_false fun x => c3 ?_).symm
    rw [h4]
    exact (so_3 h8).mpr (by rw [x]; exact hc)
theorem wr_house : WRD 14 8902245 := by
  have h := NMR_mk (l := [8, 15, 21, 19, 5]) (by unfold LET8; decide)
  have e1 : pkT 14 (txL 14).length = lN (vl 256 96 [8, 15, 21, 19, 5]) := by decide +kernel
  have e2 : (8902245 : Int64) = lN (vl 32 0 [8, 15, 21, 19, 5]) := by decide +kernel
  unfold WRD
  rw [e1, e2]
  exact h
theorem wr_room : WRD 15 605677 := by
  have h := NMR_mk (l := [18, 15, 15, 13]) (by unfold LET8; decide)
  have e1 : pkT 15 (txL 15).length = lN (vl 256 96 [18, 15, 15, 13]) := by decide +kernel
  have e2 : (605677 : Int64) = lN (vl 32 0 [18, 15, 15, 13]) := by decide +kernel
  unfold WRD
  rw [e1, e2]
  exact h
theorem wr_door : WRD 16 146930 := by
  have h := NMR_mk (l := [4, 15, 15, 18]) (by unfold LET8; decide)
  have e1 : pkT 16 (txL 16).length = lN (vl 256 96 [4, 15, 15, 18]) := by decide +kernel
  have e2 : (146930 : Int64) = lN (vl 32 0 [4, 15, 15, 18]) := by decide +kernel
  unfold WRD
  rw [e1, e2]
  exact h
theorem wr_ghost : WRD 17 7618164 := by
  have h := NMR_mk (l := [7, 8, 15, 19, 20]) (by unfold LET8; decide)
  have e1 : pkT 17 (txL 17).length = lN (vl 256 96 [7, 8, 15, 19, 20]) := by decide +kernel
  have e2 : (7618164 : Int64) = lN (vl 32 0 [7, 8, 15, 19, 20]) := by decide +kernel
  unfold WRD
  rw [e1, e2]
  exact h
theorem wr_nights : WRD 18 479437459 := by
  have h := NMR_mk (l := [14, 9, 7, 8, 20, 19]) (by unfold LET8; decide)
  have e1 : pkT 18 (txL 18).length = lN (vl 256 96 [14, 9, 7, 8, 20, 19]) := by decide +kernel
  have e2 : (479437459 : Int64) = lN (vl 32 0 [14, 9, 7, 8, 20, 19]) := by decide +kernel
  unfold WRD
  rw [e1, e2]
  exact h
theorem wr_thermo : WRD 19 679659951 := by
  have h := NMR_mk (l := [20, 8, 5, 18, 13, 15]) (by unfold LET8; decide)
  have e1 : pkT 19 (txL 19).length = lN (vl 256 96 [20, 8, 5, 18, 13, 15]) := by decide +kernel
  have e2 : (679659951 : Int64) = lN (vl 32 0 [20, 8, 5, 18, 13, 15]) := by decide +kernel
  unfold WRD
  rw [e1, e2]
  exact h
theorem wr_micro : WRD 20 13930063 := by
  have h := NMR_mk (l := [13, 9, 3, 18, 15]) (by unfold LET8; decide)
  have e1 : pkT 20 (txL 20).length = lN (vl 256 96 [13, 9, 3, 18, 15]) := by decide +kernel
  have e2 : (13930063 : Int64) = lN (vl 32 0 [13, 9, 3, 18, 15]) := by decide +kernel
  unfold WRD
  rw [e1, e2]
  exact h
theorem wr_closed : WRD 21 113757348 := by
  have h := NMR_mk (l := [3, 12, 15, 19, 5, 4]) (by unfold LET8; decide)
  have e1 : pkT 21 (txL 21).length = lN (vl 256 96 [3, 12, 15, 19, 5, 4]) := by decide +kernel
  have e2 : (113757348 : Int64) = lN (vl 32 0 [3, 12, 15, 19, 5, 4]) := by decide +kernel
  unfold WRD
  rw [e1, e2]
  exact h
theorem wr_ask : WRD 25 1643 := by
  have h := NMR_mk (l := [1, 19, 11]) (by unfold LET8; decide)
  have e1 : pkT 25 (txL 25).length = lN (vl 256 96 [1, 19, 11]) := by decide +kernel
  have e2 : (1643 : Int64) = lN (vl 32 0 [1, 19, 11]) := by decide +kernel
  unfold WRD
  rw [e1, e2]
  exact h
theorem wr_open : WRD 26 508078 := by
  have h := NMR_mk (l := [15, 16, 5, 14]) (by unfold LET8; decide)
  have e1 : pkT 26 (txL 26).length = lN (vl 256 96 [15, 16, 5, 14]) := by decide +kernel
  have e2 : (508078 : Int64) = lN (vl 32 0 [15, 16, 5, 14]) := by decide +kernel
  unfold WRD
  rw [e1, e2]
  exact h
theorem wr_close : WRD 27 3554917 := by
  have h := NMR_mk (l := [3, 12, 15, 19, 5]) (by unfold LET8; decide)
  have e1 : pkT 27 (txL 27).length = lN (vl 256 96 [3, 12, 15, 19, 5]) := by decide +kernel
  have e2 : (3554917 : Int64) = lN (vl 32 0 [3, 12, 15, 19, 5]) := by decide +kernel
  unfold WRD
  rw [e1, e2]
  exact h
theorem wr_warm : WRD 28 755277 := by
  have h := NMR_mk (l := [23, 1, 18, 13]) (by unfold LET8; decide)
  have e1 : pkT 28 (txL 28).length = lN (vl 256 96 [23, 1, 18, 13]) := by decide +kernel
  have e2 : (755277 : Int64) = lN (vl 32 0 [23, 1, 18, 13]) := by decide +kernel
  unfold WRD
  rw [e1, e2]
  exact h
theorem wr_earn : WRD 29 165454 := by
  have h := NMR_mk (l := [5, 1, 18, 14]) (by unfold LET8; decide)
  have e1 : pkT 29 (txL 29).length = lN (vl 256 96 [5, 1, 18, 14]) := by decide +kernel
  have e2 : (165454 : Int64) = lN (vl 32 0 [5, 1, 18, 14]) := by decide +kernel
  unfold WRD
  rw [e1, e2]
  exact h
theorem wr_repeat : WRD 30 609752116 := by
  have h := NMR_mk (l := [18, 5, 16, 5, 1, 20]) (by unfold LET8; decide)
  have e1 : pkT 30 (txL 30).length = lN (vl 256 96 [18, 5, 16, 5, 1, 20]) := by decide +kernel
  have e2 : (609752116 : Int64) = lN (vl 32 0 [18, 5, 16, 5, 1, 20]) := by decide +kernel
  unfold WRD
  rw [e1, e2]
  exact h
theorem wr_on : WRD 31 494 := by
  have h := NMR_mk (l := [15, 14]) (by unfold LET8; decide)
  have e1 : pkT 31 (txL 31).length = lN (vl 256 96 [15, 14]) := by decide +kernel
  have e2 : (494 : Int64) = lN (vl 32 0 [15, 14]) := by decide +kernel
  unfold WRD
  rw [e1, e2]
  exact h
theorem wr_off : WRD 32 15558 := by
  have h := NMR_mk (l := [15, 6, 6]) (by unfold LET8; decide)
  have e1 : pkT 32 (txL 32).length = lN (vl 256 96 [15, 6, 6]) := by decide +kernel
  have e2 : (15558 : Int64) = lN (vl 32 0 [15, 6, 6]) := by decide +kernel
  unfold WRD
  rw [e1, e2]
  exact h
theorem wr_mode : WRD 33 441477 := by
  have h := NMR_mk (l := [13, 15, 4, 5]) (by unfold LET8; decide)
  have e1 : pkT 33 (txL 33).length = lN (vl 256 96 [13, 15, 4, 5]) := by decide +kernel
  have e2 : (441477 : Int64) = lN (vl 32 0 [13, 15, 4, 5]) := by decide +kernel
  unfold WRD
  rw [e1, e2]
  exact h
theorem wr_chill : WRD 34 3417484 := by
  have h := NMR_mk (l := [3, 8, 9, 12, 12]) (by unfold LET8; decide)
  have e1 : pkT 34 (txL 34).length = lN (vl 256 96 [3, 8, 9, 12, 12]) := by decide +kernel
  have e2 : (3417484 : Int64) = lN (vl 32 0 [3, 8, 9, 12, 12]) := by decide +kernel
  unfold WRD
  rw [e1, e2]
  exact h
theorem wr_hearing : WRD 35 8759354823 := by
  have h := NMR_mk (l := [8, 5, 1, 18, 9, 14, 7]) (by unfold LET8; decide)
  have e1 : pkT 35 (txL 35).length = lN (vl 256 96 [8, 5, 1, 18, 9, 14, 7]) := by decide +kernel
  have e2 : (8759354823 : Int64) = lN (vl 32 0 [8, 5, 1, 18, 9, 14, 7]) := by decide +kernel
  unfold WRD
  rw [e1, e2]
  exact h
theorem wr_price : WRD 36 17376357 := by
  have h := NMR_mk (l := [16, 18, 9, 3, 5]) (by unfold LET8; decide)
  have e1 : pkT 36 (txL 36).length = lN (vl 256 96 [16, 18, 9, 3, 5]) := by decide +kernel
  have e2 : (17376357 : Int64) = lN (vl 32 0 [16, 18, 9, 3, 5]) := by decide +kernel
  unfold WRD
  rw [e1, e2]
  exact h
theorem wr_random : WRD 37 605491693 := by
  have h := NMR_mk (l := [18, 1, 14, 4, 15, 13]) (by unfold LET8; decide)
  have e1 : pkT 37 (txL 37).length = lN (vl 256 96 [18, 1, 14, 4, 15, 13]) := by decide +kernel
  have e2 : (605491693 : Int64) = lN (vl 32 0 [18, 1, 14, 4, 15, 13]) := by decide +kernel
  unfold WRD
  rw [e1, e2]
  exact h
theorem wr_coins : WRD 38 3646931 := by
  have h := NMR_mk (l := [3, 15, 9, 14, 19]) (by unfold LET8; decide)
  have e1 : pkT 38 (txL 38).length = lN (vl 256 96 [3, 15, 9, 14, 19]) := by decide +kernel
  have e2 : (3646931 : Int64) = lN (vl 32 0 [3, 15, 9, 14, 19]) := by decide +kernel
  unfold WRD
  rw [e1, e2]
  exact h
