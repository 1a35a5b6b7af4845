/-! b4: bytes, names, pages, quotients -/
theorem byt_A (v : Int32) {n : Nat} (hn : n ≤ 24) : byt v (nI n) = bytA v (nI n) := by
  unfold byt bytA ush ashr
  refine b_ext fun i hi => ?_
  rw [b_and, b_and, b_ushr n (by omega), b_255, b_sshr n (by omega) v hi]
  by_cases c : i < 8
  · rw [if_pos (by omega)]
  · rw [decide_eq_false c, Bool.and_false, Bool.and_false]
theorem ap4_M (f : Nat → Int32) (k : Nat) (v : Int32) : ap4 f k v = ap4M f k v := by
  unfold ap4 ap4M
  rw [show (24 : Int32) = nI 24 from rfl, show (16 : Int32) = nI 16 from rfl, show (8 : Int32) = nI 8 from rfl, show (0 : Int32) = nI 0 from rfl, byt_A v (by decide), byt_A v (by decide), byt_A v (by decide), byt_A v (by decide)]
theorem ap20_M (g : Nat → Int32) (f : Nat) (a b c d e : Int32) : ap20 g f a b c d e = ap20M g f a b c d e := by
  unfold ap20 ap20M
  simp only [ap4_M]
theorem bytA_0 (v s : Int32) : ¬ bytA v s < 0 := by
  unfold bytA
  obtain ⟨m, hm, e⟩ := small_of (x := ashr v s &&& 255) (m := 8) (by decide) (fun j hj => by rw [b_and, b_255, decide_eq_false (by omega), Bool.and_false])
  rw [e]
  exact nI_pos (Nat.lt_of_lt_of_le hm (by decide))
def BUN (f : Nat → Int32) : Prop := ∀ i, ¬ f i < 0
theorem BUN_upd {f : Nat → Int32} (h : BUN f) (k : Nat) {v : Int32} (hv : ¬ v < 0) : BUN (upd f k v) := by
  intro i
  unfold upd
  split
  · exact hv
  · exact h i
theorem BUN_4 {f : Nat → Int32} (h : BUN f) (k : Nat) (v : Int32) : BUN (ap4M f k v) := BUN_upd (BUN_upd (BUN_upd (BUN_upd h _ (bytA_0 _ _)) _ (bytA_0 _ _)) _ (bytA_0 _ _)) _ (bytA_0 _ _)
theorem BUN_20 {g : Nat → Int32} (h : BUN g) (f : Nat) (a b c d e : Int32) : BUN (ap20M g f a b c d e) := BUN_4 (BUN_4 (BUN_4 (BUN_4 (BUN_4 h _ _) _ _) _ _) _ _) _ _
theorem NMR_0 {x y : Int64} (h : NMR x y) : ¬ x = 0 ∧ ¬ y = 0 := by
  obtain ⟨l, g, rfl, rfl⟩ := NMR_of h
  have hX : vl 256 96 l < 2 ^ 63 := Nat.lt_trans (vl8_lt g) (by decide)
  have hY : vl 32 0 l < 2 ^ 63 := Nat.lt_trans (vl5_lt g) (by decide)
  obtain ⟨v, -, -, -, -, h5, h6⟩ := (nm_dig l.length l rfl g.1 0).1 (by have := g.2.1; omega)
  rw [Nat.pow_zero, Nat.div_one] at h5 h6
  exact ⟨fun e => by have := (pk_lEQ (b := 0) hX (by decide)).mp e; omega, fun e => by have := (pk_lEQ (b := 0) hY (by decide)).mp e; omega⟩
theorem bfP_5 (f : Nat → Int32) : ∀ n, bfP f n = w5 f 0 n := by
  intro n
  induction n with
  | zero => rfl
  | succ n ih => rw [bfP, w5, ih, Nat.zero_add]
/-- the buffer as a name, in both -/
theorem NAM_buf (f : Nat → Int32) (n : Nat) (hn : n ≤ 600) : NAM (wnC f n) (bfN f n) := by
  unfold wnC bfN
  have hi : isInF (nI n).toInt64 1 8 = (!decide (nI n < 1 ∨ ¬ nI n ≤ 8)) := isIn_l (a := 1) (b := 8) (nI n) (by decide) (by decide)
  by_cases c8 : 8 < n
  · have : (nI n < 1 ∨ ¬ nI n ≤ 8) := Or.inr fun x => by have := (nI_leI (b := 8) (by omega) (by decide)).mp x; omega
    rw [decide_eq_true this] at hi
    rw [if_pos c8, hi, if_neg (by decide)]
    exact Or.inl ⟨rfl, rfl⟩
  rw [if_neg c8]
  by_cases c0 : n = 0
  · subst c0
    have : (nI 0 < 1 ∨ ¬ nI 0 ≤ 8) := Or.inl (by decide)
    rw [decide_eq_true this] at hi
    rw [hi]
    refine Or.inl ⟨?_, if_neg (show ¬ (!true) = true by decide)⟩
    split
    · rfl
    · rfl
  have h1 : ¬ (nI n < 1 ∨ ¬ nI n ≤ 8) := fun x => x.elim (fun y => by have := (nI_ltI (b := 1) (by omega) (by decide)).mp y; omega) (fun y => y ((nI_leI (b := 8) (by omega) (by decide)).mpr (by omega)))
  rw [decide_eq_false h1] at hi
  rw [hi, if_pos (show (!false) = true from rfl)]
  by_cases c : frst n (fun k => !isLet (f k)) = -1
  · rw [if_pos c, if_pos c, bfP_5]
    have hl : ∀ i, 0 ≤ i → i < 0 + n → isLet (f i) = true := fun i _ hi2 => by
      rcases frst_cases (fun k => !isLet (f k)) n with ⟨-, h2⟩ | ⟨k, hk, e, -⟩
      · have := h2 i (by omega)
        cases h9 : isLet (f i) with
        | true => rfl
        | false =>
            try dsimp only at this
            rw [h9] at this; cases this
      · rw [e] at c
        exact absurd c (nI_m1 (by omega))
    have hN := NMR_word hl (by omega) (by omega)
    exact Or.inr ⟨hN, (NMR_0 hN).1, (NMR_0 hN).2⟩
  · rw [if_neg c, if_neg c]
    exact Or.inl ⟨rfl, rfl⟩
theorem fnd_0 {U : HT} {s : Nat → Int32} (h : CPL U s) : fnd U 0 = -1 := by
  unfold fnd
  refine frst_no fun k hk => ?_
  have := (NMR_0 (h.2.2.2.2.1 k hk).2.2.2.2.2.2.2.2).1
  exact beq_eq_false_iff_ne.mpr this
/-- the same page below what was printed -/
def AGP (s t : (Nat → Int32) × Nat) : Prop := s.2 = t.2 ∧ ∀ i, i < s.2 → s.1 i = t.1 i
theorem AGP_1 {s t : (Nat → Int32) × Nat} (h : AGP s t) (b : Int32) : AGP (pr1 s b) (pr1 t b) := by
  obtain ⟨h1, h2⟩ := h
  refine ⟨congrArg (· + 1) h1, fun i hi => ?_⟩
  have hi : i < s.2 + 1 := hi
  show upd s.1 s.2 b i = upd t.1 t.2 b i
  unfold upd
  rw [h1]
  by_cases c : i = t.2
  · rw [if_pos c, if_pos c]
  · rw [if_neg c, if_neg c]; exact h2 i (by omega)
theorem AGP_F {s t : (Nat → Int32) × Nat} (h : AGP s t) (c b : Int32) : AGP (prF s c b) (prF t c b) := by
  unfold prF
  split
  · exact h
  · exact AGP_1 h b
theorem AGP_L {s t : (Nat → Int32) × Nat} (h : AGP s t) (x : Int64) : ∀ k, AGP (prL x s k) (prL x t k) := by
  intro k
  induction k with
  | zero => exact h
  | succ k ih => exact AGP_1 ih _
theorem AGP_R {s t : (Nat → Int32) × Nat} (h : AGP s t) (T : HT) (i : Nat) : AGP (prR T i s) (prR T i t) := by
  unfold prR prB prC
  exact AGP_1 (AGP_F (AGP_F (AGP_F (AGP_F (AGP_1 (AGP_F (AGP_1 (AGP_L h _ _) _) _ _) _) _ _) _ _) _ _) _ _) _
theorem AGP_A {s t : (Nat → Int32) × Nat} (h : AGP s t) (T : HT) (ρ : Nat → Nat) : ∀ k, AGP (prA T ρ s k) (prA T ρ t k) := by
  intro k
  induction k with
  | zero => exact h
  | succ k ih => exact AGP_R ih T _
theorem AGP_0 (f g : Nat → Int32) : AGP (f, 0) (g, 0) := ⟨rfl, fun i hi => absurd hi (Nat.not_lt_zero i)⟩
theorem fd_dec : (List.range 13).all (fun a => (List.range 12).all fun b => decide ((FP.fdiv (FP.i2f (nI a)) (FP.i2f (nI (b + 1)))) &&& 0x7fffffff ≤ 0x7f800000)) = true := by decide +kernel
theorem fd_ok {a b : Nat} (ha : a ≤ 12) (hb : 1 ≤ b) (hb2 : b ≤ 12) : vf_n32 (FP.fdiv (FP.i2f (nI a)) (FP.i2f (nI b))) := by
  have h1 := List.all_eq_true.mp fd_dec a (List.mem_range.mpr (by omega))
  have h2 := List.all_eq_true.mp h1 (b - 1) (List.mem_range.mpr (by omega))
  have e : b - 1 + 1 = b := by omega
  rw [e] at h2
  have h3 := of_decide_eq_true h2
  exact h3
theorem dd_dec : (List.range 1189).all (fun a => (List.range 12).all fun b => decide ((FP.ddiv (FP.i2d (nI a)) (FP.i2d (nI (b + 1)))) &&& 0x7fffffffffffffff ≤ 0x7ff0000000000000)) = true := by decide +kernel
theorem dd_ok {a b : Nat} (ha : a ≤ 1188) (hb : 1 ≤ b) (hb2 : b ≤ 12) : vf_n64 (FP.ddiv (FP.i2d (nI a)) (FP.i2d (nI b))) := by
  have h1 := List.all_eq_true.mp dd_dec a (List.mem_range.mpr (by omega))
  have h2 := List.all_eq_true.mp h1 (b - 1) (List.mem_range.mpr (by omega))
  have e : b - 1 + 1 = b := by omega
  rw [e] at h2
  have h3 := of_decide_eq_true h2
  exact h3
theorem smF_le {U : HT} {s : Nat → Int32} (h : CPL U s) : ∃ a, a ≤ 1188 ∧ smF U.2.1 U.2.2.2.2.2.2.2.2.2.1 = nI a := by
  have hrc := h.1.1.2.2.1
  have : ∀ n, n ≤ U.2.2.2.2.2.2.2.2.2.1 → ∃ a, a ≤ 99 * n ∧ smF U.2.1 n = nI a := by
    intro n
    induction n with
    | zero => intro _; exact ⟨0, Nat.le_refl _, rfl⟩
    | succ n ih =>
      intro hn
      obtain ⟨a, ha, e⟩ := ih (by omega)
      obtain ⟨c, hc, e2⟩ := (h.2.2.2.2.1 n (by omega)).2.1
      exact ⟨a + c, by omega, by rw [smF, e, e2]; exact nI_add a c⟩
  obtain ⟨a, ha, e⟩ := this U.2.2.2.2.2.2.2.2.2.1 (Nat.le_refl _)
  exact ⟨a, by omega, e⟩
theorem mean_ok {U : HT} {s : Nat → Int32} (h : CPL U s) (h0 : ¬ U.2.2.2.2.2.2.2.2.2.1 = 0) : vf_n64 (FP.ddiv (FP.i2d (smF U.2.1 U.2.2.2.2.2.2.2.2.2.1)) (FP.i2d (nI U.2.2.2.2.2.2.2.2.2.1))) := by
  obtain ⟨a, ha, e⟩ := smF_le h
  rw [e]
  exact dd_ok ha (by omega) h.1.1.2.2.1
theorem frac_ok {U : HT} {s : Nat → Int32} (h : CPL U s) (h0 : ¬ U.2.2.2.2.2.2.2.2.2.1 = 0) : vf_n32 (FP.fdiv (FP.i2f (bcF U.2.2.2.2.2.2.2.2.2.2.2.2.2.2.1)) (FP.i2f (nI U.2.2.2.2.2.2.2.2.2.1))) := by
  obtain ⟨a, ha, e⟩ := bc_12 h
  rw [e]
  exact fd_ok ha (by omega) h.1.1.2.2.1
