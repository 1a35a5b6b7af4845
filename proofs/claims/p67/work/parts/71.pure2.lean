/-! 71: where the ghost goes: class and reference (pure) -/
section PU2
variable {T : HT} {s : Nat → Int32}
theorem wrm_T (h : GEO T s) {g : Nat} (hg : g < T.2.2.2.2.2.2.2.2.2.1) (hco : ∀ k, k < T.2.2.2.2.2.2.2.2.2.1 → T.2.1 k = s (12 + 9 * k + 2)) : ∀ k, k ≤ T.2.2.2.2.2.2.2.2.2.1 → wrm T.2.1 (orF (nbF T.2.2.2.2.2.1 T.2.2.2.2.2.2.1 T.2.2.2.2.2.2.2.2.2.2.2.1 (nI g)) T.2.2.2.2.2.2.2.2.2.2.1) (nI g) k = cld s (nI g) k ∧ ∃ x, x < T.2.2.2.2.2.2.2.2.2.1 ∧ cld s (nI g) k = nI x := by
  have hr := h.1.2.2.1
  intro k
  induction k with
  | zero => intro _; exact ⟨rfl, g, hg, rfl⟩
  | succ k ih =>
    intro hk
    obtain ⟨e, x, hx, ex⟩ := ih (by omega)
    rw [wrm, cld, e, ctn_k (by omega), nb_adj h (by omega) (by omega), ex, rget_k (by omega) (by decide), nI_clamp (by omega), hco x hx, hco k (by omega)]
    refine ⟨rfl, ?_⟩
    split
    · exact ⟨x, hx, rfl⟩
    · split
      · exact ⟨x, hx, rfl⟩
      · exact ⟨k, by omega, rfl⟩
def QUI (T : HT) (g d : Nat) : Prop := (qui T.2.2.2.2.2.1 T.2.2.2.2.2.2.1 T.2.2.2.2.2.2.2.1 T.2.2.2.2.2.2.2.2.2.2.2.1 (nI g) d = (nI g, 10) ∧ ∀ e, e < d → bt T.2.2.2.2.2.2.2.2.2.2.2.1 e = true → ∀ x, x < 24 → ¬ ED T e g x) ∨ ∃ e x n, e < d ∧ bt T.2.2.2.2.2.2.2.2.2.2.2.1 e = true ∧ x < 24 ∧ ED T e g x ∧ T.2.2.2.2.2.2.2.1 e = nI n ∧ n ≤ 9 ∧ qui T.2.2.2.2.2.1 T.2.2.2.2.2.2.1 T.2.2.2.2.2.2.2.1 T.2.2.2.2.2.2.2.2.2.2.2.1 (nI g) d = (nI x, nI n) ∧ ∀ e' x' n', e' < d → bt T.2.2.2.2.2.2.2.2.2.2.2.1 e' = true → x' < 24 → ED T e' g x' → T.2.2.2.2.2.2.2.1 e' = nI n' → n' ≤ 9 → n < n' ∨ (n = n' ∧ x ≤ x')
theorem qui_T (h : GEO T s) {g : Nat} (hg : g < T.2.2.2.2.2.2.2.2.2.1) : ∀ d, d ≤ T.2.2.2.2.2.2.2.2.2.2.1 → QUI T g d := by
  have hr := h.1.2.2.1
  have hdc := h.1.2.2.2
  intro d
  induction d with
  | zero => intro _; exact Or.inl ⟨rfl, fun e he => absurd he (Nat.not_lt_zero e)⟩
  | succ d ih =>
    intro hd
    have ih := ih (by omega)
    obtain ⟨a, b, n0, h1, h2, h3, h4, -, -, h5, -, h6, -⟩ := h.2.1 d (by omega)
    have k1 := nI_eq (a := a) (b := g) (by omega) (by omega)
    have k3 := nI_eq (a := b) (b := g) (by omega) (by omega)
    have hEd : ∀ x, x < 24 → (ED T d g x ↔ (a = g ∧ b = x) ∨ (a = x ∧ b = g)) := by
      intro x hx
      unfold ED
      rw [h3, h4, k1, k3, nI_eq (a := a) (b := x) (by omega) (by omega), nI_eq (a := b) (b := x) (by omega) (by omega)]
    -- the same as before: this door doesn't count
    have same : (∀ x, x < 24 → bt T.2.2.2.2.2.2.2.2.2.2.2.1 d = true → ¬ ED T d g x) → qui T.2.2.2.2.2.1 T.2.2.2.2.2.2.1 T.2.2.2.2.2.2.2.1 T.2.2.2.2.2.2.2.2.2.2.2.1 (nI g) (d + 1) = qui T.2.2.2.2.2.1 T.2.2.2.2.2.2.1 T.2.2.2.2.2.2.2.1 T.2.2.2.2.2.2.2.2.2.2.2.1 (nI g) d → QUI T g (d + 1) := fun hn he => by
      rcases ih with ⟨e1, e2⟩ | ⟨e, x, n, he1, he2, hx, he3, he4, he5, he6, he7⟩
      · refine Or.inl ⟨he.trans e1, fun e he1 he2 x hx => ?_⟩
        by_cases ce : e = d
        · subst ce; exact hn x hx he2
        · exact e2 e (by omega) he2 x hx
      · refine Or.inr ⟨e, x, n, by omega, he2, hx, he3, he4, he5, he.trans he6, fun e' x' n' g1 g2 g3 g4 g5 g6 => ?_⟩
        by_cases ce : e' = d
        · subst ce; exact absurd g4 (hn x' g3 g2)
        · exact he7 e' x' n' (by omega) g2 g3 g4 g5 g6
    -- this door leads to y
    have takes : ∀ y, y < 24 → bt T.2.2.2.2.2.2.2.2.2.2.2.1 d = true → ED T d g y → (∀ x, x < 24 → ED T d g x → x = y) → qui T.2.2.2.2.2.1 T.2.2.2.2.2.2.1 T.2.2.2.2.2.2.2.1 T.2.2.2.2.2.2.2.2.2.2.2.1 (nI g) (d + 1) = (if T.2.2.2.2.2.2.2.1 d < (qui T.2.2.2.2.2.1 T.2.2.2.2.2.2.1 T.2.2.2.2.2.2.2.1 T.2.2.2.2.2.2.2.2.2.2.2.1 (nI g) d).2 then (nI y, T.2.2.2.2.2.2.2.1 d) else if T.2.2.2.2.2.2.2.1 d = (qui T.2.2.2.2.2.1 T.2.2.2.2.2.2.1 T.2.2.2.2.2.2.2.1 T.2.2.2.2.2.2.2.2.2.2.2.1 (nI g) d).2 then (if (qui T.2.2.2.2.2.1 T.2.2.2.2.2.2.1 T.2.2.2.2.2.2.2.1 T.2.2.2.2.2.2.2.2.2.2.2.1 (nI g) d).1 ≤ nI y then qui T.2.2.2.2.2.1 T.2.2.2.2.2.2.1 T.2.2.2.2.2.2.2.1 T.2.2.2.2.2.2.2.2.2.2.2.1 (nI g) d else (nI y, T.2.2.2.2.2.2.2.1 d)) else qui T.2.2.2.2.2.1 T.2.2.2.2.2.2.1 T.2.2.2.2.2.2.2.1 T.2.2.2.2.2.2.2.2.2.2.2.1 (nI g) d) → QUI T g (d + 1) := fun y hy ho hE hone he => by
      rw [h5] at he
      rcases ih with ⟨e1, e2⟩ | ⟨e, x, n, he1, he2, hx, he3, he4, he5, he6, he7⟩
      · rw [e1] at he
        have : nI n0 < 10 := (nI_ltI (b := 10) (by omega) (by decide)).mpr (by omega)
        rw [if_pos this] at he
        refine Or.inr ⟨d, y, n0, by omega, ho, hy, hE, h5, h6, he, fun e' x' n' g1 g2 g3 g4 g5 g6 => ?_⟩
        by_cases ce : e' = d
        · subst ce
          have := hone x' g3 g4
          have hn := (nI_eq (a := n0) (b := n') (by omega) (by omega)).mp (h5.symm.trans g5)
          omega
        · exact absurd g4 (e2 e' (by omega) g2 x' g3)
      · rw [he6] at he
        simp only [nI_ltI (show n0 < 2 ^ 31 by omega) (show n < 2 ^ 31 by omega), nI_eq (a := n0) (b := n) (by omega) (by omega), nI_leI (show x < 2 ^ 31 by omega) (show y < 2 ^ 31 by omega)] at he
        have new : (n0 < n ∨ (n0 = n ∧ y ≤ x)) → qui T.2.2.2.2.2.1 T.2.2.2.2.2.2.1 T.2.2.2.2.2.2.2.1 T.2.2.2.2.2.2.2.2.2.2.2.1 (nI g) (d + 1) = (nI y, nI n0) → QUI T g (d + 1) := fun hlt hq => Or.inr ⟨d, y, n0, by omega, ho, hy, hE, h5, h6, hq, fun e' x' n' g1 g2 g3 g4 g5 g6 => by
          by_cases ce : e' = d
          · subst ce
            have := hone x' g3 g4
            have hn := (nI_eq (a := n0) (b := n') (by omega) (by omega)).mp (h5.symm.trans g5)
            omega
          · have := he7 e' x' n' (by omega) g2 g3 g4 g5 g6
            omega⟩
        have old : (n < n0 ∨ (n = n0 ∧ x ≤ y)) → qui T.2.2.2.2.2.1 T.2.2.2.2.2.2.1 T.2.2.2.2.2.2.2.1 T.2.2.2.2.2.2.2.2.2.2.2.1 (nI g) (d + 1) = (nI x, nI n) → QUI T g (d + 1) := fun hlt hq => Or.inr ⟨e, x, n, by omega, he2, hx, he3, he4, he5, hq, fun e' x' n' g1 g2 g3 g4 g5 g6 => by
          by_cases ce : e' = d
          · subst ce
            have := hone x' g3 g4
            have hn := (nI_eq (a := n0) (b := n') (by omega) (by omega)).mp (h5.symm.trans g5)
            omega
          · exact he7 e' x' n' (by omega) g2 g3 g4 g5 g6⟩
        by_cases c1 : n0 < n
        · rw [if_pos c1] at he
          exact new (Or.inl c1) he
        · rw [if_neg c1] at he
          by_cases c2 : n0 = n
          · rw [if_pos c2] at he
            by_cases c3 : x ≤ y
            · rw [if_pos c3] at he
              exact old (Or.inr ⟨c2.symm, c3⟩) he
            · rw [if_neg c3] at he
              exact new (Or.inr ⟨c2, by omega⟩) he
          · rw [if_neg c2] at he
            exact old (Or.inl (by omega)) he
    have eq : qui T.2.2.2.2.2.1 T.2.2.2.2.2.2.1 T.2.2.2.2.2.2.2.1 T.2.2.2.2.2.2.2.2.2.2.2.1 (nI g) (d + 1) = _ := qui.eq_2 ..
    rw [ctn_k (by omega)] at eq
    cases ho : bt T.2.2.2.2.2.2.2.2.2.2.2.1 d with
    | false =>
      rw [if_pos ho] at eq
      exact same (fun x hx hb => by rw [ho] at hb; cases hb) eq
    | true =>
      rw [if_neg (by rw [ho]; simp), h3, h4] at eq
      simp only [k1, k3] at eq
      by_cases c1 : a = g
      · rw [if_pos c1] at eq
        exact takes b (by omega) ho ((hEd b (by omega)).mpr (by omega)) (fun x hx he => by have := (hEd x hx).mp he; omega) eq
      · rw [if_neg c1] at eq
        by_cases c2 : b = g
        · rw [if_pos c2] at eq
          exact takes a (by omega) ho ((hEd a (by omega)).mpr (by omega)) (fun x hx he => by have := (hEd x hx).mp he; omega) eq
        · rw [if_neg c2] at eq
          exact same (fun x hx hb he => by have := (hEd x hx).mp he; omega) eq
theorem qts_T (h : GEO T s) {g : Nat} (hg : g < T.2.2.2.2.2.2.2.2.2.1) : ∀ k, k ≤ T.2.2.2.2.2.2.2.2.2.1 → (qtS s (nI g) k = (nI g, 9999) ∧ ∀ x, x < k → adj s (nI g) (nI x) = false) ∨
    ∃ e x n, e < T.2.2.2.2.2.2.2.2.2.2.1 ∧ bt T.2.2.2.2.2.2.2.2.2.2.2.1 e = true ∧ x < k ∧ ED T e g x ∧ T.2.2.2.2.2.2.2.1 e = nI n ∧ n ≤ 9 ∧ qtS s (nI g) k = (nI x, nI n) ∧ ∀ e' x' n', e' < T.2.2.2.2.2.2.2.2.2.2.1 → bt T.2.2.2.2.2.2.2.2.2.2.2.1 e' = true → x' < k → ED T e' g x' → T.2.2.2.2.2.2.2.1 e' = nI n' → n' ≤ 9 → n < n' ∨ (n = n' ∧ x ≤ x') := by
  have hr := h.1.2.2.1
  have hdc := h.1.2.2.2
  intro k
  induction k with
  | zero => intro _; exact Or.inl ⟨rfl, fun e he => absurd he (Nat.not_lt_zero e)⟩
  | succ k ih =>
    intro hk
    have ih := ih (by omega)
    rw [qtS]
    cases ha : adj s (nI g) (nI k) with
    | false =>
      rw [if_pos rfl]
      have nok : ∀ e', e' < T.2.2.2.2.2.2.2.2.2.2.1 → bt T.2.2.2.2.2.2.2.2.2.2.2.1 e' = true → ¬ ED T e' g k := fun e' g1 g2 g3 => by
        have := (adj_T h (a := g) (b := k) (by omega) (by omega)).mpr ⟨e', g1, g2, g3⟩
        rw [ha] at this
        cases this
      rcases ih with ⟨e1, e2⟩ | ⟨e, x, n, he1, he2, hx, he3, he4, he5, he6, he7⟩
      · refine Or.inl ⟨e1, fun x hx => ?_⟩
        by_cases ce : x = k
        · subst ce; exact ha
        · exact e2 x (by omega)
      · refine Or.inr ⟨e, x, n, he1, he2, by omega, he3, he4, he5, he6, fun e' x' n' g1 g2 g3 g4 g5 g6 => ?_⟩
        by_cases ce : x' = k
        · subst ce; exact absurd g4 (nok e' g1 g2)
        · exact he7 e' x' n' g1 g2 (by omega) g4 g5 g6
    | true =>
      rw [if_neg (by simp)]
      obtain ⟨d, hd, ho, hE⟩ := (adj_T h (a := g) (b := k) (by omega) (by omega)).mp ha
      rw [door_is h (by omega) (by omega) hd hE, nI_clamp (by omega)]
      obtain ⟨a, b, n0, -, -, -, -, -, -, h5, h6, h7, -⟩ := h.2.1 d hd
      rw [h6]
      have hone : ∀ e' n', e' < T.2.2.2.2.2.2.2.2.2.2.1 → ED T e' g k → T.2.2.2.2.2.2.2.1 e' = nI n' → n' ≤ 9 → n' = n0 := fun e' n' g1 g2 g3 g4 => by
        have := ED_one h (by omega) (by omega) g1 hd g2 hE
        subst this
        exact (nI_eq (a := n') (b := n0) (by omega) (by omega)).mp (g3.symm.trans h5)
      rcases ih with ⟨e1, e2⟩ | ⟨e, x, n, he1, he2, hx, he3, he4, he5, he6, he7⟩
      · rw [e1, if_pos (show nI n0 < 9999 from (nI_ltI (b := 9999) (by omega) (by decide)).mpr (by omega))]
        refine Or.inr ⟨d, k, n0, hd, ho, by omega, hE, h5, h7, rfl, fun e' x' n' g1 g2 g3 g4 g5 g6 => ?_⟩
        by_cases ce : x' = k
        · subst ce
          have := hone e' n' g1 g4 g5 g6
          omega
        · have := (adj_T h (a := g) (b := x') (by omega) (by omega)).mpr ⟨e', g1, g2, g4⟩
          rw [e2 x' (by omega)] at this
          cases this
      · rw [he6]
        by_cases c : n0 < n
        · rw [if_pos ((nI_ltI (show n0 < 2 ^ 31 by omega) (show n < 2 ^ 31 by omega)).mpr c)]
          refine Or.inr ⟨d, k, n0, hd, ho, by omega, hE, h5, h7, rfl, fun e' x' n' g1 g2 g3 g4 g5 g6 => ?_⟩
          by_cases ce : x' = k
          · subst ce
            have := hone e' n' g1 g4 g5 g6
            omega
          · have := he7 e' x' n' g1 g2 (by omega) g4 g5 g6
            omega
        · rw [if_neg (fun e => c ((nI_ltI (show n0 < 2 ^ 31 by omega) (show n < 2 ^ 31 by omega)).mp e))]
          refine Or.inr ⟨e, x, n, he1, he2, by omega, he3, he4, he5, rfl, fun e' x' n' g1 g2 g3 g4 g5 g6 => ?_⟩
          by_cases ce : x' = k
          · subst ce
            have := hone e' n' g1 g4 g5 g6
            omega
          · exact he7 e' x' n' g1 g2 (by omega) g4 g5 g6
theorem qui_qts (h : GEO T s) {g : Nat} (hg : g < T.2.2.2.2.2.2.2.2.2.1) : (qui T.2.2.2.2.2.1 T.2.2.2.2.2.2.1 T.2.2.2.2.2.2.2.1 T.2.2.2.2.2.2.2.2.2.2.2.1 (nI g) T.2.2.2.2.2.2.2.2.2.2.1).1 = (qtS s (nI g) T.2.2.2.2.2.2.2.2.2.1).1 ∧ ∃ x, x < T.2.2.2.2.2.2.2.2.2.1 ∧ (qtS s (nI g) T.2.2.2.2.2.2.2.2.2.1).1 = nI x := by
  have hr := h.1.2.2.1
  have hdc := h.1.2.2.2
  rcases qts_T h hg T.2.2.2.2.2.2.2.2.2.1 (Nat.le_refl _) with ⟨e1, e2⟩ | ⟨e, x, n, he1, he2, hx, he3, he4, he5, he6, he7⟩
  · rcases qui_T h hg T.2.2.2.2.2.2.2.2.2.2.1 (Nat.le_refl _) with ⟨f1, f2⟩ | ⟨f, y, m, hf1, hf2, hy, hf3, hf4, hf5, hf6, hf7⟩
    · rw [e1, f1]; exact ⟨rfl, g, hg, rfl⟩
    · have h2 := ED_rc h (by omega) hy hf1 hf3
      have := (adj_T h (a := g) (b := y) (by omega) hy).mpr ⟨f, hf1, hf2, hf3⟩
      rw [e2 y (by omega)] at this
      cases this
  · rcases qui_T h hg T.2.2.2.2.2.2.2.2.2.2.1 (Nat.le_refl _) with ⟨f1, f2⟩ | ⟨f, y, m, hf1, hf2, hy, hf3, hf4, hf5, hf6, hf7⟩
    · exact absurd he3 (f2 e he1 he2 x (by omega))
    · rw [he6, hf6]
      have h2 := ED_rc h (by omega) hy hf1 hf3
      have g1 := he7 f y m hf1 hf2 (by omega) hf3 hf4 hf5
      have g2 := hf7 e x n he1 he2 (by omega) he3 he4 he5
      have : x = y := by omega
      subst this
      exact ⟨rfl, x, hx, rfl⟩
-- the drawn room
theorem bc_dec : (List.range 4096).all (fun n => bcF (nI n) == sizF (nI n) 12) = true := by decide +kernel
theorem bc_siz {n : Nat} (h : n < 4096) : bcF (nI n) = sizF (nI n) 12 := by
  have := List.all_eq_true.mp bc_dec n (List.mem_range.mpr h)
  exact eq_of_beq this
theorem small_of {x : Int32} {m : Nat} (hm : m ≤ 31) (h : ∀ j, m ≤ j → bt x j = false) : ∃ n, n < 2 ^ m ∧ x = nI n := by
  obtain ⟨n, hn, e⟩ := wb_of32 x
  refine ⟨n, ?_, e⟩
  apply Nat.lt_of_not_le
  intro hge
  obtain ⟨i, hi, hb⟩ := Nat.exists_ge_and_testBit_of_ge_two_pow hge
  have h2 := h i hi
  have hi32 : i < 32 := by
    apply Nat.lt_of_not_le
    intro h3
    have := Nat.testBit_lt_two_pow (x := n) (i := i) (Nat.lt_of_lt_of_le hn (Nat.pow_le_pow_right (by decide) h3))
    rw [hb] at this
    cases this
  rw [e] at h2
  unfold bt at h2
  rw [show (nI n).toBitVec = BitVec.ofNat 32 n from rfl, BitVec.getLsbD_ofNat] at h2
  simp [hi32, hb] at h2
theorem drB_b (x : Int32) {k : Nat} (hk : k < 31) : drB x k = tI (bt x k) := by
  unfold drB
  refine b_ext fun i hi => ?_
  rw [b_and, b_sshr k (by omega) x hi, bt_tI, show (1 : Int32) = tI true from rfl, bt_tI]
  by_cases c : i = 0
  · subst c
    rw [if_pos (by omega)]
    simp
  · simp [c]
theorem sizF_ct (x : Int32) : ∀ n, n ≤ 31 → sizF x n = nI (fb_ct (bt x) n) := by
  intro n
  induction n with
  | zero => intro _; rfl
  | succ n ih =>
    intro hn
    rw [sizF, ih (by omega), fb_ct_succ]
    have := drB_b x (k := n) (by omega)
    unfold drB at this
    rw [this]
    cases bt x n with
    | false => exact Int32.add_zero _
    | true => exact nI_1 _
theorem rd_rng : ∀ r, r < 16 → (5 * nI r + 3) &&& 15 = (5 * nI r + 3) - (5 * nI r + 3) / 16 * 16 ∧ ∃ q, q < 16 ∧ (5 * nI r + 3) &&& 15 = nI q := by
  have key : (List.range 16).all (fun r => decide ((5 * nI r + 3) &&& 15 = (5 * nI r + 3) - (5 * nI r + 3) / 16 * 16) && (List.range 16).any fun q => decide ((5 * nI r + 3) &&& 15 = nI q)) = true := by decide +kernel
  intro r hr
  have := List.all_eq_true.mp key r (List.mem_range.mpr hr)
  simp only [Bool.and_eq_true, decide_eq_true_eq, List.any_eq_true, List.mem_range] at this
  exact this
theorem rem_rng : ∀ q, q < 16 → ∀ w, w < 13 → ∃ l, l ≤ w ∧ nI q - nI q / (nI w + 1) * (nI w + 1) = nI l := by
  have key : (List.range 16).all (fun q => (List.range 13).all fun w => (List.range (w + 1)).any fun l => decide (nI q - nI q / (nI w + 1) * (nI w + 1) = nI l)) = true := by decide +kernel
  intro q hq w hw
  have := List.all_eq_true.mp (List.all_eq_true.mp key q (List.mem_range.mpr hq)) w (List.mem_range.mpr hw)
  obtain ⟨l, hl, e⟩ := List.any_eq_true.mp this
  exact ⟨l, by have := List.mem_range.mp hl; omega, of_decide_eq_true e⟩
/-- the l-th room of a set: both ways of looking for it -/
theorem drawn_eq {x gh : Int32} {rc : Nat} (hrc : rc ≤ 12) (hb : ∀ j, rc ≤ j → bt x j = false) : ∀ j k l, k + j = rc → 1 ≤ l → fb_ct (bt x) k + l ≤ fb_ct (bt x) rc → ∀ i, i + k = 12 →
    (∃ r, r < rc ∧ rdG x gh j k (nI l) = nI r ∧ drG x i k (nI l) = nI r) ∧ DR x i k (nI l) := by
  intro j
  induction j with
  | zero =>
    intro k l hk hl hc i hi
    obtain rfl : k = rc := by omega
    omega
  | succ j ih =>
    intro k l hk hl hc i hi
    obtain ⟨i, rfl⟩ : ∃ i', i = i' + 1 := ⟨i - 1, by omega⟩
    have hlt : fb_ct (bt x) rc ≤ rc := fb_ct_le _ _
    have hl0 : ¬ nI l ≤ 0 := fun e => by
      have := (nI_leI (b := 0) (show l < 2 ^ 31 by omega) (by decide)).mp e
      omega
    rw [rdG, drG, DR, if_neg hl0, ctn_k (by omega), drB_b x (by omega)]
    cases hbk : bt x k with
    | false =>
      have hs : fb_ct (bt x) (k + 1) = fb_ct (bt x) k := by rw [fb_ct_succ, hbk]; rfl
      have e : nI l - tI false = nI l := Int32.sub_zero _
      rw [e, if_pos rfl, if_neg hl0]
      obtain ⟨⟨r, h1, h2, h3⟩, h4⟩ := ih (k + 1) l (by omega) hl (by omega) i (by omega)
      exact ⟨⟨r, h1, h2, h3⟩, Or.inr h4⟩
    | true =>
      have hs : fb_ct (bt x) (k + 1) = fb_ct (bt x) k + 1 := by rw [fb_ct_succ, hbk]; rfl
      have e : nI l - tI true = nI (l - 1) := nI_subN (a := l) (b := 1) (by omega)
      have e2 : nI l + Int32.ofInt (-1) = nI (l - 1) := by
        rw [show nI l = nI (l - 1) + 1 from by rw [nI_1]; congr 1; omega]
        rw [Int32.add_assoc, show (1 : Int32) + Int32.ofInt (-1) = 0 from by decide, Int32.add_zero]
      rw [e, if_neg (by simp), e2]
      by_cases c : l = 1
      · subst c
        rw [if_pos (by decide), if_pos (by decide)]
        exact ⟨⟨k, by omega, rfl, rfl⟩, Or.inl (by decide)⟩
      · have c1 : ¬ nI (l - 1) = 0 := nI_ne0 (by omega) (by omega)
        have c2 : ¬ nI (l - 1) ≤ 0 := fun e => by
          have := (nI_leI (b := 0) (show l - 1 < 2 ^ 31 by omega) (by decide)).mp e
          omega
        rw [if_neg c1, if_neg c2]
        obtain ⟨⟨r, h1, h2, h3⟩, h4⟩ := ih (k + 1) (l - 1) (by omega) (by omega) (by omega) i (by omega)
        exact ⟨⟨r, h1, h2, h3⟩, Or.inr h4⟩
end PU2
