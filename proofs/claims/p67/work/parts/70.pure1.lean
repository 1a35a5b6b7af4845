/-! 70: the house of the class beside the row of the reference: doors, neighbours (pure) -/
def NMR (x y : Int64) : Prop := ∃ l : List Nat, (∀ v, v ∈ l → 1 ≤ v ∧ v ≤ 26) ∧ 1 ≤ l.length ∧ l.length ≤ 8 ∧ x = lN (l.foldl (fun a v => a * 256 + (96 + v)) 0) ∧ y = lN (l.foldl (fun a v => a * 32 + v) 0)
def DRC (T : HT) (s : Nat → Int32) (d : Nat) : Prop := ∃ a b n : Nat, a < b ∧ b < T.2.2.2.2.2.2.2.2.2.1 ∧ T.2.2.2.2.2.1 d = nI a ∧ T.2.2.2.2.2.2.1 d = nI b ∧ s (120 + 4 * d) = nI a ∧ s (120 + 4 * d + 1) = nI b ∧ T.2.2.2.2.2.2.2.1 d = nI n ∧ s (120 + 4 * d + 2) = nI n ∧ n ≤ 9 ∧ s (120 + 4 * d + 3) = tI (bt T.2.2.2.2.2.2.2.2.2.2.2.1 d)
def UNQ (T : HT) : Prop := ∀ d e, d < T.2.2.2.2.2.2.2.2.2.2.1 → e < T.2.2.2.2.2.2.2.2.2.2.1 → T.2.2.2.2.2.1 d = T.2.2.2.2.2.1 e → T.2.2.2.2.2.2.1 d = T.2.2.2.2.2.2.1 e → d = e
def GEO (T : HT) (s : Nat → Int32) : Prop := (s 9 = nI T.2.2.2.2.2.2.2.2.2.1 ∧ s 10 = nI T.2.2.2.2.2.2.2.2.2.2.1 ∧ T.2.2.2.2.2.2.2.2.2.1 ≤ 12 ∧ T.2.2.2.2.2.2.2.2.2.2.1 ≤ 24) ∧ (∀ d, d < T.2.2.2.2.2.2.2.2.2.2.1 → DRC T s d) ∧ UNQ T
def ED (T : HT) (d a b : Nat) : Prop := (T.2.2.2.2.2.1 d = nI a ∧ T.2.2.2.2.2.2.1 d = nI b) ∨ (T.2.2.2.2.2.1 d = nI b ∧ T.2.2.2.2.2.2.1 d = nI a)
theorem ED_sym {T : HT} {d a b : Nat} (h : ED T d a b) : ED T d b a := Or.symm h
section PU1
variable {T : HT} {s : Nat → Int32}
theorem geo_n (h : GEO T s) : nR s = T.2.2.2.2.2.2.2.2.2.1 ∧ nD s = T.2.2.2.2.2.2.2.2.2.2.1 := by
  obtain ⟨⟨h1, h2, h3, h4⟩, -⟩ := h
  unfold nR nD
  rw [h1, h2]
  exact ⟨nI_clamp (by omega), nI_clamp (by omega)⟩
theorem geo_RW (h : GEO T s) : RW s := by
  obtain ⟨e1, e2⟩ := geo_n h
  obtain ⟨⟨h1, h2, h3, h4⟩, -⟩ := h
  unfold RW
  rw [e1, e2]
  exact ⟨h1, h3, h2, h4⟩
theorem geo_WD (h : GEO T s) : WD s := by
  obtain ⟨e1, e2⟩ := geo_n h
  intro d hd
  rw [e2] at hd
  obtain ⟨a, b, n, h1, h2, -, -, h3, h4, -⟩ := h.2.1 d hd
  have := h.1.2.2.1
  exact ⟨a, b, by omega, by omega, h3, h4⟩
theorem geo_btP (h : GEO T s) (a b : Int32) {d : Nat} (hd : d < T.2.2.2.2.2.2.2.2.2.2.1) : btP s a b d = doP T.2.2.2.2.2.1 T.2.2.2.2.2.2.1 a b d := by
  obtain ⟨x, y, n, h1, h2, h3, h4, h5, h6, -⟩ := h.2.1 d hd
  have hr := h.1.2.2.1
  unfold btP doP
  rw [h3, h4, h5, h6]
  have hxy : ¬ nI x = nI y := fun e => by have := (nI_eq (a := x) (b := y) (by omega) (by omega)).mp e; omega
  by_cases c1 : a < b
  · have c2 : ¬ b < a := (fa_of_lt c1).2.2.1
    have c3 : ¬ a = b := (fa_of_lt c1).2.2.2.1
    simp only [if_pos c1, if_neg c2, if_neg c3]
    by_cases e1 : nI x = a
    · by_cases e2 : nI y = b
      · simp [e1, e2]
      · simp [e1, e2]
    · simp [e1]
  · by_cases c2 : b < a
    · have c3 : ¬ b = a := (fa_of_lt c2).2.2.2.1
      simp only [if_neg c1, if_pos c2, if_neg c3]
      by_cases e1 : nI x = b
      · by_cases e2 : nI y = a
        · simp [e1, e2]
        · simp [e1, e2]
      · simp [e1]
    · have c3 : a = b := by
        rcases fa_three a b with h | h | h
        · exact absurd h c1
        · exact h
        · exact absurd h c2
      subst c3
      simp only [if_neg c1, if_true]
      by_cases e1 : nI x = a
      · have e2 : ¬ nI y = a := fun e => hxy (e1.trans e.symm)
        simp [e2]
      · simp [e1]
theorem geo_btw (h : GEO T s) (a b : Int32) : btw s a b = frst T.2.2.2.2.2.2.2.2.2.2.1 (doP T.2.2.2.2.2.1 T.2.2.2.2.2.2.1 a b) := by
  unfold btw
  rw [(geo_n h).2]
  exact frst_cong fun k hk => geo_btP h a b hk
theorem doP_ED (h : GEO T s) {a b d : Nat} (ha : a < 24) (hb : b < 24) (hd : d < T.2.2.2.2.2.2.2.2.2.2.1) : doP T.2.2.2.2.2.1 T.2.2.2.2.2.2.1 (nI a) (nI b) d = true ↔ ED T d a b := by
  obtain ⟨x, y, n, h1, h2, h3, h4, -⟩ := h.2.1 d hd
  have hr := h.1.2.2.1
  unfold doP ED
  rw [h3, h4]
  simp only [Bool.and_eq_true, beq_iff_eq, nI_ltI (show b < 2 ^ 31 by omega) (show a < 2 ^ 31 by omega), nI_ltI (show a < 2 ^ 31 by omega) (show b < 2 ^ 31 by omega)]
  have k1 := nI_eq (a := x) (b := a) (by omega) (by omega)
  have k2 := nI_eq (a := x) (b := b) (by omega) (by omega)
  have k3 := nI_eq (a := y) (b := a) (by omega) (by omega)
  have k4 := nI_eq (a := y) (b := b) (by omega) (by omega)
  by_cases c1 : a < b
  · have c2 : ¬ b < a := by omega
    rw [if_neg c2, if_pos c1, k1, k2, k3, k4]
    omega
  · rw [if_neg c1]
    by_cases c2 : b < a
    · rw [if_pos c2, k1, k2, k3, k4]
      omega
    · rw [if_neg c2, k1, k2, k3, k4]
      omega
theorem ED_rc (h : GEO T s) {a b d : Nat} (ha : a < 24) (hb : b < 24) (hd : d < T.2.2.2.2.2.2.2.2.2.2.1) (he : ED T d a b) : a < T.2.2.2.2.2.2.2.2.2.1 ∧ b < T.2.2.2.2.2.2.2.2.2.1 ∧ a ≠ b := by
  obtain ⟨x, y, n, h1, h2, h3, h4, -⟩ := h.2.1 d hd
  have hr := h.1.2.2.1
  unfold ED at he
  rw [h3, h4] at he
  have k1 := nI_eq (a := x) (b := a) (by omega) (by omega)
  have k2 := nI_eq (a := x) (b := b) (by omega) (by omega)
  have k3 := nI_eq (a := y) (b := a) (by omega) (by omega)
  have k4 := nI_eq (a := y) (b := b) (by omega) (by omega)
  rw [k1, k2, k3, k4] at he
  omega
theorem ED_one (h : GEO T s) {a b d e : Nat} (ha : a < 24) (hb : b < 24) (hd : d < T.2.2.2.2.2.2.2.2.2.2.1) (he : e < T.2.2.2.2.2.2.2.2.2.2.1) (h1 : ED T d a b) (h2 : ED T e a b) : d = e := by
  obtain ⟨x, y, n, g1, g2, g3, g4, -⟩ := h.2.1 d hd
  obtain ⟨x', y', n', g1', g2', g3', g4', -⟩ := h.2.1 e he
  have hr := h.1.2.2.1
  unfold ED at h1 h2
  rw [g3, g4] at h1
  rw [g3', g4'] at h2
  have k1 := nI_eq (a := x) (b := a) (by omega) (by omega)
  have k2 := nI_eq (a := x) (b := b) (by omega) (by omega)
  have k3 := nI_eq (a := y) (b := a) (by omega) (by omega)
  have k4 := nI_eq (a := y) (b := b) (by omega) (by omega)
  have k1' := nI_eq (a := x') (b := a) (by omega) (by omega)
  have k2' := nI_eq (a := x') (b := b) (by omega) (by omega)
  have k3' := nI_eq (a := y') (b := a) (by omega) (by omega)
  have k4' := nI_eq (a := y') (b := b) (by omega) (by omega)
  rw [k1, k2, k3, k4] at h1
  rw [k1', k2', k3', k4'] at h2
  have e1 : x = x' := by omega
  have e2 : y = y' := by omega
  exact h.2.2 d e hd he (by rw [g3, g3', e1]) (by rw [g4, g4', e2])
theorem door_at (h : GEO T s) {a b : Nat} (ha : a < 24) (hb : b < 24) : (btw s (nI a) (nI b) = -1 ∧ ∀ d, d < T.2.2.2.2.2.2.2.2.2.2.1 → ¬ ED T d a b) ∨ ∃ d, d < T.2.2.2.2.2.2.2.2.2.2.1 ∧ btw s (nI a) (nI b) = nI d ∧ ED T d a b := by
  rw [geo_btw h]
  rcases frst_cases (doP T.2.2.2.2.2.1 T.2.2.2.2.2.2.1 (nI a) (nI b)) T.2.2.2.2.2.2.2.2.2.2.1 with ⟨e, h1⟩ | ⟨d, hd, e, h1, -⟩
  · refine Or.inl ⟨e, fun d hd he => ?_⟩
    have := h1 d hd
    rw [(doP_ED h ha hb hd).mpr he] at this
    cases this
  · exact Or.inr ⟨d, hd, e, (doP_ED h ha hb hd).mp h1⟩
theorem door_is (h : GEO T s) {a b d : Nat} (ha : a < 24) (hb : b < 24) (hd : d < T.2.2.2.2.2.2.2.2.2.2.1) (he : ED T d a b) : btw s (nI a) (nI b) = nI d := by
  rcases door_at h ha hb with ⟨-, h1⟩ | ⟨e, he2, h2, h3⟩
  · exact absurd he (h1 d hd)
  · rw [h2, ED_one h ha hb hd he2 he h3]
theorem adj_T (h : GEO T s) {a b : Nat} (ha : a < 24) (hb : b < 24) : adj s (nI a) (nI b) = true ↔ ∃ d, d < T.2.2.2.2.2.2.2.2.2.2.1 ∧ bt T.2.2.2.2.2.2.2.2.2.2.2.1 d = true ∧ ED T d a b := by
  have hdc := h.1.2.2.2
  unfold adj
  rcases door_at h ha hb with ⟨e, h1⟩ | ⟨d, hd, e, h1⟩
  · rw [e, if_pos rfl]
    refine ⟨fun x => (by cases x), ?_⟩
    rintro ⟨d, hd, -, h2⟩
    exact absurd h2 (h1 d hd)
  · obtain ⟨-, -, -, -, -, -, -, -, -, -, -, -, e3⟩ := h.2.1 d hd
    rw [e, if_neg (nI_m1 (by omega)), nI_clamp (by omega), e3]
    constructor
    · intro x
      cases hb2 : bt T.2.2.2.2.2.2.2.2.2.2.2.1 d with
      | true => exact ⟨d, hd, hb2, h1⟩
      | false => rw [hb2] at x; simp [tI] at x
    · rintro ⟨e2, he2, h2, h3⟩
      have := ED_one h ha hb hd he2 h1 h3
      subst this
      rw [h2]
      rfl
theorem adj_sym (h : GEO T s) {a b : Nat} (ha : a < 24) (hb : b < 24) : adj s (nI a) (nI b) = adj s (nI b) (nI a) := by
  rw [Bool.eq_iff_iff, adj_T h ha hb, adj_T h hb ha]
  constructor
  · rintro ⟨d, h1, h2, h3⟩; exact ⟨d, h1, h2, ED_sym h3⟩
  · rintro ⟨d, h1, h2, h3⟩; exact ⟨d, h1, h2, ED_sym h3⟩
theorem nb_T (h : GEO T s) {a b : Nat} (ha : a < 24) (hb : b < 24) : bt (orF (nbF T.2.2.2.2.2.1 T.2.2.2.2.2.2.1 T.2.2.2.2.2.2.2.2.2.2.2.1 (nI a)) T.2.2.2.2.2.2.2.2.2.2.1) b = true ↔ ∃ d, d < T.2.2.2.2.2.2.2.2.2.2.1 ∧ bt T.2.2.2.2.2.2.2.2.2.2.2.1 d = true ∧ ED T d a b := by
  have hr := h.1.2.2.1
  have hdc := h.1.2.2.2
  rw [bt_orF]
  have key : ∀ d, d < T.2.2.2.2.2.2.2.2.2.2.1 → (bt (nbF T.2.2.2.2.2.1 T.2.2.2.2.2.2.1 T.2.2.2.2.2.2.2.2.2.2.2.1 (nI a) d) b = true ↔ (bt T.2.2.2.2.2.2.2.2.2.2.2.1 d = true ∧ ED T d a b)) := by
    intro d hd
    obtain ⟨x, y, n, h1, h2, h3, h4, -⟩ := h.2.1 d hd
    unfold nbF ED
    rw [ctn_k (by omega), h3, h4]
    have k1 := nI_eq (a := x) (b := a) (by omega) (by omega)
    have k2 := nI_eq (a := x) (b := b) (by omega) (by omega)
    have k3 := nI_eq (a := y) (b := a) (by omega) (by omega)
    have k4 := nI_eq (a := y) (b := b) (by omega) (by omega)
    simp only [k1, k2, k3, k4]
    cases hb2 : bt T.2.2.2.2.2.2.2.2.2.2.2.1 d with
    | false => simp [b_0]
    | true =>
      rw [if_neg (by simp)]
      by_cases c1 : x = a
      · rw [if_pos c1, bt_cbit (by omega)]
        simp only [decide_eq_true_eq, true_and]
        omega
      · rw [if_neg c1]
        by_cases c2 : y = a
        · rw [if_pos c2, bt_cbit (by omega)]
          simp only [decide_eq_true_eq, true_and]
          omega
        · rw [if_neg c2, b_0]
          simp only [Bool.false_eq_true, true_and, false_iff]
          omega
  constructor
  · rintro ⟨d, hd, h1⟩
    obtain ⟨h2, h3⟩ := (key d hd).mp h1
    exact ⟨d, hd, h2, h3⟩
  · rintro ⟨d, hd, h2, h3⟩
    exact ⟨d, hd, (key d hd).mpr ⟨h2, h3⟩⟩
theorem nb_adj (h : GEO T s) {a b : Nat} (ha : a < 24) (hb : b < 24) : bt (orF (nbF T.2.2.2.2.2.1 T.2.2.2.2.2.2.1 T.2.2.2.2.2.2.2.2.2.2.2.1 (nI a)) T.2.2.2.2.2.2.2.2.2.2.1) b = adj s (nI a) (nI b) := by
  rw [Bool.eq_iff_iff, nb_T h ha hb, adj_T h ha hb]
theorem adj_rc (h : GEO T s) {a b : Nat} (ha : a < 24) (hb : b < 24) (he : adj s (nI a) (nI b) = true) : a < T.2.2.2.2.2.2.2.2.2.1 ∧ b < T.2.2.2.2.2.2.2.2.2.1 ∧ a ≠ b := by
  obtain ⟨d, hd, -, h1⟩ := (adj_T h ha hb).mp he
  exact ED_rc h ha hb hd h1
theorem orF_big {f : Nat → Int32} {n j : Nat} (h : ∀ k, k < n → bt (f k) j = false) : bt (orF f n) j = false := by
  cases hb : bt (orF f n) j with
  | false => rfl
  | true =>
    obtain ⟨k, hk, h2⟩ := (bt_orF f n j).mp hb
    rw [h k hk] at h2
    cases h2
theorem nb_big (h : GEO T s) {a j : Nat} (ha : a < 24) (hj : T.2.2.2.2.2.2.2.2.2.1 ≤ j) : bt (orF (nbF T.2.2.2.2.2.1 T.2.2.2.2.2.2.1 T.2.2.2.2.2.2.2.2.2.2.2.1 (nI a)) T.2.2.2.2.2.2.2.2.2.2.1) j = false := by
  have hr := h.1.2.2.1
  refine orF_big fun d hd => ?_
  obtain ⟨x, y, n, h1, h2, h3, h4, -⟩ := h.2.1 d hd
  unfold nbF
  rw [h3, h4]
  split
  · exact b_0 j
  · split
    · rw [bt_cbit (by omega)]; exact decide_eq_false (by omega)
    · split
      · rw [bt_cbit (by omega)]; exact decide_eq_false (by omega)
      · exact b_0 j
theorem bt_tI (c : Bool) (i : Nat) : bt (tI c) i = (c && decide (i = 0)) := by
  cases c with
  | false => rw [tI_f, b_0]; rfl
  | true =>
    rw [tI_t]
    have := bt_cbit (k := 0) (by decide) i
    rw [show cbit (nI 0) = 1 from by decide] at this
    rw [this, Bool.true_and]
    exact decide_eq_decide.mpr ⟨fun e => e.symm, fun e => e.symm⟩
theorem bt_tIsh (c : Bool) {k j : Nat} (hk : k < 32) (hj : j < 32) : bt (tI c <<< (nI k &&& 31)) j = (c && decide (k = j)) := by
  rw [b_shl k hk _ hj, bt_tI]
  cases c with
  | false => simp
  | true =>
    simp only [Bool.true_and]
    rw [← Bool.decide_and]
    exact decide_eq_decide.mpr (by omega)
theorem nbS_eq (h : GEO T s) {a : Nat} (ha : a < 24) : orF (nbF T.2.2.2.2.2.1 T.2.2.2.2.2.2.1 T.2.2.2.2.2.2.2.2.2.2.2.1 (nI a)) T.2.2.2.2.2.2.2.2.2.2.1 = orF (nbS s (nI a)) (nR s) := by
  have hr := h.1.2.2.1
  rw [(geo_n h).1]
  refine b_ext fun j hj => ?_
  by_cases c : j < T.2.2.2.2.2.2.2.2.2.1
  · rw [nb_adj h ha (by omega), Bool.eq_iff_iff, bt_orF]
    constructor
    · intro e
      refine ⟨j, c, ?_⟩
      unfold nbS
      rw [bt_tIsh _ (by omega) hj, e]
      simp
    · rintro ⟨k, hk, e⟩
      unfold nbS at e
      rw [bt_tIsh _ (by omega) hj] at e
      simp only [Bool.and_eq_true, decide_eq_true_eq] at e
      rw [← e.2]
      exact e.1
  · rw [nb_big h ha (by omega)]
    refine (orF_big fun k hk => ?_).symm
    unfold nbS
    rw [bt_tIsh _ (by omega) hj, decide_eq_false (by omega), Bool.and_false]
end PU1
