/-! 99g: a seance on both sides; sets as sums of bits -/
theorem has_bt (x : Int32) {k : Nat} (hk : k < 31) : hasF x (nI k) = bt x k := by
  have h := drB_b x hk
  unfold drB at h
  unfold hasF
  rw [h]
  cases bt x k <;> decide
theorem po_S {T : HT} {s : Nat → Int32} (h : CPL T s) : orF (poS s) (nR s) = T.2.2.2.2.2.2.2.2.2.2.2.2.2.2.1 := by
  obtain ⟨hG, -, -, -, hrm, ⟨hmk, -⟩, -⟩ := h
  have hrc := hG.1.2.2.1
  rw [(geo_n hG).1]
  refine b_ext fun j hj => ?_
  have hp : ∀ k, k < T.2.2.2.2.2.2.2.2.2.1 → bt (poS s k) j = (bt T.2.2.2.2.2.2.2.2.2.2.2.2.2.2.1 k && decide (k = j)) := fun k hk => by
    obtain ⟨-, -, -, -, a5, -⟩ := hrm k hk
    unfold poS
    rw [a5]
    exact bt_tIsh _ (by omega) hj
  by_cases c : j < T.2.2.2.2.2.2.2.2.2.1
  · cases hb : bt T.2.2.2.2.2.2.2.2.2.2.2.2.2.2.1 j with
    | true => exact (bt_orF _ _ _).mpr ⟨j, c, by rw [hp j c, hb]; simp⟩
    | false =>
      cases hx : bt (orF (poS s) T.2.2.2.2.2.2.2.2.2.1) j with
      | false => rfl
      | true =>
        obtain ⟨k, hk, h2⟩ := (bt_orF _ _ _).mp hx
        rw [hp k hk] at h2
        simp at h2
        obtain ⟨h3, rfl⟩ := h2
        rw [h3] at hb
        cases hb
  · rw [(hmk j (by omega)).2.2]
    cases hx : bt (orF (poS s) T.2.2.2.2.2.2.2.2.2.1) j with
    | false => rfl
    | true =>
      obtain ⟨k, hk, h2⟩ := (bt_orF _ _ _).mp hx
      rw [hp k hk] at h2
      simp at h2
      omega
theorem and_all {p x : Int32} : p &&& x = p ↔ p &&& ~~~x = 0 := by
  constructor
  · intro h
    refine z_bits.mpr fun i hi => ?_
    have h2 := congrArg (fun q => bt q i) h
    simp only [b_and] at h2
    rw [b_and, b_not hi]
    revert h2
    cases bt p i <;> cases bt x i <;> simp
  · intro h
    refine b_ext fun i hi => ?_
    have h2 := z_bits.mp h i hi
    rw [b_and, b_not hi] at h2
    rw [b_and]
    revert h2
    cases bt p i <;> cases bt x i <;> simp
theorem casB_T {T : HT} {s : Nat → Int32} (h : CPL T s) (x : Int32) : casB s x = true ↔ ¬ T.2.2.2.2.2.2.2.2.2.2.2.2.2.2.1 &&& x = 0 ∧ ¬ T.2.2.2.2.2.2.2.2.2.2.2.2.2.2.1 &&& ~~~x = 0 ∧ T.2.2.2.2.2.2.2.2.1 3 ≤ T.2.2.2.2.2.2.2.2.1 5 := by
  unfold casB
  rw [po_S h, h.2.1 3 (by decide), h.2.1 5 (by decide)]
  by_cases c1 : T.2.2.2.2.2.2.2.2.2.2.2.2.2.2.1 &&& x = 0
  · rw [if_pos c1]; simp [c1]
  rw [if_neg c1]
  by_cases c2 : T.2.2.2.2.2.2.2.2.2.2.2.2.2.2.1 &&& x = T.2.2.2.2.2.2.2.2.2.2.2.2.2.2.1
  · rw [if_pos c2]
    have := and_all.mp c2
    simp [this]
  rw [if_neg c2]
  have c3 : ¬ T.2.2.2.2.2.2.2.2.2.2.2.2.2.2.1 &&& ~~~x = 0 := fun y => c2 (and_all.mpr y)
  by_cases c4 : s 5 < s 3
  · rw [if_pos c4]
    have : ¬ s 3 ≤ s 5 := Int32.not_le.mpr c4
    simp [this]
  · rw [if_neg c4]
    exact ⟨fun _ => ⟨c1, c3, Int32.not_lt.mp c4⟩, fun _ => rfl⟩
theorem askS_row {s : Nat → Int32} {x : Int32} {b : Bool} : ∀ n, n ≤ 12 → ∀ k w, k < 12 → w < 9 → askS s x b n (12 + 9 * k + w) = if (k < n ∧ ¬ s (12 + 9 * k + 5) = 0 ∧ ¬ tI (hasF x (nI k)) = tI b) then (if w = 5 then 0 else if w = 6 then 1 else if w = 7 then s 7 else if w = 8 then -1 else s (12 + 9 * k + w)) else s (12 + 9 * k + w) := by
  intro n
  induction n with
  | zero =>
    intro _ k w hk hw
    rw [if_neg (fun y => absurd y.1 (Nat.not_lt_zero k))]
    rfl
  | succ n ih =>
    intro hn k w hk hw
    have ih := ih (by omega)
    have f5 : askS s x b n (12 + 9 * n + 5) = s (12 + 9 * n + 5) := by
      rw [ih n 5 (by omega) (by decide), if_neg (fun y => absurd y.1 (Nat.lt_irrefl n))]
    have f7 : askS s x b n 7 = s 7 := askS_FR s x b n (by omega) 7 (Or.inl (by decide))
    have keep : ∀ c : Prop, [Decidable c] → True := fun _ _ => trivial
    by_cases c1 : s (12 + 9 * n + 5) = 0
    · rw [askS, f5, if_pos c1, ih k w hk hw]
      by_cases e : k = n
      · subst e
        rw [if_neg (fun y => absurd y.1 (Nat.lt_irrefl k)), if_neg (fun y => y.2.1 c1)]
      · by_cases hk2 : k < n
        · simp only [hk2, show k < n + 1 by omega, true_and]
        · rw [if_neg (fun y => hk2 y.1), if_neg (fun y => hk2 (by omega))]
    rw [askS, f5, if_neg c1]
    by_cases c2 : tI (hasF x (nI n)) = tI b
    · rw [if_pos c2, ih k w hk hw]
      by_cases e : k = n
      · subst e
        rw [if_neg (fun y => absurd y.1 (Nat.lt_irrefl k)), if_neg (fun y => y.2.2 c2)]
      · by_cases hk2 : k < n
        · simp only [hk2, show k < n + 1 by omega, true_and]
        · rw [if_neg (fun y => hk2 y.1), if_neg (fun y => hk2 (by omega))]
    rw [if_neg c2, f7]
    unfold tw
    by_cases e : k = n
    · subst e
      rw [if_pos ⟨Nat.lt_succ_self k, c1, c2⟩]
      by_cases w8 : w = 8
      · subst w8; simp [upd]
      by_cases w7 : w = 7
      · subst w7; simp [upd]
      by_cases w6 : w = 6
      · subst w6; simp [upd]
      by_cases w5 : w = 5
      · subst w5; simp [upd]
      rw [if_neg w5, if_neg w6, if_neg w7, if_neg w8]
      unfold upd
      rw [if_neg (by omega), if_neg (by omega), if_neg (by omega), if_neg (by omega), ih k w hk hw, if_neg (fun y => absurd y.1 (Nat.lt_irrefl k))]
    · have r : upd (upd (upd (upd (askS s x b n) (12 + 9 * n + 5) 0) (12 + 9 * n + 6) 1) (12 + 9 * n + 7) (s 7)) (12 + 9 * n + 8) (-1) (12 + 9 * k + w) = askS s x b n (12 + 9 * k + w) := by
        unfold upd
        rw [if_neg (by omega), if_neg (by omega), if_neg (by omega), if_neg (by omega)]
      rw [r, ih k w hk hw]
      by_cases hk2 : k < n
      · simp only [hk2, show k < n + 1 by omega, true_and]
      · rw [if_neg (fun y => hk2 y.1), if_neg (fun y => hk2 (by omega))]
theorem CPL_ask {T : HT} {s : Nat → Int32} {x : Int32} (h : CPL T s) (h0 : 0 < T.2.2.2.2.2.2.2.2.2.1) (hp : T.2.2.2.2.2.2.2.2.1 3 ≤ T.2.2.2.2.2.2.2.2.1 5) : CPL (askT T x) (asF s x) := by
  have h9 := h
  obtain ⟨hG, hse, ⟨hcs, hnn, hgm⟩, hgh, hrm, ⟨hmk, hmd⟩, hset⟩ := h
  have hrc := hG.1.2.2.1
  have hdc := hG.1.2.2.2
  obtain ⟨egh, g, hg, eg⟩ := hgh.2 h0
  have hans : hasF x (s 11) = bt x g := by rw [eg]; exact has_bt x (by omega)
  have hctn : ctn x T.2.2.2.2.2.2.2.2.2.2.2.2.2.2.2.1 = bt x g := by rw [egh, eg]; exact ctn_k (by omega)
  have hnr := (geo_n hG).1
  obtain ⟨A, hA⟩ : ∃ A, A = askS s x (hasF x (s 11)) (nR s) := ⟨_, rfl⟩
  have aFR : FR A s := by rw [hA]; exact askS_FR s x _ _ (by omega)
  have lowA : ∀ i, i < 12 → A i = s i := fun i hi => aFR i (Or.inl hi)
  have eF : asF s x = upd (upd A 5 (A 5 - A 3)) 6 (A 6 + A 3) := by unfold asF; rw [← hA]
  have l5 : asF s x 5 = s 5 - s 3 := by
    rw [eF]; unfold upd
    rw [if_neg (by decide), if_pos rfl, lowA 5 (by decide), lowA 3 (by decide)]
  have l6 : asF s x 6 = s 6 + s 3 := by
    rw [eF]; unfold upd
    rw [if_pos rfl, lowA 6 (by decide), lowA 3 (by decide)]
  have lo : ∀ i, i < 12 → i ≠ 5 → i ≠ 6 → asF s x i = s i := fun i hi h5 h6 => by
    rw [eF]; unfold upd
    rw [if_neg h6, if_neg h5, lowA i hi]
  have hi : ∀ i, 12 ≤ i → asF s x i = A i := fun i hi => by
    rw [eF]; unfold upd
    rw [if_neg (by omega), if_neg (by omega)]
  have row : ∀ k w, k < T.2.2.2.2.2.2.2.2.2.1 → w < 9 → asF s x (12 + 9 * k + w) = if (¬ bt T.2.2.2.2.2.2.2.2.2.2.2.2.2.2.1 k = false ∧ ¬ bt x k = bt x g) then (if w = 5 then 0 else if w = 6 then 1 else if w = 7 then s 7 else if w = 8 then -1 else s (12 + 9 * k + w)) else s (12 + 9 * k + w) := fun k w hk hw => by
    rw [hi _ (by omega), hA, askS_row (nR s) (by omega) k w (by omega) hw, hans, has_bt x (by omega), hnr]
    obtain ⟨-, -, -, -, a5, -⟩ := hrm k hk
    have e1 : (k < T.2.2.2.2.2.2.2.2.2.1 ∧ ¬ s (12 + 9 * k + 5) = 0 ∧ ¬ tI (bt x k) = tI (bt x g)) ↔ (¬ bt T.2.2.2.2.2.2.2.2.2.2.2.2.2.2.1 k = false ∧ ¬ bt x k = bt x g) := by
      rw [a5, tI_0]
      have e2 : tI (bt x k) = tI (bt x g) ↔ bt x k = bt x g := by cases bt x k <;> cases bt x g <;> decide
      rw [e2]
      exact ⟨fun y => y.2, fun y => ⟨hk, y⟩⟩
    simp only [e1]
  have hex : ∀ j, j < 32 → bt (exS1 T.2.2.2.2.2.2.2.2.2.2.2.2.2.2.1 x T.2.2.2.2.2.2.2.2.2.2.2.2.2.2.2.1) j = (bt T.2.2.2.2.2.2.2.2.2.2.2.2.2.2.1 j && (bt x j != bt x g)) := fun j hj => by
    unfold exS1
    rw [hctn, b_and]
    cases bt x g with
    | true => rw [if_pos rfl, b_not hj]; cases bt x j <;> rfl
    | false => rw [if_neg (by decide)]; cases bt x j <;> rfl
  have hpo : ∀ j, j < 32 → bt (askT T x).2.2.2.2.2.2.2.2.2.2.2.2.2.2.1 j = (bt T.2.2.2.2.2.2.2.2.2.2.2.2.2.2.1 j && (bt x j == bt x g)) := fun j hj => by
    show bt (T.2.2.2.2.2.2.2.2.2.2.2.2.2.2.1 &&& ~~~(exS1 T.2.2.2.2.2.2.2.2.2.2.2.2.2.2.1 x T.2.2.2.2.2.2.2.2.2.2.2.2.2.2.2.1)) j = _
    rw [b_and, b_not hj, hex j hj]
    cases bt T.2.2.2.2.2.2.2.2.2.2.2.2.2.2.1 j <;> cases bt x j <;> cases bt x g <;> rfl
  have hcx : ∀ k, k < T.2.2.2.2.2.2.2.2.2.1 → ((ctn (exS1 T.2.2.2.2.2.2.2.2.2.2.2.2.2.2.1 x T.2.2.2.2.2.2.2.2.2.2.2.2.2.2.2.1) (nI k) = true) ↔ (¬ bt T.2.2.2.2.2.2.2.2.2.2.2.2.2.2.1 k = false ∧ ¬ bt x k = bt x g)) := fun k hk => by
    rw [ctn_k (by omega), hex k (by omega)]
    cases bt T.2.2.2.2.2.2.2.2.2.2.2.2.2.2.1 k <;> cases bt x k <;> cases bt x g <;> simp
  refine ⟨geo_cong hG rfl rfl rfl rfl rfl rfl (lo 9 (by decide) (by decide) (by decide)) (lo 10 (by decide) (by decide) (by decide)) (fun i hi2 => by rw [hi i (by omega)]; exact aFR i (Or.inr (Or.inl hi2))), fun i hi2 => ?_, ⟨?_, ?_, ?_⟩, ⟨fun e => ?_, fun e => ?_⟩, fun k hk => ?_, ⟨fun j hj => ?_, hmd⟩, ?_⟩
  · show upd T.2.2.2.2.2.2.2.2.1 5 (T.2.2.2.2.2.2.2.2.1 5 - T.2.2.2.2.2.2.2.2.1 3) i = _
    by_cases e : i = 5
    · subst e; rw [l5, ← hse 5 (by decide), ← hse 3 (by decide)]; exact if_pos rfl
    · rw [lo i (by omega) e (by omega), ← hse i hi2]; exact if_neg e
  · show T.2.2.2.2.2.2.2.2.2.2.2.2.2.2.2.2.2.2 + T.2.2.2.2.2.2.2.2.1 3 = _
    rw [l6, hcs, hse 3 (by decide)]
  · rw [lo 7 (by decide) (by decide) (by decide)]; exact hnn
  · rw [lo 8 (by decide) (by decide) (by decide)]; exact hgm
  · have e : T.2.2.2.2.2.2.2.2.2.1 = 0 := e
    omega
  · rw [lo 11 (by decide) (by decide) (by decide)]; exact hgh.2 h0
  · have hk : k < T.2.2.2.2.2.2.2.2.2.1 := hk
    obtain ⟨a1, a2, a3, a4, a5, a6, a7, a8, a9⟩ := hrm k hk
    have r0 : ∀ w, w < 5 → asF s x (12 + 9 * k + w) = s (12 + 9 * k + w) := fun w hw => by
      rw [row k w hk (by omega)]
      split
      · rw [if_neg (by omega), if_neg (by omega), if_neg (by omega), if_neg (by omega)]
      · rfl
    have R5 := row k 5 hk (by decide)
    have R6 := row k 6 hk (by decide)
    have R7 := row k 7 hk (by decide)
    have R8 := row k 8 hk (by decide)
    have hC := hcx k hk
    refine ⟨?_, a2, ?_, ?_, ?_, ?_, ?_, ?_, ?_⟩
    · rw [r0 2 (by decide)]; exact a1
    · rw [r0 3 (by decide)]; exact a3
    · rw [r0 4 (by decide)]; exact a4
    · rw [R5, hpo k (by omega), a5]
      cases bt T.2.2.2.2.2.2.2.2.2.2.2.2.2.2.1 k <;> cases bt x k <;> cases bt x g <;> simp [tI]
    · have er : (askT T x).2.2.1 = fa_fill (fun r => if ctn (exS1 T.2.2.2.2.2.2.2.2.2.2.2.2.2.2.1 x T.2.2.2.2.2.2.2.2.2.2.2.2.2.2.2.1) (nI r) = true then 1 else T.2.2.1 r) T.2.2.1 T.2.2.2.2.2.2.2.2.2.1 := rfl
      rw [er, fa_fill_in hk, R6]
      by_cases c : (¬ bt T.2.2.2.2.2.2.2.2.2.2.2.2.2.2.1 k = false ∧ ¬ bt x k = bt x g)
      · rw [if_pos c, if_pos (hC.mpr c), if_neg (by decide), if_pos rfl]
      · rw [if_neg c, if_neg (fun y => c (hC.mp y))]; exact a6
    · have er : (askT T x).2.2.2.1 = fa_fill (fun r => if ctn (exS1 T.2.2.2.2.2.2.2.2.2.2.2.2.2.2.1 x T.2.2.2.2.2.2.2.2.2.2.2.2.2.2.2.1) (nI r) = true then T.2.2.2.2.2.2.2.2.2.2.2.2.2.2.2.2.1 else T.2.2.2.1 r) T.2.2.2.1 T.2.2.2.2.2.2.2.2.2.1 := rfl
      rw [er, fa_fill_in hk, R7]
      by_cases c : (¬ bt T.2.2.2.2.2.2.2.2.2.2.2.2.2.2.1 k = false ∧ ¬ bt x k = bt x g)
      · rw [if_pos c, if_pos (hC.mpr c), if_neg (by decide), if_neg (by decide), if_pos rfl]; exact hnn
      · rw [if_neg c, if_neg (fun y => c (hC.mp y))]; exact a7
    · have er : (askT T x).2.2.2.2.1 = fa_fill (fun r => if ctn (exS1 T.2.2.2.2.2.2.2.2.2.2.2.2.2.2.1 x T.2.2.2.2.2.2.2.2.2.2.2.2.2.2.2.1) (nI r) = true then -1 else T.2.2.2.2.1 r) T.2.2.2.2.1 T.2.2.2.2.2.2.2.2.2.1 := rfl
      rw [er, fa_fill_in hk, R8]
      by_cases c : (¬ bt T.2.2.2.2.2.2.2.2.2.2.2.2.2.2.1 k = false ∧ ¬ bt x k = bt x g)
      · rw [if_pos c, if_pos (hC.mpr c), if_neg (by decide), if_neg (by decide), if_neg (by decide), if_pos rfl]
      · rw [if_neg c, if_neg (fun y => c (hC.mp y))]; exact a8
    · rw [nmS_cong (k := k) (by have := r0 0 (by decide); exact this) (r0 1 (by decide))]; exact a9
  · have hj : T.2.2.2.2.2.2.2.2.2.1 ≤ j := hj
    obtain ⟨m1, m2, m3⟩ := hmk j hj
    refine ⟨m1, m2, ?_⟩
    by_cases hj2 : j < 32
    · rw [hpo j hj2, m3]; rfl
    · exact bt_32 (by omega)
  · obtain ⟨s0, s1, s2, ⟨c3, q1, q2, q3⟩, s4, ⟨c5, q4, q5⟩⟩ := hset
    have u : ∀ i, i ≠ 5 → upd T.2.2.2.2.2.2.2.2.1 5 (T.2.2.2.2.2.2.2.2.1 5 - T.2.2.2.2.2.2.2.2.1 3) i = T.2.2.2.2.2.2.2.2.1 i := fun i hi2 => if_neg hi2
    have u5 : upd T.2.2.2.2.2.2.2.2.1 5 (T.2.2.2.2.2.2.2.2.1 5 - T.2.2.2.2.2.2.2.2.1 3) 5 = T.2.2.2.2.2.2.2.2.1 5 - T.2.2.2.2.2.2.2.2.1 3 := if_pos rfl
    show SETB (upd T.2.2.2.2.2.2.2.2.1 5 (T.2.2.2.2.2.2.2.2.1 5 - T.2.2.2.2.2.2.2.2.1 3))
    unfold SETB
    rw [u 0 (by decide), u 1 (by decide), u 2 (by decide), u 3 (by decide), u 4 (by decide), u5]
    refine ⟨s0, s1, s2, ⟨c3, q1, q2, q3⟩, s4, ⟨c5 - c3, by omega, ?_⟩⟩
    rw [q3, q5] at hp ⊢
    have : c3 ≤ c5 := (nI_leI (by omega) (by omega)).mp hp
    exact nI_subN this
