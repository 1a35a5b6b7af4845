/-! e3: where the ghost of the world goes: what is drawn, what is quiet -/
def mI (m : Nat) : Int32 := if m = 0 then -1 else nI (m - 1)
theorem mI_s (m : Nat) : mI (m + 1) = nI m := rfl
theorem mI_0 : mI 0 = -1 := rfl
theorem mI_dec (m : Nat) : nI m + -1 = mI m := by
  cases m with
  | zero => decide
  | succ m => exact sb_m1 (p := m + 1) (by omega)
theorem mI_sub (m : Nat) : nI m - 1 = mI m := by
  cases m with
  | zero => decide
  | succ m => exact nI_subN (a := m + 1) (b := 1) (by omega)
def NZ (s : Nat → Int32) (g x : Nat) : Int32 := s (120 + 4 * (btw s (nI g) (nI x)).toNatClampNeg + 2)
def NN (s : Nat → Int32) (g x : Nat) : Nat := (NZ s g x).toNatClampNeg
def NZK (s : Nat → Int32) (g : Nat) : Prop := ∀ y, y < nR s → adj s (nI g) (nI y) = true → NZ s g y = nI (NN s g y) ∧ NN s g y ≤ 9
def SIV (s : Nat → Int32) (g : Nat) (P : Nat → Prop) (b : Int32) : Prop := (b = nI g ∧ ∀ y, y < nR s → adj s (nI g) (nI y) = true → ¬ P y) ∨ ∃ x, x < nR s ∧ adj s (nI g) (nI x) = true ∧ P x ∧ b = nI x ∧ ∀ y, y < nR s → adj s (nI g) (nI y) = true → P y → NN s g x < NN s g y ∨ (NN s g x = NN s g y ∧ x ≤ y)
theorem SIV_iff {s : Nat → Int32} {g : Nat} {P P' : Nat → Prop} {b : Int32} (h : SIV s g P b) (he : ∀ y, y < nR s → adj s (nI g) (nI y) = true → (P y ↔ P' y)) : SIV s g P' b := by
  rcases h with ⟨h1, h2⟩ | ⟨x, hx, ha, hp, hb, hm⟩
  · exact Or.inl ⟨h1, fun y hy ha hp => h2 y hy ha ((he y hy ha).mpr hp)⟩
  · exact Or.inr ⟨x, hx, ha, (he x hx ha).mp hp, hb, fun y hy hya hp2 => hm y hy hya ((he y hy hya).mpr hp2)⟩
theorem SIV_add {s : Nat → Int32} {g k v : Nat} {b : Int32} (h : SIV s g (fun y => v < NN s g y ∨ (NN s g y = v ∧ k + 1 ≤ y)) b) (hk : k < nR s) (ha : adj s (nI g) (nI k) = true) (hv : NN s g k = v) : SIV s g (fun y => v < NN s g y ∨ (NN s g y = v ∧ k ≤ y)) (nI k) := by
  refine Or.inr ⟨k, hk, ha, Or.inr ⟨hv, Nat.le_refl _⟩, rfl, fun y hy hya hp => ?_⟩
  rcases hp with hp | ⟨hp, hp2⟩
  · exact Or.inl (by omega)
  · exact Or.inr ⟨by omega, hp2⟩
theorem qtS_k {s : Nat → Int32} {g : Nat} (hN : NZK s g) : ∀ k, k ≤ nR s → (qtS s (nI g) k = (nI g, 9999) ∧ ∀ x, x < k → adj s (nI g) (nI x) = false) ∨ ∃ x, x < k ∧ adj s (nI g) (nI x) = true ∧ qtS s (nI g) k = (nI x, NZ s g x) ∧ ∀ y, y < k → adj s (nI g) (nI y) = true → NN s g x < NN s g y ∨ (NN s g x = NN s g y ∧ x ≤ y) := by
  intro k
  induction k with
  | zero => intro _; exact Or.inl ⟨rfl, fun x hx => absurd hx (Nat.not_lt_zero x)⟩
  | succ k ih =>
    intro hk
    have ih := ih (by omega)
    rw [qtS]
    by_cases ca : adj s (nI g) (nI k) = false
    · rw [if_pos ca]
      rcases ih with ⟨h1, h2⟩ | ⟨x, hx, ha, hq, hm⟩
      · exact Or.inl ⟨h1, fun x hx => by
          rcases Nat.lt_or_ge x k with h | h
          · exact h2 x h
          · rw [show x = k by omega]; exact ca⟩
      · exact Or.inr ⟨x, by omega, ha, hq, fun y hy hya => by
          rcases Nat.lt_or_ge y k with h | h
          · exact hm y h hya
          · rw [show y = k by omega, ca] at hya; cases hya⟩
    · rw [if_neg ca]
      have ca : adj s (nI g) (nI k) = true := by cases h : adj s (nI g) (nI k) with
        | true => rfl
        | false => exact absurd h ca
      obtain ⟨e1, e2⟩ := hN k (by omega) ca
      show (_ ∨ _)
      rcases ih with ⟨h1, h2⟩ | ⟨x, hx, ha, hq, hm⟩
      · rw [h1]
        rw [if_pos (show s (120 + 4 * (btw s (nI g) (nI k)).toNatClampNeg + 2) < 9999 from by
          show NZ s g k < 9999
          rw [e1]
          exact nI_lt (b := 9999) (by omega) (by omega))]
        exact Or.inr ⟨k, by omega, ca, rfl, fun y hy hya => by
          rcases Nat.lt_or_ge y k with h | h
          · rw [h2 y h] at hya; cases hya
          · exact Or.inr (by rw [show y = k by omega]; exact ⟨rfl, Nat.le_refl _⟩)⟩
      · obtain ⟨f1, f2⟩ := hN x (by omega) ha
        rw [hq]
        by_cases cl : NZ s g k < NZ s g x
        · rw [if_pos (show s (120 + 4 * (btw s (nI g) (nI k)).toNatClampNeg + 2) < NZ s g x from cl)]
          have hlt : NN s g k < NN s g x := by rw [e1, f1] at cl; exact (nI_ltI (by omega) (by omega)).mp cl
          exact Or.inr ⟨k, by omega, ca, rfl, fun y hy hya => by
            rcases Nat.lt_or_ge y k with h | h
            · rcases hm y h hya with h | h
              · exact Or.inl (by omega)
              · exact Or.inl (by omega)
            · exact Or.inr (by rw [show y = k by omega]; exact ⟨rfl, Nat.le_refl _⟩)⟩
        · rw [if_neg (show ¬ s (120 + 4 * (btw s (nI g) (nI k)).toNatClampNeg + 2) < NZ s g x from cl)]
          have hle : NN s g x ≤ NN s g k := by
            rw [e1, f1] at cl
            rcases Nat.lt_or_ge (NN s g k) (NN s g x) with h | h
            · exact absurd (nI_lt h (by omega)) cl
            · exact h
          exact Or.inr ⟨x, by omega, ha, rfl, fun y hy hya => by
            rcases Nat.lt_or_ge y k with h | h
            · exact hm y h hya
            · rw [show y = k by omega]
              rcases Nat.lt_or_ge (NN s g x) (NN s g k) with h | h
              · exact Or.inl h
              · exact Or.inr ⟨by omega, by omega⟩⟩
theorem SIV_end {s : Nat → Int32} {g : Nat} {b : Int32} (hN : NZK s g) (h : SIV s g (fun y => 0 ≤ NN s g y) b) : (qtS s (nI g) (nR s)).1 = b := by
  rcases qtS_k hN (nR s) (Nat.le_refl _) with ⟨h1, h2⟩ | ⟨x, hx, ha, hq, hm⟩
  · rw [h1]
    rcases h with ⟨g1, -⟩ | ⟨x, hx, ha, -, -, -⟩
    · exact g1.symm
    · rw [h2 x hx] at ha; cases ha
  · rw [hq]
    rcases h with ⟨-, g2⟩ | ⟨y, hy, hya, -, hb, hm2⟩
    · exact absurd (Nat.zero_le _) (g2 x hx ha)
    · rw [hb]
      show nI x = nI y
      have k1 := hm y hy hya
      have k2 := hm2 x hx ha (Nat.zero_le _)
      rw [show x = y by omega]
theorem nz_T {T : HT} {s : Nat → Int32} (h : GEO T s) {g : Nat} (hg : g < 24) : NZK s g := by
  intro y hy ha
  have hr := geo_n h
  have h12 := h.1.2.2.1
  obtain ⟨d, hd, -, he⟩ := (adj_T h hg (show y < 24 by omega)).mp ha
  have hb := door_is h hg (show y < 24 by omega) hd he
  obtain ⟨a, b, n, -, -, -, -, -, -, -, hn, h9, -⟩ := h.2.1 d hd
  have h24 := h.1.2.2.2
  have e : NZ s g y = nI n := by
    unfold NZ
    rw [hb, nI_clamp (by omega)]
    exact hn
  unfold NN
  rw [e, nI_clamp (by omega)]
  exact ⟨rfl, h9⟩
/-- the drawn neighbor, by its number among them -/
theorem drG_at {x : Int32} {i : Nat} (hi : i < 12) (hb : bt x i = true) : ∀ j k, k + j = 12 → k ≤ i → drG x j k (nI (fb_ct (bt x) i + 1 - fb_ct (bt x) k)) = nI i := by
  intro j
  induction j with
  | zero => intro k h1 h2; omega
  | succ j ih =>
    intro k h1 h2
    have mono : ∀ a b, a ≤ b → fb_ct (bt x) a ≤ fb_ct (bt x) b := by
      intro a b hab
      induction hab with
      | refl => exact Nat.le_refl _
      | step _ ih => exact Nat.le_trans ih (by rw [fb_ct_succ]; exact Nat.le_add_right _ _)
    have bnd : ∀ a, fb_ct (bt x) a ≤ a := by
      intro a
      induction a with
      | zero => exact Nat.le_refl _
      | succ a ih => rw [fb_ct_succ]; split <;> omega
    have e : nI (fb_ct (bt x) i + 1 - fb_ct (bt x) k) - drB x k = nI (fb_ct (bt x) i + 1 - fb_ct (bt x) (k + 1)) := by
      have hm := mono k i h2
      rw [drB_b x (by omega), fb_ct_succ]
      cases hk : bt x k with
      | false => rw [tI_f]; simp
      | true =>
        rw [tI_t, if_pos rfl]
        have := nI_subN (a := fb_ct (bt x) i + 1 - fb_ct (bt x) k) (b := 1) (by omega)
        refine (show _ = _ from this).trans ?_
        congr 1
    rw [drG, e]
    rcases Nat.eq_or_lt_of_le h2 with h | h
    · subst h
      rw [if_pos]
      rw [fb_ct_succ, hb, if_pos rfl, Nat.sub_self]
      decide
    · have hm := mono (k + 1) i h
      have := bnd i
      rw [if_neg (by
        intro e2
        have : 0 < fb_ct (bt x) i + 1 - fb_ct (bt x) (k + 1) := by omega
        exact absurd (nI_lt this (by omega)) (Int32.not_lt.mpr e2))]
      exact ih (k + 1) (by omega) h
theorem ct_ex {p : Nat → Bool} : ∀ n l, 1 ≤ l → l ≤ fb_ct p n → ∃ i, i < n ∧ p i = true ∧ fb_ct p i + 1 = l := by
  intro n
  induction n with
  | zero => intro l h1 h2; have h2 : l ≤ 0 := h2; omega
  | succ n ih =>
    intro l h1 h2
    rw [fb_ct_succ] at h2
    by_cases c : l ≤ fb_ct p n
    · obtain ⟨i, hi, h⟩ := ih l h1 c
      exact ⟨i, by omega, h⟩
    · cases hp : p n with
      | false => rw [hp] at h2; simp at h2; omega
      | true => rw [hp, if_pos rfl] at h2; exact ⟨n, by omega, hp, by omega⟩
/-- the row of what can be drawn -/
def RWV (s : Nat → Int32) (g : Nat) (k n : Nat) (f : Nat → Int32) : Prop := f 0 = nI g ∧ n = 1 + fb_ct (fun j => adj s (nI g) (nI j)) k ∧ ∀ i, i < k → adj s (nI g) (nI i) = true → f (1 + fb_ct (fun j => adj s (nI g) (nI j)) i) = nI i
theorem ct_le (p : Nat → Bool) : ∀ n, fb_ct p n ≤ n := by
  intro a
  induction a with
  | zero => exact Nat.le_refl _
  | succ a ih => rw [fb_ct_succ]; split <;> omega
theorem ct_mono (p : Nat → Bool) {a b : Nat} (h : a ≤ b) : fb_ct p a ≤ fb_ct p b := by
  induction h with
  | refl => exact Nat.le_refl _
  | step _ ih => exact Nat.le_trans ih (by rw [fb_ct_succ]; exact Nat.le_add_right _ _)
theorem RWV_no {s : Nat → Int32} {g k n : Nat} {f : Nat → Int32} (h : RWV s g k n f) (ha : adj s (nI g) (nI k) = false) : RWV s g (k + 1) n f := by
  obtain ⟨h1, h2, h3⟩ := h
  refine ⟨h1, by rw [fb_ct_succ, ha]; simpa using h2, fun i hi hia => ?_⟩
  rcases Nat.lt_or_ge i k with h | h
  · exact h3 i h hia
  · rw [show i = k by omega, ha] at hia; cases hia
theorem RWV_yes {s : Nat → Int32} {g k n : Nat} {f : Nat → Int32} (h : RWV s g k n f) (ha : adj s (nI g) (nI k) = true) : RWV s g (k + 1) (n + 1) (upd f n (nI k)) := by
  obtain ⟨h1, h2, h3⟩ := h
  refine ⟨(if_neg (by omega)).trans h1, by rw [fb_ct_succ, ha, if_pos rfl]; omega, fun i hi hia => ?_⟩
  rcases Nat.lt_or_ge i k with h | h
  · have := ct_mono (fun j => adj s (nI g) (nI j)) (show i + 1 ≤ k from h)
    rw [fb_ct_succ, hia, if_pos rfl] at this
    exact (if_neg (by omega)).trans (h3 i h hia)
  · rw [show i = k by omega]
    exact if_pos h2.symm
