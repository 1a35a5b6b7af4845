/-! h3: what an exclusion rests on, from change to change -/
def EXK (s : Nat → Int32) (k : Nat) : Prop := (s (12 + 9 * k + 5) = 1 ∧ s (12 + 9 * k + 6) = 0 ∧ s (12 + 9 * k + 7) = -1 ∧ s (12 + 9 * k + 8) = -1) ∨ (s (12 + 9 * k + 5) = 0 ∧
  ((s (12 + 9 * k + 6) = 1 ∧ (∃ e m, s (12 + 9 * k + 7) = nI e ∧ s 7 = nI m ∧ e ≤ m ∧ m ≤ 9999) ∧ s (12 + 9 * k + 8) = -1) ∨ (s (12 + 9 * k + 6) = 2 ∧ s (12 + 9 * k + 7) = -1 ∧ s (12 + 9 * k + 8) = -1) ∨
   (s (12 + 9 * k + 6) = 3 ∧ ∃ e q, e < nR s ∧ q < nR s ∧ s (12 + 9 * k + 7) = nI e ∧ s (12 + 9 * k + 8) = nI q) ∨ (s (12 + 9 * k + 6) = 4 ∧ ∃ e q, e < nD s ∧ q < nR s ∧ s (12 + 9 * k + 7) = nI e ∧ s (12 + 9 * k + 8) = nI q) ∨
   (s (12 + 9 * k + 6) = 5 ∧ s (12 + 9 * k + 7) = -1 ∧ s (12 + 9 * k + 8) = -1)))
def EXW (s : Nat → Int32) : Prop := (0 < nR s → ∃ g, g < nR s ∧ s 11 = nI g ∧ s (12 + 9 * g + 5) = 1) ∧ ∀ k, k < nR s → EXK s k
theorem EXK_cong {s t : Nat → Int32} {k : Nat} (h : EXK s k) (hr : nR s ≤ nR t) (hd : nD s ≤ nD t) (h7 : t 7 = s 7) (hw : ∀ w, 5 ≤ w → w < 9 → t (12 + 9 * k + w) = s (12 + 9 * k + w)) : EXK t k := by
  unfold EXK at h ⊢
  rw [hw 5 (by decide) (by decide), hw 6 (by decide) (by decide), hw 7 (by decide) (by decide), hw 8 (by decide) (by decide), h7]
  rcases h with h | ⟨h5, h | h | ⟨h6, e, q, h1, h2, h3⟩ | ⟨h6, e, q, h1, h2, h3⟩ | h⟩
  · exact Or.inl h
  · exact Or.inr ⟨h5, Or.inl h⟩
  · exact Or.inr ⟨h5, Or.inr (Or.inl h)⟩
  · exact Or.inr ⟨h5, Or.inr (Or.inr (Or.inl ⟨h6, e, q, by omega, by omega, h3⟩))⟩
  · exact Or.inr ⟨h5, Or.inr (Or.inr (Or.inr (Or.inl ⟨h6, e, q, by omega, by omega, h3⟩)))⟩
  · exact Or.inr ⟨h5, Or.inr (Or.inr (Or.inr (Or.inr h)))⟩
theorem EXW_same {s t : Nat → Int32} (hR : RW s) (h : EXW s) (hs : SAME s t) : EXW t ∧ t 7 = s 7 := by
  have e7 : t 7 = s 7 := hs 7 (by omega) (by omega)
  have e9 : t 9 = s 9 := hs 9 (by omega) (by omega)
  have e10 : t 10 = s 10 := hs 10 (by omega) (by omega)
  have e11 : t 11 = s 11 := hs 11 (by omega) (by omega)
  have er : nR t = nR s := by unfold nR; rw [e9]
  have ed : nD t = nD s := by unfold nD; rw [e10]
  have h12 := hR.2.1
  have hw : ∀ k, k < nR s → ∀ w, 5 ≤ w → w < 9 → t (12 + 9 * k + w) = s (12 + 9 * k + w) := fun k hk w h1 h2 => hs _ (by omega) (by omega)
  refine ⟨⟨fun h0 => ?_, fun k hk => ?_⟩, e7⟩
  · rw [er] at h0
    obtain ⟨g, hg, h1, h2⟩ := h.1 h0
    exact ⟨g, by rw [er]; exact hg, e11.trans h1, (hw g hg 5 (by decide) (by decide)).trans h2⟩
  · rw [er] at hk
    exact EXK_cong (h.2 k hk) (by omega) (by omega) e7 (hw k hk)
theorem EXW_adR {s : Nat → Int32} {y : Int64} {v : Int32} (hR : RW s) (h : EXW s) (h11 : nR s = 0 → s 11 = 0) (hlt : nR s < 12) : EXW (adR s y v (if nR s = 0 then 1 else 0)) ∧ adR s y v (if nR s = 0 then 1 else 0) 7 = s 7 := by
  obtain ⟨b, eb⟩ : ∃ b, b = (if nR s = 0 then (1 : Int32) else 0) := ⟨_, rfl⟩
  rw [← eb]
  obtain ⟨a1, a2, -, -, -, -, -, a8, a9, a10, a11⟩ := adR_at (s := s) (x := y) (c := v) (b := b) (k := nR s) rfl
  have er : nR (adR s y v b) = nR s + 1 := by unfold nR; rw [a2]; exact nI_clamp (by have : nR s < 12 := hlt; unfold nR at this; omega)
  have ed : nD (adR s y v b) = nD s := by unfold nD; rw [a1 10 (by omega) (by omega)]
  have e7 := a1 7 (by omega) (by omega)
  have e11 := a1 11 (by omega) (by omega)
  generalize adR s y v b = t at *
  refine ⟨⟨fun _ => ?_, fun k hk => ?_⟩, e7⟩
  · by_cases c : nR s = 0
    · refine ⟨0, by omega, by rw [e11, h11 c]; rfl, ?_⟩
      rw [c, if_pos rfl] at eb
      rw [c, eb] at a8
      exact a8
    · obtain ⟨g, hg, h1, h2⟩ := h.1 (by omega)
      exact ⟨g, by omega, e11.trans h1, (a1 _ (by omega) (by omega)).trans h2⟩
  · by_cases c : k = nR s
    · subst c
      unfold EXK
      rw [a8, a9, a10, a11]
      by_cases c0 : nR s = 0
      · rw [if_pos c0] at eb
        rw [eb]
        exact Or.inl ⟨rfl, rfl, rfl, rfl⟩
      · rw [if_neg c0] at eb
        rw [eb]
        exact Or.inr ⟨rfl, Or.inr (Or.inr (Or.inr (Or.inr ⟨rfl, rfl, rfl⟩)))⟩
    · exact EXK_cong (h.2 k (by omega)) (by omega) (by omega) e7 (fun w h1 h2 => a1 _ (by omega) (by omega))
theorem EXW_addD {s : Nat → Int32} {a b v : Int32} (hR : RW s) (h : EXW s) (hlt : nD s < 24) : EXW (addD s a b v) ∧ addD s a b v 7 = s 7 := by
  obtain ⟨a1, a2, -⟩ := addD_at (s := s) (a := a) (b := b) (c := v) (k := nD s) rfl hlt
  have er : nR (addD s a b v) = nR s := by unfold nR; rw [a1 9 (by omega) (by omega)]
  have ed : nD (addD s a b v) = nD s + 1 := by unfold nD; rw [a2]; exact nI_clamp (by have : nD s < 24 := hlt; unfold nD at this; omega)
  have e7 := a1 7 (by omega) (by omega)
  have e11 := a1 11 (by omega) (by omega)
  have h12 := hR.2.1
  generalize addD s a b v = t at *
  refine ⟨⟨fun h0 => ?_, fun k hk => ?_⟩, e7⟩
  · obtain ⟨g, hg, h1, h2⟩ := h.1 (by omega)
    exact ⟨g, by omega, e11.trans h1, (a1 _ (by omega) (by omega)).trans h2⟩
  · exact EXK_cong (h.2 k (by omega)) (by omega) (by omega) e7 (fun w h1 h2 => a1 _ (by omega) (by omega))
theorem EXW_ask {s : Nat → Int32} {x : Int32} {m : Nat} (hR : RW s) (h : EXW s) (e7 : s 7 = nI m) (hm : m ≤ 9999) : EXW (asF s x) ∧ asF s x 7 = s 7 := by
  have h12 := hR.2.1
  obtain ⟨t, et⟩ : ∃ t, t = askS s x (hasF x (s 11)) (nR s) := ⟨_, rfl⟩
  have hF : FR t s := by rw [et]; exact askS_FR s x _ _ h12
  have ea : ∀ i, i ≠ 5 → i ≠ 6 → asF s x i = t i := fun i h5 h6 => by
    unfold asF
    rw [← et]
    exact (if_neg h6).trans (if_neg h5)
  have ar : ∀ k w, k < nR s → 5 ≤ w → w < 9 → t (12 + 9 * k + w) = if (¬ s (12 + 9 * k + 5) = 0 ∧ ¬ tI (hasF x (nI k)) = tI (hasF x (s 11))) then (if w = 5 then 0 else if w = 6 then 1 else if w = 7 then s 7 else if w = 8 then -1 else s (12 + 9 * k + w)) else s (12 + 9 * k + w) := fun k w hk h1 h2 => by
    rw [et, askS_row (nR s) h12 k w (by omega) h2]
    by_cases c : ¬ s (12 + 9 * k + 5) = 0 ∧ ¬ tI (hasF x (nI k)) = tI (hasF x (s 11))
    · rw [if_pos ⟨hk, c⟩, if_pos c]
    · rw [if_neg (fun e => c e.2), if_neg c]
  have f7 : asF s x 7 = s 7 := (ea 7 (by decide) (by decide)).trans (hF 7 (by omega))
  have er : nR (asF s x) = nR s := by unfold nR; rw [ea 9 (by decide) (by decide), hF 9 (by omega)]
  have ed : nD (asF s x) = nD s := by unfold nD; rw [ea 10 (by decide) (by decide), hF 10 (by omega)]
  refine ⟨⟨fun h0 => ?_, fun k hk => ?_⟩, f7⟩
  · rw [er] at h0
    obtain ⟨g, hg, h1, h2⟩ := h.1 h0
    refine ⟨g, by rw [er]; exact hg, (ea 11 (by decide) (by decide)).trans ((hF 11 (by omega)).trans h1), ?_⟩
    rw [ea _ (by omega) (by omega), ar g 5 hg (by decide) (by decide), h1, if_neg (fun e => e.2 rfl)]
    exact h2
  · rw [er] at hk
    by_cases c : ¬ s (12 + 9 * k + 5) = 0 ∧ ¬ tI (hasF x (nI k)) = tI (hasF x (s 11))
    · have v := fun w h1 h2 => (ea (12 + 9 * k + w) (by omega) (by omega)).trans ((ar k w hk h1 h2).trans (if_pos c))
      refine Or.inr ⟨v 5 (by decide) (by decide), Or.inl ⟨v 6 (by decide) (by decide), ⟨m, m, (v 7 (by decide) (by decide)).trans e7, f7.trans e7, Nat.le_refl _, hm⟩, v 8 (by decide) (by decide)⟩⟩
    · exact EXK_cong (h.2 k hk) (by omega) (by omega) f7 (fun w h1 h2 => (ea (12 + 9 * k + w) (by omega) (by omega)).trans ((ar k w hk h1 h2).trans (if_neg c)))
/-- where a ghost goes: it stays or takes an open door -/
theorem cld_adj {s : Nat → Int32} {g : Int32} : ∀ k, cld s g k = g ∨ ∃ y, y < k ∧ cld s g k = nI y ∧ adj s g (nI y) = true := by
  intro k
  induction k with
  | zero => exact Or.inl rfl
  | succ k ih =>
    have ih2 : cld s g k = g ∨ ∃ y, y < k + 1 ∧ cld s g k = nI y ∧ adj s g (nI y) = true := by
      rcases ih with h | ⟨y, hy, h⟩
      · exact Or.inl h
      · exact Or.inr ⟨y, by omega, h⟩
    rw [cld]
    by_cases c : adj s g (nI k) = false
    · rw [if_pos c]; exact ih2
    · rw [if_neg c]
      split
      · exact ih2
      · exact Or.inr ⟨k, by omega, rfl, by cases h : adj s g (nI k) with
          | true => rfl
          | false => exact absurd h c⟩
theorem RWV_ex {s : Nat → Int32} {g : Nat} : ∀ k, ∃ f, RWV s g k (1 + fb_ct (fun j => adj s (nI g) (nI j)) k) f := by
  intro k
  induction k with
  | zero => exact ⟨fun _ => nI g, rfl, rfl, fun i hi => absurd hi (Nat.not_lt_zero i)⟩
  | succ k ih =>
    obtain ⟨f, hf⟩ := ih
    cases ha : adj s (nI g) (nI k) with
    | false =>
      have := RWV_no hf ha
      exact ⟨f, by rw [fb_ct_succ, ha]; exact this⟩
    | true =>
      have := RWV_yes hf ha
      exact ⟨_, by rw [fb_ct_succ, ha, if_pos rfl, ← Nat.add_assoc]; exact this⟩
theorem goes_adj {s : Nat → Int32} {g x : Nat} (h : WGO s g) (hx : x < 24) (e : dsM s (nI g) = nI x) : x = g ∨ adj s (nI g) (nI x) = true := by
  obtain ⟨hR, -, eg, hg, hN, -, -⟩ := id h
  have h12 := hR.2.1
  have eq : ∀ {y : Nat}, y < 24 → nI y = nI x → y = x := fun hy e => (nI_eq (by omega) (by omega)).mp e
  unfold dsM at e
  split at e
  · rcases cld_adj (s := s) (g := nI g) (nR s) with h | ⟨y, hy, h1, h2⟩
    · rw [h] at e; exact Or.inl (eq (by omega) e).symm
    · rw [h1] at e; rw [eq (by omega) e] at h2; exact Or.inr h2
  · split at e
    · rcases qtS_k hN (nR s) (Nat.le_refl _) with ⟨h1, -⟩ | ⟨y, hy, ha, hq, -⟩
      · rw [h1] at e; exact Or.inl (eq (by omega) e).symm
      · rw [hq] at e; rw [eq (by omega) e] at ha; exact Or.inr ha
    · obtain ⟨-, u1, u2, -, -, -⟩ := WGO_drS h
      obtain ⟨f, hf⟩ := RWV_ex (s := drS s) (g := g) (nR s)
      obtain ⟨l, hl, -, hv⟩ := drawn_W h hf
      rw [e] at hv
      by_cases c : l = 0
      · rw [c, hf.1] at hv; exact Or.inl (eq (by omega) hv).symm
      · obtain ⟨i, hi, hbi, hci⟩ := ct_ex (p := fun j => adj (drS s) (nI g) (nI j)) (nR s) l (by omega) hl
        have := hf.2.2 i hi hbi
        rw [show 1 + fb_ct (fun j => adj (drS s) (nI g) (nI j)) i = l by omega, hv] at this
        have := eq (y := i) (by omega) this.symm
        subst this
        exact Or.inr ((u2 _ _).symm.trans hbi)
