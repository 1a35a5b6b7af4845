/-! d3: changes: class and reference answer alike -/
set_option maxRecDepth 8000
theorem HZ_ask {U : HT} {x : Int32} (h : HOK U ∧ ZH U) : HOK (askT U x) ∧ ZH (askT U x) := by
  obtain ⟨⟨h1, h2⟩, z1, z2, z3⟩ := h
  refine ⟨⟨h1, h2⟩, fun i hi => ?_, z2, fun i hi => ?_⟩
  · obtain ⟨a1, a2, a3, a4, a5⟩ := z1 i hi
    refine ⟨a1, a2, ?_, ?_, ?_⟩
    · unfold askT; dsimp only
      rw [fa_fill_out (by omega)]; exact a3
    · unfold askT; dsimp only
      rw [fa_fill_out (by omega)]; exact a4
    · unfold askT; dsimp only
      rw [fa_fill_out (by omega)]; exact a5
  · exact (if_neg (show ¬ i = 5 by omega)).trans (z3 i hi)
theorem HZ_pasN {U : HT} (h : HOK U ∧ ZH U) (h0 : ¬ U.2.2.2.2.2.2.2.2.2.1 = 0) (n : Nat) : HOK (pasN U n) ∧ ZH (pasN U n) := by
  rw [← pasM_N h0]
  exact ⟨pasM_ok h.1 n, ZH_pasM h.1 h.2 n⟩
theorem HZ_co {U : HT} {k : Nat} {v : Int32} (h : HOK U ∧ ZH U) (hk : k < 12) : HOK (coW k v U) ∧ ZH (coW k v U) := by
  obtain ⟨h1, z1, z2, z3⟩ := h
  refine ⟨h1, fun i hi => ?_, z2, z3⟩
  obtain ⟨a1, a2, a3, a4, a5⟩ := z1 i hi
  exact ⟨a1, (if_neg (show ¬ i = k by omega)).trans a2, a3, a4, a5⟩
theorem HZ_sw {U : HT} {k : Nat} {v : Int32} (h : HOK U ∧ ZH U) (hk : k < 6) : HOK (seW k v U) ∧ ZH (seW k v U) := by
  obtain ⟨h1, z1, z2, z3⟩ := h
  exact ⟨h1, z1, z2, fun i hi => (if_neg (show ¬ i = k by omega)).trans (z3 i hi)⟩
theorem HZ_suc {U V : HT} {c a b : Int32} (h : HOK U ∧ ZH U) (hv : sucV U c a b) (e : sucF U c a b = some V) : HOK V ∧ ZH V := by
  have hr := h.1.1
  rcases hv with ⟨k, hk, rfl⟩ | rfl | rfl | ⟨hc, d, hd, rfl⟩ | ⟨hc, k, hk, rfl⟩ | rfl
  · rw [sucF_k hk] at e
    by_cases c1 : (a < stG 0 (nI k) ∨ ¬ a ≤ stG 1 (nI k))
    · rw [if_pos c1] at e; cases e
    rw [if_neg c1] at e
    rw [← Option.some.inj e]
    exact HZ_sw h (by omega)
  · rw [sucF_10] at e
    by_cases c1 : (a < 1 ∨ ¬ a ≤ 50)
    · rw [if_pos c1] at e; cases e
    rw [if_neg c1] at e
    by_cases c2 : U.2.2.2.2.2.2.2.2.2.1 = 0
    · rw [if_pos c2] at e; cases e
    rw [if_neg c2] at e
    by_cases c3 : U.2.2.2.2.2.2.2.2.2.2.2.2.2.2.2.2.1 + a ≤ 9999
    · rw [if_neg (not_not_intro c3)] at e
      rw [← Option.some.inj e]
      exact HZ_pasN h c2 _
    · rw [if_pos c3] at e; cases e
  · rw [sucF_11] at e
    by_cases c1 : U.2.2.2.2.2.2.2.2.2.2.2.2.2.2.1 &&& a = 0
    · rw [if_pos c1] at e; cases e
    rw [if_neg c1] at e
    by_cases c2 : U.2.2.2.2.2.2.2.2.2.2.2.2.2.2.1 &&& ~~~a = 0
    · rw [if_pos c2] at e; cases e
    rw [if_neg c2] at e
    by_cases c3 : U.2.2.2.2.2.2.2.2.1 3 ≤ U.2.2.2.2.2.2.2.2.1 5
    · rw [if_neg (not_not_intro c3)] at e
      rw [← Option.some.inj e]
      exact HZ_ask h
    · rw [if_pos c3] at e; cases e
  · rcases hc with rfl | rfl
    · rw [sucF_12] at e
      by_cases c1 : ctn U.2.2.2.2.2.2.2.2.2.2.2.1 (nI d) = true
      · rw [if_pos c1] at e; cases e
      rw [if_neg c1] at e
      rw [← Option.some.inj e]
      exact h
    · rw [sucF_13] at e
      by_cases c1 : ctn U.2.2.2.2.2.2.2.2.2.2.2.1 (nI d) = false
      · rw [if_pos c1] at e; cases e
      rw [if_neg c1] at e
      rw [← Option.some.inj e]
      exact h
  · rcases hc with rfl | rfl | rfl
    · rw [sucF_14] at e
      by_cases c1 : ctn U.2.2.2.2.2.2.2.2.2.2.2.2.1 (nI k) = decide (b = 1)
      · rw [if_pos c1] at e; cases e
      rw [if_neg c1] at e
      rw [← Option.some.inj e]
      exact h
    · rw [sucF_15] at e
      by_cases c1 : ctn U.2.2.2.2.2.2.2.2.2.2.2.2.2.1 (nI k) = decide (b = 1)
      · rw [if_pos c1] at e; cases e
      rw [if_neg c1] at e
      rw [← Option.some.inj e]
      exact h
    · rw [sucF_16, nI_clamp (by omega)] at e
      by_cases c1 : (b < 1 ∨ ¬ b ≤ 99)
      · rw [if_pos c1] at e; cases e
      rw [if_neg c1] at e
      by_cases c2 : b ≤ U.2.1 k
      · rw [if_neg (not_not_intro c2)] at e
        rw [← Option.some.inj e]
        exact HZ_co h (by omega)
      · rw [if_pos c2] at e; cases e
  · rw [sucF_17] at e
    by_cases c1 : (a < 1 ∨ ¬ a ≤ 99)
    · rw [if_pos c1] at e; cases e
    rw [if_neg c1] at e
    by_cases c2 : U.2.2.2.2.2.2.2.2.1 5 + a ≤ 999
    · rw [if_neg (not_not_intro c2)] at e
      rw [← Option.some.inj e]
      exact HZ_sw h (by decide)
    · rw [if_pos c2] at e; cases e
theorem HZ_rnK {K : KT} {n : Nat} (hP : PVAL K n) : ∀ (f k e : Nat) (U : HT) (r : Nat → Int32), HOK U ∧ ZH U → U.2.2.2.2.2.2.2.2.2.1 = K.2.2.1.2.2.2.2.2.2.2.2.2.1 → U.2.2.2.2.2.2.2.2.2.2.1 = K.2.2.1.2.2.2.2.2.2.2.2.2.2.1 → HOK (rnK K n f k e U r).2.1 ∧ ZH (rnK K n f k e U r).2.1 := by
  intro f
  induction f with
  | zero => intro k e U r h _ _; exact h
  | succ f ih =>
    intro k e U r h e1 e2
    rw [rnK]
    by_cases c1 : k < n
    rotate_left
    · rw [if_pos c1]; exact h
    rw [if_neg (not_not_intro c1)]
    by_cases c2 : e < 40
    rotate_left
    · rw [if_pos c2]; exact h
    rw [if_neg (not_not_intro c2)]
    by_cases c3 : K.2.2.2.2.2.2.2.2.2.2.2.2.2.2.2.2.2.2.2.2.2.2.2.2.2.2.2.2.2.1 k = 18
    · rw [if_pos c3]; exact ih _ _ _ _ h e1 e2
    rw [if_neg c3]
    by_cases c4 : K.2.2.2.2.2.2.2.2.2.2.2.2.2.2.2.2.2.2.2.2.2.2.2.2.2.2.2.2.2.1 k = 19
    · rw [if_pos c4]; exact ih _ _ _ _ h e1 e2
    rw [if_neg c4]
    rcases hP k c1 with y | ⟨y, -⟩ | ⟨-, -, y⟩
    · exact absurd y c3
    · exact absurd y c4
    cases es : sucF U (K.2.2.2.2.2.2.2.2.2.2.2.2.2.2.2.2.2.2.2.2.2.2.2.2.2.2.2.2.2.1 k) (K.2.2.2.2.2.2.2.2.2.2.2.2.2.2.2.2.2.2.2.2.2.2.2.2.2.2.2.2.2.2.1 k) (K.2.2.2.2.2.2.2.2.2.2.2.2.2.2.2.2.2.2.2.2.2.2.2.2.2.2.2.2.2.2.2.1 k) with
    | none => exact h
    | some V => exact ih _ _ _ _ (HZ_suc h (sucV_cong y e1 e2) es) ((sucF_rd es).1.trans e1) ((sucF_rd es).2.trans e2)
theorem FCH_f {X C : MT} (h : FCH X C) : C.2.1 = X.2.1 ∧ C.2.2.2.2.2.2.2.2.2.2.1 = X.2.2.2.2.2.2.2.2.2.2.1 ∧ C.2.2.2.2.2.2.2.2.2.2.2.1 = X.2.2.2.2.2.2.2.2.2.2.2.1 ∧ C.2.2.2.2.2.2.2.2.2.2.2.2.2.2.1 = X.2.2.2.2.2.2.2.2.2.2.2.2.2.2.1 ∧ C.2.2.2.2.2.2.2.2.2.2.2.2.2.2.2.2.2.2.2.1 = X.2.2.2.2.2.2.2.2.2.2.2.2.2.2.2.2.2.2.2.1 ∧ C.2.2.2.2.2.2.2.2.2.2.2.2.2.2.2.2.2.2.2.2.2.2.2.2.2.2.2.2.2.2.2.2.2.1 = X.2.2.2.2.2.2.2.2.2.2.2.2.2.2.2.2.2.2.2.2.2.2.2.2.2.2.2.2.2.2.2.2.2.1 ∧ C.2.2.2.2.2.2.2.2.2.2.2.2.2.2.2.2.2.2.2.2.2.2.2.2.2.2.2.2.2.2.2.2.2.2 = X.2.2.2.2.2.2.2.2.2.2.2.2.2.2.2.2.2.2.2.2.2.2.2.2.2.2.2.2.2.2.2.2.2.2 := by
  refine ⟨?_, ?_, ?_, ?_, ?_, ?_, ?_⟩ <;> (rw [← h]; rfl)
/-- a text was read, or a script: the tokens have changed, the input is empty -/
theorem INV_rd {K K1 : KT} {M M2 : MT} (hI : INV K M) (hfr : fr K1 = (K.1, K.2.1, K.2.2.1, K.2.2.2.2.2.2.2.2.2.2.1, 0, K.2.2.2.2.2.2.2.2.2.2.2.2.2.2.2.2.2.2.2.1, K.2.2.2.2.2.2.2.2.2.2.2.2.2.2.2.2.2.2.2.2.1, K.2.2.2.2.2.2.2.2.2.2.2.2.2.2.2.2.2.2.2.2.2.1, K.2.2.2.2.2.2.2.2.2.2.2.2.2.2.2.2.2.2.2.2.2.2.1, K.2.2.2.2.2.2.2.2.2.2.2.2.2.2.2.2.2.2.2.2.2.2.2.1, K.2.2.2.2.2.2.2.2.2.2.2.2.2.2.2.2.2.2.2.2.2.2.2.2.1, K.2.2.2.2.2.2.2.2.2.2.2.2.2.2.2.2.2.2.2.2.2.2.2.2.2.2.2.2.2.2.2.2.2)) (hD : HOK K1.2.2.2.1 ∧ ZH K1.2.2.2.1) (te : M2.2.2.2.2.2.2.2.2.2.2.1 = K1.2.2.2.2.2.2.2.2.2.2.2.2.2.2.2.2.2.1) (tp : M2.2.2.2.2.2.2.2.2.2.2.2.1 = K1.2.2.2.2.2.2.2.2.2.2.2.2.2.2.2.2.2.2.1) (fi : M2.2.2.1 = 0) (hC2 : CPL K1.2.2.1 M2.2.2.2.2.2.2.2.2.2.2.2.2.2.1) (un : M2.2.2.2.2.2.2.2.2.2.2.2.2.2.2.2.2.2.2.1 = M.2.2.2.2.2.2.2.2.2.2.2.2.2.2.2.2.2.2.1) (hF : FRT M M2) : INV K1 M2 := by
  obtain ⟨⟨ok, zh, zd, zs, hz⟩, hC, ⟨a, b, ⟨ha, hb⟩, ⟨eO, eC, eU⟩, hR⟩, hs, ⟨eB, hB, f0, hf0, eK, eF⟩, ⟨et, ep⟩, n0, hn0, en1, en2, en3⟩ := hI
  unfold fr at hfr
  simp only [Prod.mk.injEq] at hfr
  obtain ⟨x1, x2, x3, x4, x5, x6, x7, x8, x9, -, -, x12⟩ := hfr
  obtain ⟨y1, y2, y3, y4, y5, y6⟩ := hF
  exact ⟨⟨⟨by rw [x3]; exact ok.1, hD.1, by rw [x6]; exact ok.2.2.1, by rw [x9]; exact ok.2.2.2.1, by rw [x9]; exact ok.2.2.2.2⟩, by rw [x3]; exact zh, hD.2, by rw [x6]; exact zs, fun i hi => by rw [x9]; exact hz i hi⟩, hC2, ⟨a, b, ⟨ha, hb⟩, ⟨by rw [x7]; exact eO, by rw [x8]; exact eC, by rw [un]; exact eU⟩, by rw [x9, y3]; exact hR⟩, by rw [x1, x6, y4, y2]; exact hs, ⟨by rw [x4, y1]; exact eB, by rw [y1]; exact hB, 0, by omega, x5, fi⟩, ⟨te.symm, tp.symm⟩, n0, hn0, by rw [x2]; exact en1, by rw [y6]; exact en2, by rw [x12, y5]; exact en3⟩
/-- a text was read and taken: the draft is the house -/
theorem INV_rt {K K1 : KT} {M M2 : MT} (hI : INV K M) (hfr : fr K1 = (K.1, K.2.1, K.2.2.1, K.2.2.2.2.2.2.2.2.2.2.1, 0, K.2.2.2.2.2.2.2.2.2.2.2.2.2.2.2.2.2.2.2.1, K.2.2.2.2.2.2.2.2.2.2.2.2.2.2.2.2.2.2.2.2.1, K.2.2.2.2.2.2.2.2.2.2.2.2.2.2.2.2.2.2.2.2.2.1, K.2.2.2.2.2.2.2.2.2.2.2.2.2.2.2.2.2.2.2.2.2.2.1, K.2.2.2.2.2.2.2.2.2.2.2.2.2.2.2.2.2.2.2.2.2.2.2.1, K.2.2.2.2.2.2.2.2.2.2.2.2.2.2.2.2.2.2.2.2.2.2.2.2.1, K.2.2.2.2.2.2.2.2.2.2.2.2.2.2.2.2.2.2.2.2.2.2.2.2.2.2.2.2.2.2.2.2.2)) (hD : HOK K1.2.2.2.1 ∧ ZH K1.2.2.2.1) (te : M2.2.2.2.2.2.2.2.2.2.2.1 = K1.2.2.2.2.2.2.2.2.2.2.2.2.2.2.2.2.2.1) (tp : M2.2.2.2.2.2.2.2.2.2.2.2.1 = K1.2.2.2.2.2.2.2.2.2.2.2.2.2.2.2.2.2.2.1) (fi : M2.2.2.1 = 0) (hC2 : CPL K1.2.2.2.1 M2.2.2.2.2.2.2.2.2.2.2.2.2.2.1) (un : M2.2.2.2.2.2.2.2.2.2.2.2.2.2.2.2.2.2.2.1 = 0) (hF : FRT M M2) : INV (K1.1, K1.2.1, K1.2.2.2.1, K1.2.2.2.1, K1.2.2.2.2.1, K1.2.2.2.2.2.1, K1.2.2.2.2.2.2.1, K1.2.2.2.2.2.2.2.1, K1.2.2.2.2.2.2.2.2.1, K1.2.2.2.2.2.2.2.2.2.1, K1.2.2.2.2.2.2.2.2.2.2.1, K1.2.2.2.2.2.2.2.2.2.2.2.1, K1.2.2.2.2.2.2.2.2.2.2.2.2.1, K1.2.2.2.2.2.2.2.2.2.2.2.2.2.1, K1.2.2.2.2.2.2.2.2.2.2.2.2.2.2.1, K1.2.2.2.2.2.2.2.2.2.2.2.2.2.2.2.1, K1.2.2.2.2.2.2.2.2.2.2.2.2.2.2.2.2.1, K1.2.2.2.2.2.2.2.2.2.2.2.2.2.2.2.2.2.1, K1.2.2.2.2.2.2.2.2.2.2.2.2.2.2.2.2.2.2.1, K1.2.2.2.2.2.2.2.2.2.2.2.2.2.2.2.2.2.2.2.1, K1.2.2.2.2.2.2.2.2.2.2.2.2.2.2.2.2.2.2.2.2.1, 0, K1.2.2.2.2.2.2.2.2.2.2.2.2.2.2.2.2.2.2.2.2.2.2.1, K1.2.2.2.2.2.2.2.2.2.2.2.2.2.2.2.2.2.2.2.2.2.2.2.1, K1.2.2.2.2.2.2.2.2.2.2.2.2.2.2.2.2.2.2.2.2.2.2.2.2.1, K1.2.2.2.2.2.2.2.2.2.2.2.2.2.2.2.2.2.2.2.2.2.2.2.2.2.1, K1.2.2.2.2.2.2.2.2.2.2.2.2.2.2.2.2.2.2.2.2.2.2.2.2.2.2.1, K1.2.2.2.2.2.2.2.2.2.2.2.2.2.2.2.2.2.2.2.2.2.2.2.2.2.2.2.1, K1.2.2.2.2.2.2.2.2.2.2.2.2.2.2.2.2.2.2.2.2.2.2.2.2.2.2.2.2.1, K1.2.2.2.2.2.2.2.2.2.2.2.2.2.2.2.2.2.2.2.2.2.2.2.2.2.2.2.2.2.1, K1.2.2.2.2.2.2.2.2.2.2.2.2.2.2.2.2.2.2.2.2.2.2.2.2.2.2.2.2.2.2.1, K1.2.2.2.2.2.2.2.2.2.2.2.2.2.2.2.2.2.2.2.2.2.2.2.2.2.2.2.2.2.2.2.1, K1.2.2.2.2.2.2.2.2.2.2.2.2.2.2.2.2.2.2.2.2.2.2.2.2.2.2.2.2.2.2.2.2.1, K1.2.2.2.2.2.2.2.2.2.2.2.2.2.2.2.2.2.2.2.2.2.2.2.2.2.2.2.2.2.2.2.2.2) M2 := by
  obtain ⟨⟨ok, zh, zd, zs, hz⟩, hC, ⟨a, b, ⟨ha, hb⟩, ⟨eO, eC, eU⟩, hR⟩, hs, ⟨eB, hB, f0, hf0, eK, eF⟩, ⟨et, ep⟩, n0, hn0, en1, en2, en3⟩ := hI
  unfold fr at hfr
  simp only [Prod.mk.injEq] at hfr
  obtain ⟨x1, x2, x3, x4, x5, x6, x7, x8, x9, -, -, x12⟩ := hfr
  obtain ⟨y1, y2, y3, y4, y5, y6⟩ := hF
  have w1 : HOK K1.2.2.2.2.2.2.2.2.2.2.2.2.2.2.2.2.2.2.2.1 := by rw [x6]; exact ok.2.2.1
  have w2 : ∀ i, HOK (K1.2.2.2.2.2.2.2.2.2.2.2.2.2.2.2.2.2.2.2.2.2.2.1 i) := by rw [x9]; exact ok.2.2.2.1
  have w3 : ∀ i, 7 ≤ i → K1.2.2.2.2.2.2.2.2.2.2.2.2.2.2.2.2.2.2.2.2.2.2.1 i = H0 := by rw [x9]; exact ok.2.2.2.2
  have w4 : ZH K1.2.2.2.2.2.2.2.2.2.2.2.2.2.2.2.2.2.2.2.1 := by rw [x6]; exact zs
  have w5 : ∀ i, i < 7 → ZH (K1.2.2.2.2.2.2.2.2.2.2.2.2.2.2.2.2.2.2.2.2.2.2.1 i) := by rw [x9]; exact hz
  have w6 : (K1.1 = 0 ∧ M2.2.2.2.2.2.2.2.2.2.2.2.2.2.2.2.2.2.2.2.1 = 0) ∨ (K1.1 = 1 ∧ M2.2.2.2.2.2.2.2.2.2.2.2.2.2.2.2.2.2.2.2.1 = 1 ∧ CPL K1.2.2.2.2.2.2.2.2.2.2.2.2.2.2.2.2.2.2.2.1 M2.2.2.2.2.2.2.2.2.2.2.2.2.2.2.1) := by rw [x1, x6, y4, y2]; exact hs
  have w7 : K1.2.2.2.2.2.2.2.2.2.2.1 = M2.2.1 := by rw [x4, y1]; exact eB
  have w8 : BUN M2.2.1 := by rw [y1]; exact hB
  have w9 : K1.2.1 = nI n0 := by rw [x2]; exact en1
  have w10 : M2.2.2.2.2.2.2.2.2.2.2.2.2.2.2.2.2.2.2.2.2.2.2.2.2.2.2.2.2.2.2.2.2.2.2 = nI n0 := by rw [y6]; exact en2
  have w11 : ∀ i, i < n0 → K1.2.2.2.2.2.2.2.2.2.2.2.2.2.2.2.2.2.2.2.2.2.2.2.2.2.2.2.2.2.2.2.2.2 i = M2.2.2.2.2.2.2.2.2.2.2.2.2.2.2.2.2.2.2.2.2.2.2.2.2.2.2.2.2.2.2.2.2.2.1 i := by rw [x12, y5]; exact en3
  exact ⟨⟨⟨hD.1, hD.1, w1, w2, w3⟩, hD.2, hD.2, w4, w5⟩, hC2, ⟨a, 0, ⟨ha, by omega⟩, ⟨x7.trans eO, rfl, un⟩, RNG_0 _ _ _⟩, w6, ⟨w7, w8, 0, by omega, x5, fi⟩, ⟨te.symm, tp.symm⟩, n0, hn0, w9, w10, w11⟩
section AG
variable {z : Nat} {K : KT} {M : MT} {f : Nat → Int64} {o : Option Nat}
theorem ag_feed {a1 b1 c1 d1 e1 : Int32} (hI : INV K M) : rx_G_feed [.ref z, .int a1, .int b1, .int c1, .int d1, .int e1] (hL z K M f) o (GQ [(0, 1)] z M f fun h o Q => rx_M_feed [.ref (z + 207), .int a1, .int b1, .int c1, .int d1, .int e1] h o Q) := by
  obtain ⟨⟨ok, zh, zd, zs, hz⟩, hC, ⟨a, b, ⟨ha, hb⟩, ⟨eO, eC, eU⟩, hR⟩, hs, ⟨eB, hB, f0, hf, eK, eF⟩, ⟨et, ep⟩, n0, hn0, en1, en2, en3⟩ := id hI
  obtain ⟨hg, hse, ⟨hcs, hnn, hgm⟩, hgh, hrm, hmk, hsb⟩ := id hC
  have hW := geo_RW hg
  have hr := (geo_n hg).1
  have hd := (geo_n hg).2
  have h12 := hg.1.2.2.1
  have h24 := hg.1.2.2.2
  refine gx ok ⟨f0, ⟨hf, eK⟩, fun c => gqx0 0 1 (by simp) fun g o2 => mx ⟨f0, ⟨hf, eF⟩, fun _ => mqx (INV_Cd hI) rfl, fun y => absurd y c⟩, fun c => gqv fun g o2 => mx ⟨f0, ⟨hf, eF⟩, fun y => absurd c y, fun _ => mqv ?_ rfl rfl⟩⟩
  have eN : ap20 K.2.2.2.2.2.2.2.2.2.2.1 f0 a1 b1 c1 d1 e1 = ap20M M.2.1 f0 a1 b1 c1 d1 e1 := by rw [ap20_M, eB]
  exact ⟨⟨ok, zh, zd, zs, hz⟩, hC, ⟨a, b, ⟨ha, hb⟩, ⟨eO, eC, eU⟩, hR⟩, hs, ⟨eN, BUN_20 hB _ _ _ _ _ _, f0 + 20, c, rfl, rfl⟩, ⟨et, ep⟩, n0, hn0, en1, en2, en3⟩
theorem ag_truncate {i : Int32} (hI : INV K M) : rx_G_truncate [.ref z, .int i] (hL z K M f) o (GQ [(1, 1)] z M f fun h o Q => rx_M_truncate [.ref (z + 207), .int i] h o Q) := by
  obtain ⟨⟨ok, zh, zd, zs, hz⟩, hC, ⟨a, b, ⟨ha, hb⟩, ⟨eO, eC, eU⟩, hR⟩, hs, ⟨eB, hB, f0, hf, eK, eF⟩, ⟨et, ep⟩, n0, hn0, en1, en2, en3⟩ := id hI
  obtain ⟨hg, hse, ⟨hcs, hnn, hgm⟩, hgh, hrm, hmk, hsb⟩ := id hC
  have hW := geo_RW hg
  have hr := (geo_n hg).1
  have hd := (geo_n hg).2
  have h12 := hg.1.2.2.1
  have h24 := hg.1.2.2.2
  refine gx ok ⟨f0, ⟨hf, eK⟩, fun c => gqx0 1 1 (by simp) fun g o2 => mx ⟨f0, ⟨hf, eF⟩, fun _ => mqx (INV_Cd hI) rfl, fun k hk e => ?_⟩, fun k hk e => gqv fun g o2 => mx ⟨f0, ⟨hf, eF⟩, fun c => (in_no (k := k) c (by omega) (by omega) e).elim, fun j hj e2 => ?_⟩⟩
  · rw [e] at c
    exact (c.elim (fun y => nI_nng (by omega) y) (fun y => y ((nI_leI (by omega) (by omega)).mpr hk))).elim
  · have ej := in_eq (show k < 700 by omega) (show j < 700 by omega) e e2
    rw [ej]
    refine mqv ?_ rfl rfl
    exact ⟨⟨ok, zh, zd, zs, hz⟩, hC, ⟨a, b, ⟨ha, hb⟩, ⟨eO, eC, eU⟩, hR⟩, hs, ⟨eB, hB, k, by omega, rfl, rfl⟩, ⟨et, ep⟩, n0, hn0, en1, en2, en3⟩
theorem ag_saveState (hI : INV K M) : rx_G_saveState [.ref z] (hL z K M f) o (GQ [] z M f fun h o Q => rx_M_saveState [.ref (z + 207)] h o Q) := by
  obtain ⟨⟨ok, zh, zd, zs, hz⟩, hC, ⟨a, b, ⟨ha, hb⟩, ⟨eO, eC, eU⟩, hR⟩, hs, ⟨eB, hB, f0, hf, eK, eF⟩, ⟨et, ep⟩, n0, hn0, en1, en2, en3⟩ := id hI
  obtain ⟨hg, hse, ⟨hcs, hnn, hgm⟩, hgh, hrm, hmk, hsb⟩ := id hC
  have hW := geo_RW hg
  have hr := (geo_n hg).1
  have hd := (geo_n hg).2
  have h12 := hg.1.2.2.1
  have h24 := hg.1.2.2.2
  refine gx ok ⟨⟨zh, zs⟩, gqv fun g o2 => mx (mqv ?_ rfl hnn.symm)⟩
  exact ⟨⟨⟨ok.1, ok.2.1, ok.1, ok.2.2.2⟩, zh, zd, zh, hz⟩, hC, ⟨a, b, ⟨ha, hb⟩, ⟨eO, eC, eU⟩, hR⟩, Or.inr ⟨rfl, rfl, CPL_cong hC (fun i hi => cpy_at _ _ hi)⟩, ⟨eB, hB, f0, hf, eK, eF⟩, ⟨et, ep⟩, n0, hn0, en1, en2, en3⟩
theorem ag_restoreState (hI : INV K M) : rx_G_restoreState [.ref z] (hL z K M f) o (GQ [(0, 1)] z M f fun h o Q => rx_M_restoreState [.ref (z + 207)] h o Q) := by
  obtain ⟨⟨ok, zh, zd, zs, hz⟩, hC, ⟨a, b, ⟨ha, hb⟩, ⟨eO, eC, eU⟩, hR⟩, hs, ⟨eB, hB, f0, hf, eK, eF⟩, ⟨et, ep⟩, n0, hn0, en1, en2, en3⟩ := id hI
  obtain ⟨hg, hse, ⟨hcs, hnn, hgm⟩, hgh, hrm, hmk, hsb⟩ := id hC
  have hW := geo_RW hg
  have hr := (geo_n hg).1
  have hd := (geo_n hg).2
  have h12 := hg.1.2.2.1
  have h24 := hg.1.2.2.2
  refine gx ok ⟨⟨zh, zs⟩, fun c => gqx0 0 1 (by simp) fun g o2 => mx ?_, fun c => gqv fun g o2 => mx ?_⟩
  · rcases hs with ⟨-, s2⟩ | ⟨s1, -⟩
    · exact ⟨fun _ => mqx (INV_Cd hI) rfl, fun y => absurd (s2.symm.trans y) (by decide), Or.inl s2⟩
    · exact absurd (c.symm.trans s1) (by decide)
  · rcases id hs with ⟨s1, -⟩ | ⟨s1, s2, s3⟩
    · exact absurd s1 c
    · have hN : CPL K.2.2.2.2.2.2.2.2.2.2.2.2.2.2.2.2.2.2.2.1 (cpy M.2.2.2.2.2.2.2.2.2.2.2.2.2.2.1 0 M.2.2.2.2.2.2.2.2.2.2.2.2.2.1 0 216) := CPL_cong s3 (fun i hi => cpy_at _ _ hi)
      refine ⟨fun y => absurd (s2.symm.trans y) (by decide), fun _ => mqv ?_ rfl hN.2.2.1.2.1.symm, Or.inr s2⟩
      exact ⟨⟨⟨ok.2.2.1, ok.2⟩, zs, zd, zs, hz⟩, hN, ⟨a, 0, ⟨ha, by omega⟩, ⟨eO, rfl, rfl⟩, RNG_0 _ _ _⟩, hs, ⟨eB, hB, f0, hf, eK, eF⟩, ⟨et, ep⟩, n0, hn0, en1, en2, en3⟩
theorem ag_undo (hI : INV K M) : rx_G_undo [.ref z] (hL z K M f) o (GQ [(0, 1)] z M f fun h o Q => rx_M_undo [.ref (z + 207)] h o Q) := by
  obtain ⟨⟨ok, zh, zd, zs, hz⟩, hC, ⟨a, b, ⟨ha, hb⟩, ⟨eO, eC, eU⟩, hR⟩, hs, ⟨eB, hB, f0, hf, eK, eF⟩, ⟨et, ep⟩, n0, hn0, en1, en2, en3⟩ := id hI
  obtain ⟨hg, hse, ⟨hcs, hnn, hgm⟩, hgh, hrm, hmk, hsb⟩ := id hC
  have hW := geo_RW hg
  have hr := (geo_n hg).1
  have hd := (geo_n hg).2
  have h12 := hg.1.2.2.1
  have h24 := hg.1.2.2.2
  have hPZ : HPZ K a b := ⟨ha, hb, eO, eC, zh, hz⟩
  have hPR := INV_pr hI hb ha eO eC eU hR
  have hid : IDX 7 M.2.2.2.2.2.2.2.2.2.2.2.2.2.2.2.2.2.2.1 := ⟨b, by omega, eU⟩
  have hA : CPL K.2.2.1 (cpy M.2.2.2.2.2.2.2.2.2.2.2.2.2.1 0 M.2.2.2.2.2.2.2.2.2.2.2.2.2.2.2.1 0 216) := CPL_cong hC (fun i hi => cpy_at _ _ hi)
  refine gx ok ⟨a, b, hPZ, fun c => gqx0 0 1 (by simp) fun g o2 => mx ⟨hid, fun _ => mqx (INV_Cd hI) rfl, fun u hu y => ?_⟩, fun d c => gqv fun g o2 => mx ⟨hid, fun y => ?_, fun u hu y => ?_⟩⟩
  · have := (nI_eq (by omega) (by omega)).mp (eU.symm.trans y)
    omega
  · have := (nI_z (by omega)).mp (eU.symm.trans y)
    omega
  · have e9 := (nI_eq (by omega) (by omega)).mp (eU.symm.trans y)
    obtain rfl : u = d := by omega
    have hN : CPL (K.2.2.2.2.2.2.2.2.2.2.2.2.2.2.2.2.2.2.2.2.2.2.1 ((a + u) % 7)) (cpy M.2.2.2.2.2.2.2.2.2.2.2.2.2.2.2.2.2.1 (216 * u) M.2.2.2.2.2.2.2.2.2.2.2.2.2.1 0 216) := CPL_cong (hR u (by omega)) (fun i hi => if_pos ⟨Nat.zero_le _, by omega⟩)
    have hm : (a + u) % 7 < 7 := Nat.mod_lt _ (by decide)
    obtain ⟨m, em⟩ : ∃ m, m = (a + u) % 7 := ⟨_, rfl⟩
    rw [← em] at hN hm ⊢
    refine mqv ?_ rfl rfl
    exact ⟨⟨⟨ok.2.2.2.1 m, ok.2⟩, hz m hm, zd, zs, hz⟩, hN, ⟨a, u, ⟨ha, by omega⟩, ⟨eO, rfl, rfl⟩, RNG_le hR (by omega)⟩, hs, ⟨eB, hB, f0, hf, eK, eF⟩, ⟨et, ep⟩, n0, hn0, en1, en2, en3⟩
theorem ag_earnCoins {x : Int32} (hI : INV K M) : rx_G_earnCoins [.ref z, .int x] (hL z K M f) o (GQ [(1, 1), (0, 2)] z M f fun h o Q => rx_M_earnCoins [.ref (z + 207), .int x] h o Q) := by
  obtain ⟨⟨ok, zh, zd, zs, hz⟩, hC, ⟨a, b, ⟨ha, hb⟩, ⟨eO, eC, eU⟩, hR⟩, hs, ⟨eB, hB, f0, hf, eK, eF⟩, ⟨et, ep⟩, n0, hn0, en1, en2, en3⟩ := id hI
  obtain ⟨hg, hse, ⟨hcs, hnn, hgm⟩, hgh, hrm, hmk, hsb⟩ := id hC
  have hW := geo_RW hg
  have hr := (geo_n hg).1
  have hd := (geo_n hg).2
  have h12 := hg.1.2.2.1
  have h24 := hg.1.2.2.2
  have hPZ : HPZ K a b := ⟨ha, hb, eO, eC, zh, hz⟩
  have hPR := INV_pr hI hb ha eO eC eU hR
  have hid : IDX 7 M.2.2.2.2.2.2.2.2.2.2.2.2.2.2.2.2.2.2.1 := ⟨b, by omega, eU⟩
  have hA : CPL K.2.2.1 (cpy M.2.2.2.2.2.2.2.2.2.2.2.2.2.1 0 M.2.2.2.2.2.2.2.2.2.2.2.2.2.2.2.1 0 216) := CPL_cong hC (fun i hi => cpy_at _ _ hi)
  refine gx ok ⟨a, b, hPZ, fun c => gqx 1 1 (by simp) fun g o2 => mx ?_, fun c1 c2 c3 => gqx 0 2 (by simp) fun g o2 => mx ?_, fun c1 c2 c3 => gqv fun g o2 => mx ?_⟩
  · have e : isInF x.toInt64 1 99 = false := inT (isIn_99 x) c
    exact ⟨fun _ => mqx (INV_Cd hPR) rfl, fun y => (nf e y).elim, fun y => (nf e y).elim⟩
  · have e : isInF x.toInt64 1 99 = true := inN (isIn_99 x) (fun y => y.elim c1 (fun y => y c2))
    rw [hse 5 (by decide)] at c3
    exact ⟨fun y => (nf y e).elim, fun _ _ => mqx (INV_Cd hPR) rfl, fun _ y => absurd (Int32.not_le.mp c3) y⟩
  · have e : isInF x.toInt64 1 99 = true := inN (isIn_99 x) (fun y => y.elim c1 (fun y => y c2))
    obtain ⟨n, -, hn, en⟩ := rngI1 (v := x) (m := 99) (by decide) c1 c2
    obtain ⟨q, hq, eq⟩ := hsb.2.2.2.2.2
    have hnn9 : ¬ K.2.2.1.2.2.2.2.2.2.2.2.1 5 + x < 0 := by
      rw [eq, en, nI_add]
      exact nI_nng (by omega)
    have hV : CPL (seW 5 (K.2.2.1.2.2.2.2.2.2.2.2.1 5 + x) K.2.2.1) (upd M.2.2.2.2.2.2.2.2.2.2.2.2.2.1 5 (M.2.2.2.2.2.2.2.2.2.2.2.2.2.1 5 + x)) := by
      rw [← hse 5 (by decide)]
      exact CPL_se hC (by decide) (SETB_5 hsb hnn9 c3)
    have hZ := HZ_sw (k := 5) (v := K.2.2.1.2.2.2.2.2.2.2.2.1 5 + x) ⟨ok.1, zh⟩ (by decide)
    rw [hse 5 (by decide)] at c3
    exact ⟨fun y => (nf y e).elim, fun _ y => absurd c3 (Int32.not_le.mpr y), fun _ _ => ⟨hid, mqv (INV_ch hI hb ha eU hR hA hZ.1 hZ.2 hV ⟨rfl, rfl, rfl, rfl, rfl, rfl, rfl, rfl⟩ rfl rfl rfl ⟨rfl, rfl, rfl, rfl, rfl, rfl, rfl⟩ rfl rfl ⟨f0, hf, eK, eF⟩) rfl (by rw [hse 5 (by decide)])⟩⟩
theorem ag_setMode {v : Int32} (hI : INV K M) : rx_G_setMode [.ref z, .int v] (hL z K M f) o (GQ [(1, 1)] z M f fun h o Q => rx_M_setMode [.ref (z + 207), .int v] h o Q) := by
  obtain ⟨⟨ok, zh, zd, zs, hz⟩, hC, ⟨a, b, ⟨ha, hb⟩, ⟨eO, eC, eU⟩, hR⟩, hs, ⟨eB, hB, f0, hf, eK, eF⟩, ⟨et, ep⟩, n0, hn0, en1, en2, en3⟩ := id hI
  obtain ⟨hg, hse, ⟨hcs, hnn, hgm⟩, hgh, hrm, hmk, hsb⟩ := id hC
  have hW := geo_RW hg
  have hr := (geo_n hg).1
  have hd := (geo_n hg).2
  have h12 := hg.1.2.2.1
  have h24 := hg.1.2.2.2
  have hPZ : HPZ K a b := ⟨ha, hb, eO, eC, zh, hz⟩
  have hPR := INV_pr hI hb ha eO eC eU hR
  have hid : IDX 7 M.2.2.2.2.2.2.2.2.2.2.2.2.2.2.2.2.2.2.1 := ⟨b, by omega, eU⟩
  have hA : CPL K.2.2.1 (cpy M.2.2.2.2.2.2.2.2.2.2.2.2.2.1 0 M.2.2.2.2.2.2.2.2.2.2.2.2.2.2.2.1 0 216) := CPL_cong hC (fun i hi => cpy_at _ _ hi)
  refine gx ok ⟨a, b, hPZ, fun c => gqx 1 1 (by simp) fun g o2 => mx ?_, fun c1 c2 => gqv fun g o2 => mx ?_⟩
  · have e : isInF v.toInt64 (leaF 0).toInt64 (mosF 0).toInt64 = false := inT (isIn_st (k := 0) (by decide) v) c
    exact ⟨fun _ => mqx (INV_Cd hPR) rfl, fun y => (nf e y).elim⟩
  · have e : isInF v.toInt64 (leaF 0).toInt64 (mosF 0).toInt64 = true := inN (isIn_st (k := 0) (by decide) v) (fun y => y.elim c1 (fun y => y c2))
    have hV : CPL (seW 0 v K.2.2.1) (upd M.2.2.2.2.2.2.2.2.2.2.2.2.2.1 0 v) := CPL_se hC (by decide) (SETB_upd hsb (by decide) (fun y => y.elim c1 (fun y => y c2)))
    have hZ := HZ_sw (k := 0) (v := v) ⟨ok.1, zh⟩ (by decide)
    exact ⟨fun y => (nf y e).elim, fun _ => ⟨hid, mqv (INV_ch hI hb ha eU hR hA hZ.1 hZ.2 hV ⟨rfl, rfl, rfl, rfl, rfl, rfl, rfl, rfl⟩ rfl rfl rfl ⟨rfl, rfl, rfl, rfl, rfl, rfl, rfl⟩ rfl rfl ⟨f0, hf, eK, eF⟩) rfl (hse 0 (by decide)).symm⟩⟩
theorem ag_setChill {v : Int32} (hI : INV K M) : rx_G_setChill [.ref z, .int v] (hL z K M f) o (GQ [(1, 1)] z M f fun h o Q => rx_M_setChill [.ref (z + 207), .int v] h o Q) := by
  obtain ⟨⟨ok, zh, zd, zs, hz⟩, hC, ⟨a, b, ⟨ha, hb⟩, ⟨eO, eC, eU⟩, hR⟩, hs, ⟨eB, hB, f0, hf, eK, eF⟩, ⟨et, ep⟩, n0, hn0, en1, en2, en3⟩ := id hI
  obtain ⟨hg, hse, ⟨hcs, hnn, hgm⟩, hgh, hrm, hmk, hsb⟩ := id hC
  have hW := geo_RW hg
  have hr := (geo_n hg).1
  have hd := (geo_n hg).2
  have h12 := hg.1.2.2.1
  have h24 := hg.1.2.2.2
  have hPZ : HPZ K a b := ⟨ha, hb, eO, eC, zh, hz⟩
  have hPR := INV_pr hI hb ha eO eC eU hR
  have hid : IDX 7 M.2.2.2.2.2.2.2.2.2.2.2.2.2.2.2.2.2.2.1 := ⟨b, by omega, eU⟩
  have hA : CPL K.2.2.1 (cpy M.2.2.2.2.2.2.2.2.2.2.2.2.2.1 0 M.2.2.2.2.2.2.2.2.2.2.2.2.2.2.2.1 0 216) := CPL_cong hC (fun i hi => cpy_at _ _ hi)
  refine gx ok ⟨a, b, hPZ, fun c => gqx 1 1 (by simp) fun g o2 => mx ?_, fun c1 c2 => gqv fun g o2 => mx ?_⟩
  · have e : isInF v.toInt64 (leaF 1).toInt64 (mosF 1).toInt64 = false := inT (isIn_st (k := 1) (by decide) v) c
    exact ⟨fun _ => mqx (INV_Cd hPR) rfl, fun y => (nf e y).elim⟩
  · have e : isInF v.toInt64 (leaF 1).toInt64 (mosF 1).toInt64 = true := inN (isIn_st (k := 1) (by decide) v) (fun y => y.elim c1 (fun y => y c2))
    have hV : CPL (seW 1 v K.2.2.1) (upd M.2.2.2.2.2.2.2.2.2.2.2.2.2.1 1 v) := CPL_se hC (by decide) (SETB_upd hsb (by decide) (fun y => y.elim c1 (fun y => y c2)))
    have hZ := HZ_sw (k := 1) (v := v) ⟨ok.1, zh⟩ (by decide)
    exact ⟨fun y => (nf y e).elim, fun _ => ⟨hid, mqv (INV_ch hI hb ha eU hR hA hZ.1 hZ.2 hV ⟨rfl, rfl, rfl, rfl, rfl, rfl, rfl, rfl⟩ rfl rfl rfl ⟨rfl, rfl, rfl, rfl, rfl, rfl, rfl⟩ rfl rfl ⟨f0, hf, eK, eF⟩) rfl (hse 1 (by decide)).symm⟩⟩
theorem ag_setHearingThreshold {v : Int32} (hI : INV K M) : rx_G_setHearingThreshold [.ref z, .int v] (hL z K M f) o (GQ [(1, 1)] z M f fun h o Q => rx_M_setHearingThreshold [.ref (z + 207), .int v] h o Q) := by
  obtain ⟨⟨ok, zh, zd, zs, hz⟩, hC, ⟨a, b, ⟨ha, hb⟩, ⟨eO, eC, eU⟩, hR⟩, hs, ⟨eB, hB, f0, hf, eK, eF⟩, ⟨et, ep⟩, n0, hn0, en1, en2, en3⟩ := id hI
  obtain ⟨hg, hse, ⟨hcs, hnn, hgm⟩, hgh, hrm, hmk, hsb⟩ := id hC
  have hW := geo_RW hg
  have hr := (geo_n hg).1
  have hd := (geo_n hg).2
  have h12 := hg.1.2.2.1
  have h24 := hg.1.2.2.2
  have hPZ : HPZ K a b := ⟨ha, hb, eO, eC, zh, hz⟩
  have hPR := INV_pr hI hb ha eO eC eU hR
  have hid : IDX 7 M.2.2.2.2.2.2.2.2.2.2.2.2.2.2.2.2.2.2.1 := ⟨b, by omega, eU⟩
  have hA : CPL K.2.2.1 (cpy M.2.2.2.2.2.2.2.2.2.2.2.2.2.1 0 M.2.2.2.2.2.2.2.2.2.2.2.2.2.2.2.1 0 216) := CPL_cong hC (fun i hi => cpy_at _ _ hi)
  refine gx ok ⟨a, b, hPZ, fun c => gqx 1 1 (by simp) fun g o2 => mx ?_, fun c1 c2 => gqv fun g o2 => mx ?_⟩
  · have e : isInF v.toInt64 (leaF 2).toInt64 (mosF 2).toInt64 = false := inT (isIn_st (k := 2) (by decide) v) c
    exact ⟨fun _ => mqx (INV_Cd hPR) rfl, fun y => (nf e y).elim⟩
  · have e : isInF v.toInt64 (leaF 2).toInt64 (mosF 2).toInt64 = true := inN (isIn_st (k := 2) (by decide) v) (fun y => y.elim c1 (fun y => y c2))
    have hV : CPL (seW 2 v K.2.2.1) (upd M.2.2.2.2.2.2.2.2.2.2.2.2.2.1 2 v) := CPL_se hC (by decide) (SETB_upd hsb (by decide) (fun y => y.elim c1 (fun y => y c2)))
    have hZ := HZ_sw (k := 2) (v := v) ⟨ok.1, zh⟩ (by decide)
    exact ⟨fun y => (nf y e).elim, fun _ => ⟨hid, mqv (INV_ch hI hb ha eU hR hA hZ.1 hZ.2 hV ⟨rfl, rfl, rfl, rfl, rfl, rfl, rfl, rfl⟩ rfl rfl rfl ⟨rfl, rfl, rfl, rfl, rfl, rfl, rfl⟩ rfl rfl ⟨f0, hf, eK, eF⟩) rfl (hse 2 (by decide)).symm⟩⟩
theorem ag_setSeancePrice {v : Int32} (hI : INV K M) : rx_G_setSeancePrice [.ref z, .int v] (hL z K M f) o (GQ [(1, 1)] z M f fun h o Q => rx_M_setSeancePrice [.ref (z + 207), .int v] h o Q) := by
  obtain ⟨⟨ok, zh, zd, zs, hz⟩, hC, ⟨a, b, ⟨ha, hb⟩, ⟨eO, eC, eU⟩, hR⟩, hs, ⟨eB, hB, f0, hf, eK, eF⟩, ⟨et, ep⟩, n0, hn0, en1, en2, en3⟩ := id hI
  obtain ⟨hg, hse, ⟨hcs, hnn, hgm⟩, hgh, hrm, hmk, hsb⟩ := id hC
  have hW := geo_RW hg
  have hr := (geo_n hg).1
  have hd := (geo_n hg).2
  have h12 := hg.1.2.2.1
  have h24 := hg.1.2.2.2
  have hPZ : HPZ K a b := ⟨ha, hb, eO, eC, zh, hz⟩
  have hPR := INV_pr hI hb ha eO eC eU hR
  have hid : IDX 7 M.2.2.2.2.2.2.2.2.2.2.2.2.2.2.2.2.2.2.1 := ⟨b, by omega, eU⟩
  have hA : CPL K.2.2.1 (cpy M.2.2.2.2.2.2.2.2.2.2.2.2.2.1 0 M.2.2.2.2.2.2.2.2.2.2.2.2.2.2.2.1 0 216) := CPL_cong hC (fun i hi => cpy_at _ _ hi)
  refine gx ok ⟨a, b, hPZ, fun c => gqx 1 1 (by simp) fun g o2 => mx ?_, fun c1 c2 => gqv fun g o2 => mx ?_⟩
  · have e : isInF v.toInt64 (leaF 3).toInt64 (mosF 3).toInt64 = false := inT (isIn_st (k := 3) (by decide) v) c
    exact ⟨fun _ => mqx (INV_Cd hPR) rfl, fun y => (nf e y).elim⟩
  · have e : isInF v.toInt64 (leaF 3).toInt64 (mosF 3).toInt64 = true := inN (isIn_st (k := 3) (by decide) v) (fun y => y.elim c1 (fun y => y c2))
    have hV : CPL (seW 3 v K.2.2.1) (upd M.2.2.2.2.2.2.2.2.2.2.2.2.2.1 3 v) := CPL_se hC (by decide) (SETB_upd hsb (by decide) (fun y => y.elim c1 (fun y => y c2)))
    have hZ := HZ_sw (k := 3) (v := v) ⟨ok.1, zh⟩ (by decide)
    exact ⟨fun y => (nf y e).elim, fun _ => ⟨hid, mqv (INV_ch hI hb ha eU hR hA hZ.1 hZ.2 hV ⟨rfl, rfl, rfl, rfl, rfl, rfl, rfl, rfl⟩ rfl rfl rfl ⟨rfl, rfl, rfl, rfl, rfl, rfl, rfl⟩ rfl rfl ⟨f0, hf, eK, eF⟩) rfl (hse 3 (by decide)).symm⟩⟩
theorem ag_setRandomState {v : Int32} (hI : INV K M) : rx_G_setRandomState [.ref z, .int v] (hL z K M f) o (GQ [(1, 1)] z M f fun h o Q => rx_M_setRandomState [.ref (z + 207), .int v] h o Q) := by
  obtain ⟨⟨ok, zh, zd, zs, hz⟩, hC, ⟨a, b, ⟨ha, hb⟩, ⟨eO, eC, eU⟩, hR⟩, hs, ⟨eB, hB, f0, hf, eK, eF⟩, ⟨et, ep⟩, n0, hn0, en1, en2, en3⟩ := id hI
  obtain ⟨hg, hse, ⟨hcs, hnn, hgm⟩, hgh, hrm, hmk, hsb⟩ := id hC
  have hW := geo_RW hg
  have hr := (geo_n hg).1
  have hd := (geo_n hg).2
  have h12 := hg.1.2.2.1
  have h24 := hg.1.2.2.2
  have hPZ : HPZ K a b := ⟨ha, hb, eO, eC, zh, hz⟩
  have hPR := INV_pr hI hb ha eO eC eU hR
  have hid : IDX 7 M.2.2.2.2.2.2.2.2.2.2.2.2.2.2.2.2.2.2.1 := ⟨b, by omega, eU⟩
  have hA : CPL K.2.2.1 (cpy M.2.2.2.2.2.2.2.2.2.2.2.2.2.1 0 M.2.2.2.2.2.2.2.2.2.2.2.2.2.2.2.1 0 216) := CPL_cong hC (fun i hi => cpy_at _ _ hi)
  refine gx ok ⟨a, b, hPZ, fun c => gqx 1 1 (by simp) fun g o2 => mx ?_, fun c1 c2 => gqv fun g o2 => mx ?_⟩
  · have e : isInF v.toInt64 (leaF 4).toInt64 (mosF 4).toInt64 = false := inT (isIn_st (k := 4) (by decide) v) c
    exact ⟨fun _ => mqx (INV_Cd hPR) rfl, fun y => (nf e y).elim⟩
  · have e : isInF v.toInt64 (leaF 4).toInt64 (mosF 4).toInt64 = true := inN (isIn_st (k := 4) (by decide) v) (fun y => y.elim c1 (fun y => y c2))
    have hV : CPL (seW 4 v K.2.2.1) (upd M.2.2.2.2.2.2.2.2.2.2.2.2.2.1 4 v) := CPL_se hC (by decide) (SETB_upd hsb (by decide) (fun y => y.elim c1 (fun y => y c2)))
    have hZ := HZ_sw (k := 4) (v := v) ⟨ok.1, zh⟩ (by decide)
    exact ⟨fun y => (nf y e).elim, fun _ => ⟨hid, mqv (INV_ch hI hb ha eU hR hA hZ.1 hZ.2 hV ⟨rfl, rfl, rfl, rfl, rfl, rfl, rfl, rfl⟩ rfl rfl rfl ⟨rfl, rfl, rfl, rfl, rfl, rfl, rfl⟩ rfl rfl ⟨f0, hf, eK, eF⟩) rfl (hse 4 (by decide)).symm⟩⟩
theorem ag_setThermometer {i w : Int32} (hw : w = 0 ∨ w = 1) (hI : INV K M) : rx_G_setThermometer [.ref z, .int i, .int w] (hL z K M f) o (GQ [(2, 1), (0, 2)] z M f fun h o Q => rx_M_setThermometer [.ref (z + 207), .int i, .int w] h o Q) := by
  obtain ⟨⟨ok, zh, zd, zs, hz⟩, hC, ⟨a, b, ⟨ha, hb⟩, ⟨eO, eC, eU⟩, hR⟩, hs, ⟨eB, hB, f0, hf, eK, eF⟩, ⟨et, ep⟩, n0, hn0, en1, en2, en3⟩ := id hI
  obtain ⟨hg, hse, ⟨hcs, hnn, hgm⟩, hgh, hrm, hmk, hsb⟩ := id hC
  have hW := geo_RW hg
  have hr := (geo_n hg).1
  have hd := (geo_n hg).2
  have h12 := hg.1.2.2.1
  have h24 := hg.1.2.2.2
  have hPZ : HPZ K a b := ⟨ha, hb, eO, eC, zh, hz⟩
  have hPR := INV_pr hI hb ha eO eC eU hR
  have hid : IDX 7 M.2.2.2.2.2.2.2.2.2.2.2.2.2.2.2.2.2.2.1 := ⟨b, by omega, eU⟩
  have hA : CPL K.2.2.1 (cpy M.2.2.2.2.2.2.2.2.2.2.2.2.2.1 0 M.2.2.2.2.2.2.2.2.2.2.2.2.2.2.2.1 0 216) := CPL_cong hC (fun i hi => cpy_at _ _ hi)
  have htr : trI w = w := by rcases hw with rfl | rfl <;> decide
  refine gx ok ⟨a, b, hPZ, fun c => gqx 2 1 (by simp) fun g o2 => mx ⟨hW, fun _ => mqx (INV_Cd hPR) rfl, fun k hk e => (in_no c (Nat.lt_of_lt_of_eq hk hr) (by omega) e).elim, fun k hk e => (in_no c (Nat.lt_of_lt_of_eq hk hr) (by omega) e).elim⟩, fun c1 c2 => ?_, fun c1 c2 => ?_⟩
  · obtain ⟨k, hk, e⟩ := inR_t c1 (by omega)
    rw [e, ctn_k (by omega)] at c2
    refine gqx 0 2 (by simp) fun g o2 => mx ⟨hW, fun c => (in_no c (Nat.lt_of_lt_of_eq hk hr.symm) (by omega) e).elim, fun j hj e2 _ => mqx (INV_Cd hPR) rfl, fun j hj e2 y => ?_⟩
    have hj2 := Nat.lt_of_lt_of_eq hj hr
    have ej := in_eq (show k < 700 by omega) (show j < 700 by omega) e e2
    rw [ej, htr, (hrm k hk).2.2.1] at y
    exact absurd c2 y
  · obtain ⟨k, hk, e⟩ := inR_t c1 (by omega)
    rw [e, ctn_k (by omega)] at c2
    have hnb : tI (!bt K.2.2.1.2.2.2.2.2.2.2.2.2.2.2.2.1 k) = w := by
      rcases hw with rfl | rfl
      · cases h9 : bt K.2.2.1.2.2.2.2.2.2.2.2.2.2.2.2.1 k with
        | true => rfl
        | false => rw [h9] at c2; exact absurd rfl c2
      · cases h9 : bt K.2.2.1.2.2.2.2.2.2.2.2.2.2.2.2.1 k with
        | false => rfl
        | true => rw [h9] at c2; exact absurd rfl c2
    have hV : CPL (K.2.2.1.1, K.2.2.1.2.1, K.2.2.1.2.2.1, K.2.2.1.2.2.2.1, K.2.2.1.2.2.2.2.1, K.2.2.1.2.2.2.2.2.1, K.2.2.1.2.2.2.2.2.2.1, K.2.2.1.2.2.2.2.2.2.2.1, K.2.2.1.2.2.2.2.2.2.2.2.1, K.2.2.1.2.2.2.2.2.2.2.2.2.1, K.2.2.1.2.2.2.2.2.2.2.2.2.2.1, K.2.2.1.2.2.2.2.2.2.2.2.2.2.2.1, K.2.2.1.2.2.2.2.2.2.2.2.2.2.2.2.1 ^^^ cbit i, K.2.2.1.2.2.2.2.2.2.2.2.2.2.2.2.2.1, K.2.2.1.2.2.2.2.2.2.2.2.2.2.2.2.2.2.1, K.2.2.1.2.2.2.2.2.2.2.2.2.2.2.2.2.2.2.1, K.2.2.1.2.2.2.2.2.2.2.2.2.2.2.2.2.2.2.2.1, K.2.2.1.2.2.2.2.2.2.2.2.2.2.2.2.2.2.2.2.2.1, K.2.2.1.2.2.2.2.2.2.2.2.2.2.2.2.2.2.2.2.2.2) (upd M.2.2.2.2.2.2.2.2.2.2.2.2.2.1 (12 + 9 * k + 3) (trI w)) := by
      rw [htr, ← hnb, e]
      exact CPL_th hC hk (fun j => bt_xor_k (by omega) j)
    have hZ : HOK (K.2.2.1.1, K.2.2.1.2.1, K.2.2.1.2.2.1, K.2.2.1.2.2.2.1, K.2.2.1.2.2.2.2.1, K.2.2.1.2.2.2.2.2.1, K.2.2.1.2.2.2.2.2.2.1, K.2.2.1.2.2.2.2.2.2.2.1, K.2.2.1.2.2.2.2.2.2.2.2.1, K.2.2.1.2.2.2.2.2.2.2.2.2.1, K.2.2.1.2.2.2.2.2.2.2.2.2.2.1, K.2.2.1.2.2.2.2.2.2.2.2.2.2.2.1, K.2.2.1.2.2.2.2.2.2.2.2.2.2.2.2.1 ^^^ cbit i, K.2.2.1.2.2.2.2.2.2.2.2.2.2.2.2.2.1, K.2.2.1.2.2.2.2.2.2.2.2.2.2.2.2.2.2.1, K.2.2.1.2.2.2.2.2.2.2.2.2.2.2.2.2.2.2.1, K.2.2.1.2.2.2.2.2.2.2.2.2.2.2.2.2.2.2.2.1, K.2.2.1.2.2.2.2.2.2.2.2.2.2.2.2.2.2.2.2.2.1, K.2.2.1.2.2.2.2.2.2.2.2.2.2.2.2.2.2.2.2.2.2) ∧ ZH (K.2.2.1.1, K.2.2.1.2.1, K.2.2.1.2.2.1, K.2.2.1.2.2.2.1, K.2.2.1.2.2.2.2.1, K.2.2.1.2.2.2.2.2.1, K.2.2.1.2.2.2.2.2.2.1, K.2.2.1.2.2.2.2.2.2.2.1, K.2.2.1.2.2.2.2.2.2.2.2.1, K.2.2.1.2.2.2.2.2.2.2.2.2.1, K.2.2.1.2.2.2.2.2.2.2.2.2.2.1, K.2.2.1.2.2.2.2.2.2.2.2.2.2.2.1, K.2.2.1.2.2.2.2.2.2.2.2.2.2.2.2.1 ^^^ cbit i, K.2.2.1.2.2.2.2.2.2.2.2.2.2.2.2.2.1, K.2.2.1.2.2.2.2.2.2.2.2.2.2.2.2.2.2.1, K.2.2.1.2.2.2.2.2.2.2.2.2.2.2.2.2.2.2.1, K.2.2.1.2.2.2.2.2.2.2.2.2.2.2.2.2.2.2.2.1, K.2.2.1.2.2.2.2.2.2.2.2.2.2.2.2.2.2.2.2.2.1, K.2.2.1.2.2.2.2.2.2.2.2.2.2.2.2.2.2.2.2.2.2) := ⟨ok.1, zh⟩
    have hval : cntS (upd M.2.2.2.2.2.2.2.2.2.2.2.2.2.1 (12 + 9 * k + 3) (trI w)) 3 (nR M.2.2.2.2.2.2.2.2.2.2.2.2.2.1) = bcF (K.2.2.1.2.2.2.2.2.2.2.2.2.2.2.2.1 ^^^ cbit i) := by
      have h1 := cntS_T hV (w := 3) (x := K.2.2.1.2.2.2.2.2.2.2.2.2.2.2.2.1 ^^^ cbit i) (fun j hj => (hV.2.2.2.2.1 j hj).2.2.1) (fun j hj => (hV.2.2.2.2.2.1.1 j hj).1)
      rw [(geo_n hV.1).1] at h1
      rw [hr]
      exact h1
    refine gqv fun g o2 => mx ⟨hW, fun c => (in_no c (Nat.lt_of_lt_of_eq hk hr.symm) (by omega) e).elim, fun j hj e2 y => ?_, fun j hj e2 _ => ?_⟩
    · have hj2 := Nat.lt_of_lt_of_eq hj hr
      have ej := in_eq (show k < 700 by omega) (show j < 700 by omega) e e2
      rw [ej, htr, (hrm k hk).2.2.1] at y
      exact absurd y c2
    · have hj2 := Nat.lt_of_lt_of_eq hj hr
      have ej := in_eq (show k < 700 by omega) (show j < 700 by omega) e e2
      rw [ej]
      exact ⟨hid, mqv (INV_ch hI hb ha eU hR hA hZ.1 hZ.2 hV ⟨rfl, rfl, rfl, rfl, rfl, rfl, rfl, rfl⟩ rfl rfl rfl ⟨rfl, rfl, rfl, rfl, rfl, rfl, rfl⟩ rfl rfl ⟨f0, hf, eK, eF⟩) rfl hval⟩
theorem ag_setMicrophone {i w : Int32} (hw : w = 0 ∨ w = 1) (hI : INV K M) : rx_G_setMicrophone [.ref z, .int i, .int w] (hL z K M f) o (GQ [(2, 1), (0, 2)] z M f fun h o Q => rx_M_setMicrophone [.ref (z + 207), .int i, .int w] h o Q) := by
  obtain ⟨⟨ok, zh, zd, zs, hz⟩, hC, ⟨a, b, ⟨ha, hb⟩, ⟨eO, eC, eU⟩, hR⟩, hs, ⟨eB, hB, f0, hf, eK, eF⟩, ⟨et, ep⟩, n0, hn0, en1, en2, en3⟩ := id hI
  obtain ⟨hg, hse, ⟨hcs, hnn, hgm⟩, hgh, hrm, hmk, hsb⟩ := id hC
  have hW := geo_RW hg
  have hr := (geo_n hg).1
  have hd := (geo_n hg).2
  have h12 := hg.1.2.2.1
  have h24 := hg.1.2.2.2
  have hPZ : HPZ K a b := ⟨ha, hb, eO, eC, zh, hz⟩
  have hPR := INV_pr hI hb ha eO eC eU hR
  have hid : IDX 7 M.2.2.2.2.2.2.2.2.2.2.2.2.2.2.2.2.2.2.1 := ⟨b, by omega, eU⟩
  have hA : CPL K.2.2.1 (cpy M.2.2.2.2.2.2.2.2.2.2.2.2.2.1 0 M.2.2.2.2.2.2.2.2.2.2.2.2.2.2.2.1 0 216) := CPL_cong hC (fun i hi => cpy_at _ _ hi)
  have htr : trI w = w := by rcases hw with rfl | rfl <;> decide
  refine gx ok ⟨a, b, hPZ, fun c => gqx 2 1 (by simp) fun g o2 => mx ⟨hW, fun _ => mqx (INV_Cd hPR) rfl, fun k hk e => (in_no c (Nat.lt_of_lt_of_eq hk hr) (by omega) e).elim, fun k hk e => (in_no c (Nat.lt_of_lt_of_eq hk hr) (by omega) e).elim⟩, fun c1 c2 => ?_, fun c1 c2 => ?_⟩
  · obtain ⟨k, hk, e⟩ := inR_t c1 (by omega)
    rw [e, ctn_k (by omega)] at c2
    refine gqx 0 2 (by simp) fun g o2 => mx ⟨hW, fun c => (in_no c (Nat.lt_of_lt_of_eq hk hr.symm) (by omega) e).elim, fun j hj e2 _ => mqx (INV_Cd hPR) rfl, fun j hj e2 y => ?_⟩
    have hj2 := Nat.lt_of_lt_of_eq hj hr
    have ej := in_eq (show k < 700 by omega) (show j < 700 by omega) e e2
    rw [ej, htr, (hrm k hk).2.2.2.1] at y
    exact absurd c2 y
  · obtain ⟨k, hk, e⟩ := inR_t c1 (by omega)
    rw [e, ctn_k (by omega)] at c2
    have hnb : tI (!bt K.2.2.1.2.2.2.2.2.2.2.2.2.2.2.2.2.1 k) = w := by
      rcases hw with rfl | rfl
      · cases h9 : bt K.2.2.1.2.2.2.2.2.2.2.2.2.2.2.2.2.1 k with
        | true => rfl
        | false => rw [h9] at c2; exact absurd rfl c2
      · cases h9 : bt K.2.2.1.2.2.2.2.2.2.2.2.2.2.2.2.2.1 k with
        | false => rfl
        | true => rw [h9] at c2; exact absurd rfl c2
    have hV : CPL (K.2.2.1.1, K.2.2.1.2.1, K.2.2.1.2.2.1, K.2.2.1.2.2.2.1, K.2.2.1.2.2.2.2.1, K.2.2.1.2.2.2.2.2.1, K.2.2.1.2.2.2.2.2.2.1, K.2.2.1.2.2.2.2.2.2.2.1, K.2.2.1.2.2.2.2.2.2.2.2.1, K.2.2.1.2.2.2.2.2.2.2.2.2.1, K.2.2.1.2.2.2.2.2.2.2.2.2.2.1, K.2.2.1.2.2.2.2.2.2.2.2.2.2.2.1, K.2.2.1.2.2.2.2.2.2.2.2.2.2.2.2.1, K.2.2.1.2.2.2.2.2.2.2.2.2.2.2.2.2.1 ^^^ cbit i, K.2.2.1.2.2.2.2.2.2.2.2.2.2.2.2.2.2.1, K.2.2.1.2.2.2.2.2.2.2.2.2.2.2.2.2.2.2.1, K.2.2.1.2.2.2.2.2.2.2.2.2.2.2.2.2.2.2.2.1, K.2.2.1.2.2.2.2.2.2.2.2.2.2.2.2.2.2.2.2.2.1, K.2.2.1.2.2.2.2.2.2.2.2.2.2.2.2.2.2.2.2.2.2) (upd M.2.2.2.2.2.2.2.2.2.2.2.2.2.1 (12 + 9 * k + 4) (trI w)) := by
      rw [htr, ← hnb, e]
      exact CPL_mi hC hk (fun j => bt_xor_k (by omega) j)
    have hZ : HOK (K.2.2.1.1, K.2.2.1.2.1, K.2.2.1.2.2.1, K.2.2.1.2.2.2.1, K.2.2.1.2.2.2.2.1, K.2.2.1.2.2.2.2.2.1, K.2.2.1.2.2.2.2.2.2.1, K.2.2.1.2.2.2.2.2.2.2.1, K.2.2.1.2.2.2.2.2.2.2.2.1, K.2.2.1.2.2.2.2.2.2.2.2.2.1, K.2.2.1.2.2.2.2.2.2.2.2.2.2.1, K.2.2.1.2.2.2.2.2.2.2.2.2.2.2.1, K.2.2.1.2.2.2.2.2.2.2.2.2.2.2.2.1, K.2.2.1.2.2.2.2.2.2.2.2.2.2.2.2.2.1 ^^^ cbit i, K.2.2.1.2.2.2.2.2.2.2.2.2.2.2.2.2.2.1, K.2.2.1.2.2.2.2.2.2.2.2.2.2.2.2.2.2.2.1, K.2.2.1.2.2.2.2.2.2.2.2.2.2.2.2.2.2.2.2.1, K.2.2.1.2.2.2.2.2.2.2.2.2.2.2.2.2.2.2.2.2.1, K.2.2.1.2.2.2.2.2.2.2.2.2.2.2.2.2.2.2.2.2.2) ∧ ZH (K.2.2.1.1, K.2.2.1.2.1, K.2.2.1.2.2.1, K.2.2.1.2.2.2.1, K.2.2.1.2.2.2.2.1, K.2.2.1.2.2.2.2.2.1, K.2.2.1.2.2.2.2.2.2.1, K.2.2.1.2.2.2.2.2.2.2.1, K.2.2.1.2.2.2.2.2.2.2.2.1, K.2.2.1.2.2.2.2.2.2.2.2.2.1, K.2.2.1.2.2.2.2.2.2.2.2.2.2.1, K.2.2.1.2.2.2.2.2.2.2.2.2.2.2.1, K.2.2.1.2.2.2.2.2.2.2.2.2.2.2.2.1, K.2.2.1.2.2.2.2.2.2.2.2.2.2.2.2.2.1 ^^^ cbit i, K.2.2.1.2.2.2.2.2.2.2.2.2.2.2.2.2.2.1, K.2.2.1.2.2.2.2.2.2.2.2.2.2.2.2.2.2.2.1, K.2.2.1.2.2.2.2.2.2.2.2.2.2.2.2.2.2.2.2.1, K.2.2.1.2.2.2.2.2.2.2.2.2.2.2.2.2.2.2.2.2.1, K.2.2.1.2.2.2.2.2.2.2.2.2.2.2.2.2.2.2.2.2.2) := ⟨ok.1, zh⟩
    have hval : cntS (upd M.2.2.2.2.2.2.2.2.2.2.2.2.2.1 (12 + 9 * k + 4) (trI w)) 4 (nR M.2.2.2.2.2.2.2.2.2.2.2.2.2.1) = bcF (K.2.2.1.2.2.2.2.2.2.2.2.2.2.2.2.2.1 ^^^ cbit i) := by
      have h1 := cntS_T hV (w := 4) (x := K.2.2.1.2.2.2.2.2.2.2.2.2.2.2.2.2.1 ^^^ cbit i) (fun j hj => (hV.2.2.2.2.1 j hj).2.2.2.1) (fun j hj => (hV.2.2.2.2.2.1.1 j hj).2.1)
      rw [(geo_n hV.1).1] at h1
      rw [hr]
      exact h1
    refine gqv fun g o2 => mx ⟨hW, fun c => (in_no c (Nat.lt_of_lt_of_eq hk hr.symm) (by omega) e).elim, fun j hj e2 y => ?_, fun j hj e2 _ => ?_⟩
    · have hj2 := Nat.lt_of_lt_of_eq hj hr
      have ej := in_eq (show k < 700 by omega) (show j < 700 by omega) e e2
      rw [ej, htr, (hrm k hk).2.2.2.1] at y
      exact absurd y c2
    · have hj2 := Nat.lt_of_lt_of_eq hj hr
      have ej := in_eq (show k < 700 by omega) (show j < 700 by omega) e e2
      rw [ej]
      exact ⟨hid, mqv (INV_ch hI hb ha eU hR hA hZ.1 hZ.2 hV ⟨rfl, rfl, rfl, rfl, rfl, rfl, rfl, rfl⟩ rfl rfl rfl ⟨rfl, rfl, rfl, rfl, rfl, rfl, rfl⟩ rfl rfl ⟨f0, hf, eK, eF⟩) rfl hval⟩
theorem ag_setDoorOpen {i w : Int32} (hw : w = 0 ∨ w = 1) (hI : INV K M) : rx_G_setDoorOpen [.ref z, .int i, .int w] (hL z K M f) o (GQ [(2, 1), (0, 2)] z M f fun h o Q => rx_M_setDoorOpen [.ref (z + 207), .int i, .int w] h o Q) := by
  obtain ⟨⟨ok, zh, zd, zs, hz⟩, hC, ⟨a, b, ⟨ha, hb⟩, ⟨eO, eC, eU⟩, hR⟩, hs, ⟨eB, hB, f0, hf, eK, eF⟩, ⟨et, ep⟩, n0, hn0, en1, en2, en3⟩ := id hI
  obtain ⟨hg, hse, ⟨hcs, hnn, hgm⟩, hgh, hrm, hmk, hsb⟩ := id hC
  have hW := geo_RW hg
  have hr := (geo_n hg).1
  have hd := (geo_n hg).2
  have h12 := hg.1.2.2.1
  have h24 := hg.1.2.2.2
  have hPZ : HPZ K a b := ⟨ha, hb, eO, eC, zh, hz⟩
  have hPR := INV_pr hI hb ha eO eC eU hR
  have hid : IDX 7 M.2.2.2.2.2.2.2.2.2.2.2.2.2.2.2.2.2.2.1 := ⟨b, by omega, eU⟩
  have hA : CPL K.2.2.1 (cpy M.2.2.2.2.2.2.2.2.2.2.2.2.2.1 0 M.2.2.2.2.2.2.2.2.2.2.2.2.2.2.2.1 0 216) := CPL_cong hC (fun i hi => cpy_at _ _ hi)
  have hwd : ∀ q : Bool, tI q = w ↔ q = decide (w = 1) := fun q => by rcases hw with rfl | rfl <;> cases q <;> decide
  refine gx ok ⟨a, b, hPZ, fun c => gqx 2 1 (by simp) fun g o2 => mx ?_, fun c1 c2 => ?_, fun c1 c2 => ?_⟩
  · unfold gd_setDoorOpen
    exact ⟨K.2.2.1, ⟨hC, hid, hw⟩, fun _ => mqx (INV_Cd hPR) rfl, fun k hk e => (in_no c hk (by omega) e).elim⟩
  · obtain ⟨k, hk, e⟩ := inR_t c1 (by omega)
    rw [e, ctn_k (by omega), hwd] at c2
    refine gqx 0 2 (by simp) fun g o2 => mx ?_
    unfold gd_setDoorOpen
    refine ⟨K.2.2.1, ⟨hC, hid, hw⟩, fun c => (in_no c hk (by omega) e).elim, fun j hj e2 => ?_⟩
    have ej := in_eq (show k < 700 by omega) (show j < 700 by omega) e e2
    rw [ej]
    exact ⟨fun _ => mqx (INV_Cd hPR) rfl, fun y => absurd c2 y⟩
  · obtain ⟨k, hk, e⟩ := inR_t c1 (by omega)
    rw [e, ctn_k (by omega), hwd] at c2
    refine gqv fun g o2 => mx ?_
    unfold gd_setDoorOpen
    refine ⟨K.2.2.1, ⟨hC, hid, hw⟩, fun c => (in_no c hk (by omega) e).elim, fun j hj e2 => ?_⟩
    have ej := in_eq (show k < 700 by omega) (show j < 700 by omega) e e2
    rw [ej, e]
    refine ⟨fun y => absurd y c2, fun _ M2 hCM hch hfi => ?_⟩
    have hZ : HOK (K.2.2.1.1, K.2.2.1.2.1, K.2.2.1.2.2.1, K.2.2.1.2.2.2.1, K.2.2.1.2.2.2.2.1, K.2.2.1.2.2.2.2.2.1, K.2.2.1.2.2.2.2.2.2.1, K.2.2.1.2.2.2.2.2.2.2.1, K.2.2.1.2.2.2.2.2.2.2.2.1, K.2.2.1.2.2.2.2.2.2.2.2.2.1, K.2.2.1.2.2.2.2.2.2.2.2.2.2.1, K.2.2.1.2.2.2.2.2.2.2.2.2.2.2.1 ^^^ cbit (nI k), K.2.2.1.2.2.2.2.2.2.2.2.2.2.2.2.1, K.2.2.1.2.2.2.2.2.2.2.2.2.2.2.2.2.1, K.2.2.1.2.2.2.2.2.2.2.2.2.2.2.2.2.2.1, K.2.2.1.2.2.2.2.2.2.2.2.2.2.2.2.2.2.2.1, K.2.2.1.2.2.2.2.2.2.2.2.2.2.2.2.2.2.2.2.1, K.2.2.1.2.2.2.2.2.2.2.2.2.2.2.2.2.2.2.2.2.1, K.2.2.1.2.2.2.2.2.2.2.2.2.2.2.2.2.2.2.2.2.2) ∧ ZH (K.2.2.1.1, K.2.2.1.2.1, K.2.2.1.2.2.1, K.2.2.1.2.2.2.1, K.2.2.1.2.2.2.2.1, K.2.2.1.2.2.2.2.2.1, K.2.2.1.2.2.2.2.2.2.1, K.2.2.1.2.2.2.2.2.2.2.1, K.2.2.1.2.2.2.2.2.2.2.2.1, K.2.2.1.2.2.2.2.2.2.2.2.2.1, K.2.2.1.2.2.2.2.2.2.2.2.2.2.1, K.2.2.1.2.2.2.2.2.2.2.2.2.2.2.1 ^^^ cbit (nI k), K.2.2.1.2.2.2.2.2.2.2.2.2.2.2.2.1, K.2.2.1.2.2.2.2.2.2.2.2.2.2.2.2.2.1, K.2.2.1.2.2.2.2.2.2.2.2.2.2.2.2.2.2.1, K.2.2.1.2.2.2.2.2.2.2.2.2.2.2.2.2.2.2.1, K.2.2.1.2.2.2.2.2.2.2.2.2.2.2.2.2.2.2.2.1, K.2.2.1.2.2.2.2.2.2.2.2.2.2.2.2.2.2.2.2.2.1, K.2.2.1.2.2.2.2.2.2.2.2.2.2.2.2.2.2.2.2.2.2) := ⟨ok.1, zh⟩
    have hval := bc_24 h24 (x := K.2.2.1.2.2.2.2.2.2.2.2.2.2.2.1 ^^^ cbit (nI k)) (fun j hj => by
      rw [bt_xor_k (by omega), if_neg (by omega)]
      exact hmk.2 j hj)
    exact mqv (INV_ch (M := M) hI hb ha eU hR hA hZ.1 hZ.2 hCM ⟨rfl, rfl, rfl, rfl, rfl, rfl, rfl, rfl⟩ rfl rfl rfl (FCH_f hch.2.2.2) hch.2.1 hch.2.2.1 ⟨f0, hf, eK, hfi.trans eF⟩) hch.1 hval.symm
theorem ag_warm {i x : Int32} (hI : INV K M) : rx_G_warm [.ref z, .int i, .int x] (hL z K M f) o (GQ [(2, 1), (1, 2), (0, 3)] z M f fun h o Q => rx_M_warm [.ref (z + 207), .int i, .int x] h o Q) := by
  obtain ⟨⟨ok, zh, zd, zs, hz⟩, hC, ⟨a, b, ⟨ha, hb⟩, ⟨eO, eC, eU⟩, hR⟩, hs, ⟨eB, hB, f0, hf, eK, eF⟩, ⟨et, ep⟩, n0, hn0, en1, en2, en3⟩ := id hI
  obtain ⟨hg, hse, ⟨hcs, hnn, hgm⟩, hgh, hrm, hmk, hsb⟩ := id hC
  have hW := geo_RW hg
  have hr := (geo_n hg).1
  have hd := (geo_n hg).2
  have h12 := hg.1.2.2.1
  have h24 := hg.1.2.2.2
  have hPZ : HPZ K a b := ⟨ha, hb, eO, eC, zh, hz⟩
  have hPR := INV_pr hI hb ha eO eC eU hR
  have hid : IDX 7 M.2.2.2.2.2.2.2.2.2.2.2.2.2.2.2.2.2.2.1 := ⟨b, by omega, eU⟩
  have hA : CPL K.2.2.1 (cpy M.2.2.2.2.2.2.2.2.2.2.2.2.2.1 0 M.2.2.2.2.2.2.2.2.2.2.2.2.2.2.2.1 0 216) := CPL_cong hC (fun i hi => cpy_at _ _ hi)
  refine gx ok ⟨a, b, hPZ, fun c => gqx 2 1 (by simp) fun g o2 => mx ?_, fun k hk e => ⟨fun c => gqx 1 2 (by simp) fun g o2 => mx ?_, fun c1 c2 c3 => gqx 0 3 (by simp) fun g o2 => mx ?_, fun c1 c2 c3 => gqv fun g o2 => mx ?_⟩⟩
  · unfold gd_warm
    exact ⟨K.2.2.1, ⟨hC, hid⟩, fun _ => mqx (INV_Cd hPR) rfl, fun k hk e => (in_no c hk (by omega) e).elim⟩
  all_goals
    unfold gd_warm
    refine ⟨K.2.2.1, ⟨hC, hid⟩, fun c => (in_no c hk (by omega) e).elim, fun j hj e2 => ?_⟩
    have ej := in_eq (show k < 700 by omega) (show j < 700 by omega) e e2
    rw [ej]
  · exact ⟨fun _ => mqx (INV_Cd hPR) rfl, fun y1 y2 => (c.elim y1 (fun y => y y2)).elim, fun y1 y2 => (c.elim y1 (fun y => y y2)).elim⟩
  · exact ⟨fun y => (y.elim c1 (fun y => y c2)).elim, fun _ _ _ => mqx (INV_Cd hPR) rfl, fun _ _ y => absurd y c3⟩
  · refine ⟨fun y => (y.elim c1 (fun y => y c2)).elim, fun _ _ y => absurd c3 y, fun _ _ _ M2 hCM hch hfi => ?_⟩
    have hZ := HZ_co (k := k) (v := K.2.2.1.2.1 k - x) ⟨ok.1, zh⟩ (by omega)
    exact mqv (INV_ch (M := M) hI hb ha eU hR hA hZ.1 hZ.2 hCM ⟨rfl, rfl, rfl, rfl, rfl, rfl, rfl, rfl⟩ rfl rfl rfl (FCH_f hch.2.2.2) hch.2.1 hch.2.2.1 ⟨f0, hf, eK, hfi.trans eF⟩) hch.1 rfl
theorem ag_holdSeance {x : Int32} (hI : INV K M) : rx_G_holdSeance [.ref z, .int x] (hL z K M f) o (GQ [(0, 1)] z M f fun h o Q => rx_M_holdSeance [.ref (z + 207), .int x] h o Q) := by
  obtain ⟨⟨ok, zh, zd, zs, hz⟩, hC, ⟨a, b, ⟨ha, hb⟩, ⟨eO, eC, eU⟩, hR⟩, hs, ⟨eB, hB, f0, hf, eK, eF⟩, ⟨et, ep⟩, n0, hn0, en1, en2, en3⟩ := id hI
  obtain ⟨hg, hse, ⟨hcs, hnn, hgm⟩, hgh, hrm, hmk, hsb⟩ := id hC
  have hW := geo_RW hg
  have hr := (geo_n hg).1
  have hd := (geo_n hg).2
  have h12 := hg.1.2.2.1
  have h24 := hg.1.2.2.2
  have hPZ : HPZ K a b := ⟨ha, hb, eO, eC, zh, hz⟩
  have hPR := INV_pr hI hb ha eO eC eU hR
  have hid : IDX 7 M.2.2.2.2.2.2.2.2.2.2.2.2.2.2.2.2.2.2.1 := ⟨b, by omega, eU⟩
  have hA : CPL K.2.2.1 (cpy M.2.2.2.2.2.2.2.2.2.2.2.2.2.1 0 M.2.2.2.2.2.2.2.2.2.2.2.2.2.2.2.1 0 216) := CPL_cong hC (fun i hi => cpy_at _ _ hi)
  refine gx ok ⟨a, b, hPZ, fun c => gqx 0 1 (by simp) fun g o2 => mx ?_, fun c1 c2 => gqx 0 1 (by simp) fun g o2 => mx ?_, fun c1 c2 c3 => gqx 0 1 (by simp) fun g o2 => mx ?_, fun c1 c2 c3 => gqv fun g o2 => mx ?_⟩
  all_goals
    unfold gd_holdSeance
    refine ⟨K.2.2.1, ⟨hC, hid⟩, ?_⟩
  · exact ⟨fun _ => mqx (INV_Cd hPR) rfl, fun y => absurd c y⟩
  · exact ⟨fun _ => mqx (INV_Cd hPR) rfl, fun _ y => absurd c2 y⟩
  · exact ⟨fun _ => mqx (INV_Cd hPR) rfl, fun _ _ y => absurd y c3⟩
  · refine ⟨fun y => (y.elim c1 (fun y => y.elim c2 (fun y => y c3))).elim, fun _ _ _ M2 hCM hch hfi => ?_⟩
    have hZ := HZ_ask (x := x) ⟨ok.1, zh⟩
    exact mqv (INV_ch (M := M) hI hb ha eU hR hA hZ.1 hZ.2 hCM ⟨rfl, rfl, rfl, rfl, rfl, rfl, rfl, rfl⟩ rfl rfl rfl (FCH_f hch.2.2.2) hch.2.1 hch.2.2.1 ⟨f0, hf, eK, hfi.trans eF⟩) hch.1 rfl
theorem ag_addRoom {c : Int32} (hI : INV K M) : rx_G_addRoom [.ref z, .int c] (hL z K M f) o (GQ [(1, 1), (0, 2)] z M f fun h o Q => rx_M_addRoom [.ref (z + 207), .int c] h o Q) := by
  obtain ⟨⟨ok, zh, zd, zs, hz⟩, hC, ⟨a, b, ⟨ha, hb⟩, ⟨eO, eC, eU⟩, hR⟩, hs, ⟨eB, hB, f0, hf, eK, eF⟩, ⟨et, ep⟩, n0, hn0, en1, en2, en3⟩ := id hI
  obtain ⟨hg, hse, ⟨hcs, hnn, hgm⟩, hgh, hrm, hmk, hsb⟩ := id hC
  have hW := geo_RW hg
  have hr := (geo_n hg).1
  have hd := (geo_n hg).2
  have h12 := hg.1.2.2.1
  have h24 := hg.1.2.2.2
  have hPZ : HPZ K a b := ⟨ha, hb, eO, eC, zh, hz⟩
  have hPR := INV_pr hI hb ha eO eC eU hR
  have hid : IDX 7 M.2.2.2.2.2.2.2.2.2.2.2.2.2.2.2.2.2.2.1 := ⟨b, by omega, eU⟩
  have hA : CPL K.2.2.1 (cpy M.2.2.2.2.2.2.2.2.2.2.2.2.2.1 0 M.2.2.2.2.2.2.2.2.2.2.2.2.2.2.2.1 0 216) := CPL_cong hC (fun i hi => cpy_at _ _ hi)
  have hNA : NAM (wnC K.2.2.2.2.2.2.2.2.2.2.1 f0) (bfN M.2.1 f0) := by
    rw [eB]
    exact NAM_buf _ _ hf
  refine gx ok ⟨a, b, f0, ⟨hPZ, hf, eK⟩, fun c1 => gqx 1 1 (by simp) fun g o2 => mx ?_, fun c1 c2 c3 => gqx 0 2 (by simp) fun g o2 => mx ?_, fun c1 c2 c3 c4 c5 => gqv fun g o2 => mx ?_⟩
  all_goals
    unfold gd_addRoom
    refine ⟨K.2.2.1, f0, wnC K.2.2.2.2.2.2.2.2.2.2.1 f0, ⟨hC, hid, hf, eF, hNA⟩, ?_⟩
  · exact ⟨fun _ => mqx (INV_Cd hPR) rfl, fun y1 y2 => (c1.elim y1 (fun y => y y2)).elim, fun y1 y2 => (c1.elim y1 (fun y => y y2)).elim⟩
  · exact ⟨fun y => (y.elim c1 (fun y => y c2)).elim, fun _ _ _ => mqx (INV_Cd hPR) rfl, fun _ _ y1 y2 y3 => (c3.elim y1 (fun y => y.elim (fun y => y y2) (fun y => y y3))).elim⟩
  · refine ⟨fun y => (y.elim c1 (fun y => y c2)).elim, fun _ _ y => (y.elim c3 (fun y => y.elim (fun y => y c4) (fun y => y c5))).elim, fun _ _ _ _ _ M2 hCM hch hfi => ?_⟩
    have hZ := HZ_apR (x := wnC K.2.2.2.2.2.2.2.2.2.2.1 f0) (c := c) (b := if K.2.2.1.2.2.2.2.2.2.2.2.2.1 = 0 then 1 else 0) ⟨ok.1, zh⟩ c5
    exact mqv (INV_ch (M := M) hI hb ha eU hR hA hZ.1 hZ.2 hCM ⟨rfl, rfl, rfl, rfl, rfl, rfl, rfl, rfl⟩ rfl rfl rfl (FCH_f hch.2.2.2) hch.2.1 hch.2.2.1 ⟨0, by omega, rfl, hfi⟩) hch.1 rfl
theorem ag_addDoor {x y c : Int32} (hI : INV K M) : rx_G_addDoor [.ref z, .int x, .int y, .int c] (hL z K M f) o (GQ [(2, 1), (1, 2), (0, 3)] z M f fun h o Q => rx_M_addDoor [.ref (z + 207), .int x, .int y, .int c] h o Q) := by
  obtain ⟨⟨ok, zh, zd, zs, hz⟩, hC, ⟨a, b, ⟨ha, hb⟩, ⟨eO, eC, eU⟩, hR⟩, hs, ⟨eB, hB, f0, hf, eK, eF⟩, ⟨et, ep⟩, n0, hn0, en1, en2, en3⟩ := id hI
  obtain ⟨hg, hse, ⟨hcs, hnn, hgm⟩, hgh, hrm, hmk, hsb⟩ := id hC
  have hW := geo_RW hg
  have hr := (geo_n hg).1
  have hd := (geo_n hg).2
  have h12 := hg.1.2.2.1
  have h24 := hg.1.2.2.2
  have hPZ : HPZ K a b := ⟨ha, hb, eO, eC, zh, hz⟩
  have hPR := INV_pr hI hb ha eO eC eU hR
  have hid : IDX 7 M.2.2.2.2.2.2.2.2.2.2.2.2.2.2.2.2.2.2.1 := ⟨b, by omega, eU⟩
  have hA : CPL K.2.2.1 (cpy M.2.2.2.2.2.2.2.2.2.2.2.2.2.1 0 M.2.2.2.2.2.2.2.2.2.2.2.2.2.2.2.1 0 216) := CPL_cong hC (fun i hi => cpy_at _ _ hi)
  refine gx ok ⟨a, b, hPZ, fun c1 => gqx 2 1 (by simp) fun g o2 => mx ?_, fun c1 c2 c3 => gqx 1 2 (by simp) fun g o2 => mx ?_, fun c1 c2 c3 c4 c5 c6 => gqx 0 3 (by simp) fun g o2 => mx ?_, fun c1 c2 c3 c4 c5 c6 c7 => gqv fun g o2 => mx ?_⟩
  all_goals
    unfold gd_addDoor
    refine ⟨K.2.2.1, ⟨hC, hid⟩, ?_⟩
  · refine ⟨fun _ => mqx (INV_Cd hPR) rfl, fun y1 y2 => ?_, fun y1 y2 => ?_, fun y1 y2 => ?_⟩ <;> exact (c1.elim (fun w => nf w y1) (fun w => nf w y2)).elim
  · refine ⟨fun w => (w.elim (fun w => nf w c1) (fun w => nf w c2)).elim, fun _ _ _ => mqx (INV_Cd hPR) rfl, fun _ _ y3 y4 y5 => ?_, fun _ _ y3 y4 y5 => ?_⟩ <;> exact (c3.elim (fun w => w.elim y3 (fun w => w y4)) y5).elim
  · exact ⟨fun w => (w.elim (fun w => nf w c1) (fun w => nf w c2)).elim, fun _ _ w => (w.elim (fun w => w.elim c3 (fun w => w c4)) c5).elim, fun _ _ _ _ _ _ => mqx (INV_Cd hPR) rfl, fun _ _ _ _ _ y6 y7 => (c6.elim (fun w => w y6) (fun w => w y7)).elim⟩
  · refine ⟨fun w => (w.elim (fun w => nf w c1) (fun w => nf w c2)).elim, fun _ _ w => (w.elim (fun w => w.elim c3 (fun w => w c4)) c5).elim, fun _ _ _ _ _ w => (w.elim (fun w => w c6) (fun w => w c7)).elim, fun _ _ _ _ _ _ _ M2 hCM hch hfi => ?_⟩
    have hZ := HZ_apD (a := x) (b := y) (c := c) ⟨ok.1, zh⟩ c7
    exact mqv (INV_ch (M := M) hI hb ha eU hR hA hZ.1 hZ.2 hCM ⟨rfl, rfl, rfl, rfl, rfl, rfl, rfl, rfl⟩ rfl rfl rfl (FCH_f hch.2.2.2) hch.2.1 hch.2.2.1 ⟨f0, hf, eK, hfi.trans eF⟩) hch.1 rfl
theorem ag_passNights {x : Int32} (hI : INV K M) : rx_G_passNights [.ref z, .int x] (hL z K M f) o (GQ [(1, 1), (0, 2)] z M f fun h o Q => rx_M_passNights [.ref (z + 207), .int x] h o Q) := by
  obtain ⟨⟨ok, zh, zd, zs, hz⟩, hC, ⟨a, b, ⟨ha, hb⟩, ⟨eO, eC, eU⟩, hR⟩, hs, ⟨eB, hB, f0, hf, eK, eF⟩, ⟨et, ep⟩, n0, hn0, en1, en2, en3⟩ := id hI
  obtain ⟨hg, hse, ⟨hcs, hnn, hgm⟩, hgh, hrm, hmk, hsb⟩ := id hC
  have hW := geo_RW hg
  have hr := (geo_n hg).1
  have hd := (geo_n hg).2
  have h12 := hg.1.2.2.1
  have h24 := hg.1.2.2.2
  have hPZ : HPZ K a b := ⟨ha, hb, eO, eC, zh, hz⟩
  have hPR := INV_pr hI hb ha eO eC eU hR
  have hid : IDX 7 M.2.2.2.2.2.2.2.2.2.2.2.2.2.2.2.2.2.2.1 := ⟨b, by omega, eU⟩
  have hA : CPL K.2.2.1 (cpy M.2.2.2.2.2.2.2.2.2.2.2.2.2.1 0 M.2.2.2.2.2.2.2.2.2.2.2.2.2.2.2.1 0 216) := CPL_cong hC (fun i hi => cpy_at _ _ hi)
  have hcp := cpaB_T hC x
  refine gx ok ⟨a, b, hPZ, fun c => gqx 1 1 (by simp) fun g o2 => mx ?_, fun c1 c2 c3 => gqx 0 2 (by simp) fun g o2 => mx ?_, fun c1 c2 c3 c4 => gqx 0 2 (by simp) fun g o2 => mx ?_, fun c1 c2 c3 c4 x1 x2 x3 x4 x5 => gqv fun g o2 => mx ?_⟩
  · have e : isInF x.toInt64 1 50 = false := inT (isIn_50 x) c
    exact ⟨fun _ => mqx (INV_Cd hPR) rfl, fun y => (nf e y).elim, fun y => (nf e y).elim⟩
  · have e : isInF x.toInt64 1 50 = true := inN (isIn_50 x) (fun y => y.elim c1 (fun y => y c2))
    exact ⟨fun y => (nf y e).elim, fun _ _ => mqx (INV_Cd hPR) rfl, fun _ y => absurd c3 (hcp.mp y).1⟩
  · have e : isInF x.toInt64 1 50 = true := inN (isIn_50 x) (fun y => y.elim c1 (fun y => y c2))
    exact ⟨fun y => (nf y e).elim, fun _ _ => mqx (INV_Cd hPR) rfl, fun _ y => absurd (hcp.mp y).2 c4⟩
  · have e : isInF x.toInt64 1 50 = true := inN (isIn_50 x) (fun y => y.elim c1 (fun y => y c2))
    have e2 : cpaB M.2.2.2.2.2.2.2.2.2.2.2.2.2.1 x = true := hcp.mpr ⟨c3, c4⟩
    obtain ⟨n, -, hn, en⟩ := rngI1 (v := x) (m := 50) (by decide) c1 c2
    have hx0 : 0 ≤ x := by rw [en]; exact (nI_leI (a := 0) (by decide) (by omega)).mpr (Nat.zero_le _)
    obtain ⟨n1, n2, hV⟩ := pas_itN (rp := M.2.2.2.2.2.2.2.2.2.2.2.2.2.2.2.2.2.2.2.2.1) (bf := M.2.2.2.2.2.2.2.2.2.2.2.2.2.2.2.2.2.2.2.2.2.1) hC (by omega) x.toNatClampNeg
    have hZ := HZ_pasN ⟨ok.1, zh⟩ c3 x.toNatClampNeg
    exact ⟨fun y => (nf y e).elim, fun _ y => (nf y e2).elim, fun _ _ => ⟨⟨hid, hx0, n1, n2⟩, mqv (INV_ch hI hb ha eU hR hA hZ.1 hZ.2 hV ⟨rfl, rfl, rfl, rfl, rfl, rfl, rfl, rfl⟩ rfl rfl rfl ⟨rfl, rfl, rfl, rfl, rfl, rfl, rfl⟩ rfl rfl ⟨f0, hf, eK, eF⟩) rfl (siz_T hV)⟩⟩
theorem ag_readText (hI : INV K M) : rx_G_readText [.ref z] (hL z K M f) o (GQ [(1, 1)] z M f fun h o Q => rx_M_readText [.ref (z + 207)] h o Q) := by
  obtain ⟨⟨ok, zh, zd, zs, hz⟩, hC, ⟨a, b, ⟨ha, hb⟩, ⟨eO, eC, eU⟩, hR⟩, hs, ⟨eB, hB, f0, hf, eK, eF⟩, ⟨et, ep⟩, n0, hn0, en1, en2, en3⟩ := id hI
  obtain ⟨hg, hse, ⟨hcs, hnn, hgm⟩, hgh, hrm, hmk, hsb⟩ := id hC
  have hW := geo_RW hg
  have hr := (geo_n hg).1
  have hd := (geo_n hg).2
  have h12 := hg.1.2.2.1
  have h24 := hg.1.2.2.2
  have hKL : KLI K := ⟨f0, hf, eK⟩
  have hfr := rdText_fr (T := K) zd
  refine gx ok ?_
  unfold gd_Grt
  refine ⟨hKL, ?_⟩
  cases e : rdText K with
  | inl K1 =>
    rw [e] at hfr
    refine gqx 1 1 (by simp) fun g o2 => mx ?_
    unfold gd_readText
    refine ⟨K, ⟨hKL, eB, eK.trans eF.symm, fun i _ => hB i⟩, ?_⟩
    rw [e]
    intro M2 hE
    have hx3 : K1.2.2.1 = K.2.2.1 := congrArg (fun q => q.2.2.1) hfr.2
    refine mqx (INV_rd hI hfr.2 hfr.1 hE.2.1 hE.2.2.1 hE.2.2.2.1 ?_ hE.2.2.2.2.2.1 hE.2.2.2.2.2.2) hE.1
    rw [hx3]
    exact CPL_cong hC hE.2.2.2.2.1
  | inr K1 =>
    rw [e] at hfr
    have hx3 : K1.2.2.1 = K.2.2.1 := congrArg (fun q => q.2.2.1) hfr.2
    refine ⟨⟨by rw [hx3]; exact zh, hfr.1.2⟩, gqv fun g o2 => mx ?_⟩
    unfold gd_readText
    refine ⟨K, ⟨hKL, eB, eK.trans eF.symm, fun i _ => hB i⟩, ?_⟩
    rw [e]
    intro M2 hE
    exact mqv (INV_rt hI hfr.2 hfr.1 hE.2.1 hE.2.2.1 hE.2.2.2.1 hE.2.2.2.2.1 hE.2.2.2.2.2.1 hE.2.2.2.2.2.2) hE.1 rfl
theorem ag_runScript (hI : INV K M) : rx_G_runScript [.ref z] (hL z K M f) o (GQ [(1, 1)] z M f fun h o Q => rx_M_runScript [.ref (z + 207)] h o Q) := by
  obtain ⟨⟨ok, zh, zd, zs, hz⟩, hC, ⟨a, b, ⟨ha, hb⟩, ⟨eO, eC, eU⟩, hR⟩, hs, ⟨eB, hB, f0, hf, eK, eF⟩, ⟨et, ep⟩, n0, hn0, en1, en2, en3⟩ := id hI
  obtain ⟨hg, hse, ⟨hcs, hnn, hgm⟩, hgh, hrm, hmk, hsb⟩ := id hC
  have hW := geo_RW hg
  have hr := (geo_n hg).1
  have hd := (geo_n hg).2
  have h12 := hg.1.2.2.1
  have h24 := hg.1.2.2.2
  have hKL : KLI K := ⟨f0, hf, eK⟩
  have hid : IDX 7 M.2.2.2.2.2.2.2.2.2.2.2.2.2.2.2.2.2.2.1 := ⟨b, by omega, eU⟩
  obtain ⟨hfr, hdr⟩ := psS_fr K
  refine gx ok ?_
  unfold gd_Grs
  refine ⟨hKL, ?_⟩
  cases e : psS K with
  | inl K1 =>
    rw [e] at hfr hdr
    have hdr : K1.2.2.2.1 = K.2.2.2.1 := hdr
    refine gqx 1 1 (by simp) fun g o2 => mx ?_
    unfold gd_runScript
    refine ⟨K, ⟨hKL, eB, eK.trans eF.symm, fun i _ => hB i⟩, hC, hid, ?_⟩
    rw [e]
    intro M2 hE
    exact mqx (INV_rd hI hfr ⟨by rw [hdr]; exact ok.2.1, by rw [hdr]; exact zd⟩ hE.2.1 hE.2.2.1 hE.2.2.2.1 hE.2.2.2.2.1 hE.2.2.2.2.2.1 hE.2.2.2.2.2.2) hE.1
  | inr K1 =>
    rw [e] at hfr hdr
    have hdr : K1.2.2.2.1 = K.2.2.2.1 := hdr
    obtain ⟨⟨n, hn, en, hPV⟩, hx3⟩ := psS_ok e
    have hI1 : INV K1 (M.1, M.2.1, 0, M.2.2.2.1, M.2.2.2.2.1, M.2.2.2.2.2.1, M.2.2.2.2.2.2.1, M.2.2.2.2.2.2.2.1, M.2.2.2.2.2.2.2.2.1, M.2.2.2.2.2.2.2.2.2.1, K1.2.2.2.2.2.2.2.2.2.2.2.2.2.2.2.2.2.1, K1.2.2.2.2.2.2.2.2.2.2.2.2.2.2.2.2.2.2.1, M.2.2.2.2.2.2.2.2.2.2.2.2.1, M.2.2.2.2.2.2.2.2.2.2.2.2.2.1, M.2.2.2.2.2.2.2.2.2.2.2.2.2.2.1, M.2.2.2.2.2.2.2.2.2.2.2.2.2.2.2.1, M.2.2.2.2.2.2.2.2.2.2.2.2.2.2.2.2.1, M.2.2.2.2.2.2.2.2.2.2.2.2.2.2.2.2.2.1, M.2.2.2.2.2.2.2.2.2.2.2.2.2.2.2.2.2.2.1, M.2.2.2.2.2.2.2.2.2.2.2.2.2.2.2.2.2.2.2.1, M.2.2.2.2.2.2.2.2.2.2.2.2.2.2.2.2.2.2.2.2.1, M.2.2.2.2.2.2.2.2.2.2.2.2.2.2.2.2.2.2.2.2.2.1, M.2.2.2.2.2.2.2.2.2.2.2.2.2.2.2.2.2.2.2.2.2.2.1, M.2.2.2.2.2.2.2.2.2.2.2.2.2.2.2.2.2.2.2.2.2.2.2.1, M.2.2.2.2.2.2.2.2.2.2.2.2.2.2.2.2.2.2.2.2.2.2.2.2.1, M.2.2.2.2.2.2.2.2.2.2.2.2.2.2.2.2.2.2.2.2.2.2.2.2.2.1, M.2.2.2.2.2.2.2.2.2.2.2.2.2.2.2.2.2.2.2.2.2.2.2.2.2.2.1, M.2.2.2.2.2.2.2.2.2.2.2.2.2.2.2.2.2.2.2.2.2.2.2.2.2.2.2.1, M.2.2.2.2.2.2.2.2.2.2.2.2.2.2.2.2.2.2.2.2.2.2.2.2.2.2.2.2.1, M.2.2.2.2.2.2.2.2.2.2.2.2.2.2.2.2.2.2.2.2.2.2.2.2.2.2.2.2.2.1, M.2.2.2.2.2.2.2.2.2.2.2.2.2.2.2.2.2.2.2.2.2.2.2.2.2.2.2.2.2.2.1, M.2.2.2.2.2.2.2.2.2.2.2.2.2.2.2.2.2.2.2.2.2.2.2.2.2.2.2.2.2.2.2.1, M.2.2.2.2.2.2.2.2.2.2.2.2.2.2.2.2.2.2.2.2.2.2.2.2.2.2.2.2.2.2.2.2.1, M.2.2.2.2.2.2.2.2.2.2.2.2.2.2.2.2.2.2.2.2.2.2.2.2.2.2.2.2.2.2.2.2.2.1, M.2.2.2.2.2.2.2.2.2.2.2.2.2.2.2.2.2.2.2.2.2.2.2.2.2.2.2.2.2.2.2.2.2.2) := INV_rd hI hfr ⟨by rw [hdr]; exact ok.2.1, by rw [hdr]; exact zd⟩ rfl rfl rfl (by rw [hx3]; exact hC) rfl ⟨rfl, rfl, rfl, rfl, rfl, rfl⟩
    have hx9 : K1.2.2.2.2.2.2.2.2.2.2.2.2.2.2.2.2.2.2.2.2.2.2.1 = K.2.2.2.2.2.2.2.2.2.2.2.2.2.2.2.2.2.2.2.2.2.2.1 := congrArg (fun q => q.2.2.2.2.2.2.2.2.1) hfr
    have hx7 : K1.2.2.2.2.2.2.2.2.2.2.2.2.2.2.2.2.2.2.2.2.1 = K.2.2.2.2.2.2.2.2.2.2.2.2.2.2.2.2.2.2.2.2.1 := congrArg (fun q => q.2.2.2.2.2.2.1) hfr
    have hx8 : K1.2.2.2.2.2.2.2.2.2.2.2.2.2.2.2.2.2.2.2.2.2.1 = K.2.2.2.2.2.2.2.2.2.2.2.2.2.2.2.2.2.2.2.2.2.1 := congrArg (fun q => q.2.2.2.2.2.2.2.1) hfr
    have hx5 : K1.2.2.2.2.2.2.2.2.2.1 = 0 := congrArg (fun q => q.2.2.2.2.1) hfr
    have hR1 : RNG K1.2.2.2.2.2.2.2.2.2.2.2.2.2.2.2.2.2.2.2.2.2.2.1 M.2.2.2.2.2.2.2.2.2.2.2.2.2.2.2.2.2.1 a b := by rw [hx9]; exact hR
    have hPZ : HPZ K1 a b := ⟨ha, hb, hx7.trans eO, hx8.trans eC, by rw [hx3]; exact zh, fun i hi => by rw [hx9]; exact hz i hi⟩
    have ecl : K1.2.2.2.2.2.2.2.2.2.2.2.2.2.2.2.2.2.2.2.2.2.2.2.2.2.1.toNatClampNeg = n := by rw [en]; exact nI_clamp (by omega)
    have hZ0 := HZ_rnK hPV 100000 0 0 K1.2.2.1 K1.2.2.2.2.2.2.2.2.2.2.2.2.2.2.2.2.2.2.2.2.2.2.2.2.2.2.2.2.2.2.2.2.1 ⟨by rw [hx3]; exact ok.1, by rw [hx3]; exact zh⟩ rfl rfl
    refine ⟨a, b, n, hPZ, ⟨hn, en, hPV⟩, fun o2 x1 x2 x3 x4 x5 ho => ?_⟩
    obtain ⟨r, er⟩ : ∃ r, r = rnK K1 n 100000 0 0 K1.2.2.1 K1.2.2.2.2.2.2.2.2.2.2.2.2.2.2.2.2.2.2.2.2.2.2.2.2.2.2.2.2.2.2.2.2.1 := ⟨_, rfl⟩
    rw [← er] at hZ0 ⊢
    refine gqv fun g o3 => mx ?_
    unfold gd_runScript
    refine ⟨K, ⟨hKL, eB, eK.trans eF.symm, fun i _ => hB i⟩, hC, hid, ?_⟩
    rw [e]
    unfold RSX
    dsimp only
    rw [ecl, ← er]
    intro M2 hE
    obtain ⟨q1, q2, q3, q4, q5, ⟨A, q6, q7⟩, q8, y1, y2, y3, y4, y5⟩ := hE
    exact mqv (INV_ch (K := K1) (M := (M.1, M.2.1, 0, M.2.2.2.1, M.2.2.2.2.1, M.2.2.2.2.2.1, M.2.2.2.2.2.2.1, M.2.2.2.2.2.2.2.1, M.2.2.2.2.2.2.2.2.1, M.2.2.2.2.2.2.2.2.2.1, K1.2.2.2.2.2.2.2.2.2.2.2.2.2.2.2.2.2.1, K1.2.2.2.2.2.2.2.2.2.2.2.2.2.2.2.2.2.2.1, M.2.2.2.2.2.2.2.2.2.2.2.2.1, M.2.2.2.2.2.2.2.2.2.2.2.2.2.1, M.2.2.2.2.2.2.2.2.2.2.2.2.2.2.1, M.2.2.2.2.2.2.2.2.2.2.2.2.2.2.2.1, M.2.2.2.2.2.2.2.2.2.2.2.2.2.2.2.2.1, M.2.2.2.2.2.2.2.2.2.2.2.2.2.2.2.2.2.1, M.2.2.2.2.2.2.2.2.2.2.2.2.2.2.2.2.2.2.1, M.2.2.2.2.2.2.2.2.2.2.2.2.2.2.2.2.2.2.2.1, M.2.2.2.2.2.2.2.2.2.2.2.2.2.2.2.2.2.2.2.2.1, M.2.2.2.2.2.2.2.2.2.2.2.2.2.2.2.2.2.2.2.2.2.1, M.2.2.2.2.2.2.2.2.2.2.2.2.2.2.2.2.2.2.2.2.2.2.1, M.2.2.2.2.2.2.2.2.2.2.2.2.2.2.2.2.2.2.2.2.2.2.2.1, M.2.2.2.2.2.2.2.2.2.2.2.2.2.2.2.2.2.2.2.2.2.2.2.2.1, M.2.2.2.2.2.2.2.2.2.2.2.2.2.2.2.2.2.2.2.2.2.2.2.2.2.1, M.2.2.2.2.2.2.2.2.2.2.2.2.2.2.2.2.2.2.2.2.2.2.2.2.2.2.1, M.2.2.2.2.2.2.2.2.2.2.2.2.2.2.2.2.2.2.2.2.2.2.2.2.2.2.2.1, M.2.2.2.2.2.2.2.2.2.2.2.2.2.2.2.2.2.2.2.2.2.2.2.2.2.2.2.2.1, M.2.2.2.2.2.2.2.2.2.2.2.2.2.2.2.2.2.2.2.2.2.2.2.2.2.2.2.2.2.1, M.2.2.2.2.2.2.2.2.2.2.2.2.2.2.2.2.2.2.2.2.2.2.2.2.2.2.2.2.2.2.1, M.2.2.2.2.2.2.2.2.2.2.2.2.2.2.2.2.2.2.2.2.2.2.2.2.2.2.2.2.2.2.2.1, M.2.2.2.2.2.2.2.2.2.2.2.2.2.2.2.2.2.2.2.2.2.2.2.2.2.2.2.2.2.2.2.2.1, M.2.2.2.2.2.2.2.2.2.2.2.2.2.2.2.2.2.2.2.2.2.2.2.2.2.2.2.2.2.2.2.2.2.1, M.2.2.2.2.2.2.2.2.2.2.2.2.2.2.2.2.2.2.2.2.2.2.2.2.2.2.2.2.2.2.2.2.2.2)) hI1 hb ha eU hR1 q6 hZ0.1 hZ0.2 q5 ⟨rfl, rfl, rfl, rfl, rfl, rfl, rfl, rfl⟩ rfl rfl rfl ⟨y1, q2, q3, y2, y3, y4, y5⟩ q7 q8 ⟨0, by omega, hx5, q4⟩) q1 rfl
end AG
