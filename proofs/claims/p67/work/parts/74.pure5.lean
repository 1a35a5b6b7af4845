/-! 74: the coupling; a night keeps it (pure) -/
def RMC (T : HT) (s : Nat → Int32) (k : Nat) : Prop := T.2.1 k = s (12 + 9 * k + 2) ∧ (∃ c, c ≤ 99 ∧ T.2.1 k = nI c) ∧ s (12 + 9 * k + 3) = tI (bt T.2.2.2.2.2.2.2.2.2.2.2.2.1 k) ∧ s (12 + 9 * k + 4) = tI (bt T.2.2.2.2.2.2.2.2.2.2.2.2.2.1 k) ∧ s (12 + 9 * k + 5) = tI (bt T.2.2.2.2.2.2.2.2.2.2.2.2.2.2.1 k) ∧ T.2.2.1 k = s (12 + 9 * k + 6) ∧ T.2.2.2.1 k = s (12 + 9 * k + 7) ∧ T.2.2.2.2.1 k = s (12 + 9 * k + 8) ∧ NMR (T.1 k) (nmS s k)
def MSK (T : HT) : Prop := (∀ j, T.2.2.2.2.2.2.2.2.2.1 ≤ j → bt T.2.2.2.2.2.2.2.2.2.2.2.2.1 j = false ∧ bt T.2.2.2.2.2.2.2.2.2.2.2.2.2.1 j = false ∧ bt T.2.2.2.2.2.2.2.2.2.2.2.2.2.2.1 j = false) ∧ (∀ j, T.2.2.2.2.2.2.2.2.2.2.1 ≤ j → bt T.2.2.2.2.2.2.2.2.2.2.2.1 j = false)
def GHO (T : HT) (s : Nat → Int32) : Prop := (T.2.2.2.2.2.2.2.2.2.1 = 0 → T.2.2.2.2.2.2.2.2.2.2.2.2.2.2.2.1 = -1 ∧ s 11 = 0) ∧ (0 < T.2.2.2.2.2.2.2.2.2.1 → T.2.2.2.2.2.2.2.2.2.2.2.2.2.2.2.1 = s 11 ∧ ∃ g, g < T.2.2.2.2.2.2.2.2.2.1 ∧ s 11 = nI g)
def CPL (T : HT) (s : Nat → Int32) : Prop := GEO T s ∧ (∀ i, i < 6 → T.2.2.2.2.2.2.2.2.1 i = s i) ∧ (T.2.2.2.2.2.2.2.2.2.2.2.2.2.2.2.2.2.2 = s 6 ∧ T.2.2.2.2.2.2.2.2.2.2.2.2.2.2.2.2.1 = s 7 ∧ T.2.2.2.2.2.2.2.2.2.2.2.2.2.2.2.2.2.1 = s 8) ∧ GHO T s ∧ (∀ k, k < T.2.2.2.2.2.2.2.2.2.1 → RMC T s k) ∧ MSK T ∧ SETB T.2.2.2.2.2.2.2.2.1
theorem geo_upd {T : HT} {s : Nat → Int32} {i : Nat} {v : Int32} (h : GEO T s) (hi : i < 120) (h9 : i ≠ 9) (h10 : i ≠ 10) : GEO T (upd s i v) := by
  obtain ⟨⟨h1, h2, h3, h4⟩, h5, h6⟩ := h
  have u : ∀ j, j ≠ i → upd s i v j = s j := fun j hj => if_neg hj
  refine ⟨⟨(u 9 (by omega)).trans h1, (u 10 (by omega)).trans h2, h3, h4⟩, fun d hd => ?_, h6⟩
  obtain ⟨a, b, n, g1, g2, g3, g4, g5, g6, g7, g8, g9, g10⟩ := h5 d hd
  exact ⟨a, b, n, g1, g2, g3, g4, (u _ (by omega)).trans g5, (u _ (by omega)).trans g6, g7, (u _ (by omega)).trans g8, g9, (u _ (by omega)).trans g10⟩
theorem geo_cong {T U : HT} {s t : Nat → Int32} (h : GEO T s) (e1 : U.2.2.2.2.2.2.2.2.2.1 = T.2.2.2.2.2.2.2.2.2.1) (e2 : U.2.2.2.2.2.2.2.2.2.2.1 = T.2.2.2.2.2.2.2.2.2.2.1) (e3 : U.2.2.2.2.2.1 = T.2.2.2.2.2.1) (e4 : U.2.2.2.2.2.2.1 = T.2.2.2.2.2.2.1) (e5 : U.2.2.2.2.2.2.2.1 = T.2.2.2.2.2.2.2.1) (e6 : U.2.2.2.2.2.2.2.2.2.2.2.1 = T.2.2.2.2.2.2.2.2.2.2.2.1) (h9 : t 9 = s 9) (h10 : t 10 = s 10) (hd : ∀ i, 120 ≤ i → t i = s i) : GEO U t := by
  obtain ⟨⟨h1, h2, h3, h4⟩, h5, h6⟩ := h
  refine ⟨⟨by rw [h9, e1]; exact h1, by rw [h10, e2]; exact h2, by rw [e1]; exact h3, by rw [e2]; exact h4⟩, fun d hd2 => ?_, ?_⟩
  · rw [e2] at hd2
    obtain ⟨a, b, n, g1, g2, g3, g4, g5, g6, g7, g8, g9, g10⟩ := h5 d hd2
    exact ⟨a, b, n, g1, by rw [e1]; exact g2, by rw [e3]; exact g3, by rw [e4]; exact g4, (hd _ (by omega)).trans g5, (hd _ (by omega)).trans g6, by rw [e5]; exact g7, (hd _ (by omega)).trans g8, g9, by rw [e6]; exact (hd _ (by omega)).trans g10⟩
  · intro d e hd2 he2
    rw [e2] at hd2 he2
    rw [e3, e4]
    exact h6 d e hd2 he2
theorem bt_moF {T : HT} {s : Nat → Int32} (h : GEO T s) {hear mi : Int32} {d : Nat} (hd : d < T.2.2.2.2.2.2.2.2.2.2.1) (hm : ∀ k, k < T.2.2.2.2.2.2.2.2.2.1 → s (12 + 9 * k + 4) = tI (bt mi k)) (hh : s 2 = hear) : bt (orF (moF T.2.2.2.2.2.1 T.2.2.2.2.2.2.1 T.2.2.2.2.2.2.2.1 hear mi) T.2.2.2.2.2.2.2.2.2.2.1) d = hrd s d := by
  have hr := h.1.2.2.1
  have hdc := h.1.2.2.2
  obtain ⟨a, b, n, g1, g2, g3, g4, g5, g6, g7, g8, g9, -⟩ := h.2.1 d hd
  have one : ∀ e, e < T.2.2.2.2.2.2.2.2.2.2.1 → e ≠ d → bt (moF T.2.2.2.2.2.1 T.2.2.2.2.2.2.1 T.2.2.2.2.2.2.2.1 hear mi e) d = false := by
    intro e he hne
    unfold moF
    split
    · exact b_0 d
    · split
      · exact b_0 d
      · rw [bt_cbit (by omega)]; exact decide_eq_false hne
  have eq : bt (orF (moF T.2.2.2.2.2.1 T.2.2.2.2.2.2.1 T.2.2.2.2.2.2.2.1 hear mi) T.2.2.2.2.2.2.2.2.2.2.1) d = bt (moF T.2.2.2.2.2.1 T.2.2.2.2.2.2.1 T.2.2.2.2.2.2.2.1 hear mi d) d := by
    rw [Bool.eq_iff_iff, bt_orF]
    constructor
    · rintro ⟨k, hk, h2⟩
      by_cases c : k = d
      · subst c; exact h2
      · rw [one k hk c] at h2; cases h2
    · intro h2; exact ⟨d, hd, h2⟩
  rw [eq]
  unfold moF hrd
  rw [g3, g4, g5, g6, g7, g8, hh, nI_clamp (by omega), nI_clamp (by omega), hm a (by omega), hm b g2]
  by_cases c1 : nI n < hear
  · rw [if_pos c1, if_pos c1, b_0]
  · rw [if_neg c1, if_neg c1]
    have z : mi &&& (cbit (nI a) ||| cbit (nI b)) = 0 ↔ bt mi a = false ∧ bt mi b = false := by
      rw [z_bits]
      constructor
      · intro hz
        have ha := hz a (by omega)
        have hb := hz b (by omega)
        rw [b_and, b_or, bt_cbit (by omega), bt_cbit (by omega)] at ha hb
        simp at ha hb
        exact ⟨ha, hb⟩
      · rintro ⟨ha, hb⟩ i hi
        rw [b_and, b_or, bt_cbit (by omega), bt_cbit (by omega)]
        by_cases ca : a = i
        · subst ca; rw [ha]; rfl
        · by_cases cb : b = i
          · subst cb; rw [hb]; rfl
          · simp [ca, cb]
    cases ha : bt mi a with
    | true =>
      rw [if_neg (show ¬ (mi &&& (cbit (nI a) ||| cbit (nI b)) = 0) from fun e => by have := (z.mp e).1; rw [ha] at this; cases this), bt_cbit (by omega), if_pos tI_t]
      exact decide_eq_true rfl
    | false =>
      rw [if_neg (show ¬ tI false = 1 by decide)]
      cases hb : bt mi b with
      | true =>
        rw [if_neg (show ¬ (mi &&& (cbit (nI a) ||| cbit (nI b)) = 0) from fun e => by have := (z.mp e).2; rw [hb] at this; cases this), bt_cbit (by omega), if_pos tI_t]
        exact decide_eq_true rfl
      | false =>
        rw [if_pos (z.mpr ⟨ha, hb⟩), b_0, if_neg (show ¬ tI false = 1 by decide)]
theorem mo_big {T : HT} (h : T.2.2.2.2.2.2.2.2.2.2.1 ≤ 24) {hear mi : Int32} {j : Nat} (hj : T.2.2.2.2.2.2.2.2.2.2.1 ≤ j) : bt (orF (moF T.2.2.2.2.2.1 T.2.2.2.2.2.2.1 T.2.2.2.2.2.2.2.1 hear mi) T.2.2.2.2.2.2.2.2.2.2.1) j = false := by
  refine orF_big fun e he => ?_
  unfold moF
  split
  · exact b_0 j
  · split
    · exact b_0 j
    · rw [bt_cbit (by omega)]; exact decide_eq_false (by omega)
theorem mn_eq (x : Int32) : mn99 x = mnS x := by
  unfold mn99 mnS
  by_cases c : 99 < x
  · rw [if_pos c, if_neg (Int32.not_le.mpr c)]
  · rw [if_neg c, if_pos (Int32.not_lt.mp c)]
theorem mnS_rng {c d : Nat} (hc : c ≤ 99) (hd : d ≤ 9) : ∃ e, e ≤ 99 ∧ mnS (nI c + nI d) = nI e := by
  rw [nI_add]
  unfold mnS
  split
  · rename_i h
    exact ⟨c + d, (nI_leI (b := 99) (show c + d < 2 ^ 31 by omega) (by decide)).mp h, rfl⟩
  · exact ⟨99, by omega, rfl⟩
theorem ra_big {T : HT} {W : Nat → Int32} (hG : GEO T W) {be lr pd tm mo : Int32} {j : Nat} (hj : T.2.2.2.2.2.2.2.2.2.1 ≤ j) : bt (raF T.2.2.2.2.2.2.2.2.2.1 T.2.2.2.2.2.2.2.2.2.2.1 T.2.2.2.2.2.1 T.2.2.2.2.2.2.1 T.2.2.2.2.2.2.2.2.2.2.2.1 be lr pd tm mo) j = false := by
  have hr := hG.1.2.2.1
  cases hb : bt (raF T.2.2.2.2.2.2.2.2.2.1 T.2.2.2.2.2.2.2.2.2.2.1 T.2.2.2.2.2.1 T.2.2.2.2.2.2.1 T.2.2.2.2.2.2.2.2.2.2.2.1 be lr pd tm mo) j with
  | false => rfl
  | true =>
    unfold raF at hb
    rw [bt_raD _ _ _ _ _ _ _ _ _ _ _ hG.1.2.2.2, bt_orF] at hb
    rcases hb with ⟨k, hk, h1⟩ | ⟨e, he, -, h1⟩
    · unfold raR at h1
      rw [bt_ite0, bt_cbit (by omega)] at h1
      have := of_decide_eq_true h1.2
      omega
    · obtain ⟨a, b, n, h2, h3, h4, h5, -⟩ := hG.2.1 e he
      rw [h4, h5, bt_cbit (by omega), bt_cbit (by omega)] at h1
      rcases h1 with h1 | h1
      · have := of_decide_eq_true h1.2
        omega
      · have := of_decide_eq_true h1.2
        omega
set_option maxHeartbeats 1000000 in
theorem night_C {T : HT} {s : Nat → Int32} (rp bf : Nat → Int32) (h : CPL T s) (h0 : 0 < T.2.2.2.2.2.2.2.2.2.1) : NOK s ∧ CPL (pasT T) (n5 s rp bf) := by
  obtain ⟨hG, hse, ⟨hcs, hnn, hgm⟩, ⟨-, hgh⟩, hrm, ⟨hmk, hmd⟩, hset⟩ := h
  obtain ⟨egh, g, hg, e11⟩ := hgh h0
  have hrc := hG.1.2.2.1
  have hdc := hG.1.2.2.2
  have hck : (s 11).toNatClampNeg = g := by rw [e11]; exact nI_clamp (by omega)
  have hG1 : GEO T (n1 s) := geo_upd hG (by decide) (by decide) (by decide)
  have v1 : ∀ i, i ≠ 7 → n1 s i = s i := fun i hi => if_neg hi
  obtain ⟨⟨x, hx, ex, ex2⟩, hDR, hS1, hS2, hS3⟩ := dst_T (T := nn1 T) (s := n1 s) hG1 (g := g) hg (egh.trans e11) (fun k hk => ((hrm k hk).1).trans (v1 _ (by omega)).symm) (fun i hi => (hse i hi).trans (v1 i (by omega)).symm) hset
  have hx : x < T.2.2.2.2.2.2.2.2.2.1 := hx
  have eto : nTo s = nI x := by unfold nTo; rw [e11]; exact ex2
  have v2 : ∀ i, 6 ≤ i → i ≠ 7 → n2 s i = s i := fun i hi h7 => ((hS2 i hi).1).trans (v1 i h7)
  have eco : n2 s (12 + 9 * g + 2) = T.2.1 g := (v2 _ (by omega) (by omega)).trans (hrm g hg).1.symm
  -- the row behind the cold
  have w0 : ∀ i, i ≠ 12 + 9 * g + 2 → n3 s i = n2 s i := fun i hi => by unfold n3; rw [hck]; exact if_neg hi
  have w1 : n3 s (12 + 9 * g + 2) = mnS (T.2.1 g + dsS (nn1 T) 1) := by
    unfold n3
    rw [hck, eco, hS1 1 (by decide)]
    exact if_pos rfl
  have w2 : ∀ i, 6 ≤ i → i ≠ 7 → i ≠ 12 + 9 * g + 2 → n3 s i = s i := fun i h1 h2 h3 => (w0 i h3).trans (v2 i h1 h2)
  have hGW : GEO T (n3 s) := geo_cong hG rfl rfl rfl rfl rfl rfl (w2 9 (by decide) (by decide) (by omega)) (w2 10 (by decide) (by decide) (by omega)) (fun i hi => w2 i (by omega) (by omega) (by omega))
  obtain ⟨pas, epas⟩ : ∃ pas, pas = btw (n3 s) (nI g) (nI x) := ⟨_, rfl⟩
  have hnR : nR s = T.2.2.2.2.2.2.2.2.2.1 := (geo_n hG).1
  have hnW : nR (n3 s) = T.2.2.2.2.2.2.2.2.2.1 := (geo_n hGW).1
  have hSN : SNS T (n3 s) (nRp s rp) (senB (n3 s) bf) (pTm T) (pMo T) T.2.2.2.2.2.2.2.2.2.2.2.2.2.2.1 g pas := by
    refine ⟨hGW, hg, by rw [epas]; exact btw_DX hGW (by omega) (by omega), fun t ht => ?_, fun t ht => ?_, fun t ht => ?_, fun t ht => (hmk t ht).2.2, fun d hd => ?_, fun d hd => ?_⟩
    · unfold nRp pTm
      rw [fa_fill_in (by rw [hnR]; exact ht), bt_reF _ _ _ (by omega) _ (by omega)]
      obtain ⟨k1, -, k3, -⟩ := hrm t ht
      unfold rpP
      rw [v2 _ (by omega) (by omega), k3, v2 _ (by omega) (by omega), ← k1]
      cases bt T.2.2.2.2.2.2.2.2.2.2.2.2.1 t with
      | false => simp [tI]
      | true =>
        rw [if_pos tI_t]
        by_cases c : T.2.1 t < 99
        · rw [if_neg (Int32.not_le.mpr c)]; simp [c]
        · rw [if_pos (Int32.not_lt.mp c)]; simp [c, ht]
    · unfold pTm
      by_cases c : t < 32
      · rw [bt_reF _ _ _ (by omega) _ c, (hmk t ht).1, Bool.false_and]
      · exact b_big (by omega)
    · unfold senB
      rw [hnW, fa_fill_in ht, w2 _ (by omega) (by omega) (by omega)]
      exact (hrm t ht).2.2.2.2.1
    · unfold pMo
      exact bt_moF hGW hd (fun k hk => (w2 _ (by omega) (by omega) (by omega)).trans (hrm k hk).2.2.2.1) ((w0 2 (by omega)).trans (hS1 2 (by decide)).symm)
    · exact mo_big hdc hd
  have epd : pPd T = cbit pas := by
    unfold pPd
    rw [epas, geo_btw hGW, egh, e11, ex]
  have elr : cbit T.2.2.2.2.2.2.2.2.2.2.2.2.2.2.2.1 = cbit (nI g) := by rw [egh, e11]
  have hpo : ∀ r, r < T.2.2.2.2.2.2.2.2.2.1 → bt (pRa T) r = sty (n3 s) (nRp s rp) (senB (n3 s) bf) (nI g) pas (nI r) := by
    intro r hr
    unfold pRa
    rw [elr, epd, Bool.eq_iff_iff, ra_T hSN (by omega), sty_T hSN (by omega)]
  have hX := fun r (hr : r < T.2.2.2.2.2.2.2.2.2.1) => xpl_T hSN hr (hpo r hr)
  have eX : ∀ r, pX T r = xpl T.2.2.2.2.2.2.2.2.2.2.1 T.2.2.2.2.2.1 T.2.2.2.2.2.2.1 T.2.2.2.2.2.2.2.2.2.2.2.1 (pRa T) T.2.2.2.2.2.2.2.2.2.2.2.2.2.2.1 (cbit (nI g)) (cbit pas) (pTm T) (pMo T) (nI r) := fun r => by unfold pX; rw [elr, epd]
  have e4 : ∀ i, n4 s rp bf i = if 12 ≤ i ∧ i < 12 + 9 * T.2.2.2.2.2.2.2.2.2.1 ∧ 5 ≤ (i - 12) % 9 then senV (n3 s) (nRp s rp) (senB (n3 s) bf) (nI g) pas ((i - 12) / 9) ((i - 12) % 9) else n3 s i := by
    intro i
    unfold n4 senF
    rw [hnW, e11, eto, epas]
  have z0 : ∀ i, i ≠ 8 → i ≠ 11 → n5 s rp bf i = n4 s rp bf i := fun i h8 h11 => by
    unfold n5
    exact (if_neg h11).trans (if_neg h8)
  have z1 : ∀ i, i ≠ 8 → i ≠ 11 → (¬ 12 ≤ i ∨ ¬ i < 12 + 9 * T.2.2.2.2.2.2.2.2.2.1 ∨ ¬ 5 ≤ (i - 12) % 9) → n5 s rp bf i = n3 s i := fun i h8 h11 hc => by
    rw [z0 i h8 h11, e4 i, if_neg (by omega)]
  have z2 : ∀ k w, k < T.2.2.2.2.2.2.2.2.2.1 → 5 ≤ w → w < 9 → n5 s rp bf (12 + 9 * k + w) = senV (n3 s) (nRp s rp) (senB (n3 s) bf) (nI g) pas k w := fun k w hk h5 h9 => by
    rw [z0 _ (by omega) (by omega), e4, if_pos (by omega), show (12 + 9 * k + w - 12) / 9 = k by omega, show (12 + 9 * k + w - 12) % 9 = w by omega]
  have z8 : n5 s rp bf 8 = s 8 + (if nTo s = s 11 then 0 else 1) := by
    unfold n5
    rw [show upd (upd (n4 s rp bf) 8 (n4 s rp bf 8 + (if nTo s = s 11 then 0 else 1))) 11 (nTo s) 8 = n4 s rp bf 8 + (if nTo s = s 11 then 0 else 1) from (if_neg (by decide)).trans (if_pos rfl), e4 8, if_neg (by omega), w2 8 (by decide) (by decide) (by omega)]
  have z11 : n5 s rp bf 11 = nI x := by
    unfold n5
    rw [eto]
    exact if_pos rfl
  refine ⟨⟨geo_RW hG, geo_WD hG, by rw [e11]; exact ⟨g, by omega, rfl⟩, by rw [e11]; exact hDR⟩, ?_, ?_, ⟨?_, ?_, ?_⟩, ⟨fun e => absurd e (by have : (pasT T).2.2.2.2.2.2.2.2.2.1 = T.2.2.2.2.2.2.2.2.2.1 := rfl; omega), fun _ => ⟨?_, x, hx, z11⟩⟩, ?_, ⟨?_, hmd⟩, hS3⟩
  · exact geo_cong hGW rfl rfl rfl rfl rfl rfl (z1 9 (by decide) (by decide) (by omega)) (z1 10 (by decide) (by decide) (by omega)) (fun i hi => z1 i (by omega) (by omega) (by omega))
  · intro i hi
    rw [z1 i (by omega) (by omega) (by omega), w0 i (by omega)]
    exact hS1 i hi
  · rw [z1 6 (by decide) (by decide) (by omega), w2 6 (by decide) (by decide) (by omega)]
    exact hcs
  · rw [z1 7 (by decide) (by decide) (by omega), w0 7 (by omega), (show n2 s 7 = n1 s 7 from (hS2 7 (by decide)).1)]
    show T.2.2.2.2.2.2.2.2.2.2.2.2.2.2.2.2.1 + 1 = upd s 7 (s 7 + 1) 7
    rw [hnn]
    exact (if_pos rfl).symm
  · rw [z8, eto, e11]
    show gmF (dst (nn1 T)) T.2.2.2.2.2.2.2.2.2.2.2.2.2.2.2.1 T.2.2.2.2.2.2.2.2.2.2.2.2.2.2.2.2.2.1 = _
    unfold gmF
    rw [ex, egh, e11, hgm]
    split
    · exact (Int32.add_zero _).symm
    · rfl
  · rw [z11]
    exact ex
  · intro k hk
    have hk : k < T.2.2.2.2.2.2.2.2.2.1 := hk
    obtain ⟨k1, ⟨c, hc, ec⟩, k3, k4, k5, k6, k7, k8, k9⟩ := hrm k hk
    have hXk := hX k hk
    rw [← eX k] at hXk
    have eC : pCo T k = n3 s (12 + 9 * k + 2) ∧ ∃ c, c ≤ 99 ∧ pCo T k = nI c := by
      unfold pCo
      rw [egh, e11, rget_k (by omega) (by decide), rset_k (by omega) (by decide), mn_eq]
      by_cases ck : k = g
      · subst ck
        rw [w1, show upd T.2.1 k (mnS (T.2.1 k + dsS (nn1 T) 1)) k = mnS (T.2.1 k + dsS (nn1 T) 1) from if_pos rfl]
        refine ⟨rfl, ?_⟩
        obtain ⟨d, -, hd2, ed⟩ := hS3.2.1
        rw [ec, ed]
        exact mnS_rng hc hd2
      · rw [w2 _ (by omega) (by omega) (by omega), show upd T.2.1 g (mnS (T.2.1 g + dsS (nn1 T) 1)) k = T.2.1 k from if_neg ck]
        exact ⟨k1, c, hc, ec⟩
    refine ⟨?_, eC.2, ?_, ?_, ?_, ?_, ?_, ?_, ?_⟩
    · rw [z1 _ (by omega) (by omega) (by omega)]
      exact eC.1
    · rw [z1 _ (by omega) (by omega) (by omega), w2 _ (by omega) (by omega) (by omega)]
      exact k3
    · rw [z1 _ (by omega) (by omega) (by omega), w2 _ (by omega) (by omega) (by omega)]
      exact k4
    · rw [z2 k 5 hk (by decide) (by decide)]
      exact hXk.2
    · rw [z2 k 6 hk (by decide) (by decide)]
      show fa_fill (fun j => (pX T j).1) T.2.2.1 T.2.2.2.2.2.2.2.2.2.1 k = _
      rw [fa_fill_in hk, hXk.1]
    · rw [z2 k 7 hk (by decide) (by decide)]
      show fa_fill (fun j => (pX T j).2.1) T.2.2.2.1 T.2.2.2.2.2.2.2.2.2.1 k = _
      rw [fa_fill_in hk, hXk.1]
    · rw [z2 k 8 hk (by decide) (by decide)]
      show fa_fill (fun j => (pX T j).2.2) T.2.2.2.2.1 T.2.2.2.2.2.2.2.2.2.1 k = _
      rw [fa_fill_in hk, hXk.1]
    · have : nmS (n5 s rp bf) k = nmS s k := by
        unfold nmS
        rw [z1 _ (by omega) (by omega) (by omega), w2 _ (by omega) (by omega) (by omega), z1 _ (by omega) (by omega) (by omega), w2 _ (by omega) (by omega) (by omega)]
      rw [this]
      exact k9
  · intro j hj
    have hj : T.2.2.2.2.2.2.2.2.2.1 ≤ j := hj
    exact ⟨(hmk j hj).1, (hmk j hj).2.1, ra_big hG hj⟩
