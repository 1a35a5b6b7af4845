/-! h3b: exclusions behind a night -/
theorem n3_adj {T : HT} {s : Nat → Int32} {g : Nat} (hC : CPL T s) (hg : g < T.2.2.2.2.2.2.2.2.2.1) (eg : s 11 = nI g) (a b : Int32) : adj (n3 s) a b = adj s a b := by
  obtain ⟨-, -, -, -, -, -, e3⟩ := n3_T hC hg eg
  have hrc := hC.1.1.2.2.1
  rw [e3, adj_u (by omega) (by omega), adj_u (by omega) (by omega)]
  unfold dsQ
  split
  · rfl
  · split
    · rfl
    · exact adj_u (by decide) (by decide) a b
theorem EXW_nS {T : HT} {s : Nat → Int32} {m : Nat} (hC : CPL T s) (h0 : 0 < T.2.2.2.2.2.2.2.2.2.1) (h : EXW s) (e7 : s 7 = nI m) : EXW (nS s) ∧ nS s 7 = nI (m + 1) := by
  obtain ⟨g, hg, hG⟩ := WGO_T hC h0
  have eg := hG.2.2.1
  have hr := (geo_n hC.1).1
  have hrc := hC.1.1.2.2.1
  obtain ⟨⟨x, hx, ex, ex2⟩, hQ6, hGW, hR3, hB3, e311, e3⟩ := n3_T hC hg eg
  have hgo := goes_adj hG (by omega) ex2
  have nadj := n3_adj hC hg eg
  obtain ⟨S, eS⟩ : ∃ S, S = n3 s := ⟨_, rfl⟩
  rw [← eS] at hGW hR3 hB3 e311 nadj e3
  have nR3 : nR S = T.2.2.2.2.2.2.2.2.2.1 := (geo_n hGW).1
  have w2 : ∀ i, 6 ≤ i → i ≠ 7 → i ≠ 12 + 9 * g + 2 → S i = s i := fun i h1 h2 h3 => by
    rw [e3]
    exact ((if_neg h2).trans (if_neg h3)).trans (hQ6 i h1)
  obtain ⟨rp, erp⟩ : ∃ rp, rp = nRp s (fun _ => 0) := ⟨_, rfl⟩
  obtain ⟨bf, ebf⟩ : ∃ bf, bf = senB S (fun _ => 0) := ⟨_, rfl⟩
  obtain ⟨pas, epas⟩ : ∃ pas, pas = btw S (nI g) (nI x) := ⟨_, rfl⟩
  have e4 : n4 s (fun _ => 0) (fun _ => 0) = senF S (nR S) (senV S rp bf (nI g) pas) := by
    unfold n4
    rw [← eS, eg, ex, erp, ebf, epas]
  have e5 : nS s = upd (upd (n4 s (fun _ => 0) (fun _ => 0)) 8 (n4 s (fun _ => 0) (fun _ => 0) 8 + (if nTo s = s 11 then 0 else 1))) 11 (nI x) := by
    unfold nS n5
    rw [ex]
  have hF := senF_FR S hR3.2.1 (senV S rp bf (nI g) pas)
  have v0 : ∀ i, i ≠ 8 → i ≠ 11 → nS s i = senF S (nR S) (senV S rp bf (nI g) pas) i := fun i h8 h11 => by
    rw [e5, ← e4]
    exact (if_neg h11).trans (if_neg h8)
  have v1 : ∀ k w, k < nR S → 5 ≤ w → w < 9 → nS s (12 + 9 * k + w) = senV S rp bf (nI g) pas k w := fun k w hk h1 h2 => by
    have := hR3.2.1
    rw [v0 _ (by omega) (by omega)]
    unfold senF
    rw [if_pos (by omega), show (12 + 9 * k + w - 12) / 9 = k by omega, show (12 + 9 * k + w - 12) % 9 = w by omega]
  have v7 : nS s 7 = nI (m + 1) := by
    rw [v0 7 (by decide) (by decide), hF 7 (by omega), e3]
    exact (if_pos rfl).trans (by rw [e7]; exact nI_add m 1)
  have v9 : nS s 9 = S 9 := (v0 9 (by decide) (by decide)).trans (hF 9 (by omega))
  have v10 : nS s 10 = S 10 := (v0 10 (by decide) (by decide)).trans (hF 10 (by omega))
  have v11 : nS s 11 = nI x := by rw [e5]; exact if_pos rfl
  have er : nR (nS s) = nR S := by unfold nR; rw [v9]
  have ed : nD (nS s) = nD S := by unfold nD; rw [v10]
  have hbig : nR S ≤ 12 ∧ nD S ≤ 24 := ⟨hR3.2.1, hR3.2.2.2⟩
  refine ⟨⟨fun _ => ⟨x, by rw [er, nR3]; exact hx, v11, ?_⟩, fun k hk => ?_⟩, v7⟩
  · rw [v1 x 5 (by rw [nR3]; exact hx) (by decide) (by decide)]
    have hs : sty S rp bf (nI g) pas (nI x) = true := by
      unfold sty
      rcases frst_cases (styP S rp bf (nI g) pas (nI x)) (nR S) with ⟨-, e2⟩ | ⟨i, hi, e, -⟩
      · exfalso
        have hp := e2 g (by rw [nR3]; exact hg)
        obtain ⟨g2, hg2, h1, h2⟩ := h.1 (by rw [hr]; exact h0)
        have e2g : g2 = g := (nI_eq (by omega) (by omega)).mp (h1.symm.trans eg)
        subst e2g
        have hbf : bf g2 = 1 := by
          rw [ebf]
          unfold senB
          rw [fa_fill_in (by rw [nR3]; exact hg), w2 _ (by omega) (by omega) (by omega)]
          exact h2
        have hsrc : src S bf (nI g2) (nI x) = true := by
          unfold src
          rw [nI_clamp (by omega), if_pos hbf]
          split
          · rfl
          · rename_i hne
            rcases hgo with hgo | hgo
            · exact absurd (by rw [hgo]) hne
            · rw [nadj]; exact hgo
        have hw : wcl S rp (nI g2) (nI g2) = -1 := by
          unfold wcl
          refine frst_no (fun t ht => ?_)
          unfold wcP
          split
          · by_cases c : nI t = nI g2
            · rw [if_pos c, if_pos c]
            · rw [if_neg c, if_neg c]
          · rfl
        have hd : dcl S pas (nI g2) (nI x) = -1 := by
          unfold dcl
          rw [← epas]
          refine frst_no (fun d hd => ?_)
          unfold dcP
          split
          · rfl
          · by_cases c : nI d = pas
            · rw [if_pos c, if_pos c]
            · rw [if_neg c, if_neg c]
        unfold styP at hp
        rw [if_neg (by rw [hsrc]; decide)] at hp
        unfold agr at hp
        rw [if_pos hw, if_pos hd] at hp
        cases hp
      · rw [e, if_neg (nI_m1 (by omega))]
    exact (senV_t hs).2.2.2
  · rw [er] at hk
    have q5 := v1 k 5 hk (by decide) (by decide)
    have q6 := v1 k 6 hk (by decide) (by decide)
    have q7 := v1 k 7 hk (by decide) (by decide)
    have q8 := v1 k 8 hk (by decide) (by decide)
    unfold EXK
    rw [er, ed, q5, q6, q7, q8]
    cases hs : sty S rp bf (nI g) pas (nI k) with
    | true =>
      obtain ⟨a6, a7, a8, a5⟩ := senV_t hs
      exact Or.inl ⟨a5, a6, a7, a8⟩
    | false =>
      obtain ⟨a6, a7, a8, a5⟩ := senV_f hs
      rw [a5, a6, a7, a8]
      refine Or.inr ⟨rfl, Or.inr ?_⟩
      unfold exS
      rcases frst_cases (fun q => src S bf (nI q) (nI k)) (nR S) with ⟨ef, -⟩ | ⟨q, hq, ef, hsq, -⟩
      · have ef : fsr S bf (nI k) = -1 := ef
        rw [if_pos ef]
        exact Or.inl ⟨rfl, rfl, rfl⟩
      · have ef : fsr S bf (nI k) = nI q := ef
        rw [ef, if_neg (nI_m1 (by omega))]
        rcases frst_cases (wcP rp (nI g) (nI q)) (nR S) with ⟨ew, -⟩ | ⟨t, ht, ew, -⟩
        · have ew : wcl S rp (nI g) (nI q) = -1 := ew
          rw [if_pos ew]
          rcases frst_cases (dcP S pas (btw S (nI q) (nI k))) (nD S) with ⟨ed2, -⟩ | ⟨d, hd, ed2, -⟩
          · exfalso
            have ed2 : dcl S pas (nI q) (nI k) = -1 := ed2
            unfold sty at hs
            rcases frst_cases (styP S rp bf (nI g) pas (nI k)) (nR S) with ⟨-, e2⟩ | ⟨i, hi, e, -⟩
            · have := e2 q hq
              unfold styP at this
              rw [if_neg (by rw [hsq]; decide)] at this
              unfold agr at this
              rw [if_pos ew, if_pos ed2] at this
              cases this
            · rw [e, if_neg (nI_m1 (by omega))] at hs
              cases hs
          · exact Or.inr (Or.inr (Or.inl ⟨rfl, d, q, hd, hq, ed2, rfl⟩))
        · have ew : wcl S rp (nI g) (nI q) = nI t := ew
          rw [ew, if_neg (nI_m1 (by omega))]
          exact Or.inr (Or.inl ⟨rfl, t, q, ht, hq, rfl, rfl⟩)
