/-! 46: what the reference's sensors leave possible -/
def FR (s s' : Nat → Int32) : Prop := ∀ i, (i < 12 ∨ 120 ≤ i ∨ (i - 12) % 9 < 5) → s i = s' i
section FRS
variable {s s' : Nat → Int32} (h : FR s s')
theorem nR_c (h : FR s s') : nR s = nR s' := by unfold nR; rw [h 9 (by omega)]
theorem nD_c (h : FR s s') : nD s = nD s' := by unfold nD; rw [h 10 (by omega)]
theorem btP_c (h : FR s s') (a b : Int32) : btP s a b = btP s' a b := by
  funext d; unfold btP; rw [h (120 + 4 * d) (by omega), h (120 + 4 * d + 1) (by omega)]
theorem btw_c (h : FR s s') (a b : Int32) : btw s a b = btw s' a b := by unfold btw; rw [nD_c h, btP_c h]
theorem adj_c (h : FR s s') (a b : Int32) : adj s a b = adj s' a b := by
  unfold adj; rw [btw_c h, h (120 + 4 * (btw s' a b).toNatClampNeg + 3) (by omega)]
theorem hrd_c (h : FR s s') (d : Nat) : hrd s d = hrd s' d := by
  unfold hrd; rw [h (120 + 4 * d + 2) (by omega), h 2 (by omega), h (120 + 4 * d) (by omega), h (120 + 4 * d + 1) (by omega), h (12 + 9 * (s' (120 + 4 * d)).toNatClampNeg + 4) (by omega), h (12 + 9 * (s' (120 + 4 * d + 1)).toNatClampNeg + 4) (by omega)]
theorem wcl_c (h : FR s s') (rp : Nat → Int32) (g q : Int32) : wcl s rp g q = wcl s' rp g q := by unfold wcl; rw [nR_c h]
theorem dcP_c (h : FR s s') (pas d0 : Int32) : dcP s pas d0 = dcP s' pas d0 := by funext d; unfold dcP; rw [hrd_c h]
theorem dcl_c (h : FR s s') (pas q r : Int32) : dcl s pas q r = dcl s' pas q r := by unfold dcl; rw [nD_c h, btw_c h, dcP_c h]
theorem src_c (h : FR s s') (bf : Nat → Int32) (q r : Int32) : src s bf q r = src s' bf q r := by unfold src; rw [adj_c h]
theorem agr_c (h : FR s s') (rp : Nat → Int32) (g pas q r : Int32) : agr s rp g pas q r = agr s' rp g pas q r := by unfold agr; rw [wcl_c h, dcl_c h]
theorem styP_c (h : FR s s') (rp bf : Nat → Int32) (g pas r : Int32) : styP s rp bf g pas r = styP s' rp bf g pas r := by funext q; unfold styP; rw [src_c h, agr_c h]
theorem sty_c (h : FR s s') (rp bf : Nat → Int32) (g pas r : Int32) : sty s rp bf g pas r = sty s' rp bf g pas r := by unfold sty; rw [nR_c h, styP_c h]
theorem fsr_c (h : FR s s') (bf : Nat → Int32) (r : Int32) : fsr s bf r = fsr s' bf r := by
  unfold fsr; rw [nR_c h]; congr 1; funext q; exact src_c h bf _ _
theorem exS_c (h : FR s s') (rp bf : Nat → Int32) (g pas r : Int32) : exS s rp bf g pas r = exS s' rp bf g pas r := by unfold exS; rw [fsr_c h, wcl_c h, dcl_c h]
theorem RW_c (h : FR s s') (hw : RW s') : RW s := by
  unfold RW; rw [nR_c h, nD_c h, h 9 (by omega), h 10 (by omega)]; exact hw
theorem WD_c (h : FR s s') (hw : WD s') : WD s := by
  intro d hd
  rw [nD_c h] at hd
  rw [h (120 + 4 * d) (by omega), h (120 + 4 * d + 1) (by omega)]
  exact hw d hd
end FRS
def senF (s : Nat → Int32) (k : Nat) (f : Nat → Nat → Int32) : Nat → Int32 := fun i => if 12 ≤ i ∧ i < 12 + 9 * k ∧ 5 ≤ (i - 12) % 9 then f ((i - 12) / 9) ((i - 12) % 9) else s i
theorem senF_0 (s : Nat → Int32) (f : Nat → Nat → Int32) : senF s 0 f = s := funext fun i => if_neg (by omega)
theorem senF_s (s : Nat → Int32) (k : Nat) (f : Nat → Nat → Int32) : tw (upd (senF s k f) (12 + 9 * k + 5) (f k 5)) k (f k 6) (f k 7) (f k 8) = senF s (k + 1) f := by
  have key : ∀ w, 5 ≤ w → w < 9 → senF s (k + 1) f (12 + 9 * k + w) = f k w := by
    intro w h1 h2
    have e1 : (12 + 9 * k + w - 12) / 9 = k := by omega
    have e2 : (12 + 9 * k + w - 12) % 9 = w := by omega
    unfold senF
    rw [e1, e2, if_pos (by omega)]
  funext i
  unfold tw upd
  by_cases e8 : i = 12 + 9 * k + 8
  · rw [if_pos e8, e8, key 8 (by omega) (by omega)]
  rw [if_neg e8]
  by_cases e7 : i = 12 + 9 * k + 7
  · rw [if_pos e7, e7, key 7 (by omega) (by omega)]
  rw [if_neg e7]
  by_cases e6 : i = 12 + 9 * k + 6
  · rw [if_pos e6, e6, key 6 (by omega) (by omega)]
  rw [if_neg e6]
  by_cases e5 : i = 12 + 9 * k + 5
  · rw [if_pos e5, e5, key 5 (by omega) (by omega)]
  rw [if_neg e5]
  unfold senF
  by_cases c : 12 ≤ i ∧ i < 12 + 9 * k ∧ 5 ≤ (i - 12) % 9
  · rw [if_pos c, if_pos (by omega)]
  · rw [if_neg c, if_neg (by omega)]
theorem senF_FR (s : Nat → Int32) {k : Nat} (hk : k ≤ 12) (f : Nat → Nat → Int32) : FR (senF s k f) s := by
  intro i hi
  unfold senF
  rw [if_neg (by omega)]
theorem senU_FR (s : Nat → Int32) {k : Nat} (hk : k < 12) (f : Nat → Nat → Int32) (v : Int32) : FR (upd (senF s k f) (12 + 9 * k + 5) v) s := by
  intro i hi
  unfold upd
  rw [if_neg (by omega)]
  exact senF_FR s (by omega) f i hi
def senV (s rp bf : Nat → Int32) (g pas : Int32) (r w : Nat) : Int32 := if sty s rp bf g pas (nI r) = true then (if w = 5 then 1 else if w = 6 then 0 else -1) else (if w = 5 then 0 else if w = 6 then (exS s rp bf g pas (nI r)).1 else if w = 7 then (exS s rp bf g pas (nI r)).2.1 else (exS s rp bf g pas (nI r)).2.2)
def senB (s bf : Nat → Int32) : Nat → Int32 := fa_fill (fun k => s (12 + 9 * k + 5)) bf (nR s)
def rx_M_senses (as : List Value) (h : HM) (o : Option Nat) (Q : XQ) : Prop := A_rii as fun p g to => MX h p fun T => (RW T.2.2.2.2.2.2.2.2.2.2.2.2.2.1 ∧ WD T.2.2.2.2.2.2.2.2.2.2.2.2.2.1) ∧ Q (.inl none) (hM h p (T.1, T.2.1, T.2.2.1, T.2.2.2.1, T.2.2.2.2.1, T.2.2.2.2.2.1, T.2.2.2.2.2.2.1, T.2.2.2.2.2.2.2.1, T.2.2.2.2.2.2.2.2.1, T.2.2.2.2.2.2.2.2.2.1, T.2.2.2.2.2.2.2.2.2.2.1, T.2.2.2.2.2.2.2.2.2.2.2.1, T.2.2.2.2.2.2.2.2.2.2.2.2.1, senF T.2.2.2.2.2.2.2.2.2.2.2.2.2.1 (nR T.2.2.2.2.2.2.2.2.2.2.2.2.2.1) (senV T.2.2.2.2.2.2.2.2.2.2.2.2.2.1 T.2.2.2.2.2.2.2.2.2.2.2.2.2.2.2.2.2.2.2.2.1 (senB T.2.2.2.2.2.2.2.2.2.2.2.2.2.1 T.2.2.2.2.2.2.2.2.2.2.2.2.2.2.2.2.2.2.2.2.2.1) g (btw T.2.2.2.2.2.2.2.2.2.2.2.2.2.1 g to)), T.2.2.2.2.2.2.2.2.2.2.2.2.2.2.1, T.2.2.2.2.2.2.2.2.2.2.2.2.2.2.2.1, T.2.2.2.2.2.2.2.2.2.2.2.2.2.2.2.2.1, T.2.2.2.2.2.2.2.2.2.2.2.2.2.2.2.2.2.1, T.2.2.2.2.2.2.2.2.2.2.2.2.2.2.2.2.2.2.1, T.2.2.2.2.2.2.2.2.2.2.2.2.2.2.2.2.2.2.2.1, T.2.2.2.2.2.2.2.2.2.2.2.2.2.2.2.2.2.2.2.2.1, senB T.2.2.2.2.2.2.2.2.2.2.2.2.2.1 T.2.2.2.2.2.2.2.2.2.2.2.2.2.2.2.2.2.2.2.2.2.1, T.2.2.2.2.2.2.2.2.2.2.2.2.2.2.2.2.2.2.2.2.2.2.1, T.2.2.2.2.2.2.2.2.2.2.2.2.2.2.2.2.2.2.2.2.2.2.2.1, T.2.2.2.2.2.2.2.2.2.2.2.2.2.2.2.2.2.2.2.2.2.2.2.2.1, T.2.2.2.2.2.2.2.2.2.2.2.2.2.2.2.2.2.2.2.2.2.2.2.2.2.1, T.2.2.2.2.2.2.2.2.2.2.2.2.2.2.2.2.2.2.2.2.2.2.2.2.2.2.1, T.2.2.2.2.2.2.2.2.2.2.2.2.2.2.2.2.2.2.2.2.2.2.2.2.2.2.2.1, T.2.2.2.2.2.2.2.2.2.2.2.2.2.2.2.2.2.2.2.2.2.2.2.2.2.2.2.2.1, T.2.2.2.2.2.2.2.2.2.2.2.2.2.2.2.2.2.2.2.2.2.2.2.2.2.2.2.2.2.1, T.2.2.2.2.2.2.2.2.2.2.2.2.2.2.2.2.2.2.2.2.2.2.2.2.2.2.2.2.2.2.1, T.2.2.2.2.2.2.2.2.2.2.2.2.2.2.2.2.2.2.2.2.2.2.2.2.2.2.2.2.2.2.2.1, T.2.2.2.2.2.2.2.2.2.2.2.2.2.2.2.2.2.2.2.2.2.2.2.2.2.2.2.2.2.2.2.2.1, T.2.2.2.2.2.2.2.2.2.2.2.2.2.2.2.2.2.2.2.2.2.2.2.2.2.2.2.2.2.2.2.2.2.1, T.2.2.2.2.2.2.2.2.2.2.2.2.2.2.2.2.2.2.2.2.2.2.2.2.2.2.2.2.2.2.2.2.2.2)) o
section MS
variable {G : GG} {as : List Value} {h : HM} {o : Option Nat} {Q : XQ}
theorem HH_M_senses : mHH 240 = [] := rfl
theorem W25_M_truth {G : GG} {as : List Value} {h : HM} {o : Option Nat} {Q : XQ} : RX G (W25 G) 179 as h o Q = rx_M_truth as h o Q := rfl
theorem W25_M_of {G : GG} {as : List Value} {h : HM} {o : Option Nat} {Q : XQ} : RX G (W25 G) 216 as h o Q = rx_M_of as h o Q := rfl
theorem W25_M_lays {G : GG} {as : List Value} {h : HM} {o : Option Nat} {Q : XQ} : RX G (W25 G) 217 as h o Q = rx_M_lays as h o Q := rfl
theorem W25_M_between {G : GG} {as : List Value} {h : HM} {o : Option Nat} {Q : XQ} : RX G (W25 G) 222 as h o Q = rx_M_between as h o Q := rfl
theorem W25_M_staysPossible {G : GG} {as : List Value} {h : HM} {o : Option Nat} {Q : XQ} : RX G (W25 G) 236 as h o Q = rx_M_staysPossible as h o Q := rfl
theorem W25_M_tellsWhy {G : GG} {as : List Value} {h : HM} {o : Option Nat} {Q : XQ} : RX G (W25 G) 238 as h o Q = rx_M_tellsWhy as h o Q := rfl
theorem W25_M_excludes {G : GG} {as : List Value} {h : HM} {o : Option Nat} {Q : XQ} : RX G (W25 G) 239 as h o Q = rx_M_excludes as h o Q := rfl
set_option maxHeartbeats 200000 in
theorem r_M_senses (hx : rx_M_senses as h o Q) : Runs G m_M_senses as h o Q := by
  obtain ⟨p, g, to, rfl, h0, ⟨Cd, Bu, Fi, By, At, Pl, So, Va, Er, Ep, Te, Tp, Wo, S, Sv, As, He, Pa, Un, Hs, Rp, Bf, Pt, Ot, Sc, Fs, Sn, Bg, Lp, Sd, Wh, Op, Ld, Pg, Pr⟩, rfl, -, ⟨⟨h9, hn, h10, hm⟩, hwd⟩, hq⟩ := E_rii hx
  dsimp only at *
  try simp only [hM_hM] at hq
  have hRW : RW S := ⟨h9, hn, h10, hm⟩
  have hL2 : EX G m_M_senses 45 [(0, .ref p), (1, .int g), (2, .int to), (3, .int (btw S g to)), (4, .int 0)] [] (hM h0 p (Cd, Bu, Fi, By, At, Pl, So, Va, Er, Ep, Te, Tp, Wo, S, Sv, As, He, Pa, Un, Hs, Rp, fa_fill (fun k => S (12 + 9 * k + 5)) Bf (nR S), Pt, Ot, Sc, Fs, Sn, Bg, Lp, Sd, Wh, Op, Ld, Pg, Pr)) o 0 0 Q := by
    change EX G m_M_senses 45 [(0, .ref p), (1, .int g), (2, .int to), (3, .int (btw S g to)), (4, .int 0)] [] (hM h0 p (Cd, Bu, Fi, By, At, Pl, So, Va, Er, Ep, Te, Tp, Wo, S, Sv, As, He, Pa, Un, Hs, Rp, senB S Bf, Pt, Ot, Sc, Fs, Sn, Bg, Lp, Sd, Wh, Op, Ld, Pg, Pr)) o 0 0 Q
    generalize senB S Bf = bf at hq ⊢
    generalize btw S g to = pas at hq ⊢
    have loop2 : ∀ j d : Nat, d + j = nR S → EX G m_M_senses 45 [(0, .ref p), (1, .int g), (2, .int to), (3, .int pas), (4, .int (nI d))] [] (hM h0 p (Cd, Bu, Fi, By, At, Pl, So, Va, Er, Ep, Te, Tp, Wo, senF S d (senV S Rp bf g pas), Sv, As, He, Pa, Un, Hs, Rp, bf, Pt, Ot, Sc, Fs, Sn, Bg, Lp, Sd, Wh, Op, Ld, Pg, Pr)) o 0 0 Q := by
      intro j
      induction j with
      | zero =>
        intro d hd2 
        obtain rfl : d = nR S := by omega
        have hs9 : senF S (nR S) (senV S Rp bf g pas) 9 = nI (nR S) := (senF_FR S hn _ 9 (by omega)).trans h9
        refine X_M_senses_45 (W25_ok G) (genJ (P := fun J => exB _ _ _ _ (J 40) _ _ _ _ _ _ _ _) (fun J hJ => ?_))
        simp [exB, hJ, exT, stp, lv_args, Value.category, lkL, stL1, stL2, insL, contX, q_ofNat, f4_3, nI_1, -Int32.not_lt, -Int32.not_le, -Int64.not_lt, -Int64.not_le, T_M_senses_10, T_M_senses_42, T_M_senses_45, T_M_senses_96, T_M_senses_104, T_M_senses_110, R_M_senses, C_M_senses, M_M_senses, HH_M_senses, KI_0, KB_9, KI_5, KI_1, KI_m1, -Int32.reduceOfInt, -Int8.reduceOfInt, -Int16.reduceOfInt, -Int32.ofInt_neg, O_M_senses_M_truth, C_M_truth, M_M_truth, W25_M_truth, rx_M_truth, O_M_senses_M_of, C_M_of, M_M_of, W25_M_of, rx_M_of, O_M_senses_M_lays, C_M_lays, M_M_lays, W25_M_lays, rx_M_lays, O_M_senses_M_between, C_M_between, M_M_between, W25_M_between, rx_M_between, O_M_senses_M_staysPossible, C_M_staysPossible, M_M_staysPossible, W25_M_staysPossible, rx_M_staysPossible, O_M_senses_M_tellsWhy, C_M_tellsWhy, M_M_tellsWhy, W25_M_tellsWhy, rx_M_tellsWhy, O_M_senses_M_excludes, C_M_excludes, M_M_excludes, W25_M_excludes, rx_M_excludes, A_r, A_ri, A_rii, A_riii, A_riiii, A_rr, A_rl, A_i, A_ii, A_iii, A_lll, A_l, A_li, hM_0, hM_1, hM_2, hM_3, hM_4, hM_5, hM_6, hM_7, hM_8, hM_9, hM_10, hM_11, hM_12, hM_13, hM_14, hM_15, hM_16, hM_up0, hM_up1, hM_up2, hM_up3, hM_up4, hM_up5, hM_up6, hM_up7, hM_up8, hM_up9, hM_up10, hM_up11, hM_up12, hM_up13, hM_up14, hM_up15, hM_up16, MX_eq0, tI_0, tI_1, trI_0, trI_1, trI_t, tI_or, v216_0, v216_1, v216_2, v216_3, v216_4, v216_5, v216_6, v216_7, v216_8, v216_9, v216_10, v216_11, hs9]
        try simp (disch := omega) [-Int64.not_lt, -Int64.not_le, -Int32.not_lt, -Int32.not_le, nI_z, nI_ltI, nI_leI, nI_1, nI_clamp, q_vp, nI_pos', rget_k, rset_k, lget_k, hup_hup, A_r, A_ri, A_rii, A_riii, A_riiii, A_rr, A_rl, A_i, A_ii, A_iii, A_lll, A_l, A_li, hM_0, hM_1, hM_2, hM_3, hM_4, hM_5, hM_6, hM_7, hM_8, hM_9, hM_10, hM_11, hM_12, hM_13, hM_14, hM_15, hM_16, hM_up0, hM_up1, hM_up2, hM_up3, hM_up4, hM_up5, hM_up6, hM_up7, hM_up8, hM_up9, hM_up10, hM_up11, hM_up12, hM_up13, hM_up14, hM_up15, hM_up16, MX_eq0, tI_0, tI_1, trI_0, trI_1, trI_t, tI_or, v216_0, v216_1, v216_2, v216_3, v216_4, v216_5, v216_6, v216_7, v216_8, v216_9, v216_10, v216_11, hs9]
        first | done | exact hq | ((repeat' (first | with_reducible refine And.intro ?_ ?_ | with_reducible intro _)) <;> (first | assumption | exact hI | (refine hF ?_; simp [-Int32.not_lt, -Int32.not_le, -Int64.not_lt, -Int64.not_le, *]; done) | (refine hT ?_; simp [-Int32.not_lt, -Int32.not_le, -Int64.not_lt, -Int64.not_le, *]; done) | (simp [-Int32.not_lt, -Int32.not_le, -Int64.not_lt, -Int64.not_le, *] at hq; exact hq) | (simp [-Int32.not_lt, -Int32.not_le, -Int64.not_lt, -Int64.not_le, *] at hI; exact hI) | (refine EX.subL ?_ hI; simp [subL]; done) | (refine EX.subL ?_ (hF ?_) <;> simp [subL, -Int32.not_lt, -Int32.not_le, -Int64.not_lt, -Int64.not_le, *]; done) | (refine EX.subL ?_ (hT ?_) <;> simp [subL, -Int32.not_lt, -Int32.not_le, -Int64.not_lt, -Int64.not_le, *]; done) | (simp [-Int32.not_lt, -Int32.not_le, -Int64.not_lt, -Int64.not_le, *] at hI; refine EX.subL ?_ hI; simp [subL]; done) | (exact absurd (by assumption) (by assumption)) | (simp [-Int32.not_lt, -Int32.not_le, -Int64.not_lt, -Int64.not_le, *] at hI ⊢; refine EX.subL ?_ hI; simp [subL]; done) | (simp [-Int32.not_lt, -Int32.not_le, -Int64.not_lt, -Int64.not_le, *] at hq ⊢; exact hq) | (apply hF; simp_all [-Int32.not_lt, -Int32.not_le, -Int64.not_lt, -Int64.not_le]; done) | (apply hT; simp_all [-Int32.not_lt, -Int32.not_le, -Int64.not_lt, -Int64.not_le]; done) | (simp_all [-Int32.not_lt, -Int32.not_le, -Int64.not_lt, -Int64.not_le]; done))) | fail
      | succ j ih =>
        intro d hd2 
        have hlt : d < nR S := by omega
        have hI := ih (d + 1) (by omega) 
        rw [← senF_s] at hI
        have hx12 : d < 12 := by omega
        have hp0 : 0 ≤ nI d := nI_pos' (by omega)
        have hp12 : nI d < 12 := (nI_ltI (b := 12) (by omega) (by decide)).mpr hx12
        have hcd := nI_clamp (show d < 2 ^ 31 by omega)
        have hidx : IDX 12 (nI d) := ⟨d, hx12, rfl⟩
        have hRWd := RW_c (senF_FR S (show d ≤ 12 by omega) (senV S Rp bf g pas)) hRW
        have hWDd := WD_c (senF_FR S (show d ≤ 12 by omega) (senV S Rp bf g pas)) hwd
        have hst := sty_c (senF_FR S (show d ≤ 12 by omega) (senV S Rp bf g pas)) Rp bf g pas (nI d)
        have hs9 : senF S d (senV S Rp bf g pas) 9 = nI (nR S) := (senF_FR S (show d ≤ 12 by omega) _ 9 (by omega)).trans h9
        have hRWu := fun v => RW_c (senU_FR S hx12 (senV S Rp bf g pas) v) hRW
        have hWDu := fun v => WD_c (senU_FR S hx12 (senV S Rp bf g pas) v) hwd
        have hex := fun v => exS_c (senU_FR S hx12 (senV S Rp bf g pas) v) Rp bf g pas (nI d)
        cases hs : sty S Rp bf g pas (nI d) with
        | false =>
          simp [senV, hs] at hI
          refine X_M_senses_45 (W25_ok G) (genJ (P := fun J => exB _ _ _ _ (J 40) _ _ _ _ _ _ _ _) (fun J hJ => ?_))
          simp [exB, hJ, exT, stp, lv_args, Value.category, lkL, stL1, stL2, insL, contX, q_ofNat, f4_3, nI_1, -Int32.not_lt, -Int32.not_le, -Int64.not_lt, -Int64.not_le, T_M_senses_10, T_M_senses_42, T_M_senses_45, T_M_senses_96, T_M_senses_104, T_M_senses_110, R_M_senses, C_M_senses, M_M_senses, HH_M_senses, KI_0, KB_9, KI_5, KI_1, KI_m1, -Int32.reduceOfInt, -Int8.reduceOfInt, -Int16.reduceOfInt, -Int32.ofInt_neg, O_M_senses_M_truth, C_M_truth, M_M_truth, W25_M_truth, rx_M_truth, O_M_senses_M_of, C_M_of, M_M_of, W25_M_of, rx_M_of, O_M_senses_M_lays, C_M_lays, M_M_lays, W25_M_lays, rx_M_lays, O_M_senses_M_between, C_M_between, M_M_between, W25_M_between, rx_M_between, O_M_senses_M_staysPossible, C_M_staysPossible, M_M_staysPossible, W25_M_staysPossible, rx_M_staysPossible, O_M_senses_M_tellsWhy, C_M_tellsWhy, M_M_tellsWhy, W25_M_tellsWhy, rx_M_tellsWhy, O_M_senses_M_excludes, C_M_excludes, M_M_excludes, W25_M_excludes, rx_M_excludes, A_r, A_ri, A_rii, A_riii, A_riiii, A_rr, A_rl, A_i, A_ii, A_iii, A_lll, A_l, A_li, hM_0, hM_1, hM_2, hM_3, hM_4, hM_5, hM_6, hM_7, hM_8, hM_9, hM_10, hM_11, hM_12, hM_13, hM_14, hM_15, hM_16, hM_up0, hM_up1, hM_up2, hM_up3, hM_up4, hM_up5, hM_up6, hM_up7, hM_up8, hM_up9, hM_up10, hM_up11, hM_up12, hM_up13, hM_up14, hM_up15, hM_up16, MX_eq0, tI_0, tI_1, trI_0, trI_1, trI_t, tI_or, v216_0, v216_1, v216_2, v216_3, v216_4, v216_5, v216_6, v216_7, v216_8, v216_9, v216_10, v216_11, hM_hM, hs9, hRWd, hWDd, hst, hs, tI_f, hidx, hp0, hp12, hcd, hRWu, hWDu, hex, hlt, Nat.not_le.mpr hlt]
          try simp (disch := omega) [-Int64.not_lt, -Int64.not_le, -Int32.not_lt, -Int32.not_le, nI_z, nI_ltI, nI_leI, nI_1, nI_clamp, q_vp, nI_pos', rget_k, rset_k, lget_k, hup_hup, A_r, A_ri, A_rii, A_riii, A_riiii, A_rr, A_rl, A_i, A_ii, A_iii, A_lll, A_l, A_li, hM_0, hM_1, hM_2, hM_3, hM_4, hM_5, hM_6, hM_7, hM_8, hM_9, hM_10, hM_11, hM_12, hM_13, hM_14, hM_15, hM_16, hM_up0, hM_up1, hM_up2, hM_up3, hM_up4, hM_up5, hM_up6, hM_up7, hM_up8, hM_up9, hM_up10, hM_up11, hM_up12, hM_up13, hM_up14, hM_up15, hM_up16, MX_eq0, tI_0, tI_1, trI_0, trI_1, trI_t, tI_or, v216_0, v216_1, v216_2, v216_3, v216_4, v216_5, v216_6, v216_7, v216_8, v216_9, v216_10, v216_11, hM_hM, hs9, hRWd, hWDd, hst, hs, tI_f, hidx, hp0, hp12, hcd, hRWu, hWDu, hex, hlt, Nat.not_le.mpr hlt]
          first | done | exact hq | ((repeat' (first | with_reducible refine And.intro ?_ ?_ | with_reducible intro _)) <;> (first | assumption | exact hI | (refine hF ?_; simp [-Int32.not_lt, -Int32.not_le, -Int64.not_lt, -Int64.not_le, *]; done) | (refine hT ?_; simp [-Int32.not_lt, -Int32.not_le, -Int64.not_lt, -Int64.not_le, *]; done) | (simp [-Int32.not_lt, -Int32.not_le, -Int64.not_lt, -Int64.not_le, *] at hq; exact hq) | (simp [-Int32.not_lt, -Int32.not_le, -Int64.not_lt, -Int64.not_le, *] at hI; exact hI) | (refine EX.subL ?_ hI; simp [subL]; done) | (refine EX.subL ?_ (hF ?_) <;> simp [subL, -Int32.not_lt, -Int32.not_le, -Int64.not_lt, -Int64.not_le, *]; done) | (refine EX.subL ?_ (hT ?_) <;> simp [subL, -Int32.not_lt, -Int32.not_le, -Int64.not_lt, -Int64.not_le, *]; done) | (simp [-Int32.not_lt, -Int32.not_le, -Int64.not_lt, -Int64.not_le, *] at hI; refine EX.subL ?_ hI; simp [subL]; done) | (exact absurd (by assumption) (by assumption)) | (simp [-Int32.not_lt, -Int32.not_le, -Int64.not_lt, -Int64.not_le, *] at hI ⊢; refine EX.subL ?_ hI; simp [subL]; done) | (simp [-Int32.not_lt, -Int32.not_le, -Int64.not_lt, -Int64.not_le, *] at hq ⊢; exact hq) | (apply hF; simp_all [-Int32.not_lt, -Int32.not_le, -Int64.not_lt, -Int64.not_le]; done) | (apply hT; simp_all [-Int32.not_lt, -Int32.not_le, -Int64.not_lt, -Int64.not_le]; done) | (simp_all [-Int32.not_lt, -Int32.not_le, -Int64.not_lt, -Int64.not_le]; done))) | fail
        | true =>
          simp [senV, hs] at hI
          refine X_M_senses_45 (W25_ok G) (genJ (P := fun J => exB _ _ _ _ (J 40) _ _ _ _ _ _ _ _) (fun J hJ => ?_))
          simp [exB, hJ, exT, stp, lv_args, Value.category, lkL, stL1, stL2, insL, contX, q_ofNat, f4_3, nI_1, -Int32.not_lt, -Int32.not_le, -Int64.not_lt, -Int64.not_le, T_M_senses_10, T_M_senses_42, T_M_senses_45, T_M_senses_96, T_M_senses_104, T_M_senses_110, R_M_senses, C_M_senses, M_M_senses, HH_M_senses, KI_0, KB_9, KI_5, KI_1, KI_m1, -Int32.reduceOfInt, -Int8.reduceOfInt, -Int16.reduceOfInt, -Int32.ofInt_neg, O_M_senses_M_truth, C_M_truth, M_M_truth, W25_M_truth, rx_M_truth, O_M_senses_M_of, C_M_of, M_M_of, W25_M_of, rx_M_of, O_M_senses_M_lays, C_M_lays, M_M_lays, W25_M_lays, rx_M_lays, O_M_senses_M_between, C_M_between, M_M_between, W25_M_between, rx_M_between, O_M_senses_M_staysPossible, C_M_staysPossible, M_M_staysPossible, W25_M_staysPossible, rx_M_staysPossible, O_M_senses_M_tellsWhy, C_M_tellsWhy, M_M_tellsWhy, W25_M_tellsWhy, rx_M_tellsWhy, O_M_senses_M_excludes, C_M_excludes, M_M_excludes, W25_M_excludes, rx_M_excludes, A_r, A_ri, A_rii, A_riii, A_riiii, A_rr, A_rl, A_i, A_ii, A_iii, A_lll, A_l, A_li, hM_0, hM_1, hM_2, hM_3, hM_4, hM_5, hM_6, hM_7, hM_8, hM_9, hM_10, hM_11, hM_12, hM_13, hM_14, hM_15, hM_16, hM_up0, hM_up1, hM_up2, hM_up3, hM_up4, hM_up5, hM_up6, hM_up7, hM_up8, hM_up9, hM_up10, hM_up11, hM_up12, hM_up13, hM_up14, hM_up15, hM_up16, MX_eq0, tI_0, tI_1, trI_0, trI_1, trI_t, tI_or, v216_0, v216_1, v216_2, v216_3, v216_4, v216_5, v216_6, v216_7, v216_8, v216_9, v216_10, v216_11, hM_hM, hs9, hRWd, hWDd, hst, hs, tI_t, hidx, hp0, hp12, hcd, hRWu, hWDu, hex, hlt, Nat.not_le.mpr hlt]
          try simp (disch := omega) [-Int64.not_lt, -Int64.not_le, -Int32.not_lt, -Int32.not_le, nI_z, nI_ltI, nI_leI, nI_1, nI_clamp, q_vp, nI_pos', rget_k, rset_k, lget_k, hup_hup, A_r, A_ri, A_rii, A_riii, A_riiii, A_rr, A_rl, A_i, A_ii, A_iii, A_lll, A_l, A_li, hM_0, hM_1, hM_2, hM_3, hM_4, hM_5, hM_6, hM_7, hM_8, hM_9, hM_10, hM_11, hM_12, hM_13, hM_14, hM_15, hM_16, hM_up0, hM_up1, hM_up2, hM_up3, hM_up4, hM_up5, hM_up6, hM_up7, hM_up8, hM_up9, hM_up10, hM_up11, hM_up12, hM_up13, hM_up14, hM_up15, hM_up16, MX_eq0, tI_0, tI_1, trI_0, trI_1, trI_t, tI_or, v216_0, v216_1, v216_2, v216_3, v216_4, v216_5, v216_6, v216_7, v216_8, v216_9, v216_10, v216_11, hM_hM, hs9, hRWd, hWDd, hst, hs, tI_t, hidx, hp0, hp12, hcd, hRWu, hWDu, hex, hlt, Nat.not_le.mpr hlt]
          first | done | exact hq | ((repeat' (first | with_reducible refine And.intro ?_ ?_ | with_reducible intro _)) <;> (first | assumption | exact hI | (refine hF ?_; simp [-Int32.not_lt, -Int32.not_le, -Int64.not_lt, -Int64.not_le, *]; done) | (refine hT ?_; simp [-Int32.not_lt, -Int32.not_le, -Int64.not_lt, -Int64.not_le, *]; done) | (simp [-Int32.not_lt, -Int32.not_le, -Int64.not_lt, -Int64.not_le, *] at hq; exact hq) | (simp [-Int32.not_lt, -Int32.not_le, -Int64.not_lt, -Int64.not_le, *] at hI; exact hI) | (refine EX.subL ?_ hI; simp [subL]; done) | (refine EX.subL ?_ (hF ?_) <;> simp [subL, -Int32.not_lt, -Int32.not_le, -Int64.not_lt, -Int64.not_le, *]; done) | (refine EX.subL ?_ (hT ?_) <;> simp [subL, -Int32.not_lt, -Int32.not_le, -Int64.not_lt, -Int64.not_le, *]; done) | (simp [-Int32.not_lt, -Int32.not_le, -Int64.not_lt, -Int64.not_le, *] at hI; refine EX.subL ?_ hI; simp [subL]; done) | (exact absurd (by assumption) (by assumption)) | (simp [-Int32.not_lt, -Int32.not_le, -Int64.not_lt, -Int64.not_le, *] at hI ⊢; refine EX.subL ?_ hI; simp [subL]; done) | (simp [-Int32.not_lt, -Int32.not_le, -Int64.not_lt, -Int64.not_le, *] at hq ⊢; exact hq) | (apply hF; simp_all [-Int32.not_lt, -Int32.not_le, -Int64.not_lt, -Int64.not_le]; done) | (apply hT; simp_all [-Int32.not_lt, -Int32.not_le, -Int64.not_lt, -Int64.not_le]; done) | (simp_all [-Int32.not_lt, -Int32.not_le, -Int64.not_lt, -Int64.not_le]; done))) | fail
    have hL := loop2 (nR S) 0 (by omega)
    rw [senF_0, nI_0] at hL
    exact hL
  have loop : ∀ j d : Nat, d + j = nR S → EX G m_M_senses 10 [(0, .ref p), (1, .int g), (2, .int to), (3, .int (btw S g to)), (4, .int (nI d))] [] (hM h0 p (Cd, Bu, Fi, By, At, Pl, So, Va, Er, Ep, Te, Tp, Wo, S, Sv, As, He, Pa, Un, Hs, Rp, fa_fill (fun k => S (12 + 9 * k + 5)) Bf d, Pt, Ot, Sc, Fs, Sn, Bg, Lp, Sd, Wh, Op, Ld, Pg, Pr)) o 0 0 Q := by
    intro j
    induction j with
    | zero =>
      intro d hd2 
      obtain rfl : d = nR S := by omega
      refine X_M_senses_10 (W25_ok G) (genJ (P := fun J => exB _ _ _ _ (J 40) _ _ _ _ _ _ _ _) (fun J hJ => ?_))
      simp [exB, hJ, exT, stp, lv_args, Value.category, lkL, stL1, stL2, insL, contX, q_ofNat, f4_3, nI_1, -Int32.not_lt, -Int32.not_le, -Int64.not_lt, -Int64.not_le, T_M_senses_10, T_M_senses_42, T_M_senses_45, T_M_senses_96, T_M_senses_104, T_M_senses_110, R_M_senses, C_M_senses, M_M_senses, HH_M_senses, KI_0, KB_9, KI_5, KI_1, KI_m1, -Int32.reduceOfInt, -Int8.reduceOfInt, -Int16.reduceOfInt, -Int32.ofInt_neg, O_M_senses_M_truth, C_M_truth, M_M_truth, W25_M_truth, rx_M_truth, O_M_senses_M_of, C_M_of, M_M_of, W25_M_of, rx_M_of, O_M_senses_M_lays, C_M_lays, M_M_lays, W25_M_lays, rx_M_lays, O_M_senses_M_between, C_M_between, M_M_between, W25_M_between, rx_M_between, O_M_senses_M_staysPossible, C_M_staysPossible, M_M_staysPossible, W25_M_staysPossible, rx_M_staysPossible, O_M_senses_M_tellsWhy, C_M_tellsWhy, M_M_tellsWhy, W25_M_tellsWhy, rx_M_tellsWhy, O_M_senses_M_excludes, C_M_excludes, M_M_excludes, W25_M_excludes, rx_M_excludes, A_r, A_ri, A_rii, A_riii, A_riiii, A_rr, A_rl, A_i, A_ii, A_iii, A_lll, A_l, A_li, hM_0, hM_1, hM_2, hM_3, hM_4, hM_5, hM_6, hM_7, hM_8, hM_9, hM_10, hM_11, hM_12, hM_13, hM_14, hM_15, hM_16, hM_up0, hM_up1, hM_up2, hM_up3, hM_up4, hM_up5, hM_up6, hM_up7, hM_up8, hM_up9, hM_up10, hM_up11, hM_up12, hM_up13, hM_up14, hM_up15, hM_up16, MX_eq0, tI_0, tI_1, trI_0, trI_1, trI_t, tI_or, v216_0, v216_1, v216_2, v216_3, v216_4, v216_5, v216_6, v216_7, v216_8, v216_9, v216_10, v216_11, h9]
      try simp (disch := omega) [-Int64.not_lt, -Int64.not_le, -Int32.not_lt, -Int32.not_le, nI_z, nI_ltI, nI_leI, nI_1, nI_clamp, q_vp, nI_pos', rget_k, rset_k, lget_k, hup_hup, A_r, A_ri, A_rii, A_riii, A_riiii, A_rr, A_rl, A_i, A_ii, A_iii, A_lll, A_l, A_li, hM_0, hM_1, hM_2, hM_3, hM_4, hM_5, hM_6, hM_7, hM_8, hM_9, hM_10, hM_11, hM_12, hM_13, hM_14, hM_15, hM_16, hM_up0, hM_up1, hM_up2, hM_up3, hM_up4, hM_up5, hM_up6, hM_up7, hM_up8, hM_up9, hM_up10, hM_up11, hM_up12, hM_up13, hM_up14, hM_up15, hM_up16, MX_eq0, tI_0, tI_1, trI_0, trI_1, trI_t, tI_or, v216_0, v216_1, v216_2, v216_3, v216_4, v216_5, v216_6, v216_7, v216_8, v216_9, v216_10, v216_11, h9]
      exact hL2
    | succ j ih =>
      intro d hd2 
      have hlt : d < nR S := by omega
      have hI := ih (d + 1) (by omega) 
      rw [← fa_fill_succ] at hI
      have hx12 : d < 12 := by omega
      have hp0 : 0 ≤ nI d := nI_pos' (by omega)
      have hp12 : nI d < 12 := (nI_ltI (b := 12) (by omega) (by decide)).mpr hx12
      have hcd := nI_clamp (show d < 2 ^ 31 by omega)
      have hv : vp_in (nI d) 12 := vp_in_nI (by omega) (by decide)
      refine X_M_senses_10 (W25_ok G) (genJ (P := fun J => exB _ _ _ _ (J 40) _ _ _ _ _ _ _ _) (fun J hJ => ?_))
      simp [exB, hJ, exT, stp, lv_args, Value.category, lkL, stL1, stL2, insL, contX, q_ofNat, f4_3, nI_1, -Int32.not_lt, -Int32.not_le, -Int64.not_lt, -Int64.not_le, T_M_senses_10, T_M_senses_42, T_M_senses_45, T_M_senses_96, T_M_senses_104, T_M_senses_110, R_M_senses, C_M_senses, M_M_senses, HH_M_senses, KI_0, KB_9, KI_5, KI_1, KI_m1, -Int32.reduceOfInt, -Int8.reduceOfInt, -Int16.reduceOfInt, -Int32.ofInt_neg, O_M_senses_M_truth, C_M_truth, M_M_truth, W25_M_truth, rx_M_truth, O_M_senses_M_of, C_M_of, M_M_of, W25_M_of, rx_M_of, O_M_senses_M_lays, C_M_lays, M_M_lays, W25_M_lays, rx_M_lays, O_M_senses_M_between, C_M_between, M_M_between, W25_M_between, rx_M_between, O_M_senses_M_staysPossible, C_M_staysPossible, M_M_staysPossible, W25_M_staysPossible, rx_M_staysPossible, O_M_senses_M_tellsWhy, C_M_tellsWhy, M_M_tellsWhy, W25_M_tellsWhy, rx_M_tellsWhy, O_M_senses_M_excludes, C_M_excludes, M_M_excludes, W25_M_excludes, rx_M_excludes, A_r, A_ri, A_rii, A_riii, A_riiii, A_rr, A_rl, A_i, A_ii, A_iii, A_lll, A_l, A_li, hM_0, hM_1, hM_2, hM_3, hM_4, hM_5, hM_6, hM_7, hM_8, hM_9, hM_10, hM_11, hM_12, hM_13, hM_14, hM_15, hM_16, hM_up0, hM_up1, hM_up2, hM_up3, hM_up4, hM_up5, hM_up6, hM_up7, hM_up8, hM_up9, hM_up10, hM_up11, hM_up12, hM_up13, hM_up14, hM_up15, hM_up16, MX_eq0, tI_0, tI_1, trI_0, trI_1, trI_t, tI_or, v216_0, v216_1, v216_2, v216_3, v216_4, v216_5, v216_6, v216_7, v216_8, v216_9, v216_10, v216_11, h9, hp0, hp12, hcd, hv, hlt, Nat.not_le.mpr hlt]
      try simp (disch := omega) [-Int64.not_lt, -Int64.not_le, -Int32.not_lt, -Int32.not_le, nI_z, nI_ltI, nI_leI, nI_1, nI_clamp, q_vp, nI_pos', rget_k, rset_k, lget_k, hup_hup, A_r, A_ri, A_rii, A_riii, A_riiii, A_rr, A_rl, A_i, A_ii, A_iii, A_lll, A_l, A_li, hM_0, hM_1, hM_2, hM_3, hM_4, hM_5, hM_6, hM_7, hM_8, hM_9, hM_10, hM_11, hM_12, hM_13, hM_14, hM_15, hM_16, hM_up0, hM_up1, hM_up2, hM_up3, hM_up4, hM_up5, hM_up6, hM_up7, hM_up8, hM_up9, hM_up10, hM_up11, hM_up12, hM_up13, hM_up14, hM_up15, hM_up16, MX_eq0, tI_0, tI_1, trI_0, trI_1, trI_t, tI_or, v216_0, v216_1, v216_2, v216_3, v216_4, v216_5, v216_6, v216_7, v216_8, v216_9, v216_10, v216_11, h9, hp0, hp12, hcd, hv, hlt, Nat.not_le.mpr hlt]
      first | done | exact hq | ((repeat' (first | with_reducible refine And.intro ?_ ?_ | with_reducible intro _)) <;> (first | assumption | exact hI | (refine hF ?_; simp [-Int32.not_lt, -Int32.not_le, -Int64.not_lt, -Int64.not_le, *]; done) | (refine hT ?_; simp [-Int32.not_lt, -Int32.not_le, -Int64.not_lt, -Int64.not_le, *]; done) | (simp [-Int32.not_lt, -Int32.not_le, -Int64.not_lt, -Int64.not_le, *] at hq; exact hq) | (simp [-Int32.not_lt, -Int32.not_le, -Int64.not_lt, -Int64.not_le, *] at hI; exact hI) | (refine EX.subL ?_ hI; simp [subL]; done) | (refine EX.subL ?_ (hF ?_) <;> simp [subL, -Int32.not_lt, -Int32.not_le, -Int64.not_lt, -Int64.not_le, *]; done) | (refine EX.subL ?_ (hT ?_) <;> simp [subL, -Int32.not_lt, -Int32.not_le, -Int64.not_lt, -Int64.not_le, *]; done) | (simp [-Int32.not_lt, -Int32.not_le, -Int64.not_lt, -Int64.not_le, *] at hI; refine EX.subL ?_ hI; simp [subL]; done) | (exact absurd (by assumption) (by assumption)) | (simp [-Int32.not_lt, -Int32.not_le, -Int64.not_lt, -Int64.not_le, *] at hI ⊢; refine EX.subL ?_ hI; simp [subL]; done) | (simp [-Int32.not_lt, -Int32.not_le, -Int64.not_lt, -Int64.not_le, *] at hq ⊢; exact hq) | (apply hF; simp_all [-Int32.not_lt, -Int32.not_le, -Int64.not_lt, -Int64.not_le]; done) | (apply hT; simp_all [-Int32.not_lt, -Int32.not_le, -Int64.not_lt, -Int64.not_le]; done) | (simp_all [-Int32.not_lt, -Int32.not_le, -Int64.not_lt, -Int64.not_le]; done))) | fail
  have hL := loop (nR S) 0 (by omega)
  rw [fa_fill_0, nI_0] at hL
  refine Runs.of (by decide +kernel) (Nat.le_of_ble_eq_true rfl) (X_M_senses_0 (W25_ok G) (genJ (P := fun J => exB _ _ _ _ (J 40) _ _ _ _ _ _ _ _) (fun J hJ => ?_)))
  simp [exB, hJ, exT, stp, lv_args, Value.category, lkL, stL1, stL2, insL, contX, q_ofNat, f4_3, nI_1, -Int32.not_lt, -Int32.not_le, -Int64.not_lt, -Int64.not_le, T_M_senses_10, T_M_senses_42, T_M_senses_45, T_M_senses_96, T_M_senses_104, T_M_senses_110, R_M_senses, C_M_senses, M_M_senses, HH_M_senses, KI_0, KB_9, KI_5, KI_1, KI_m1, -Int32.reduceOfInt, -Int8.reduceOfInt, -Int16.reduceOfInt, -Int32.ofInt_neg, O_M_senses_M_truth, C_M_truth, M_M_truth, W25_M_truth, rx_M_truth, O_M_senses_M_of, C_M_of, M_M_of, W25_M_of, rx_M_of, O_M_senses_M_lays, C_M_lays, M_M_lays, W25_M_lays, rx_M_lays, O_M_senses_M_between, C_M_between, M_M_between, W25_M_between, rx_M_between, O_M_senses_M_staysPossible, C_M_staysPossible, M_M_staysPossible, W25_M_staysPossible, rx_M_staysPossible, O_M_senses_M_tellsWhy, C_M_tellsWhy, M_M_tellsWhy, W25_M_tellsWhy, rx_M_tellsWhy, O_M_senses_M_excludes, C_M_excludes, M_M_excludes, W25_M_excludes, rx_M_excludes, A_r, A_ri, A_rii, A_riii, A_riiii, A_rr, A_rl, A_i, A_ii, A_iii, A_lll, A_l, A_li, hM_0, hM_1, hM_2, hM_3, hM_4, hM_5, hM_6, hM_7, hM_8, hM_9, hM_10, hM_11, hM_12, hM_13, hM_14, hM_15, hM_16, hM_up0, hM_up1, hM_up2, hM_up3, hM_up4, hM_up5, hM_up6, hM_up7, hM_up8, hM_up9, hM_up10, hM_up11, hM_up12, hM_up13, hM_up14, hM_up15, hM_up16, MX_eq0, tI_0, tI_1, trI_0, trI_1, trI_t, tI_or, v216_0, v216_1, v216_2, v216_3, v216_4, v216_5, v216_6, v216_7, v216_8, v216_9, v216_10, v216_11, hRW]
  try simp (disch := omega) [-Int64.not_lt, -Int64.not_le, -Int32.not_lt, -Int32.not_le, nI_z, nI_ltI, nI_leI, nI_1, nI_clamp, q_vp, nI_pos', rget_k, rset_k, lget_k, hup_hup, A_r, A_ri, A_rii, A_riii, A_riiii, A_rr, A_rl, A_i, A_ii, A_iii, A_lll, A_l, A_li, hM_0, hM_1, hM_2, hM_3, hM_4, hM_5, hM_6, hM_7, hM_8, hM_9, hM_10, hM_11, hM_12, hM_13, hM_14, hM_15, hM_16, hM_up0, hM_up1, hM_up2, hM_up3, hM_up4, hM_up5, hM_up6, hM_up7, hM_up8, hM_up9, hM_up10, hM_up11, hM_up12, hM_up13, hM_up14, hM_up15, hM_up16, MX_eq0, tI_0, tI_1, trI_0, trI_1, trI_t, tI_or, v216_0, v216_1, v216_2, v216_3, v216_4, v216_5, v216_6, v216_7, v216_8, v216_9, v216_10, v216_11, hRW]
  exact hL
def W26 (G : GG) : WF := (wcons 240 rx_M_senses (W25 G))
theorem W26_ok (G : GG) : WOK G (W26 G) := (wcons_ok (fun _ _ _ _ hx => r_M_senses hx) (W25_ok G))
end MS
