/-! 49: a night of the reference -/
def mnS (x : Int32) : Int32 := if x ≤ 99 then x else 99
def rpP (s : Nat → Int32) (t : Nat) : Bool := if s (12 + 9 * t + 3) = 1 then (if 99 ≤ s (12 + 9 * t + 2) then false else true) else false
def n1 (s : Nat → Int32) : Nat → Int32 := upd s 7 (s 7 + 1)
def n2 (s : Nat → Int32) : Nat → Int32 := dsQ (n1 s)
def nTo (s : Nat → Int32) : Int32 := dsM (n1 s) (s 11)
def nRp (s rp : Nat → Int32) : Nat → Int32 := fa_fill (fun t => tI (rpP (n2 s) t)) rp (nR s)
def n3 (s : Nat → Int32) : Nat → Int32 := upd (n2 s) (12 + 9 * (s 11).toNatClampNeg + 2) (mnS (n2 s (12 + 9 * (s 11).toNatClampNeg + 2) + n2 s 1))
def n4 (s rp bf : Nat → Int32) : Nat → Int32 := senF (n3 s) (nR (n3 s)) (senV (n3 s) (nRp s rp) (senB (n3 s) bf) (s 11) (btw (n3 s) (s 11) (nTo s)))
def n5 (s rp bf : Nat → Int32) : Nat → Int32 := upd (upd (n4 s rp bf) 8 (n4 s rp bf 8 + (if nTo s = s 11 then 0 else 1))) 11 (nTo s)
theorem WD_upd {s : Nat → Int32} {i : Nat} {v : Int32} (h10 : i ≠ 10) (hi : i < 120) (hw : WD s) : WD (upd s i v) := by
  have e10 : upd s i v 10 = s 10 := if_neg (fun e => h10 e.symm)
  intro d hd
  have hd : d < nD s := by unfold nD at hd ⊢; rw [e10] at hd; exact hd
  have e1 : upd s i v (120 + 4 * d) = s (120 + 4 * d) := if_neg (by omega)
  have e2 : upd s i v (120 + 4 * d + 1) = s (120 + 4 * d + 1) := if_neg (by omega)
  rw [e1, e2]
  exact hw d hd
theorem dsQ_ind {P : (Nat → Int32) → Prop} {s : Nat → Int32} (h0 : P s) (h1 : P (drS s)) : P (dsQ s) := by
  unfold dsQ; split
  · exact h0
  · split
    · exact h0
    · exact h1
theorem nR_upd {s : Nat → Int32} {i : Nat} {v : Int32} (h : i ≠ 9) : nR (upd s i v) = nR s := by
  have e9 : upd s i v 9 = s 9 := if_neg (fun e => h e.symm)
  unfold nR; rw [e9]
theorem n2_RW {s : Nat → Int32} (h : RW s) : RW (n2 s) := dsQ_ind (P := RW) (RW_upd (by decide) (by decide) h) (RW_upd (by decide) (by decide) (RW_upd (by decide) (by decide) h))
theorem n2_WD {s : Nat → Int32} (h : WD s) : WD (n2 s) := dsQ_ind (P := WD) (WD_upd (by decide) (by decide) h) (WD_upd (by decide) (by decide) (WD_upd (by decide) (by decide) h))
theorem n2_nR {s : Nat → Int32} : nR (n2 s) = nR s := dsQ_ind (P := fun t => nR t = nR s) (nR_upd (by decide)) ((nR_upd (by decide)).trans (nR_upd (by decide)))
theorem n3_RW {s : Nat → Int32} (h : RW s) : RW (n3 s) := RW_upd (by omega) (by omega) (n2_RW h)
theorem n3_WD {s : Nat → Int32} {k : Nat} (hk : k < 12) (e : s 11 = nI k) (h : WD s) : WD (n3 s) := WD_upd (by omega) (by rw [e, nI_clamp (by omega)]; omega) (n2_WD h)
def rx_M_night (as : List Value) (h : HM) (o : Option Nat) (Q : XQ) : Prop := A_r as fun p  => MX h p fun T => (RW T.2.2.2.2.2.2.2.2.2.2.2.2.2.1 ∧ WD T.2.2.2.2.2.2.2.2.2.2.2.2.2.1 ∧ IDX 12 (T.2.2.2.2.2.2.2.2.2.2.2.2.2.1 11) ∧ DRW (n1 T.2.2.2.2.2.2.2.2.2.2.2.2.2.1) (T.2.2.2.2.2.2.2.2.2.2.2.2.2.1 11)) ∧ Q (.inl none) (hM h p (T.1, T.2.1, T.2.2.1, T.2.2.2.1, T.2.2.2.2.1, T.2.2.2.2.2.1, T.2.2.2.2.2.2.1, T.2.2.2.2.2.2.2.1, T.2.2.2.2.2.2.2.2.1, T.2.2.2.2.2.2.2.2.2.1, T.2.2.2.2.2.2.2.2.2.2.1, T.2.2.2.2.2.2.2.2.2.2.2.1, T.2.2.2.2.2.2.2.2.2.2.2.2.1, n5 T.2.2.2.2.2.2.2.2.2.2.2.2.2.1 T.2.2.2.2.2.2.2.2.2.2.2.2.2.2.2.2.2.2.2.2.1 T.2.2.2.2.2.2.2.2.2.2.2.2.2.2.2.2.2.2.2.2.2.1, T.2.2.2.2.2.2.2.2.2.2.2.2.2.2.1, T.2.2.2.2.2.2.2.2.2.2.2.2.2.2.2.1, T.2.2.2.2.2.2.2.2.2.2.2.2.2.2.2.2.1, T.2.2.2.2.2.2.2.2.2.2.2.2.2.2.2.2.2.1, T.2.2.2.2.2.2.2.2.2.2.2.2.2.2.2.2.2.2.1, T.2.2.2.2.2.2.2.2.2.2.2.2.2.2.2.2.2.2.2.1, nRp T.2.2.2.2.2.2.2.2.2.2.2.2.2.1 T.2.2.2.2.2.2.2.2.2.2.2.2.2.2.2.2.2.2.2.2.1, senB (n3 T.2.2.2.2.2.2.2.2.2.2.2.2.2.1) T.2.2.2.2.2.2.2.2.2.2.2.2.2.2.2.2.2.2.2.2.2.1, T.2.2.2.2.2.2.2.2.2.2.2.2.2.2.2.2.2.2.2.2.2.2.1, T.2.2.2.2.2.2.2.2.2.2.2.2.2.2.2.2.2.2.2.2.2.2.2.1, T.2.2.2.2.2.2.2.2.2.2.2.2.2.2.2.2.2.2.2.2.2.2.2.2.1, T.2.2.2.2.2.2.2.2.2.2.2.2.2.2.2.2.2.2.2.2.2.2.2.2.2.1, T.2.2.2.2.2.2.2.2.2.2.2.2.2.2.2.2.2.2.2.2.2.2.2.2.2.2.1, T.2.2.2.2.2.2.2.2.2.2.2.2.2.2.2.2.2.2.2.2.2.2.2.2.2.2.2.1, T.2.2.2.2.2.2.2.2.2.2.2.2.2.2.2.2.2.2.2.2.2.2.2.2.2.2.2.2.1, T.2.2.2.2.2.2.2.2.2.2.2.2.2.2.2.2.2.2.2.2.2.2.2.2.2.2.2.2.2.1, T.2.2.2.2.2.2.2.2.2.2.2.2.2.2.2.2.2.2.2.2.2.2.2.2.2.2.2.2.2.2.1, T.2.2.2.2.2.2.2.2.2.2.2.2.2.2.2.2.2.2.2.2.2.2.2.2.2.2.2.2.2.2.2.1, T.2.2.2.2.2.2.2.2.2.2.2.2.2.2.2.2.2.2.2.2.2.2.2.2.2.2.2.2.2.2.2.2.1, T.2.2.2.2.2.2.2.2.2.2.2.2.2.2.2.2.2.2.2.2.2.2.2.2.2.2.2.2.2.2.2.2.2.1, T.2.2.2.2.2.2.2.2.2.2.2.2.2.2.2.2.2.2.2.2.2.2.2.2.2.2.2.2.2.2.2.2.2.2)) o
section MG
variable {G : GG} {as : List Value} {h : HM} {o : Option Nat} {Q : XQ}
theorem HH_M_night : mHH 241 = [] := rfl
theorem W28_M_truth {G : GG} {as : List Value} {h : HM} {o : Option Nat} {Q : XQ} : RX G (W28 G) 179 as h o Q = rx_M_truth as h o Q := rfl
theorem W28_M_of {G : GG} {as : List Value} {h : HM} {o : Option Nat} {Q : XQ} : RX G (W28 G) 216 as h o Q = rx_M_of as h o Q := rfl
theorem W28_M_lays {G : GG} {as : List Value} {h : HM} {o : Option Nat} {Q : XQ} : RX G (W28 G) 217 as h o Q = rx_M_lays as h o Q := rfl
theorem W28_M_destination {G : GG} {as : List Value} {h : HM} {o : Option Nat} {Q : XQ} : RX G (W28 G) 231 as h o Q = rx_M_destination as h o Q := rfl
theorem W28_M_senses {G : GG} {as : List Value} {h : HM} {o : Option Nat} {Q : XQ} : RX G (W28 G) 240 as h o Q = rx_M_senses as h o Q := rfl
theorem nightL {p : Nat} {h0 : HM} {Cd : Int32} {Bu : Nat → Int32} {Fi By At Pl So Va Er Ep Te Tp : Int32} {Wo : Int64} {S Sv As He Pa : Nat → Int32} {Un Hs : Int32} {Rp Bf Pt Ot Sc Fs Sn Bg Lp : Nat → Int32} {Sd Wh Op Ld : Int32} {Pg : Nat → Int32} {Pr g to : Int32} {n : Nat} (hn : n ≤ 12) (h9 : S 9 = nI n) (hend : EX G m_M_night 79 [(0, .ref p), (1, .int g), (2, .int to), (3, .int (nI n))] [] (hM h0 p (Cd, Bu, Fi, By, At, Pl, So, Va, Er, Ep, Te, Tp, Wo, S, Sv, As, He, Pa, Un, Hs, fa_fill (fun t => tI (rpP S t)) Rp n, Bf, Pt, Ot, Sc, Fs, Sn, Bg, Lp, Sd, Wh, Op, Ld, Pg, Pr)) o 0 0 Q) : EX G m_M_night 27 [(0, .ref p), (1, .int g), (2, .int to), (3, .int 0)] [] (hM h0 p (Cd, Bu, Fi, By, At, Pl, So, Va, Er, Ep, Te, Tp, Wo, S, Sv, As, He, Pa, Un, Hs, Rp, Bf, Pt, Ot, Sc, Fs, Sn, Bg, Lp, Sd, Wh, Op, Ld, Pg, Pr)) o 0 0 Q := by
  have loop : ∀ j d : Nat, d + j = n → EX G m_M_night 27 [(0, .ref p), (1, .int g), (2, .int to), (3, .int (nI d))] [] (hM h0 p (Cd, Bu, Fi, By, At, Pl, So, Va, Er, Ep, Te, Tp, Wo, S, Sv, As, He, Pa, Un, Hs, fa_fill (fun t => tI (rpP S t)) Rp d, Bf, Pt, Ot, Sc, Fs, Sn, Bg, Lp, Sd, Wh, Op, Ld, Pg, Pr)) o 0 0 Q := by
    intro j
    induction j with
    | zero =>
      intro d hd2 
      obtain rfl : d = n := by omega
      have hJ : True := trivial
      refine exB_ok (t := [(.iload_n 3, 1, 0, 0, 0, 0), (.aload_n 0, 1, 0, 0, 0, 0), (.getfield 20, 3, 11, 13, 0, 0), (.bipush 9, 2, 0, 0, 0, 0), (.iaload, 1, 0, 0, 0, 0), (.if_icmp .ge 44, 3, 79, 0, 0, 0)]) (W28_ok G) (jj := fun q L st h o k n => EX G m_M_night q L st h o k n Q) (fun q L st h o k n hq => hq) (by decide +kernel) ?_
      simp [exB, hJ, exT, stp, lv_args, Value.category, lkL, stL1, stL2, insL, contX, q_ofNat, f4_3, nI_1, -Int32.not_lt, -Int32.not_le, -Int64.not_lt, -Int64.not_le, T_M_night_27, T_M_night_68, T_M_night_69, T_M_night_79, T_M_night_107, T_M_night_108, T_M_night_134, T_M_night_135, R_M_night, C_M_night, M_M_night, HH_M_night, KB_7, KI_1, KB_11, KI_0, KB_9, KI_3, KI_2, KB_99, KB_8, -Int32.reduceOfInt, -Int8.reduceOfInt, -Int16.reduceOfInt, -Int32.ofInt_neg, O_M_night_M_truth, C_M_truth, M_M_truth, W28_M_truth, rx_M_truth, O_M_night_M_of, C_M_of, M_M_of, W28_M_of, rx_M_of, O_M_night_M_lays, C_M_lays, M_M_lays, W28_M_lays, rx_M_lays, O_M_night_M_destination, C_M_destination, M_M_destination, W28_M_destination, rx_M_destination, O_M_night_M_senses, C_M_senses, M_M_senses, W28_M_senses, rx_M_senses, A_r, A_ri, A_rii, A_riii, A_riiii, A_rr, A_rl, A_i, A_ii, A_iii, A_lll, A_l, A_li, hM_0, hM_1, hM_2, hM_3, hM_4, hM_5, hM_6, hM_7, hM_8, hM_9, hM_10, hM_11, hM_12, hM_13, hM_14, hM_15, hM_16, hM_up0, hM_up1, hM_up2, hM_up3, hM_up4, hM_up5, hM_up6, hM_up7, hM_up8, hM_up9, hM_up10, hM_up11, hM_up12, hM_up13, hM_up14, hM_up15, hM_up16, MX_eq0, tI_0, tI_1, trI_0, trI_1, trI_t, tI_or, v216_0, v216_1, v216_2, v216_3, v216_4, v216_5, v216_6, v216_7, v216_8, v216_9, v216_10, v216_11, h9, Int32.le_refl]
      try simp (disch := omega) [-Int64.not_lt, -Int64.not_le, -Int32.not_lt, -Int32.not_le, nI_z, nI_ltI, nI_leI, nI_1, nI_clamp, q_vp, nI_pos', rget_k, rset_k, lget_k, hup_hup, A_r, A_ri, A_rii, A_riii, A_riiii, A_rr, A_rl, A_i, A_ii, A_iii, A_lll, A_l, A_li, hM_0, hM_1, hM_2, hM_3, hM_4, hM_5, hM_6, hM_7, hM_8, hM_9, hM_10, hM_11, hM_12, hM_13, hM_14, hM_15, hM_16, hM_up0, hM_up1, hM_up2, hM_up3, hM_up4, hM_up5, hM_up6, hM_up7, hM_up8, hM_up9, hM_up10, hM_up11, hM_up12, hM_up13, hM_up14, hM_up15, hM_up16, MX_eq0, tI_0, tI_1, trI_0, trI_1, trI_t, tI_or, v216_0, v216_1, v216_2, v216_3, v216_4, v216_5, v216_6, v216_7, v216_8, v216_9, v216_10, v216_11, h9, Int32.le_refl]
      exact hend
    | succ j ih =>
      intro d hd2 
      have hlt : d < n := by omega
      have hI := ih (d + 1) (by omega) 
      rw [← fa_fill_succ] at hI
      have hx12 : d < 12 := by omega
      have hp0 : 0 ≤ nI d := nI_pos' (by omega)
      have hp12 : nI d < 12 := (nI_ltI (b := 12) (by omega) (by decide)).mpr hx12
      have hcd := nI_clamp (show d < 2 ^ 31 by omega)
      have hv : vp_in (nI d) 12 := vp_in_nI (by omega) (by decide)
      refine X_M_night_27 (W28_ok G) (genJ (P := fun J => exB _ _ _ _ (J 40) _ _ _ _ _ _ _ _) (fun J hJ => ?_))
      simp [exB, hJ, exT, stp, lv_args, Value.category, lkL, stL1, stL2, insL, contX, q_ofNat, f4_3, nI_1, -Int32.not_lt, -Int32.not_le, -Int64.not_lt, -Int64.not_le, T_M_night_27, T_M_night_68, T_M_night_69, T_M_night_79, T_M_night_107, T_M_night_108, T_M_night_134, T_M_night_135, R_M_night, C_M_night, M_M_night, HH_M_night, KB_7, KI_1, KB_11, KI_0, KB_9, KI_3, KI_2, KB_99, KB_8, -Int32.reduceOfInt, -Int8.reduceOfInt, -Int16.reduceOfInt, -Int32.ofInt_neg, O_M_night_M_truth, C_M_truth, M_M_truth, W28_M_truth, rx_M_truth, O_M_night_M_of, C_M_of, M_M_of, W28_M_of, rx_M_of, O_M_night_M_lays, C_M_lays, M_M_lays, W28_M_lays, rx_M_lays, O_M_night_M_destination, C_M_destination, M_M_destination, W28_M_destination, rx_M_destination, O_M_night_M_senses, C_M_senses, M_M_senses, W28_M_senses, rx_M_senses, A_r, A_ri, A_rii, A_riii, A_riiii, A_rr, A_rl, A_i, A_ii, A_iii, A_lll, A_l, A_li, hM_0, hM_1, hM_2, hM_3, hM_4, hM_5, hM_6, hM_7, hM_8, hM_9, hM_10, hM_11, hM_12, hM_13, hM_14, hM_15, hM_16, hM_up0, hM_up1, hM_up2, hM_up3, hM_up4, hM_up5, hM_up6, hM_up7, hM_up8, hM_up9, hM_up10, hM_up11, hM_up12, hM_up13, hM_up14, hM_up15, hM_up16, MX_eq0, tI_0, tI_1, trI_0, trI_1, trI_t, tI_or, v216_0, v216_1, v216_2, v216_3, v216_4, v216_5, v216_6, v216_7, v216_8, v216_9, v216_10, v216_11, h9, hp0, hp12, hcd, hv, trI_0, trI_1, hlt, Nat.not_le.mpr hlt]
      try simp (disch := omega) [-Int64.not_lt, -Int64.not_le, -Int32.not_lt, -Int32.not_le, nI_z, nI_ltI, nI_leI, nI_1, nI_clamp, q_vp, nI_pos', rget_k, rset_k, lget_k, hup_hup, A_r, A_ri, A_rii, A_riii, A_riiii, A_rr, A_rl, A_i, A_ii, A_iii, A_lll, A_l, A_li, hM_0, hM_1, hM_2, hM_3, hM_4, hM_5, hM_6, hM_7, hM_8, hM_9, hM_10, hM_11, hM_12, hM_13, hM_14, hM_15, hM_16, hM_up0, hM_up1, hM_up2, hM_up3, hM_up4, hM_up5, hM_up6, hM_up7, hM_up8, hM_up9, hM_up10, hM_up11, hM_up12, hM_up13, hM_up14, hM_up15, hM_up16, MX_eq0, tI_0, tI_1, trI_0, trI_1, trI_t, tI_or, v216_0, v216_1, v216_2, v216_3, v216_4, v216_5, v216_6, v216_7, v216_8, v216_9, v216_10, v216_11, h9, hp0, hp12, hcd, hv, trI_0, trI_1, hlt, Nat.not_le.mpr hlt]
      first | done | exact hq | ((repeat' (first | with_reducible refine And.intro ?_ ?_ | with_reducible intro _)) <;> (first | assumption | exact hI | (refine hF ?_; simp [rpP, -Int32.not_lt, -Int32.not_le, -Int64.not_lt, -Int64.not_le, *]; done) | (refine hT ?_; simp [rpP, -Int32.not_lt, -Int32.not_le, -Int64.not_lt, -Int64.not_le, *]; done) | (simp [rpP, -Int32.not_lt, -Int32.not_le, -Int64.not_lt, -Int64.not_le, *] at hq; exact hq) | (simp [rpP, -Int32.not_lt, -Int32.not_le, -Int64.not_lt, -Int64.not_le, *] at hI; exact hI) | (refine EX.subL ?_ hI; simp [subL]; done) | (refine EX.subL ?_ (hF ?_) <;> simp [subL, rpP, -Int32.not_lt, -Int32.not_le, -Int64.not_lt, -Int64.not_le, *]; done) | (refine EX.subL ?_ (hT ?_) <;> simp [subL, rpP, -Int32.not_lt, -Int32.not_le, -Int64.not_lt, -Int64.not_le, *]; done) | (simp [rpP, -Int32.not_lt, -Int32.not_le, -Int64.not_lt, -Int64.not_le, *] at hI; refine EX.subL ?_ hI; simp [subL]; done) | (exact absurd (by assumption) (by assumption)) | (simp [rpP, -Int32.not_lt, -Int32.not_le, -Int64.not_lt, -Int64.not_le, *] at hI ⊢; refine EX.subL ?_ hI; simp [subL]; done) | (simp [rpP, -Int32.not_lt, -Int32.not_le, -Int64.not_lt, -Int64.not_le, *] at hq ⊢; exact hq) | (apply hF; simp_all [rpP, -Int32.not_lt, -Int32.not_le, -Int64.not_lt, -Int64.not_le]; done) | (apply hT; simp_all [rpP, -Int32.not_lt, -Int32.not_le, -Int64.not_lt, -Int64.not_le]; done) | (simp_all [rpP, -Int32.not_lt, -Int32.not_le, -Int64.not_lt, -Int64.not_le]; done))) | fail
  have hL := loop n 0 (by omega)
  rw [fa_fill_0, nI_0] at hL
  exact hL
end MG
