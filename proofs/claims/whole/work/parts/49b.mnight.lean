/-! 49b: a whole night of the reference -/
section MG
variable {G : GG} {as : List Value} {h : HM} {o : Option Nat} {Q : XQ}
set_option maxHeartbeats 600000 in
theorem r_M_night (hx : rx_M_night as h o Q) : Runs G m_M_night as h o Q := by
  obtain ⟨p, rfl, h0, ⟨Cd, Bu, Fi, By, At, Pl, So, Va, Er, Ep, Te, Tp, Wo, S, Sv, As, He, Pa, Un, Hs, Rp, Bf, Pt, Ot, Sc, Fs, Sn, Bg, Lp, Sd, Wh, Op, Ld, Pg, Pr⟩, rfl, -, ⟨hRW, hwd, ⟨k, hk, e11⟩, hdr⟩, hq⟩ := E_r hx
  dsimp only at *
  try simp only [hM_hM] at hq
  have hu11 : n1 S 11 = nI k := e11
  have e1 : upd S 7 (S 7 + 1) = n1 S := rfl
  have e2 : dsQ (n1 S) = n2 S := rfl
  rw [e11] at hdr
  have hRW1 : RW (n1 S) := RW_upd (by decide) (by decide) hRW
  have hidx : IDX 12 (nI k) := ⟨k, hk, rfl⟩
  have eto : dsM (n1 S) (nI k) = nTo S := by unfold nTo; rw [e11]
  have hck := nI_clamp (show k < 2 ^ 31 by omega)
  have hRW2 := n2_RW hRW
  have h92 : n2 S 9 = nI (nR S) := by have := hRW2.1; rw [n2_nR] at this; exact this
  have hJ : True := trivial
  refine Runs.of (by decide +kernel) (Nat.le_of_ble_eq_true rfl) ?_
  refine exB_ok (t := [(.aload_n 0, 1, 0, 0, 0, 0), (.getfield 20, 3, 11, 13, 0, 0), (.bipush 7, 2, 0, 0, 0, 0), (.dup2, 1, 0, 0, 0, 0), (.iaload, 1, 0, 0, 0, 0), (.iconst 1, 1, 0, 0, 0, 0), (.iadd, 1, 0, 0, 0, 0), (.iastore, 1, 0, 0, 0, 0)]) (W28_ok G) (jj := fun q L st h o k n => EX G m_M_night q L st h o k n Q) (fun q L st h o k n hq => hq) (by decide +kernel) ?_
  simp [exB, hJ, exT, stp, lv_args, Value.category, lkL, stL1, stL2, insL, contX, q_ofNat, f4_3, nI_1, -Int32.not_lt, -Int32.not_le, -Int64.not_lt, -Int64.not_le, T_M_night_27, T_M_night_68, T_M_night_69, T_M_night_79, T_M_night_107, T_M_night_108, T_M_night_134, T_M_night_135, R_M_night, C_M_night, M_M_night, HH_M_night, KB_7, KI_1, KB_11, KI_0, KB_9, KI_3, KI_2, KB_99, KB_8, -Int32.reduceOfInt, -Int8.reduceOfInt, -Int16.reduceOfInt, -Int32.ofInt_neg, O_M_night_M_truth, C_M_truth, M_M_truth, W28_M_truth, rx_M_truth, O_M_night_M_of, C_M_of, M_M_of, W28_M_of, rx_M_of, O_M_night_M_lays, C_M_lays, M_M_lays, W28_M_lays, rx_M_lays, O_M_night_M_destination, C_M_destination, M_M_destination, W28_M_destination, rx_M_destination, O_M_night_M_senses, C_M_senses, M_M_senses, W28_M_senses, rx_M_senses, A_r, A_ri, A_rii, A_riii, A_riiii, A_rr, A_rl, A_i, A_ii, A_iii, A_lll, A_l, A_li, hM_0, hM_1, hM_2, hM_3, hM_4, hM_5, hM_6, hM_7, hM_8, hM_9, hM_10, hM_11, hM_12, hM_13, hM_14, hM_15, hM_16, hM_up0, hM_up1, hM_up2, hM_up3, hM_up4, hM_up5, hM_up6, hM_up7, hM_up8, hM_up9, hM_up10, hM_up11, hM_up12, hM_up13, hM_up14, hM_up15, hM_up16, MX_eq0, tI_0, tI_1, trI_0, trI_1, trI_t, tI_or, v216_0, v216_1, v216_2, v216_3, v216_4, v216_5, v216_6, v216_7, v216_8, v216_9, v216_10, v216_11]
  try simp (disch := omega) [-Int64.not_lt, -Int64.not_le, -Int32.not_lt, -Int32.not_le, nI_z, nI_ltI, nI_leI, nI_1, nI_clamp, q_vp, nI_pos', rget_k, rset_k, lget_k, hup_hup, A_r, A_ri, A_rii, A_riii, A_riiii, A_rr, A_rl, A_i, A_ii, A_iii, A_lll, A_l, A_li, hM_0, hM_1, hM_2, hM_3, hM_4, hM_5, hM_6, hM_7, hM_8, hM_9, hM_10, hM_11, hM_12, hM_13, hM_14, hM_15, hM_16, hM_up0, hM_up1, hM_up2, hM_up3, hM_up4, hM_up5, hM_up6, hM_up7, hM_up8, hM_up9, hM_up10, hM_up11, hM_up12, hM_up13, hM_up14, hM_up15, hM_up16, MX_eq0, tI_0, tI_1, trI_0, trI_1, trI_t, tI_or, v216_0, v216_1, v216_2, v216_3, v216_4, v216_5, v216_6, v216_7, v216_8, v216_9, v216_10, v216_11]
  rw [e1]
  refine exB_ok (t := [(.aload_n 0, 1, 0, 0, 0, 0), (.getfield 20, 3, 11, 13, 0, 0), (.bipush 11, 2, 0, 0, 0, 0), (.iaload, 1, 0, 0, 0, 0), (.istore_n 1, 1, 0, 0, 0, 0), (.aload_n 0, 1, 0, 0, 0, 0), (.iload_n 1, 1, 0, 0, 0, 0), (.invokevirtual 232, 3, 231, 0, 1, 11), (.istore_n 2, 1, 0, 0, 0, 0), (.iconst 0, 1, 0, 0, 0, 0), (.istore_n 3, 1, 0, 0, 0, 0)]) (W28_ok G) (jj := fun q L st h o k n => EX G m_M_night q L st h o k n Q) (fun q L st h o k n hq => hq) (by decide +kernel) ?_
  simp [exB, hJ, exT, stp, lv_args, Value.category, lkL, stL1, stL2, insL, contX, q_ofNat, f4_3, nI_1, -Int32.not_lt, -Int32.not_le, -Int64.not_lt, -Int64.not_le, T_M_night_27, T_M_night_68, T_M_night_69, T_M_night_79, T_M_night_107, T_M_night_108, T_M_night_134, T_M_night_135, R_M_night, C_M_night, M_M_night, HH_M_night, KB_7, KI_1, KB_11, KI_0, KB_9, KI_3, KI_2, KB_99, KB_8, -Int32.reduceOfInt, -Int8.reduceOfInt, -Int16.reduceOfInt, -Int32.ofInt_neg, O_M_night_M_truth, C_M_truth, M_M_truth, W28_M_truth, rx_M_truth, O_M_night_M_of, C_M_of, M_M_of, W28_M_of, rx_M_of, O_M_night_M_lays, C_M_lays, M_M_lays, W28_M_lays, rx_M_lays, O_M_night_M_destination, C_M_destination, M_M_destination, W28_M_destination, rx_M_destination, O_M_night_M_senses, C_M_senses, M_M_senses, W28_M_senses, rx_M_senses, A_r, A_ri, A_rii, A_riii, A_riiii, A_rr, A_rl, A_i, A_ii, A_iii, A_lll, A_l, A_li, hM_0, hM_1, hM_2, hM_3, hM_4, hM_5, hM_6, hM_7, hM_8, hM_9, hM_10, hM_11, hM_12, hM_13, hM_14, hM_15, hM_16, hM_up0, hM_up1, hM_up2, hM_up3, hM_up4, hM_up5, hM_up6, hM_up7, hM_up8, hM_up9, hM_up10, hM_up11, hM_up12, hM_up13, hM_up14, hM_up15, hM_up16, MX_eq0, tI_0, tI_1, trI_0, trI_1, trI_t, tI_or, v216_0, v216_1, v216_2, v216_3, v216_4, v216_5, v216_6, v216_7, v216_8, v216_9, v216_10, v216_11, hM_hM, hu11, hRW1, hidx, hdr]
  try simp (disch := omega) [-Int64.not_lt, -Int64.not_le, -Int32.not_lt, -Int32.not_le, nI_z, nI_ltI, nI_leI, nI_1, nI_clamp, q_vp, nI_pos', rget_k, rset_k, lget_k, hup_hup, A_r, A_ri, A_rii, A_riii, A_riiii, A_rr, A_rl, A_i, A_ii, A_iii, A_lll, A_l, A_li, hM_0, hM_1, hM_2, hM_3, hM_4, hM_5, hM_6, hM_7, hM_8, hM_9, hM_10, hM_11, hM_12, hM_13, hM_14, hM_15, hM_16, hM_up0, hM_up1, hM_up2, hM_up3, hM_up4, hM_up5, hM_up6, hM_up7, hM_up8, hM_up9, hM_up10, hM_up11, hM_up12, hM_up13, hM_up14, hM_up15, hM_up16, MX_eq0, tI_0, tI_1, trI_0, trI_1, trI_t, tI_or, v216_0, v216_1, v216_2, v216_3, v216_4, v216_5, v216_6, v216_7, v216_8, v216_9, v216_10, v216_11, hM_hM, hu11, hRW1, hidx, hdr]
  rw [e2, eto]
  refine nightL (n := nR S) hRW.2.1 h92 ?_
  have hRW3 : ∀ c, RW (upd (n2 S) (12 + 9 * k + 2) c) := fun c => RW_upd (by omega) (by omega) hRW2
  have hWD3 : ∀ c, WD (upd (n2 S) (12 + 9 * k + 2) c) := fun c => WD_upd (by omega) (by omega) (n2_WD hwd)
  have e4 : fa_fill (fun t => tI (rpP (n2 S) t)) Rp (nR S) = nRp S Rp := rfl
  rw [e4]
  have e3 : n3 S = upd (n2 S) (12 + 9 * k + 2) (mnS (n2 S (12 + 9 * k + 2) + n2 S 1)) := by unfold n3; rw [e11, hck]
  unfold n5 n4 at hq
  rw [e3, e11] at hq
  have hp0 : 0 ≤ nI k := nI_pos' (by omega)
  have hp12 : nI k < 12 := (nI_ltI (b := 12) (by omega) (by decide)).mpr hk
  generalize nTo S = to at hq ⊢
  generalize nRp S Rp = rp at hq ⊢
  generalize n2 S = V at *
  clear hJ
  refine exB_ok (t := [(.aload_n 0, 1, 0, 0, 0, 0), (.iload_n 1, 1, 0, 0, 0, 0), (.iconst 2, 1, 0, 0, 0, 0), (.invokevirtual 179, 3, 216, 0, 2, 11), (.aload_n 0, 1, 0, 0, 0, 0), (.getfield 20, 3, 11, 13, 0, 0), (.iconst 1, 1, 0, 0, 0, 0), (.iaload, 1, 0, 0, 0, 0), (.iadd, 1, 0, 0, 0, 0), (.istore_n 3, 1, 0, 0, 0, 0), (.aload_n 0, 1, 0, 0, 0, 0), (.iload_n 1, 1, 0, 0, 0, 0), (.iconst 2, 1, 0, 0, 0, 0), (.iload_n 3, 1, 0, 0, 0, 0), (.bipush 99, 2, 0, 0, 0, 0), (.if_icmp .le 8, 3, 107, 0, 0, 0)]) (W28_ok G) (fun q L st h o k n hq => exF_ok (W28_ok G) T_M_night_ok (f := 40) hq) (by decide +kernel) ?_
  refine genJ (P := fun J => exB _ _ _ _ (J 40) _ _ _ _ _ _ _ _) (fun J hJ => ?_)
  simp [exB, hJ, exT, stp, lv_args, Value.category, lkL, stL1, stL2, insL, contX, q_ofNat, f4_3, nI_1, -Int32.not_lt, -Int32.not_le, -Int64.not_lt, -Int64.not_le, T_M_night_27, T_M_night_68, T_M_night_69, T_M_night_79, T_M_night_107, T_M_night_108, T_M_night_134, T_M_night_135, R_M_night, C_M_night, M_M_night, HH_M_night, KB_7, KI_1, KB_11, KI_0, KB_9, KI_3, KI_2, KB_99, KB_8, -Int32.reduceOfInt, -Int8.reduceOfInt, -Int16.reduceOfInt, -Int32.ofInt_neg, O_M_night_M_truth, C_M_truth, M_M_truth, W28_M_truth, rx_M_truth, O_M_night_M_of, C_M_of, M_M_of, W28_M_of, rx_M_of, O_M_night_M_lays, C_M_lays, M_M_lays, W28_M_lays, rx_M_lays, O_M_night_M_destination, C_M_destination, M_M_destination, W28_M_destination, rx_M_destination, O_M_night_M_senses, C_M_senses, M_M_senses, W28_M_senses, rx_M_senses, A_r, A_ri, A_rii, A_riii, A_riiii, A_rr, A_rl, A_i, A_ii, A_iii, A_lll, A_l, A_li, hM_0, hM_1, hM_2, hM_3, hM_4, hM_5, hM_6, hM_7, hM_8, hM_9, hM_10, hM_11, hM_12, hM_13, hM_14, hM_15, hM_16, hM_up0, hM_up1, hM_up2, hM_up3, hM_up4, hM_up5, hM_up6, hM_up7, hM_up8, hM_up9, hM_up10, hM_up11, hM_up12, hM_up13, hM_up14, hM_up15, hM_up16, MX_eq0, tI_0, tI_1, trI_0, trI_1, trI_t, tI_or, v216_0, v216_1, v216_2, v216_3, v216_4, v216_5, v216_6, v216_7, v216_8, v216_9, v216_10, v216_11, hM_hM, hp0, hp12, hck, hRW3, hWD3]
  try simp (disch := omega) [-Int64.not_lt, -Int64.not_le, -Int32.not_lt, -Int32.not_le, nI_z, nI_ltI, nI_leI, nI_1, nI_clamp, q_vp, nI_pos', rget_k, rset_k, lget_k, hup_hup, A_r, A_ri, A_rii, A_riii, A_riiii, A_rr, A_rl, A_i, A_ii, A_iii, A_lll, A_l, A_li, hM_0, hM_1, hM_2, hM_3, hM_4, hM_5, hM_6, hM_7, hM_8, hM_9, hM_10, hM_11, hM_12, hM_13, hM_14, hM_15, hM_16, hM_up0, hM_up1, hM_up2, hM_up3, hM_up4, hM_up5, hM_up6, hM_up7, hM_up8, hM_up9, hM_up10, hM_up11, hM_up12, hM_up13, hM_up14, hM_up15, hM_up16, MX_eq0, tI_0, tI_1, trI_0, trI_1, trI_t, tI_or, v216_0, v216_1, v216_2, v216_3, v216_4, v216_5, v216_6, v216_7, v216_8, v216_9, v216_10, v216_11, hM_hM, hp0, hp12, hck, hRW3, hWD3]
  refine ⟨fun c => ⟨fun c2 => ?_, fun c2 => ?_⟩, fun c => ?_⟩
  · simp only [mnS, if_pos c, if_pos c2, Int32.add_zero] at hq; exact hq
  · simp only [mnS, if_pos c, if_neg c2] at hq; exact hq
  · simp only [mnS, if_neg c] at hq
    clear hJ J
    refine exB_ok (t := [(.bipush 99, 2, 0, 0, 0, 0), (.goto 4, 3, 108, 0, 0, 0)]) (W28_ok G) (fun q L st h o k n hq => exF_ok (W28_ok G) T_M_night_ok (f := 40) hq) (by decide +kernel) ?_
    refine genJ (P := fun J => exB _ _ _ _ (J 40) _ _ _ _ _ _ _ _) (fun J hJ => ?_)
    simp [exB, hJ, exT, stp, lv_args, Value.category, lkL, stL1, stL2, insL, contX, q_ofNat, f4_3, nI_1, -Int32.not_lt, -Int32.not_le, -Int64.not_lt, -Int64.not_le, T_M_night_27, T_M_night_68, T_M_night_69, T_M_night_79, T_M_night_107, T_M_night_108, T_M_night_134, T_M_night_135, R_M_night, C_M_night, M_M_night, HH_M_night, KB_7, KI_1, KB_11, KI_0, KB_9, KI_3, KI_2, KB_99, KB_8, -Int32.reduceOfInt, -Int8.reduceOfInt, -Int16.reduceOfInt, -Int32.ofInt_neg, O_M_night_M_truth, C_M_truth, M_M_truth, W28_M_truth, rx_M_truth, O_M_night_M_of, C_M_of, M_M_of, W28_M_of, rx_M_of, O_M_night_M_lays, C_M_lays, M_M_lays, W28_M_lays, rx_M_lays, O_M_night_M_destination, C_M_destination, M_M_destination, W28_M_destination, rx_M_destination, O_M_night_M_senses, C_M_senses, M_M_senses, W28_M_senses, rx_M_senses, A_r, A_ri, A_rii, A_riii, A_riiii, A_rr, A_rl, A_i, A_ii, A_iii, A_lll, A_l, A_li, hM_0, hM_1, hM_2, hM_3, hM_4, hM_5, hM_6, hM_7, hM_8, hM_9, hM_10, hM_11, hM_12, hM_13, hM_14, hM_15, hM_16, hM_up0, hM_up1, hM_up2, hM_up3, hM_up4, hM_up5, hM_up6, hM_up7, hM_up8, hM_up9, hM_up10, hM_up11, hM_up12, hM_up13, hM_up14, hM_up15, hM_up16, MX_eq0, tI_0, tI_1, trI_0, trI_1, trI_t, tI_or, v216_0, v216_1, v216_2, v216_3, v216_4, v216_5, v216_6, v216_7, v216_8, v216_9, v216_10, v216_11, hM_hM, hp0, hp12, hck, hRW3, hWD3]
    try simp (disch := omega) [-Int64.not_lt, -Int64.not_le, -Int32.not_lt, -Int32.not_le, nI_z, nI_ltI, nI_leI, nI_1, nI_clamp, q_vp, nI_pos', rget_k, rset_k, lget_k, hup_hup, A_r, A_ri, A_rii, A_riii, A_riiii, A_rr, A_rl, A_i, A_ii, A_iii, A_lll, A_l, A_li, hM_0, hM_1, hM_2, hM_3, hM_4, hM_5, hM_6, hM_7, hM_8, hM_9, hM_10, hM_11, hM_12, hM_13, hM_14, hM_15, hM_16, hM_up0, hM_up1, hM_up2, hM_up3, hM_up4, hM_up5, hM_up6, hM_up7, hM_up8, hM_up9, hM_up10, hM_up11, hM_up12, hM_up13, hM_up14, hM_up15, hM_up16, MX_eq0, tI_0, tI_1, trI_0, trI_1, trI_t, tI_or, v216_0, v216_1, v216_2, v216_3, v216_4, v216_5, v216_6, v216_7, v216_8, v216_9, v216_10, v216_11, hM_hM, hp0, hp12, hck, hRW3, hWD3]
    refine ⟨fun c2 => ?_, fun c2 => ?_⟩
    · simp only [if_pos c2, Int32.add_zero] at hq; exact hq
    · simp only [if_neg c2] at hq; exact hq
def W29 (G : GG) : WF := (wcons 241 rx_M_night (W28 G))
theorem W29_ok (G : GG) : WOK G (W29 G) := (wcons_ok (fun _ _ _ _ hx => r_M_night hx) (W28_ok G))
end MG
