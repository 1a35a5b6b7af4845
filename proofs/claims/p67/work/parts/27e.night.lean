/-! 27e: a night of the class -/
theorem bcF_lt (x : Int32) : ∃ k, k < 64 ∧ bcF x = nI k := by
  obtain ⟨n, hn, e⟩ := wb_of32 (bc5 (bc4 (bc3 (bc2 (bc1 x)))))
  refine ⟨n % 64, Nat.mod_lt _ (by decide), ?_⟩
  unfold bcF
  rw [e]
  exact fa_mask n 6
theorem bcF_ne (x : Int32) : ¬ bcF x + 1 = 0 := by
  obtain ⟨k, hk, e⟩ := bcF_lt x
  rw [e, nI_1]
  exact nI_ne0 (by omega) (by omega)
section NI
variable {G : GG} {as : List Value} {h : HM} {o : Option Nat} {Q : XQ}
set_option maxRecDepth 2000 in
set_option maxHeartbeats 200000 in
theorem r_Night_randomRoom (hx : rx_Night_randomRoom as h o Q) : Runs G m_Night_randomRoom as h o Q := by
  obtain ⟨p, ar, rfl, h0, ⟨nm, co, re, ev, so, lo, hi, no, se, rc, dc, od, th, mi, po, gh, nn, gm, cs⟩, rfl, ⟨hr, hd⟩, hq⟩ := E_ri hx
  dsimp only at *
  try simp only [hH_hH] at hq
  have hok : HOK (nm, co, re, ev, so, lo, hi, no, se, rc, dc, od, th, mi, po, gh, nn, gm, cs) := ⟨hr, hd⟩
  unfold rdF rdS at hq
  refine Runs.of (by decide +kernel) (Nat.le_of_ble_eq_true rfl) ?_
  refine exB_ok (t := [(.iconst 5, 1, 0, 0, 0, 0), (.aload_n 0, 1, 0, 0, 0, 0), (.getfield 69, 3, 3, 8, 0, 0), (.iconst 4, 1, 0, 0, 0, 0), (.invokevirtual 64, 3, 61, 0, 1, 7), (.imul, 1, 0, 0, 0, 0), (.iconst 3, 1, 0, 0, 0, 0), (.iadd, 1, 0, 0, 0, 0), (.bipush 15, 2, 0, 0, 0, 0), (.iand, 1, 0, 0, 0, 0), (.istore_n 2, 1, 0, 0, 0, 0)]) (W11_ok G) (fun q L st h o k n hq => exF_ok (W11_ok G) T_Night_randomRoom_ok (f := 40) hq) (by decide +kernel) ?_
  refine genJ (P := fun J => exB _ _ _ _ (J 40) _ _ _ _ _ _ _ _) (fun J hJ => ?_)
  simp [exB, hJ, exT, stp, lv_args, Value.category, lkL, stL1, stL2, insL, contX, q_ofNat, f4_3, nI_1, -Int32.not_lt, -Int32.not_le, T_Night_randomRoom_39, T_Night_randomRoom_49, T_Night_randomRoom_83, T_Night_randomRoom_89, R_Night_randomRoom, C_Night_randomRoom, M_Night_randomRoom, HH_Night_randomRoom, KI_5, KI_4, KI_3, KB_15, KI_1, KI_0, KI_m1, -Int32.reduceOfInt, -Int8.reduceOfInt, -Int16.reduceOfInt, -Int32.ofInt_neg, O_Night_randomRoom_Row_get, C_Row_get, M_Row_get, W11_Row_get, rx_Row_get, O_Night_randomRoom_Row_set, C_Row_set, M_Row_set, W11_Row_set, rx_Row_set, O_Night_randomRoom_G_contains, C_G_contains, M_G_contains, W11_G_contains, rx_G_contains, O_Night_randomRoom_Integer_bitCount, C_Integer_bitCount, M_Integer_bitCount, W11_Integer_bitCount, rx_Integer_bitCount, A_r, A_ri, A_rii, A_riii, A_riiii, A_rlii, A_rr, A_rl, A_i, A_ii, A_iii, HR, HI, hH_0, hH_1, hH_2, hH_3, hH_4, hH_5, hH_6, hH_7, hH_8, hH_9, hH_10, hH_11, hH_12, hH_13, hH_14, hH_15, hH_16, hH_17, hH_up0, hH_up1, hH_up3, hH_up5, hH_up7, hH_up9, hH_up11, hH_up13, hH_up15, hH_up17, hH_hH, HX_eq hok, HX_eq2, hr, hd, tI_0, tI_1, tI_or, rg6_0, rg6_1, rg6_2, rg6_3, rg6_4, rg6_5, lg_cmp_eq, A_i]
  try simp (disch := omega) [-Int32.not_lt, -Int32.not_le, nI_z, nI_ltI, nI_leI, nI_1, nI_clamp, q_vp, nI_pos', rget_k, rset_k, lget_k, hup_hup, A_r, A_ri, A_rii, A_riii, A_riiii, A_rlii, A_rr, A_rl, A_i, A_ii, A_iii, HR, HI, hH_0, hH_1, hH_2, hH_3, hH_4, hH_5, hH_6, hH_7, hH_8, hH_9, hH_10, hH_11, hH_12, hH_13, hH_14, hH_15, hH_16, hH_17, hH_up0, hH_up1, hH_up3, hH_up5, hH_up7, hH_up9, hH_up11, hH_up13, hH_up15, hH_up17, hH_hH, HX_eq hok, HX_eq2, hr, hd, tI_0, tI_1, tI_or, rg6_0, rg6_1, rg6_2, rg6_3, rg6_4, rg6_5, lg_cmp_eq, A_i]
  generalize 5 * se 4 + 3 &&& 15 = y at hq ⊢
  refine exB_ok (t := [(.aload_n 0, 1, 0, 0, 0, 0), (.getfield 69, 3, 3, 8, 0, 0), (.iconst 4, 1, 0, 0, 0, 0), (.iload_n 2, 1, 0, 0, 0, 0), (.invokevirtual 79, 3, 62, 0, 2, 7), (.iload_n 1, 1, 0, 0, 0, 0), (.invokestatic 125, 3, 165, 0, 1, 0), (.istore_n 3, 1, 0, 0, 0, 0), (.iload_n 3, 1, 0, 0, 0, 0), (.ifCond .gt 8, 3, 39, 0, 0, 0), (.aload_n 0, 1, 0, 0, 0, 0), (.getfield 26, 3, 3, 15, 0, 0), (.ireturn, 1, 0, 0, 0, 0)]) (W11_ok G) (fun q L st h o k n hq => exF_ok (W11_ok G) T_Night_randomRoom_ok (f := 40) hq) (by decide +kernel) ?_
  refine genJ (P := fun J => exB _ _ _ _ (J 40) _ _ _ _ _ _ _ _) (fun J hJ => ?_)
  simp [exB, hJ, exT, stp, lv_args, Value.category, lkL, stL1, stL2, insL, contX, q_ofNat, f4_3, nI_1, -Int32.not_lt, -Int32.not_le, T_Night_randomRoom_39, T_Night_randomRoom_49, T_Night_randomRoom_83, T_Night_randomRoom_89, R_Night_randomRoom, C_Night_randomRoom, M_Night_randomRoom, HH_Night_randomRoom, KI_5, KI_4, KI_3, KB_15, KI_1, KI_0, KI_m1, -Int32.reduceOfInt, -Int8.reduceOfInt, -Int16.reduceOfInt, -Int32.ofInt_neg, O_Night_randomRoom_Row_get, C_Row_get, M_Row_get, W11_Row_get, rx_Row_get, O_Night_randomRoom_Row_set, C_Row_set, M_Row_set, W11_Row_set, rx_Row_set, O_Night_randomRoom_G_contains, C_G_contains, M_G_contains, W11_G_contains, rx_G_contains, O_Night_randomRoom_Integer_bitCount, C_Integer_bitCount, M_Integer_bitCount, W11_Integer_bitCount, rx_Integer_bitCount, A_r, A_ri, A_rii, A_riii, A_riiii, A_rlii, A_rr, A_rl, A_i, A_ii, A_iii, HR, HI, hH_0, hH_1, hH_2, hH_3, hH_4, hH_5, hH_6, hH_7, hH_8, hH_9, hH_10, hH_11, hH_12, hH_13, hH_14, hH_15, hH_16, hH_17, hH_up0, hH_up1, hH_up3, hH_up5, hH_up7, hH_up9, hH_up11, hH_up13, hH_up15, hH_up17, hH_hH, HX_eq hok, HX_eq2, hr, hd, tI_0, tI_1, tI_or, rg6_0, rg6_1, rg6_2, rg6_3, rg6_4, rg6_5, lg_cmp_eq, A_i, rs6_4]
  try simp (disch := omega) [-Int32.not_lt, -Int32.not_le, nI_z, nI_ltI, nI_leI, nI_1, nI_clamp, q_vp, nI_pos', rget_k, rset_k, lget_k, hup_hup, A_r, A_ri, A_rii, A_riii, A_riiii, A_rlii, A_rr, A_rl, A_i, A_ii, A_iii, HR, HI, hH_0, hH_1, hH_2, hH_3, hH_4, hH_5, hH_6, hH_7, hH_8, hH_9, hH_10, hH_11, hH_12, hH_13, hH_14, hH_15, hH_16, hH_17, hH_up0, hH_up1, hH_up3, hH_up5, hH_up7, hH_up9, hH_up11, hH_up13, hH_up15, hH_up17, hH_hH, HX_eq hok, HX_eq2, hr, hd, tI_0, tI_1, tI_or, rg6_0, rg6_1, rg6_2, rg6_3, rg6_4, rg6_5, lg_cmp_eq, A_i, rs6_4]
  intro w hw
  have hz : ¬ w + 1 = 0 := by rw [show w = bcF ar from hw]; exact bcF_ne ar
  rw [← show w = bcF ar from hw] at hq
  clear hw
  have hL : 0 < w → EX G m_Night_randomRoom 49 [(0, .ref p), (1, .int ar), (2, .int y), (3, .int w), (4, .int (y - y / (w + 1) * (w + 1))), (5, .int 0)] [] (hH h0 p (nm, co, re, ev, so, lo, hi, no, upd se 4 y, rc, dc, od, th, mi, po, gh, nn, gm, cs)) o 0 0 Q := fun hpos => rdL hr rc 0 (by omega) _ (by rw [if_pos hpos] at hq; exact hq)
  have hN : ¬ 0 < w → Q (.inl (some (.int gh))) (hH h0 p (nm, co, re, ev, so, lo, hi, no, upd se 4 y, rc, dc, od, th, mi, po, gh, nn, gm, cs)) o := fun hpos => by rw [if_neg hpos] at hq; exact hq
  exact ⟨fun c => ⟨hz, hL c⟩, fun c => hN c⟩
def W12 (G : GG) : WF := (wcons 49 rx_Night_randomRoom (wcons 48 rx_Night_quietestRoom (wcons 47 rx_Night_warmestRoom (wcons 54 rx_Night_explain (W11 G)))))
theorem W12_ok (G : GG) : WOK G (W12 G) := (wcons_ok (fun _ _ _ _ hx => r_Night_randomRoom hx) (wcons_ok (fun _ _ _ _ hx => r_Night_quietestRoom hx) (wcons_ok (fun _ _ _ _ hx => r_Night_warmestRoom hx) (wcons_ok (fun _ _ _ _ hx => r_Night_explain hx) (W11_ok G)))))
theorem HH_Night_destination : mHH 46 = [] := rfl
theorem W12_House_neighborsOf {G : GG} {as : List Value} {h : HM} {o : Option Nat} {Q : XQ} : RX G (W12 G) 38 as h o Q = rx_House_neighborsOf as h o Q := rfl
theorem W12_Night_warmestRoom {G : GG} {as : List Value} {h : HM} {o : Option Nat} {Q : XQ} : RX G (W12 G) 47 as h o Q = rx_Night_warmestRoom as h o Q := rfl
theorem W12_Night_quietestRoom {G : GG} {as : List Value} {h : HM} {o : Option Nat} {Q : XQ} : RX G (W12 G) 48 as h o Q = rx_Night_quietestRoom as h o Q := rfl
theorem W12_Night_randomRoom {G : GG} {as : List Value} {h : HM} {o : Option Nat} {Q : XQ} : RX G (W12 G) 49 as h o Q = rx_Night_randomRoom as h o Q := rfl
theorem W12_Row_get {G : GG} {as : List Value} {h : HM} {o : Option Nat} {Q : XQ} : RX G (W12 G) 61 as h o Q = rx_Row_get as h o Q := rfl
set_option maxRecDepth 2000 in
set_option maxHeartbeats 200000 in
theorem r_Night_destination (hx : rx_Night_destination as h o Q) : Runs G m_Night_destination as h o Q := by
  obtain ⟨p, rfl, h0, ⟨nm, co, re, ev, so, lo, hi, no, se, rc, dc, od, th, mi, po, gh, nn, gm, cs⟩, rfl, ⟨hr, hd⟩, hq⟩ := E_r hx
  dsimp only at *
  try simp only [hH_hH] at hq
  have hok : HOK (nm, co, re, ev, so, lo, hi, no, se, rc, dc, od, th, mi, po, gh, nn, gm, cs) := ⟨hr, hd⟩
  refine Runs.of (by decide +kernel) (Nat.le_of_ble_eq_true rfl) (X_Night_destination_0 (W12_ok G) (genJ (P := fun J => exB _ _ _ _ (J 40) _ _ _ _ _ _ _ _) (fun J hJ => ?_)))
  simp [exB, hJ, exT, stp, lv_args, Value.category, lkL, stL1, stL2, insL, contX, q_ofNat, f4_3, nI_1, -Int32.not_lt, -Int32.not_le, T_Night_destination_26, T_Night_destination_38, T_Night_destination_50, R_Night_destination, C_Night_destination, M_Night_destination, HH_Night_destination, KI_0, KI_1, -Int32.reduceOfInt, -Int8.reduceOfInt, -Int16.reduceOfInt, -Int32.ofInt_neg, O_Night_destination_House_neighborsOf, C_House_neighborsOf, M_House_neighborsOf, W12_House_neighborsOf, rx_House_neighborsOf, O_Night_destination_Night_warmestRoom, C_Night_warmestRoom, M_Night_warmestRoom, W12_Night_warmestRoom, rx_Night_warmestRoom, O_Night_destination_Night_quietestRoom, C_Night_quietestRoom, M_Night_quietestRoom, W12_Night_quietestRoom, rx_Night_quietestRoom, O_Night_destination_Night_randomRoom, C_Night_randomRoom, M_Night_randomRoom, W12_Night_randomRoom, rx_Night_randomRoom, O_Night_destination_Row_get, C_Row_get, M_Row_get, W12_Row_get, rx_Row_get, A_r, A_ri, A_rii, A_riii, A_riiii, A_rlii, A_rr, A_rl, A_i, A_ii, A_iii, HR, HI, hH_0, hH_1, hH_2, hH_3, hH_4, hH_5, hH_6, hH_7, hH_8, hH_9, hH_10, hH_11, hH_12, hH_13, hH_14, hH_15, hH_16, hH_17, hH_up0, hH_up1, hH_up3, hH_up5, hH_up7, hH_up9, hH_up11, hH_up13, hH_up15, hH_up17, hH_hH, HX_eq hok, HX_eq2, hr, hd, tI_0, tI_1, tI_or, rg6_0, rg6_1, rg6_2, rg6_3, rg6_4, rg6_5, lg_cmp_eq]
  try simp (disch := omega) [-Int32.not_lt, -Int32.not_le, nI_z, nI_ltI, nI_leI, nI_1, nI_clamp, q_vp, nI_pos', rget_k, rset_k, lget_k, hup_hup, A_r, A_ri, A_rii, A_riii, A_riiii, A_rlii, A_rr, A_rl, A_i, A_ii, A_iii, HR, HI, hH_0, hH_1, hH_2, hH_3, hH_4, hH_5, hH_6, hH_7, hH_8, hH_9, hH_10, hH_11, hH_12, hH_13, hH_14, hH_15, hH_16, hH_17, hH_up0, hH_up1, hH_up3, hH_up5, hH_up7, hH_up9, hH_up11, hH_up13, hH_up15, hH_up17, hH_hH, HX_eq hok, HX_eq2, hr, hd, tI_0, tI_1, tI_or, rg6_0, rg6_1, rg6_2, rg6_3, rg6_4, rg6_5, lg_cmp_eq]
  first | done | exact hq | ((repeat' (first | with_reducible refine And.intro ?_ ?_ | with_reducible intro _)) <;> (first | exact hq | exact hI | (refine hF ?_; simp [dst, dsS, -Int32.not_lt, -Int32.not_le, *]; done) | (refine hT ?_; simp [dst, dsS, -Int32.not_lt, -Int32.not_le, *]; done) | (simp [dst, dsS, -Int32.not_lt, -Int32.not_le, *] at hq; exact hq) | (simp [dst, dsS, -Int32.not_lt, -Int32.not_le, *] at hI; exact hI) | (refine EX.subL ?_ hI; simp [subL]; done) | (refine EX.subL ?_ (hF ?_) <;> simp [subL, dst, dsS, -Int32.not_lt, -Int32.not_le, *]; done) | (refine EX.subL ?_ (hT ?_) <;> simp [subL, dst, dsS, -Int32.not_lt, -Int32.not_le, *]; done) | (simp [dst, dsS, -Int32.not_lt, -Int32.not_le, *] at hI; refine EX.subL ?_ hI; simp [subL]; done) | (exact absurd (by assumption) (by assumption)) | (simp [dst, dsS, -Int32.not_lt, -Int32.not_le, *] at hI ⊢; refine EX.subL ?_ hI; simp [subL]; done) | (simp [dst, dsS, -Int32.not_lt, -Int32.not_le, *] at hq ⊢; exact hq) | (apply hF; simp_all [dst, dsS, -Int32.not_lt, -Int32.not_le]; done) | (apply hT; simp_all [dst, dsS, -Int32.not_lt, -Int32.not_le]; done) | (simp_all [dst, dsS, -Int32.not_lt, -Int32.not_le]; done))) | fail
def W13 (G : GG) : WF := (wcons 46 rx_Night_destination (W12 G))
theorem W13_ok (G : GG) : WOK G (W13 G) := (wcons_ok (fun _ _ _ _ hx => r_Night_destination hx) (W12_ok G))
end NI
