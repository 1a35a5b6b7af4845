/-! 27b -/
def W11 (G : GG) : WF := (wcons 50 rx_Night_roomsAfter (W10 G))
theorem W11_ok (G : GG) : WOK G (W11 G) := (wcons_ok (fun _ _ _ _ hx => r_Night_roomsAfter hx) (W10_ok G))
section NI
variable {G : GG} {as : List Value} {h : HM} {o : Option Nat} {Q : XQ}
theorem HH_Night_explain : mHH 54 = [] := rfl
theorem W11_House_exclude {G : GG} {as : List Value} {h : HM} {o : Option Nat} {Q : XQ} : RX G (W11 G) 36 as h o Q = rx_House_exclude as h o Q := rfl
theorem W11_House_doorOf {G : GG} {as : List Value} {h : HM} {o : Option Nat} {Q : XQ} : RX G (W11 G) 37 as h o Q = rx_House_doorOf as h o Q := rfl
theorem W11_House_neighborsOf {G : GG} {as : List Value} {h : HM} {o : Option Nat} {Q : XQ} : RX G (W11 G) 38 as h o Q = rx_House_neighborsOf as h o Q := rfl
theorem W11_Night_wrongThermometers {G : GG} {as : List Value} {h : HM} {o : Option Nat} {Q : XQ} : RX G (W11 G) 52 as h o Q = rx_Night_wrongThermometers as h o Q := rfl
theorem W11_Night_wrongDoors {G : GG} {as : List Value} {h : HM} {o : Option Nat} {Q : XQ} : RX G (W11 G) 53 as h o Q = rx_Night_wrongDoors as h o Q := rfl
theorem W11_G_bit {G : GG} {as : List Value} {h : HM} {o : Option Nat} {Q : XQ} : RX G (W11 G) 133 as h o Q = rx_G_bit as h o Q := rfl
theorem W11_G_contains {G : GG} {as : List Value} {h : HM} {o : Option Nat} {Q : XQ} : RX G (W11 G) 134 as h o Q = rx_G_contains as h o Q := rfl
theorem W11_G_lowest {G : GG} {as : List Value} {h : HM} {o : Option Nat} {Q : XQ} : RX G (W11 G) 135 as h o Q = rx_G_lowest as h o Q := rfl
set_option maxRecDepth 2000 in
set_option maxHeartbeats 200000 in
theorem r_Night_explain (hx : rx_Night_explain as h o Q) : Runs G m_Night_explain as h o Q := by
  obtain ⟨q, p, i, rfl, hx⟩ := E_rri hx
  obtain ⟨be, lr, pd, tm, mo, hq0, h0, ⟨nm, co, re, ev, so, lo, hi, no, se, rc, dc, od, th, mi, po, gh, nn, gm, cs⟩, rfl, ⟨hr, hd⟩, hq⟩ := NX_of hx
  dsimp only at *
  simp only [hH_hH] at hq
  have hok : HOK (nm, co, re, ev, so, lo, hi, no, se, rc, dc, od, th, mi, po, gh, nn, gm, cs) := ⟨hr, hd⟩
  refine Runs.of (by decide +kernel) (Nat.le_of_ble_eq_true rfl) (X_Night_explain_0 (W11_ok G) (genJ (P := fun J => exB _ _ _ _ (J 40) _ _ _ _ _ _ _ _) (fun J hJ => ?_)))
  simp [exB, hJ, exT, stp, lv_args, Value.category, lkL, stL1, stL2, insL, contX, q_ofNat, f4_3, nI_1, -Int32.not_lt, -Int32.not_le, T_Night_explain_20, T_Night_explain_53, T_Night_explain_81, R_Night_explain, C_Night_explain, M_Night_explain, HH_Night_explain, O_Night_explain_House_exclude, C_House_exclude, M_House_exclude, W11_House_exclude, rx_House_exclude, O_Night_explain_House_doorOf, C_House_doorOf, M_House_doorOf, W11_House_doorOf, rx_House_doorOf, O_Night_explain_House_neighborsOf, C_House_neighborsOf, M_House_neighborsOf, W11_House_neighborsOf, rx_House_neighborsOf, O_Night_explain_Night_wrongThermometers, C_Night_wrongThermometers, M_Night_wrongThermometers, W11_Night_wrongThermometers, rx_Night_wrongThermometers, O_Night_explain_Night_wrongDoors, C_Night_wrongDoors, M_Night_wrongDoors, W11_Night_wrongDoors, rx_Night_wrongDoors, O_Night_explain_G_bit, C_G_bit, M_G_bit, W11_G_bit, rx_G_bit, O_Night_explain_G_contains, C_G_contains, M_G_contains, W11_G_contains, rx_G_contains, O_Night_explain_G_lowest, C_G_lowest, M_G_lowest, W11_G_lowest, rx_G_lowest, A_r, A_ri, A_rii, A_riii, A_riiii, A_rlii, A_rr, A_rl, A_i, A_ii, A_iii, HR, HI, hH_0, hH_1, hH_2, hH_3, hH_4, hH_5, hH_6, hH_7, hH_8, hH_9, hH_10, hH_11, hH_12, hH_13, hH_14, hH_15, hH_16, hH_17, hH_up0, hH_up1, hH_up3, hH_up5, hH_up7, hH_up9, hH_up11, hH_up13, hH_up15, hH_up17, hH_hH, HX_eq hok, HX_eq2, hr, hd, tI_0, tI_1, tI_or, rg6_0, rg6_1, rg6_2, rg6_3, rg6_4, rg6_5, lg_cmp_eq, A_rri, NX, hq0]
  try simp (disch := omega) [-Int32.not_lt, -Int32.not_le, nI_z, nI_ltI, nI_leI, nI_1, nI_clamp, q_vp, nI_pos', rget_k, rset_k, lget_k, hup_hup, A_r, A_ri, A_rii, A_riii, A_riiii, A_rlii, A_rr, A_rl, A_i, A_ii, A_iii, HR, HI, hH_0, hH_1, hH_2, hH_3, hH_4, hH_5, hH_6, hH_7, hH_8, hH_9, hH_10, hH_11, hH_12, hH_13, hH_14, hH_15, hH_16, hH_17, hH_up0, hH_up1, hH_up3, hH_up5, hH_up7, hH_up9, hH_up11, hH_up13, hH_up15, hH_up17, hH_hH, HX_eq hok, HX_eq2, hr, hd, tI_0, tI_1, tI_or, rg6_0, rg6_1, rg6_2, rg6_3, rg6_4, rg6_5, lg_cmp_eq, A_rri, NX, hq0]
  first | done | exact hq | ((repeat' (first | with_reducible refine And.intro ?_ ?_ | with_reducible intro _)) <;> (first | exact hq | exact hI | (refine hF ?_; simp [xpl, low, -Int32.not_lt, -Int32.not_le, *]; done) | (refine hT ?_; simp [xpl, low, -Int32.not_lt, -Int32.not_le, *]; done) | (simp [xpl, low, -Int32.not_lt, -Int32.not_le, *] at hq; exact hq) | (simp [xpl, low, -Int32.not_lt, -Int32.not_le, *] at hI; exact hI) | (refine EX.subL ?_ hI; simp [subL]; done) | (refine EX.subL ?_ (hF ?_) <;> simp [subL, xpl, low, -Int32.not_lt, -Int32.not_le, *]; done) | (refine EX.subL ?_ (hT ?_) <;> simp [subL, xpl, low, -Int32.not_lt, -Int32.not_le, *]; done) | (simp [xpl, low, -Int32.not_lt, -Int32.not_le, *] at hI; refine EX.subL ?_ hI; simp [subL]; done) | (apply hF; simp_all [xpl, low, -Int32.not_lt, -Int32.not_le]; done) | (apply hT; simp_all [xpl, low, -Int32.not_lt, -Int32.not_le]; done) | (simp_all [xpl, low, -Int32.not_lt, -Int32.not_le]; done))) | fail
end NI
