/-! 25: what changes a house (by gen25.py) -/
def W6 (G : GG) : WF := (wcons 40 rx_House_reportingThermometers (wcons 39 rx_House_monitoredDoors (wcons 38 rx_House_neighborsOf (wcons 32 rx_House_roomAtRank (W5 G)))))
theorem W6_ok (G : GG) : WOK G (W6 G) := (wcons_ok (fun _ _ _ _ hx => r_House_reportingThermometers hx) (wcons_ok (fun _ _ _ _ hx => r_House_monitoredDoors hx) (wcons_ok (fun _ _ _ _ hx => r_House_neighborsOf hx) (wcons_ok (fun _ _ _ _ hx => r_House_roomAtRank hx) (W5_ok G)))))
def rx_G_lowest (as : List Value) (h : HM) (o : Option Nat) (Q : XQ) : Prop := A_i as fun s => Q (.inl (some (.int (frst 24 fun k => ctn s (nI k))))) h o
def bc1 (x : Int32) : Int32 := x - ((x.toUInt32 >>> ((1 : Int32).toUInt32 &&& Int32.toUInt32 31)).toInt32 &&& 1431655765)
def bc2 (x : Int32) : Int32 := (x &&& 858993459) + ((x.toUInt32 >>> ((2 : Int32).toUInt32 &&& Int32.toUInt32 31)).toInt32 &&& 858993459)
def bc3 (x : Int32) : Int32 := (x + (x.toUInt32 >>> ((4 : Int32).toUInt32 &&& Int32.toUInt32 31)).toInt32) &&& 252645135
def bc4 (x : Int32) : Int32 := x + (x.toUInt32 >>> ((8 : Int32).toUInt32 &&& Int32.toUInt32 31)).toInt32
def bc5 (x : Int32) : Int32 := (x + (x.toUInt32 >>> ((16 : Int32).toUInt32 &&& Int32.toUInt32 31)).toInt32)
def bcF (x : Int32) : Int32 := bc5 (bc4 (bc3 (bc2 (bc1 x)))) &&& 63
def BC (x w : Int32) : Prop := w = bcF x
def rx_Integer_bitCount (as : List Value) (h : HM) (o : Option Nat) (Q : XQ) : Prop := A_i as fun x => ∀ w, BC x w → Q (.inl (some (.int w))) h o
def rx_House_exclude (as : List Value) (h : HM) (o : Option Nat) (Q : XQ) : Prop := A_riiii as fun p i a b c => HX h p fun T => Q (.inl none) (hH h p (T.1, T.2.1, rset 12 T.2.2.1 i a, rset 12 T.2.2.2.1 i b, rset 12 T.2.2.2.2.1 i c, T.2.2.2.2.2.1, T.2.2.2.2.2.2.1, T.2.2.2.2.2.2.2.1, T.2.2.2.2.2.2.2.2.1, T.2.2.2.2.2.2.2.2.2.1, T.2.2.2.2.2.2.2.2.2.2.1, T.2.2.2.2.2.2.2.2.2.2.2.1, T.2.2.2.2.2.2.2.2.2.2.2.2.1, T.2.2.2.2.2.2.2.2.2.2.2.2.2.1, T.2.2.2.2.2.2.2.2.2.2.2.2.2.2.1, T.2.2.2.2.2.2.2.2.2.2.2.2.2.2.2.1, T.2.2.2.2.2.2.2.2.2.2.2.2.2.2.2.2.1, T.2.2.2.2.2.2.2.2.2.2.2.2.2.2.2.2.2.1, T.2.2.2.2.2.2.2.2.2.2.2.2.2.2.2.2.2.2)) o
def rx_House_appendRoom (as : List Value) (h : HM) (o : Option Nat) (Q : XQ) : Prop := A_rlii as fun p x c b => HX h p fun T => T.2.2.2.2.2.2.2.2.2.1 < 12 ∧ Q (.inl (some (.int (nI T.2.2.2.2.2.2.2.2.2.1)))) (hH h p (vp_updL T.1 T.2.2.2.2.2.2.2.2.2.1 x, upd T.2.1 T.2.2.2.2.2.2.2.2.2.1 c, upd T.2.2.1 T.2.2.2.2.2.2.2.2.2.1 (if b = 0 then 5 else 0), upd T.2.2.2.1 T.2.2.2.2.2.2.2.2.2.1 (-1), upd T.2.2.2.2.1 T.2.2.2.2.2.2.2.2.2.1 (-1), T.2.2.2.2.2.1, T.2.2.2.2.2.2.1, T.2.2.2.2.2.2.2.1, T.2.2.2.2.2.2.2.2.1, T.2.2.2.2.2.2.2.2.2.1 + 1, T.2.2.2.2.2.2.2.2.2.2.1, T.2.2.2.2.2.2.2.2.2.2.2.1, T.2.2.2.2.2.2.2.2.2.2.2.2.1, T.2.2.2.2.2.2.2.2.2.2.2.2.2.1, (if b = 0 then T.2.2.2.2.2.2.2.2.2.2.2.2.2.2.1 else T.2.2.2.2.2.2.2.2.2.2.2.2.2.2.1 ||| cbit (nI T.2.2.2.2.2.2.2.2.2.1)), (if T.2.2.2.2.2.2.2.2.2.1 = 0 then 0 else T.2.2.2.2.2.2.2.2.2.2.2.2.2.2.2.1), T.2.2.2.2.2.2.2.2.2.2.2.2.2.2.2.2.1, T.2.2.2.2.2.2.2.2.2.2.2.2.2.2.2.2.2.1, T.2.2.2.2.2.2.2.2.2.2.2.2.2.2.2.2.2.2)) o
def rx_House_appendDoor (as : List Value) (h : HM) (o : Option Nat) (Q : XQ) : Prop := A_riii as fun p a b c => HX h p fun T => T.2.2.2.2.2.2.2.2.2.2.1 < 24 ∧ Q (.inl (some (.int (nI T.2.2.2.2.2.2.2.2.2.2.1)))) (hH h p (T.1, T.2.1, T.2.2.1, T.2.2.2.1, T.2.2.2.2.1, upd T.2.2.2.2.2.1 T.2.2.2.2.2.2.2.2.2.2.1 (if b < a then b else a), upd T.2.2.2.2.2.2.1 T.2.2.2.2.2.2.2.2.2.2.1 (if a < b then b else a), upd T.2.2.2.2.2.2.2.1 T.2.2.2.2.2.2.2.2.2.2.1 c, T.2.2.2.2.2.2.2.2.1, T.2.2.2.2.2.2.2.2.2.1, T.2.2.2.2.2.2.2.2.2.2.1 + 1, T.2.2.2.2.2.2.2.2.2.2.2.1 ||| cbit (nI T.2.2.2.2.2.2.2.2.2.2.1), T.2.2.2.2.2.2.2.2.2.2.2.2.1, T.2.2.2.2.2.2.2.2.2.2.2.2.2.1, T.2.2.2.2.2.2.2.2.2.2.2.2.2.2.1, T.2.2.2.2.2.2.2.2.2.2.2.2.2.2.2.1, T.2.2.2.2.2.2.2.2.2.2.2.2.2.2.2.2.1, T.2.2.2.2.2.2.2.2.2.2.2.2.2.2.2.2.2.1, T.2.2.2.2.2.2.2.2.2.2.2.2.2.2.2.2.2.2)) o
section HC
variable {G : GG} {as : List Value} {h : HM} {o : Option Nat} {Q : XQ}
theorem HH_G_lowest : mHH 135 = [] := rfl
theorem W6_G_contains {G : GG} {as : List Value} {h : HM} {o : Option Nat} {Q : XQ} : RX G (W6 G) 134 as h o Q = rx_G_contains as h o Q := rfl
theorem r_G_lowest (hx : rx_G_lowest as h o Q) : Runs G m_G_lowest as h o Q := by
  obtain ⟨s, rfl, hq⟩ := E_i hx
  obtain ⟨B, hB⟩ : ∃ B : Nat, B = 24 := ⟨_, rfl⟩
  have h24 : (24 : Int32) = nI B := by rw [hB]; rfl
  rw [← hB] at hq
  have loop : ∀ j d : Nat, d + j = B → (∀ k, k < d → (fun k => ctn s (nI k)) k = false) → EX G m_G_lowest 2 [(0, .int s), (1, .int (nI d))] [] (h) o 0 0 Q := by
    intro j
    induction j with
    | zero =>
      intro d hd2 hp
      obtain rfl : d = B := by omega
      refine X_G_lowest_2 (W6_ok G) (genJ (P := fun J => exB _ _ _ _ (J 40) _ _ _ _ _ _ _ _) (fun J hJ => ?_))
      simp [exB, hJ, exT, stp, lv_args, Value.category, lkL, stL1, stL2, insL, contX, q_ofNat, f4_3, nI_1, -Int32.not_lt, -Int32.not_le, T_G_lowest_2, T_G_lowest_18, T_G_lowest_24, R_G_lowest, C_G_lowest, M_G_lowest, HH_G_lowest, O_G_lowest_G_contains, C_G_contains, M_G_contains, W6_G_contains, rx_G_contains, A_i, A_ii, tI_0, tI_1, h24]
      try simp (disch := omega) [-Int32.not_lt, -Int32.not_le, nI_z, nI_ltI, nI_leI, nI_1, nI_clamp, q_vp, nI_pos', rget_k, rset_k, lget_k, hup_hup, A_i, A_ii, tI_0, tI_1, h24]
      rw [frst_no hp] at hq
      exact hq
    | succ j ih =>
      intro d hd2 hp
      have hlt : d < B := by omega
      have hF : (fun k => ctn s (nI k)) d = false → EX G m_G_lowest 2 [(0, .int s), (1, .int (nI (d + 1)))] [] (h) o 0 0 Q := fun hf => ih (d + 1) (by omega) (fr_step hp hf)
      have hT : (fun k => ctn s (nI k)) d = true → Q (.inl (some (.int (nI d)))) (h) o := fun ht => by rw [frst_at hlt ht hp] at hq; exact hq
      refine X_G_lowest_2 (W6_ok G) (genJ (P := fun J => exB _ _ _ _ (J 40) _ _ _ _ _ _ _ _) (fun J hJ => ?_))
      simp [exB, hJ, exT, stp, lv_args, Value.category, lkL, stL1, stL2, insL, contX, q_ofNat, f4_3, nI_1, -Int32.not_lt, -Int32.not_le, T_G_lowest_2, T_G_lowest_18, T_G_lowest_24, R_G_lowest, C_G_lowest, M_G_lowest, HH_G_lowest, O_G_lowest_G_contains, C_G_contains, M_G_contains, W6_G_contains, rx_G_contains, A_i, A_ii, tI_0, tI_1, h24, hlt, Nat.not_le.mpr hlt]
      try simp (disch := omega) [-Int32.not_lt, -Int32.not_le, nI_z, nI_ltI, nI_leI, nI_1, nI_clamp, q_vp, nI_pos', rget_k, rset_k, lget_k, hup_hup, A_i, A_ii, tI_0, tI_1, h24, hlt, Nat.not_le.mpr hlt]
      first | done | exact hq | ((repeat' (first | with_reducible refine And.intro ?_ ?_ | with_reducible intro _)) <;> (first | exact hq | exact hI | (refine hF ?_; simp [-Int32.not_lt, -Int32.not_le, *]; done) | (refine hT ?_; simp [-Int32.not_lt, -Int32.not_le, *]; done) | (simp [-Int32.not_lt, -Int32.not_le, *] at hq; exact hq) | (simp [-Int32.not_lt, -Int32.not_le, *] at hI; exact hI) | (refine EX.subL ?_ hI; simp [subL]; done) | (refine EX.subL ?_ (hF ?_) <;> simp [subL, -Int32.not_lt, -Int32.not_le, *]; done) | (refine EX.subL ?_ (hT ?_) <;> simp [subL, -Int32.not_lt, -Int32.not_le, *]; done) | (simp [-Int32.not_lt, -Int32.not_le, *] at hI; refine EX.subL ?_ hI; simp [subL]; done) | (apply hF; simp_all [-Int32.not_lt, -Int32.not_le]; done) | (apply hT; simp_all [-Int32.not_lt, -Int32.not_le]; done) | (simp_all [-Int32.not_lt, -Int32.not_le]; done))) | fail
  refine Runs.of (by decide +kernel) (Nat.le_of_ble_eq_true rfl) (X_G_lowest_0 (W6_ok G) (genJ (P := fun J => exB _ _ _ _ (J 40) _ _ _ _ _ _ _ _) (fun J hJ => ?_)))
  simp [exB, hJ, exT, stp, lv_args, Value.category, lkL, stL1, stL2, insL, contX, q_ofNat, f4_3, nI_1, -Int32.not_lt, -Int32.not_le, T_G_lowest_2, T_G_lowest_18, T_G_lowest_24, R_G_lowest, C_G_lowest, M_G_lowest, HH_G_lowest, O_G_lowest_G_contains, C_G_contains, M_G_contains, W6_G_contains, rx_G_contains]
  try simp (disch := omega) [-Int32.not_lt, -Int32.not_le, nI_z, nI_ltI, nI_leI, nI_1, nI_clamp, q_vp, nI_pos', rget_k, rset_k, lget_k, hup_hup]
  exact loop B 0 (by omega) (fun k hk => absurd hk (Nat.not_lt_zero k))
theorem HH_House_exclude : mHH 36 = [] := rfl
theorem W6_Row_set {G : GG} {as : List Value} {h : HM} {o : Option Nat} {Q : XQ} : RX G (W6 G) 62 as h o Q = rx_Row_set as h o Q := rfl
theorem r_House_exclude (hx : rx_House_exclude as h o Q) : Runs G m_House_exclude as h o Q := by
  obtain ⟨p, i, a, b, c, rfl, h0, ⟨nm, co, re, ev, so, lo, hi, no, se, rc, dc, od, th, mi, po, gh, nn, gm, cs⟩, rfl, ⟨hr, hd⟩, hq⟩ := E_riiii hx
  dsimp only at *
  try simp only [hH_hH] at hq
  have hok : HOK (nm, co, re, ev, so, lo, hi, no, se, rc, dc, od, th, mi, po, gh, nn, gm, cs) := ⟨hr, hd⟩
  refine Runs.of (by decide +kernel) (Nat.le_of_ble_eq_true rfl) (X_House_exclude_0 (W6_ok G) (genJ (P := fun J => exB _ _ _ _ (J 40) _ _ _ _ _ _ _ _) (fun J hJ => ?_)))
  simp [exB, hJ, exT, stp, lv_args, Value.category, lkL, stL1, stL2, insL, contX, q_ofNat, f4_3, nI_1, -Int32.not_lt, -Int32.not_le, R_House_exclude, C_House_exclude, M_House_exclude, HH_House_exclude, O_House_exclude_Row_set, C_Row_set, M_Row_set, W6_Row_set, rx_Row_set, A_r, A_ri, A_rii, A_riii, A_riiii, A_rlii, A_rr, A_rl, A_i, A_ii, A_iii, HR, HI, hH_0, hH_1, hH_2, hH_3, hH_4, hH_5, hH_6, hH_7, hH_8, hH_9, hH_10, hH_11, hH_12, hH_13, hH_14, hH_15, hH_16, hH_17, hH_up0, hH_up1, hH_up3, hH_up5, hH_up7, hH_up9, hH_up11, hH_up13, hH_up15, hH_up17, hH_hH, HX_eq hok, HX_eq2, hr, hd, tI_0, tI_1, tI_or, rg6_0, rg6_1, rg6_2, rg6_3, rg6_4, rg6_5, lg_cmp_eq]
  try simp (disch := omega) [-Int32.not_lt, -Int32.not_le, nI_z, nI_ltI, nI_leI, nI_1, nI_clamp, q_vp, nI_pos', rget_k, rset_k, lget_k, hup_hup, A_r, A_ri, A_rii, A_riii, A_riiii, A_rlii, A_rr, A_rl, A_i, A_ii, A_iii, HR, HI, hH_0, hH_1, hH_2, hH_3, hH_4, hH_5, hH_6, hH_7, hH_8, hH_9, hH_10, hH_11, hH_12, hH_13, hH_14, hH_15, hH_16, hH_17, hH_up0, hH_up1, hH_up3, hH_up5, hH_up7, hH_up9, hH_up11, hH_up13, hH_up15, hH_up17, hH_hH, HX_eq hok, HX_eq2, hr, hd, tI_0, tI_1, tI_or, rg6_0, rg6_1, rg6_2, rg6_3, rg6_4, rg6_5, lg_cmp_eq]
  first | done | exact hq | ((repeat' (first | with_reducible refine And.intro ?_ ?_ | with_reducible intro _)) <;> (first | exact hq | exact hI | (refine hF ?_; simp [-Int32.not_lt, -Int32.not_le, *]; done) | (refine hT ?_; simp [-Int32.not_lt, -Int32.not_le, *]; done) | (simp [-Int32.not_lt, -Int32.not_le, *] at hq; exact hq) | (simp [-Int32.not_lt, -Int32.not_le, *] at hI; exact hI) | (refine EX.subL ?_ hI; simp [subL]; done) | (refine EX.subL ?_ (hF ?_) <;> simp [subL, -Int32.not_lt, -Int32.not_le, *]; done) | (refine EX.subL ?_ (hT ?_) <;> simp [subL, -Int32.not_lt, -Int32.not_le, *]; done) | (simp [-Int32.not_lt, -Int32.not_le, *] at hI; refine EX.subL ?_ hI; simp [subL]; done) | (apply hF; simp_all [-Int32.not_lt, -Int32.not_le]; done) | (apply hT; simp_all [-Int32.not_lt, -Int32.not_le]; done) | (simp_all [-Int32.not_lt, -Int32.not_le]; done))) | fail
def W7 (G : GG) : WF := (wcons 36 rx_House_exclude (W6 G))
theorem W7_ok (G : GG) : WOK G (W7 G) := (wcons_ok (fun _ _ _ _ hx => r_House_exclude hx) (W6_ok G))
theorem HH_House_appendRoom : mHH 34 = [] := rfl
theorem TY_3_9 {v : Int32} : okw (tyC 3 9) (.int v) = True := rfl
theorem TY_3_14 {v : Int32} : okw (tyC 3 14) (.int v) = True := rfl
theorem TY_3_15 {v : Int32} : okw (tyC 3 15) (.int v) = True := rfl
theorem W7_House_exclude {G : GG} {as : List Value} {h : HM} {o : Option Nat} {Q : XQ} : RX G (W7 G) 36 as h o Q = rx_House_exclude as h o Q := rfl
theorem W7_Row_set {G : GG} {as : List Value} {h : HM} {o : Option Nat} {Q : XQ} : RX G (W7 G) 62 as h o Q = rx_Row_set as h o Q := rfl
theorem W7_G_bit {G : GG} {as : List Value} {h : HM} {o : Option Nat} {Q : XQ} : RX G (W7 G) 133 as h o Q = rx_G_bit as h o Q := rfl
theorem r_House_appendRoom (hx : rx_House_appendRoom as h o Q) : Runs G m_House_appendRoom as h o Q := by
  obtain ⟨p, x, c, b, rfl, h0, ⟨nm, co, re, ev, so, lo, hi, no, se, rc, dc, od, th, mi, po, gh, nn, gm, cs⟩, rfl, ⟨hr, hd⟩, hlt, hq⟩ := E_rlii hx
  dsimp only at *
  try simp only [hH_hH] at hq
  have hok : HOK (nm, co, re, ev, so, lo, hi, no, se, rc, dc, od, th, mi, po, gh, nn, gm, cs) := ⟨hr, hd⟩
  have hok2 : rc ≤ 11 := by omega
  refine Runs.of (by decide +kernel) (Nat.le_of_ble_eq_true rfl) (X_House_appendRoom_0 (W7_ok G) (genJ (P := fun J => exB _ _ _ _ (J 40) _ _ _ _ _ _ _ _) (fun J hJ => ?_)))
  simp [exB, hJ, exT, stp, lv_args, Value.category, lkL, stL1, stL2, insL, contX, q_ofNat, f4_3, nI_1, -Int32.not_lt, -Int32.not_le, T_House_appendRoom_29, T_House_appendRoom_68, T_House_appendRoom_80, T_House_appendRoom_81, T_House_appendRoom_96, R_House_appendRoom, C_House_appendRoom, M_House_appendRoom, HH_House_appendRoom, TY_3_9, TY_3_14, TY_3_15, O_House_appendRoom_House_exclude, C_House_exclude, M_House_exclude, W7_House_exclude, rx_House_exclude, O_House_appendRoom_Row_set, C_Row_set, M_Row_set, W7_Row_set, rx_Row_set, O_House_appendRoom_G_bit, C_G_bit, M_G_bit, W7_G_bit, rx_G_bit, A_r, A_ri, A_rii, A_riii, A_riiii, A_rlii, A_rr, A_rl, A_i, A_ii, A_iii, HR, HI, hH_0, hH_1, hH_2, hH_3, hH_4, hH_5, hH_6, hH_7, hH_8, hH_9, hH_10, hH_11, hH_12, hH_13, hH_14, hH_15, hH_16, hH_17, hH_up0, hH_up1, hH_up3, hH_up5, hH_up7, hH_up9, hH_up11, hH_up13, hH_up15, hH_up17, hH_hH, HX_eq hok, HX_eq2, hr, hd, tI_0, tI_1, tI_or, rg6_0, rg6_1, rg6_2, rg6_3, rg6_4, rg6_5, lg_cmp_eq, hok2, nI_pos (show rc < 2 ^ 31 by omega), nI_ge hlt (by decide), q_vp hlt (by decide), nI_clamp (show rc < 2 ^ 31 by omega), rset_k (f := co) hlt (by decide), rset_k (f := re) hlt (by decide), rset_k (f := ev) hlt (by decide), rset_k (f := so) hlt (by decide)]
  try simp (disch := omega) [-Int32.not_lt, -Int32.not_le, nI_z, nI_ltI, nI_leI, nI_1, nI_clamp, q_vp, nI_pos', rget_k, rset_k, lget_k, hup_hup, A_r, A_ri, A_rii, A_riii, A_riiii, A_rlii, A_rr, A_rl, A_i, A_ii, A_iii, HR, HI, hH_0, hH_1, hH_2, hH_3, hH_4, hH_5, hH_6, hH_7, hH_8, hH_9, hH_10, hH_11, hH_12, hH_13, hH_14, hH_15, hH_16, hH_17, hH_up0, hH_up1, hH_up3, hH_up5, hH_up7, hH_up9, hH_up11, hH_up13, hH_up15, hH_up17, hH_hH, HX_eq hok, HX_eq2, hr, hd, tI_0, tI_1, tI_or, rg6_0, rg6_1, rg6_2, rg6_3, rg6_4, rg6_5, lg_cmp_eq, hok2, nI_pos (show rc < 2 ^ 31 by omega), nI_ge hlt (by decide), q_vp hlt (by decide), nI_clamp (show rc < 2 ^ 31 by omega), rset_k (f := co) hlt (by decide), rset_k (f := re) hlt (by decide), rset_k (f := ev) hlt (by decide), rset_k (f := so) hlt (by decide)]
  first | done | exact hq | ((repeat' (first | with_reducible refine And.intro ?_ ?_ | with_reducible intro _)) <;> (first | exact hq | exact hI | (refine hF ?_; simp [-Int32.not_lt, -Int32.not_le, *]; done) | (refine hT ?_; simp [-Int32.not_lt, -Int32.not_le, *]; done) | (simp [-Int32.not_lt, -Int32.not_le, *] at hq; exact hq) | (simp [-Int32.not_lt, -Int32.not_le, *] at hI; exact hI) | (refine EX.subL ?_ hI; simp [subL]; done) | (refine EX.subL ?_ (hF ?_) <;> simp [subL, -Int32.not_lt, -Int32.not_le, *]; done) | (refine EX.subL ?_ (hT ?_) <;> simp [subL, -Int32.not_lt, -Int32.not_le, *]; done) | (simp [-Int32.not_lt, -Int32.not_le, *] at hI; refine EX.subL ?_ hI; simp [subL]; done) | (apply hF; simp_all [-Int32.not_lt, -Int32.not_le]; done) | (apply hT; simp_all [-Int32.not_lt, -Int32.not_le]; done) | (simp_all [-Int32.not_lt, -Int32.not_le]; done))) | fail
theorem HH_House_appendDoor : mHH 35 = [] := rfl
theorem TY_3_10 {v : Int32} : okw (tyC 3 10) (.int v) = True := rfl
theorem TY_3_11 {v : Int32} : okw (tyC 3 11) (.int v) = True := rfl
theorem r_House_appendDoor (hx : rx_House_appendDoor as h o Q) : Runs G m_House_appendDoor as h o Q := by
  obtain ⟨p, a, b, c, rfl, h0, ⟨nm, co, re, ev, so, lo, hi, no, se, rc, dc, od, th, mi, po, gh, nn, gm, cs⟩, rfl, ⟨hr, hd⟩, hlt, hq⟩ := E_riii hx
  dsimp only at *
  try simp only [hH_hH] at hq
  have hok : HOK (nm, co, re, ev, so, lo, hi, no, se, rc, dc, od, th, mi, po, gh, nn, gm, cs) := ⟨hr, hd⟩
  have hok2 : dc ≤ 23 := by omega
  refine Runs.of (by decide +kernel) (Nat.le_of_ble_eq_true rfl) (X_House_appendDoor_0 (W7_ok G) (genJ (P := fun J => exB _ _ _ _ (J 40) _ _ _ _ _ _ _ _) (fun J hJ => ?_)))
  simp [exB, hJ, exT, stp, lv_args, Value.category, lkL, stL1, stL2, insL, contX, q_ofNat, f4_3, nI_1, -Int32.not_lt, -Int32.not_le, R_House_appendDoor, C_House_appendDoor, M_House_appendDoor, HH_House_appendDoor, TY_3_10, TY_3_11, O_House_appendDoor_Row_set, C_Row_set, M_Row_set, W7_Row_set, rx_Row_set, O_House_appendDoor_G_bit, C_G_bit, M_G_bit, W7_G_bit, rx_G_bit, A_r, A_ri, A_rii, A_riii, A_riiii, A_rlii, A_rr, A_rl, A_i, A_ii, A_iii, HR, HI, hH_0, hH_1, hH_2, hH_3, hH_4, hH_5, hH_6, hH_7, hH_8, hH_9, hH_10, hH_11, hH_12, hH_13, hH_14, hH_15, hH_16, hH_17, hH_up0, hH_up1, hH_up3, hH_up5, hH_up7, hH_up9, hH_up11, hH_up13, hH_up15, hH_up17, hH_hH, HX_eq hok, HX_eq2, hr, hd, tI_0, tI_1, tI_or, rg6_0, rg6_1, rg6_2, rg6_3, rg6_4, rg6_5, lg_cmp_eq, hok2, rset_k (f := lo) hlt (by decide), rset_k (f := hi) hlt (by decide), rset_k (f := no) hlt (by decide)]
  try simp (disch := omega) [-Int32.not_lt, -Int32.not_le, nI_z, nI_ltI, nI_leI, nI_1, nI_clamp, q_vp, nI_pos', rget_k, rset_k, lget_k, hup_hup, A_r, A_ri, A_rii, A_riii, A_riiii, A_rlii, A_rr, A_rl, A_i, A_ii, A_iii, HR, HI, hH_0, hH_1, hH_2, hH_3, hH_4, hH_5, hH_6, hH_7, hH_8, hH_9, hH_10, hH_11, hH_12, hH_13, hH_14, hH_15, hH_16, hH_17, hH_up0, hH_up1, hH_up3, hH_up5, hH_up7, hH_up9, hH_up11, hH_up13, hH_up15, hH_up17, hH_hH, HX_eq hok, HX_eq2, hr, hd, tI_0, tI_1, tI_or, rg6_0, rg6_1, rg6_2, rg6_3, rg6_4, rg6_5, lg_cmp_eq, hok2, rset_k (f := lo) hlt (by decide), rset_k (f := hi) hlt (by decide), rset_k (f := no) hlt (by decide)]
  first | done | exact hq | ((repeat' (first | with_reducible refine And.intro ?_ ?_ | with_reducible intro _)) <;> (first | exact hq | exact hI | (refine hF ?_; simp [-Int32.not_lt, -Int32.not_le, *]; done) | (refine hT ?_; simp [-Int32.not_lt, -Int32.not_le, *]; done) | (simp [-Int32.not_lt, -Int32.not_le, *] at hq; exact hq) | (simp [-Int32.not_lt, -Int32.not_le, *] at hI; exact hI) | (refine EX.subL ?_ hI; simp [subL]; done) | (refine EX.subL ?_ (hF ?_) <;> simp [subL, -Int32.not_lt, -Int32.not_le, *]; done) | (refine EX.subL ?_ (hT ?_) <;> simp [subL, -Int32.not_lt, -Int32.not_le, *]; done) | (simp [-Int32.not_lt, -Int32.not_le, *] at hI; refine EX.subL ?_ hI; simp [subL]; done) | (apply hF; simp_all [-Int32.not_lt, -Int32.not_le]; done) | (apply hT; simp_all [-Int32.not_lt, -Int32.not_le]; done) | (simp_all [-Int32.not_lt, -Int32.not_le]; done))) | fail
end HC
