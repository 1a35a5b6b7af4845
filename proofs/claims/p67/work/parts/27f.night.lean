/-! 27f: a whole night of the class -/
def mn99 (x : Int32) : Int32 := if 99 < x then 99 else x
def gmF (X g m : Int32) : Int32 := if X = g then m else m + 1
def nn1 (T : HT) : HT := (T.1, T.2.1, T.2.2.1, T.2.2.2.1, T.2.2.2.2.1, T.2.2.2.2.2.1, T.2.2.2.2.2.2.1, T.2.2.2.2.2.2.2.1, T.2.2.2.2.2.2.2.2.1, T.2.2.2.2.2.2.2.2.2.1, T.2.2.2.2.2.2.2.2.2.2.1, T.2.2.2.2.2.2.2.2.2.2.2.1, T.2.2.2.2.2.2.2.2.2.2.2.2.1, T.2.2.2.2.2.2.2.2.2.2.2.2.2.1, T.2.2.2.2.2.2.2.2.2.2.2.2.2.2.1, T.2.2.2.2.2.2.2.2.2.2.2.2.2.2.2.1, T.2.2.2.2.2.2.2.2.2.2.2.2.2.2.2.2.1 + 1, T.2.2.2.2.2.2.2.2.2.2.2.2.2.2.2.2.2.1, T.2.2.2.2.2.2.2.2.2.2.2.2.2.2.2.2.2.2)
def pMo (T : HT) : Int32 := orF (moF T.2.2.2.2.2.1 T.2.2.2.2.2.2.1 T.2.2.2.2.2.2.2.1 (dsS (nn1 T) 2) T.2.2.2.2.2.2.2.2.2.2.2.2.2.1) T.2.2.2.2.2.2.2.2.2.2.1
def pTm (T : HT) : Int32 := reF T.2.1 T.2.2.2.2.2.2.2.2.2.2.2.2.1 T.2.2.2.2.2.2.2.2.2.1
def pPd (T : HT) : Int32 := cbit (frst T.2.2.2.2.2.2.2.2.2.2.1 (doP T.2.2.2.2.2.1 T.2.2.2.2.2.2.1 T.2.2.2.2.2.2.2.2.2.2.2.2.2.2.2.1 (dst (nn1 T))))
def pRa (T : HT) : Int32 := raF T.2.2.2.2.2.2.2.2.2.1 T.2.2.2.2.2.2.2.2.2.2.1 T.2.2.2.2.2.1 T.2.2.2.2.2.2.1 T.2.2.2.2.2.2.2.2.2.2.2.1 T.2.2.2.2.2.2.2.2.2.2.2.2.2.2.1 (cbit T.2.2.2.2.2.2.2.2.2.2.2.2.2.2.2.1) (pPd T) (pTm T) (pMo T)
def pX (T : HT) (j : Nat) : Int32 × Int32 × Int32 := xpl T.2.2.2.2.2.2.2.2.2.2.1 T.2.2.2.2.2.1 T.2.2.2.2.2.2.1 T.2.2.2.2.2.2.2.2.2.2.2.1 (pRa T) T.2.2.2.2.2.2.2.2.2.2.2.2.2.2.1 (cbit T.2.2.2.2.2.2.2.2.2.2.2.2.2.2.2.1) (pPd T) (pTm T) (pMo T) (nI j)
def pCo (T : HT) : Nat → Int32 := rset 12 T.2.1 T.2.2.2.2.2.2.2.2.2.2.2.2.2.2.2.1 (mn99 (rget 12 T.2.1 T.2.2.2.2.2.2.2.2.2.2.2.2.2.2.2.1 + dsS (nn1 T) 1))
def pasT (T : HT) : HT := (T.1, pCo T, fa_fill (fun j => (pX T j).1) T.2.2.1 T.2.2.2.2.2.2.2.2.2.1, fa_fill (fun j => (pX T j).2.1) T.2.2.2.1 T.2.2.2.2.2.2.2.2.2.1, fa_fill (fun j => (pX T j).2.2) T.2.2.2.2.1 T.2.2.2.2.2.2.2.2.2.1, T.2.2.2.2.2.1, T.2.2.2.2.2.2.1, T.2.2.2.2.2.2.2.1, dsS (nn1 T), T.2.2.2.2.2.2.2.2.2.1, T.2.2.2.2.2.2.2.2.2.2.1, T.2.2.2.2.2.2.2.2.2.2.2.1, T.2.2.2.2.2.2.2.2.2.2.2.2.1, T.2.2.2.2.2.2.2.2.2.2.2.2.2.1, pRa T, dst (nn1 T), T.2.2.2.2.2.2.2.2.2.2.2.2.2.2.2.2.1 + 1, gmF (dst (nn1 T)) T.2.2.2.2.2.2.2.2.2.2.2.2.2.2.2.1 T.2.2.2.2.2.2.2.2.2.2.2.2.2.2.2.2.2.1, T.2.2.2.2.2.2.2.2.2.2.2.2.2.2.2.2.2.2)
def rx_Night_pass (as : List Value) (h : HM) (o : Option Nat) (Q : XQ) : Prop := A_rr as fun q p => NX h q fun _ _ _ _ _ => HX h p fun T => ¬ (p ≤ q ∧ q < p + 18) ∧ (T.2.2.2.2.2.2.2.2.2.1 = 0 → Q (.inl none) (hH h p (nn1 T)) o) ∧ (¬ T.2.2.2.2.2.2.2.2.2.1 = 0 → Q (.inl none) (hH (hup h q (nC T.2.2.2.2.2.2.2.2.2.2.2.2.2.2.1 (cbit T.2.2.2.2.2.2.2.2.2.2.2.2.2.2.2.1) (pPd T) (pTm T) (pMo T))) p (pasT T)) o)
section NP
variable {G : GG} {as : List Value} {h : HM} {o : Option Nat} {Q : XQ}
theorem HH_Night_pass : mHH 45 = [] := rfl
theorem TY_3_16 {v : Int32} : okw (tyC 3 16) (.int v) = True := rfl
theorem TY_5_0 {v : Int32} : okw (tyC 5 0) (.int v) = True := rfl
theorem TY_5_1 {v : Int32} : okw (tyC 5 1) (.int v) = True := rfl
theorem TY_5_2 {v : Int32} : okw (tyC 5 2) (.int v) = True := rfl
theorem TY_5_3 {v : Int32} : okw (tyC 5 3) (.int v) = True := rfl
theorem TY_5_4 {v : Int32} : okw (tyC 5 4) (.int v) = True := rfl
theorem TY_3_17 {v : Int32} : okw (tyC 3 17) (.int v) = True := rfl
theorem W13_House_doorOf {G : GG} {as : List Value} {h : HM} {o : Option Nat} {Q : XQ} : RX G (W13 G) 37 as h o Q = rx_House_doorOf as h o Q := rfl
theorem W13_House_monitoredDoors {G : GG} {as : List Value} {h : HM} {o : Option Nat} {Q : XQ} : RX G (W13 G) 39 as h o Q = rx_House_monitoredDoors as h o Q := rfl
theorem W13_House_reportingThermometers {G : GG} {as : List Value} {h : HM} {o : Option Nat} {Q : XQ} : RX G (W13 G) 40 as h o Q = rx_House_reportingThermometers as h o Q := rfl
theorem W13_Night_destination {G : GG} {as : List Value} {h : HM} {o : Option Nat} {Q : XQ} : RX G (W13 G) 46 as h o Q = rx_Night_destination as h o Q := rfl
theorem W13_Night_roomsAfter {G : GG} {as : List Value} {h : HM} {o : Option Nat} {Q : XQ} : RX G (W13 G) 50 as h o Q = rx_Night_roomsAfter as h o Q := rfl
theorem W13_Night_explain {G : GG} {as : List Value} {h : HM} {o : Option Nat} {Q : XQ} : RX G (W13 G) 54 as h o Q = rx_Night_explain as h o Q := rfl
theorem W13_Row_get {G : GG} {as : List Value} {h : HM} {o : Option Nat} {Q : XQ} : RX G (W13 G) 61 as h o Q = rx_Row_get as h o Q := rfl
theorem W13_Row_set {G : GG} {as : List Value} {h : HM} {o : Option Nat} {Q : XQ} : RX G (W13 G) 62 as h o Q = rx_Row_set as h o Q := rfl
theorem W13_G_bit {G : GG} {as : List Value} {h : HM} {o : Option Nat} {Q : XQ} : RX G (W13 G) 133 as h o Q = rx_G_bit as h o Q := rfl
theorem pasL {q p : Nat} {h1 : HM} {nm : Nat → Int64} {co re ev so lo hi no se : Nat → Int32} {rc dc : Nat} {od th mi po gh nn gm cs be lr pd tm mo x2 x3 x4 : Int32} (hr : rc ≤ 12) (hd : dc ≤ 24) (hn : h1 q = some (nC be lr pd tm mo)) (hdis : ¬ (p ≤ q ∧ q < p + 18))
    (hq : Q (.inl none) (hH h1 p (nm, co, fa_fill (fun j => (xpl dc lo hi od po be lr pd tm mo (nI j)).1) re rc, fa_fill (fun j => (xpl dc lo hi od po be lr pd tm mo (nI j)).2.1) ev rc, fa_fill (fun j => (xpl dc lo hi od po be lr pd tm mo (nI j)).2.2) so rc, lo, hi, no, se, rc, dc, od, th, mi, po, gh, nn, gm, cs)) o) : ∀ j d : Nat, d + j = rc → EX G m_Night_pass 139 [(0, .ref q), (1, .ref p), (2, .int x2), (3, .int x3), (4, .int x4), (5, .int (nI d))] [] (hH h1 p (nm, co, fa_fill (fun j => (xpl dc lo hi od po be lr pd tm mo (nI j)).1) re d, fa_fill (fun j => (xpl dc lo hi od po be lr pd tm mo (nI j)).2.1) ev d, fa_fill (fun j => (xpl dc lo hi od po be lr pd tm mo (nI j)).2.2) so d, lo, hi, no, se, rc, dc, od, th, mi, po, gh, nn, gm, cs)) o 0 0 Q := by
  have hrd : ∀ T, hH h1 p T q = some (nC be lr pd tm mo) := fun T => (hH_out hdis).trans hn
  intro j
  induction j with
  | zero =>
    intro d hd2
    obtain rfl : d = rc := by omega
    refine X_Night_pass_139 (W13_ok G) (genJ (P := fun J => exB _ _ _ _ (J 40) _ _ _ _ _ _ _ _) (fun J hJ => ?_))
    simp [exB, hJ, exT, stp, lv_args, Value.category, lkL, stL1, stL2, insL, contX, q_ofNat, f4_3, nI_1, -Int32.not_lt, -Int32.not_le, T_Night_pass_18, T_Night_pass_127, T_Night_pass_139, T_Night_pass_161, R_Night_pass, C_Night_pass, M_Night_pass, HH_Night_pass, KI_1, KB_99, KI_0, -Int32.reduceOfInt, -Int8.reduceOfInt, -Int16.reduceOfInt, -Int32.ofInt_neg, TY_3_16, TY_5_0, TY_5_1, TY_5_2, TY_5_3, TY_5_4, TY_3_15, TY_3_17, TY_3_14, O_Night_pass_House_doorOf, C_House_doorOf, M_House_doorOf, W13_House_doorOf, rx_House_doorOf, O_Night_pass_House_monitoredDoors, C_House_monitoredDoors, M_House_monitoredDoors, W13_House_monitoredDoors, rx_House_monitoredDoors, O_Night_pass_House_reportingThermometers, C_House_reportingThermometers, M_House_reportingThermometers, W13_House_reportingThermometers, rx_House_reportingThermometers, O_Night_pass_Night_destination, C_Night_destination, M_Night_destination, W13_Night_destination, rx_Night_destination, O_Night_pass_Night_roomsAfter, C_Night_roomsAfter, M_Night_roomsAfter, W13_Night_roomsAfter, rx_Night_roomsAfter, O_Night_pass_Night_explain, C_Night_explain, M_Night_explain, W13_Night_explain, rx_Night_explain, O_Night_pass_Row_get, C_Row_get, M_Row_get, W13_Row_get, rx_Row_get, O_Night_pass_Row_set, C_Row_set, M_Row_set, W13_Row_set, rx_Row_set, O_Night_pass_G_bit, C_G_bit, M_G_bit, W13_G_bit, rx_G_bit, A_rri, NX, hrd, hH_0]
    try simp (disch := omega) [-Int32.not_lt, -Int32.not_le, nI_z, nI_ltI, nI_leI, nI_1, nI_clamp, q_vp, nI_pos', rget_k, rset_k, lget_k, hup_hup, A_rri, NX, hrd, hH_0]
    exact hq
  | succ j ih =>
    intro d hd2
    have hlt : d < rc := by omega
    have hx12 : d < 12 := by omega
    have hI := ih (d + 1) (by omega)
    rw [← fa_fill_succ, ← fa_fill_succ, ← fa_fill_succ] at hI
    refine X_Night_pass_139 (W13_ok G) (genJ (P := fun J => exB _ _ _ _ (J 40) _ _ _ _ _ _ _ _) (fun J hJ => ?_))
    simp [exB, hJ, exT, stp, lv_args, Value.category, lkL, stL1, stL2, insL, contX, q_ofNat, f4_3, nI_1, -Int32.not_lt, -Int32.not_le, T_Night_pass_18, T_Night_pass_127, T_Night_pass_139, T_Night_pass_161, R_Night_pass, C_Night_pass, M_Night_pass, HH_Night_pass, KI_1, KB_99, KI_0, -Int32.reduceOfInt, -Int8.reduceOfInt, -Int16.reduceOfInt, -Int32.ofInt_neg, TY_3_16, TY_5_0, TY_5_1, TY_5_2, TY_5_3, TY_5_4, TY_3_15, TY_3_17, TY_3_14, O_Night_pass_House_doorOf, C_House_doorOf, M_House_doorOf, W13_House_doorOf, rx_House_doorOf, O_Night_pass_House_monitoredDoors, C_House_monitoredDoors, M_House_monitoredDoors, W13_House_monitoredDoors, rx_House_monitoredDoors, O_Night_pass_House_reportingThermometers, C_House_reportingThermometers, M_House_reportingThermometers, W13_House_reportingThermometers, rx_House_reportingThermometers, O_Night_pass_Night_destination, C_Night_destination, M_Night_destination, W13_Night_destination, rx_Night_destination, O_Night_pass_Night_roomsAfter, C_Night_roomsAfter, M_Night_roomsAfter, W13_Night_roomsAfter, rx_Night_roomsAfter, O_Night_pass_Night_explain, C_Night_explain, M_Night_explain, W13_Night_explain, rx_Night_explain, O_Night_pass_Row_get, C_Row_get, M_Row_get, W13_Row_get, rx_Row_get, O_Night_pass_Row_set, C_Row_set, M_Row_set, W13_Row_set, rx_Row_set, O_Night_pass_G_bit, C_G_bit, M_G_bit, W13_G_bit, rx_G_bit, A_rri, NX, hrd, hH_0, HX_eq2, hr, hd, hH_hH, hlt, Nat.not_le.mpr hlt]
    try simp (disch := omega) [-Int32.not_lt, -Int32.not_le, nI_z, nI_ltI, nI_leI, nI_1, nI_clamp, q_vp, nI_pos', rget_k, rset_k, lget_k, hup_hup, A_rri, NX, hrd, hH_0, HX_eq2, hr, hd, hH_hH, hlt, Nat.not_le.mpr hlt]
    first | done | exact hq | ((repeat' (first | with_reducible refine And.intro ?_ ?_ | with_reducible intro _)) <;> (first | exact hq | exact hI | (refine hF ?_; simp [-Int32.not_lt, -Int32.not_le, *]; done) | (refine hT ?_; simp [-Int32.not_lt, -Int32.not_le, *]; done) | (simp [-Int32.not_lt, -Int32.not_le, *] at hq; exact hq) | (simp [-Int32.not_lt, -Int32.not_le, *] at hI; exact hI) | (refine EX.subL ?_ hI; simp [subL]; done) | (refine EX.subL ?_ (hF ?_) <;> simp [subL, -Int32.not_lt, -Int32.not_le, *]; done) | (refine EX.subL ?_ (hT ?_) <;> simp [subL, -Int32.not_lt, -Int32.not_le, *]; done) | (simp [-Int32.not_lt, -Int32.not_le, *] at hI; refine EX.subL ?_ hI; simp [subL]; done) | (exact absurd (by assumption) (by assumption)) | (simp [-Int32.not_lt, -Int32.not_le, *] at hI ⊢; refine EX.subL ?_ hI; simp [subL]; done) | (simp [-Int32.not_lt, -Int32.not_le, *] at hq ⊢; exact hq) | (apply hF; simp_all [-Int32.not_lt, -Int32.not_le]; done) | (apply hT; simp_all [-Int32.not_lt, -Int32.not_le]; done) | (simp_all [-Int32.not_lt, -Int32.not_le]; done))) | fail
end NP
