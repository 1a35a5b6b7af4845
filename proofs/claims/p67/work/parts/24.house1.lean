/-! 24: the house's own methods -/
def rx_House_requireRoom (as : List Value) (h : HM) (o : Option Nat) (Q : XQ) : Prop := A_ri as fun p i => HX h p fun T => (inR T.2.2.2.2.2.2.2.2.2.1 i = true → Q (.inl none) h o) ∧ (inR T.2.2.2.2.2.2.2.2.2.1 i = false → Q (.inr (exN 2)) h none)
def rx_House_requireDoor (as : List Value) (h : HM) (o : Option Nat) (Q : XQ) : Prop := A_ri as fun p i => HX h p fun T => (inR T.2.2.2.2.2.2.2.2.2.2.1 i = true → Q (.inl none) h o) ∧ (inR T.2.2.2.2.2.2.2.2.2.2.1 i = false → Q (.inr (exN 2)) h none)
def rx_House_nameOf (as : List Value) (h : HM) (o : Option Nat) (Q : XQ) : Prop := A_ri as fun p i => HX h p fun T => Q (.inl (some (.long (lget 12 T.1 i)))) h o
section HOUSE1
variable {G : GG} {as : List Value} {h : HM} {o : Option Nat} {Q : XQ}
theorem HH_House_requireRoom : mHH 28 = [] := rfl
theorem r_House_requireRoom (hx : rx_House_requireRoom as h o Q) : Runs G m_House_requireRoom as h o Q := by
  obtain ⟨p, i, rfl, h0, ⟨nm, co, re, ev, so, lo, hi, no, se, rc, dc, od, th, mi, po, gh, nn, gm, cs⟩, rfl, ⟨hr, hd⟩, hq⟩ := E_ri hx
  dsimp only at hr hd hq
  refine Runs.of (by decide +kernel) (Nat.le_of_ble_eq_true rfl) (X_House_requireRoom_0 (W2_ok G) (genJ (P := fun J => exB _ _ _ _ (J 40) _ _ _ _ _ _ _ _) (fun J hJ => ?_)))
  simp [exB, hJ, exT, stp, lv_args, Value.category, lkL, stL1, stL2, insL, contX, q_ofNat, f4_3, nI_1, -Int32.not_lt, -Int32.not_le, T_House_requireRoom_12, T_House_requireRoom_22, R_House_requireRoom, C_House_requireRoom, M_House_requireRoom, HH_House_requireRoom, A_r, A_ri, A_rii, A_riii, A_rr, A_rl, A_i, A_ii, A_iii, HR, HI, hH_0, hH_1, hH_2, hH_3, hH_4, hH_5, hH_6, hH_7, hH_8, hH_9, hH_10, hH_11, hH_12, hH_13, hH_14, hH_15, hH_16, hH_17, hH_up0, hH_up1, hH_up3, hH_up5, hH_up7, hH_up9, hH_up11, hH_up13, hH_up15, hH_up17, hH_hH, HX_eq, HOK]
  first | done | exact hq | ((repeat' (first | with_reducible refine And.intro ?_ ?_ | with_reducible intro _)) <;> (first | exact hq | exact hI | (refine hF ?_; simp [inR, -Int32.not_lt, -Int32.not_le, *]; done) | (refine hT ?_; simp [inR, -Int32.not_lt, -Int32.not_le, *]; done) | (simp [inR, -Int32.not_lt, -Int32.not_le, *] at hq; exact hq) | (simp [inR, -Int32.not_lt, -Int32.not_le, *] at hI; exact hI) | (refine EX.subL ?_ hI; simp [subL]; done) | (refine EX.subL ?_ (hF ?_) <;> simp [subL, inR, -Int32.not_lt, -Int32.not_le, *]; done) | (refine EX.subL ?_ (hT ?_) <;> simp [subL, inR, -Int32.not_lt, -Int32.not_le, *]; done) | (simp [inR, -Int32.not_lt, -Int32.not_le, *] at hI; refine EX.subL ?_ hI; simp [subL]; done) | (apply hF; simp_all [inR, -Int32.not_lt, -Int32.not_le]; done) | (apply hT; simp_all [inR, -Int32.not_lt, -Int32.not_le]; done) | (simp_all [inR, -Int32.not_lt, -Int32.not_le]; done))) | fail
theorem HH_House_requireDoor : mHH 29 = [] := rfl
theorem r_House_requireDoor (hx : rx_House_requireDoor as h o Q) : Runs G m_House_requireDoor as h o Q := by
  obtain ⟨p, i, rfl, h0, ⟨nm, co, re, ev, so, lo, hi, no, se, rc, dc, od, th, mi, po, gh, nn, gm, cs⟩, rfl, ⟨hr, hd⟩, hq⟩ := E_ri hx
  dsimp only at hr hd hq
  refine Runs.of (by decide +kernel) (Nat.le_of_ble_eq_true rfl) (X_House_requireDoor_0 (W2_ok G) (genJ (P := fun J => exB _ _ _ _ (J 40) _ _ _ _ _ _ _ _) (fun J hJ => ?_)))
  simp [exB, hJ, exT, stp, lv_args, Value.category, lkL, stL1, stL2, insL, contX, q_ofNat, f4_3, nI_1, -Int32.not_lt, -Int32.not_le, T_House_requireDoor_12, T_House_requireDoor_22, R_House_requireDoor, C_House_requireDoor, M_House_requireDoor, HH_House_requireDoor, A_r, A_ri, A_rii, A_riii, A_rr, A_rl, A_i, A_ii, A_iii, HR, HI, hH_0, hH_1, hH_2, hH_3, hH_4, hH_5, hH_6, hH_7, hH_8, hH_9, hH_10, hH_11, hH_12, hH_13, hH_14, hH_15, hH_16, hH_17, hH_up0, hH_up1, hH_up3, hH_up5, hH_up7, hH_up9, hH_up11, hH_up13, hH_up15, hH_up17, hH_hH, HX_eq, HOK]
  first | done | exact hq | ((repeat' (first | with_reducible refine And.intro ?_ ?_ | with_reducible intro _)) <;> (first | exact hq | exact hI | (refine hF ?_; simp [inR, -Int32.not_lt, -Int32.not_le, *]; done) | (refine hT ?_; simp [inR, -Int32.not_lt, -Int32.not_le, *]; done) | (simp [inR, -Int32.not_lt, -Int32.not_le, *] at hq; exact hq) | (simp [inR, -Int32.not_lt, -Int32.not_le, *] at hI; exact hI) | (refine EX.subL ?_ hI; simp [subL]; done) | (refine EX.subL ?_ (hF ?_) <;> simp [subL, inR, -Int32.not_lt, -Int32.not_le, *]; done) | (refine EX.subL ?_ (hT ?_) <;> simp [subL, inR, -Int32.not_lt, -Int32.not_le, *]; done) | (simp [inR, -Int32.not_lt, -Int32.not_le, *] at hI; refine EX.subL ?_ hI; simp [subL]; done) | (apply hF; simp_all [inR, -Int32.not_lt, -Int32.not_le]; done) | (apply hT; simp_all [inR, -Int32.not_lt, -Int32.not_le]; done) | (simp_all [inR, -Int32.not_lt, -Int32.not_le]; done))) | fail
theorem HH_House_nameOf : mHH 30 = [] := rfl
theorem r_House_nameOf (hx : rx_House_nameOf as h o Q) : Runs G m_House_nameOf as h o Q := by
  obtain ⟨p, i, rfl, h0, ⟨nm, co, re, ev, so, lo, hi, no, se, rc, dc, od, th, mi, po, gh, nn, gm, cs⟩, rfl, ⟨hr, hd⟩, hq⟩ := E_ri hx
  dsimp only at hr hd hq
  refine Runs.of (by decide +kernel) (Nat.le_of_ble_eq_true rfl) (X_House_nameOf_0 (W2_ok G) (genJ (P := fun J => exB _ _ _ _ (J 40) _ _ _ _ _ _ _ _) (fun J hJ => ?_)))
  simp [exB, hJ, exT, stp, lv_args, Value.category, lkL, stL1, stL2, insL, contX, q_ofNat, f4_3, nI_1, -Int32.not_lt, -Int32.not_le, T_House_nameOf_22, T_House_nameOf_23, R_House_nameOf, C_House_nameOf, M_House_nameOf, HH_House_nameOf, A_r, A_ri, A_rii, A_riii, A_rr, A_rl, A_i, A_ii, A_iii, HR, HI, hH_0, hH_1, hH_2, hH_3, hH_4, hH_5, hH_6, hH_7, hH_8, hH_9, hH_10, hH_11, hH_12, hH_13, hH_14, hH_15, hH_16, hH_17, hH_up0, hH_up1, hH_up3, hH_up5, hH_up7, hH_up9, hH_up11, hH_up13, hH_up15, hH_up17, hH_hH, HX_eq, HOK]
  unfold lget at hq
  refine ⟨fun c1 => ?_, fun c1 => ⟨fun c2 => ?_, fun c2 => ⟨q_in_of (Int32.not_lt.mp c1) (Int32.not_le.mp c2) (by decide), ?_⟩⟩⟩
  · rw [if_pos c1] at hq; exact hq
  · rw [if_neg c1, if_pos c2] at hq; exact hq
  · rw [if_neg c1, if_neg c2] at hq; exact hq
def doP (lo hi : Nat → Int32) (a b : Int32) (d : Nat) : Bool := (lo d == (if b < a then b else a)) && (hi d == (if a < b then b else a))
def rx_House_doorOf (as : List Value) (h : HM) (o : Option Nat) (Q : XQ) : Prop := A_rii as fun p a b => HX h p fun T => Q (.inl (some (.int (frst T.2.2.2.2.2.2.2.2.2.2.1 (doP T.2.2.2.2.2.1 T.2.2.2.2.2.2.1 a b))))) h o
theorem HH_House_doorOf : mHH 37 = [] := rfl
theorem W2_Row_get {G : GG} {as : List Value} {h : HM} {o : Option Nat} {Q : XQ} : RX G (W2 G) 61 as h o Q = rx_Row_get as h o Q := rfl
theorem r_House_doorOf (hx : rx_House_doorOf as h o Q) : Runs G m_House_doorOf as h o Q := by
  obtain ⟨p, a, b, rfl, h0, ⟨nm, co, re, ev, so, lo, hi, no, se, rc, dc, od, th, mi, po, gh, nn, gm, cs⟩, rfl, ⟨hr, hd⟩, hq⟩ := E_rii hx
  dsimp only at hr hd hq
  have loop : ∀ j d : Nat, d + j = dc → (∀ k, k < d → doP lo hi a b k = false) → EX G m_House_doorOf 16 [(0, .ref p), (1, .int a), (2, .int b), (3, .int (if b < a then b else a)), (4, .int (if a < b then b else a)), (5, .int (nI d))] [] (hH h0 p (nm, co, re, ev, so, lo, hi, no, se, rc, dc, od, th, mi, po, gh, nn, gm, cs)) o 0 0 Q := by
    intro j
    induction j with
    | zero =>
      intro d hd2 hp
      obtain rfl : d = dc := by omega
      refine X_House_doorOf_16 (W2_ok G) (genJ (P := fun J => exB _ _ _ _ (J 40) _ _ _ _ _ _ _ _) (fun J hJ => ?_))
      simp [exB, hJ, exT, stp, lv_args, Value.category, lkL, stL1, stL2, insL, contX, q_ofNat, f4_3, nI_1, -Int32.not_lt, -Int32.not_le, T_House_doorOf_16, T_House_doorOf_55, T_House_doorOf_61, R_House_doorOf, C_House_doorOf, M_House_doorOf, HH_House_doorOf, O_House_doorOf_Row_get, C_Row_get, M_Row_get, W2_Row_get, rx_Row_get, A_r, A_ri, A_rii, A_riii, A_rr, A_rl, A_i, A_ii, A_iii, HR, HI, hH_0, hH_1, hH_2, hH_3, hH_4, hH_5, hH_6, hH_7, hH_8, hH_9, hH_10, hH_11, hH_12, hH_13, hH_14, hH_15, hH_16, hH_17, hH_up0, hH_up1, hH_up3, hH_up5, hH_up7, hH_up9, hH_up11, hH_up13, hH_up15, hH_up17, hH_hH, HX_eq, HOK]
      try simp (disch := omega) [-Int32.not_lt, -Int32.not_le, nI_z, nI_ltI, nI_leI, nI_1, nI_clamp, q_vp, nI_pos', rget_k, rset_k, lget_k, hup_hup, A_r, A_ri, A_rii, A_riii, A_rr, A_rl, A_i, A_ii, A_iii, HR, HI, hH_0, hH_1, hH_2, hH_3, hH_4, hH_5, hH_6, hH_7, hH_8, hH_9, hH_10, hH_11, hH_12, hH_13, hH_14, hH_15, hH_16, hH_17, hH_up0, hH_up1, hH_up3, hH_up5, hH_up7, hH_up9, hH_up11, hH_up13, hH_up15, hH_up17, hH_hH, HX_eq, HOK]
      rw [frst_no hp] at hq
      exact hq
    | succ j ih =>
      intro d hd2 hp
      have hlt : d < dc := by omega
      have hF : doP lo hi a b d = false → EX G m_House_doorOf 16 [(0, .ref p), (1, .int a), (2, .int b), (3, .int (if b < a then b else a)), (4, .int (if a < b then b else a)), (5, .int (nI (d + 1)))] [] (hH h0 p (nm, co, re, ev, so, lo, hi, no, se, rc, dc, od, th, mi, po, gh, nn, gm, cs)) o 0 0 Q := fun hf => ih (d + 1) (by omega) (fr_step hp hf)
      have hT : doP lo hi a b d = true → Q (.inl (some (.int (nI d)))) (hH h0 p (nm, co, re, ev, so, lo, hi, no, se, rc, dc, od, th, mi, po, gh, nn, gm, cs)) o := fun ht => by rw [frst_at hlt ht hp] at hq; exact hq
      refine X_House_doorOf_16 (W2_ok G) (genJ (P := fun J => exB _ _ _ _ (J 40) _ _ _ _ _ _ _ _) (fun J hJ => ?_))
      simp [exB, hJ, exT, stp, lv_args, Value.category, lkL, stL1, stL2, insL, contX, q_ofNat, f4_3, nI_1, -Int32.not_lt, -Int32.not_le, T_House_doorOf_16, T_House_doorOf_55, T_House_doorOf_61, R_House_doorOf, C_House_doorOf, M_House_doorOf, HH_House_doorOf, O_House_doorOf_Row_get, C_Row_get, M_Row_get, W2_Row_get, rx_Row_get, A_r, A_ri, A_rii, A_riii, A_rr, A_rl, A_i, A_ii, A_iii, HR, HI, hH_0, hH_1, hH_2, hH_3, hH_4, hH_5, hH_6, hH_7, hH_8, hH_9, hH_10, hH_11, hH_12, hH_13, hH_14, hH_15, hH_16, hH_17, hH_up0, hH_up1, hH_up3, hH_up5, hH_up7, hH_up9, hH_up11, hH_up13, hH_up15, hH_up17, hH_hH, HX_eq, HOK, hlt, Nat.not_le.mpr hlt]
      try simp (disch := omega) [-Int32.not_lt, -Int32.not_le, nI_z, nI_ltI, nI_leI, nI_1, nI_clamp, q_vp, nI_pos', rget_k, rset_k, lget_k, hup_hup, A_r, A_ri, A_rii, A_riii, A_rr, A_rl, A_i, A_ii, A_iii, HR, HI, hH_0, hH_1, hH_2, hH_3, hH_4, hH_5, hH_6, hH_7, hH_8, hH_9, hH_10, hH_11, hH_12, hH_13, hH_14, hH_15, hH_16, hH_17, hH_up0, hH_up1, hH_up3, hH_up5, hH_up7, hH_up9, hH_up11, hH_up13, hH_up15, hH_up17, hH_hH, HX_eq, HOK, hlt, Nat.not_le.mpr hlt]
      first | done | exact hq | ((repeat' (first | with_reducible refine And.intro ?_ ?_ | with_reducible intro _)) <;> (first | exact hq | exact hI | (refine hF ?_; simp [doP, -Int32.not_lt, -Int32.not_le, *]; done) | (refine hT ?_; simp [doP, -Int32.not_lt, -Int32.not_le, *]; done) | (simp [doP, -Int32.not_lt, -Int32.not_le, *] at hq; exact hq) | (simp [doP, -Int32.not_lt, -Int32.not_le, *] at hI; exact hI) | (refine EX.subL ?_ hI; simp [subL]; done) | (refine EX.subL ?_ (hF ?_) <;> simp [subL, doP, -Int32.not_lt, -Int32.not_le, *]; done) | (refine EX.subL ?_ (hT ?_) <;> simp [subL, doP, -Int32.not_lt, -Int32.not_le, *]; done) | (simp [doP, -Int32.not_lt, -Int32.not_le, *] at hI; refine EX.subL ?_ hI; simp [subL]; done) | (apply hF; simp_all [doP, -Int32.not_lt, -Int32.not_le]; done) | (apply hT; simp_all [doP, -Int32.not_lt, -Int32.not_le]; done) | (simp_all [doP, -Int32.not_lt, -Int32.not_le]; done))) | fail
  refine Runs.of (by decide +kernel) (Nat.le_of_ble_eq_true rfl) (X_House_doorOf_0 (W2_ok G) (genJ (P := fun J => exB _ _ _ _ (J 40) _ _ _ _ _ _ _ _) (fun J hJ => ?_)))
  simp [exB, hJ, exT, stp, lv_args, Value.category, lkL, stL1, stL2, insL, contX, q_ofNat, f4_3, nI_1, -Int32.not_lt, -Int32.not_le, T_House_doorOf_16, T_House_doorOf_55, T_House_doorOf_61, R_House_doorOf, C_House_doorOf, M_House_doorOf, HH_House_doorOf, O_House_doorOf_Row_get, C_Row_get, M_Row_get, W2_Row_get, rx_Row_get, A_r, A_ri, A_rii, A_riii, A_rr, A_rl, A_i, A_ii, A_iii, HR, HI, hH_0, hH_1, hH_2, hH_3, hH_4, hH_5, hH_6, hH_7, hH_8, hH_9, hH_10, hH_11, hH_12, hH_13, hH_14, hH_15, hH_16, hH_17, hH_up0, hH_up1, hH_up3, hH_up5, hH_up7, hH_up9, hH_up11, hH_up13, hH_up15, hH_up17, hH_hH, HX_eq, HOK]
  exact loop dc 0 (by omega) (fun k hk => absurd hk (Nat.not_lt_zero k))
end HOUSE1
