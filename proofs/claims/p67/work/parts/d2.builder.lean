/-! d2: digits -/
def putF (f : Nat → Int32) (p : Nat) (l : List Int32) : Nat → Int32 := fun i => if p ≤ i ∧ i < p + l.length then l.getD (i - p) 0 else f i
theorem put_1 (f : Nat → Int32) (p : Nat) (x : Int32) : upd f p x = putF f p [x] := by
  funext i
  unfold upd putF
  by_cases c : i = p
  · subst c; simp
  · rw [if_neg c, if_neg (by simp; omega)]
theorem put_2 (f : Nat → Int32) (p : Nat) (x y : Int32) : upd (upd f (p + 1) y) p x = putF f p [x, y] := by
  funext i
  unfold upd putF
  by_cases c : i = p
  · subst c; simp
  · rw [if_neg c]
    by_cases c2 : i = p + 1
    · subst c2; simp
    · rw [if_neg c2, if_neg (by simp; omega)]
theorem dgt_ok : ∀ v, v < 100 → vp_nar .byte (dgV 0 v) = nI (48 + v % 10) ∧ vp_nar .byte (dgV 1 v) = nI (48 + v / 10) := by decide +kernel
def rx_Integer_getChars (as : List Value) (h : HM) (o : Option Nat) (Q : XQ) : Prop := A_iir as fun x y b => ∃ v p cap f, (v < 100 ∧ x = nI v ∧ y = nI (p + (decL v).length) ∧ p + (decL v).length ≤ cap ∧ cap ≤ 4000 ∧ h b = some (byA cap f)) ∧ Q (.inl (some (.int (nI p)))) (hup h b (byA cap (putF f p (decL v)))) o
def rx_Integer_trailing (as : List Value) (h : HM) (o : Option Nat) (Q : XQ) : Prop := A_i as fun x => ∃ t, (t < 12 ∧ ~~~x &&& (x - 1) = nI (2 ^ t - 1)) ∧ Q (.inl (some (.int (nI t)))) h o
section BL
variable {G : GG} {as : List Value} {h : HM} {o : Option Nat} {Q : XQ}
theorem HH_Integer_getChars : mHH 162 = [] := rfl
set_option maxRecDepth 2000 in
set_option maxHeartbeats 200000 in
theorem r_Integer_getChars (hx : rx_Integer_getChars as h o Q) : Runs G m_Integer_getChars as h o Q := by
  obtain ⟨x, y, b, rfl, v, p, cap, f, ⟨hv, rfl, rfl, hp, hc, hb⟩, hq⟩ := E_iir hx
  obtain ⟨h1, h2, h3, h4⟩ := dec_nle v hv
  obtain ⟨d1, d2⟩ := dgt_ok v hv
  rw [dec_len] at hp; clear hx
  have h0 : 0 ≤ nI v := Int32.not_lt.mp h1
  have hd : vp_in (nI v) 100 := vp_in_nI hv (by decide)
  have m9 : (-9 : Int8).toInt32 = (-9 : Int32) := by decide
  have m100 : (-100 : Int8).toInt32 = (-100 : Int32) := by decide
  rw [dec_len]
  have g2 : -100 < -nI v := Int32.not_le.mp h2
  by_cases c : v < 10
  · have h5 : -9 ≤ -nI v := Int32.not_lt.mp fun e => absurd (h4.mp e) (by omega)
    rw [if_pos c] at hp
    have e1 : nI (p + 1) + -1 = nI p := sb_m1 (p := p + 1) (by omega)
    have vp : vp_in (nI p) cap := vp_in_nI (by omega) (by omega)
    rw [if_pos c]
    refine Runs.of (by decide +kernel) (Nat.le_of_ble_eq_true rfl) (X_Integer_getChars_0 (W47_ok G) (genJ (P := fun J => exB _ _ _ _ (J 40) _ _ _ _ _ _ _ _) (fun J hJ => ?_)))
    simp [exB, hJ, exT, stp, lv_args, Value.category, lkL, stL1, stL2, insL, contX, q_ofNat, f4_3, nI_1, -Int32.not_lt, -Int32.not_le, -Int64.not_lt, -Int64.not_le, T_Integer_getChars_11, T_Integer_getChars_12, T_Integer_getChars_22, T_Integer_getChars_72, T_Integer_getChars_104, T_Integer_getChars_118, R_Integer_getChars, C_Integer_getChars, M_Integer_getChars, HH_Integer_getChars, KI_1, KI_0, KB_m100, KB_100, KI_m1, KB_m9, KB_45, -Int32.reduceOfInt, -Int8.reduceOfInt, -Int16.reduceOfInt, -Int32.ofInt_neg, h0, h1]
    try simp (disch := omega) [-Int64.not_lt, -Int64.not_le, -Int32.not_lt, -Int32.not_le, nI_z, nI_ltI, nI_leI, nI_1, nI_clamp, q_vp, nI_pos', rget_k, rset_k, lget_k, hup_hup, h0, h1]
    have hJ : True := trivial
    refine exB_ok (t := [(.iload_n 0, 1, 0, 0, 0, 0), (.bipush (-100), 2, 0, 0, 0, 0), (.if_icmp .gt 47, 3, 72, 0, 0, 0)]) (W47_ok G) (jj := fun q L st h o k n => EX G m_Integer_getChars q L st h o k n Q) (fun q L st h o k n hq => hq) (by decide +kernel) ?_
    simp [exB, hJ, exT, stp, lv_args, Value.category, lkL, stL1, stL2, insL, contX, q_ofNat, f4_3, nI_1, -Int32.not_lt, -Int32.not_le, -Int64.not_lt, -Int64.not_le, T_Integer_getChars_11, T_Integer_getChars_12, T_Integer_getChars_22, T_Integer_getChars_72, T_Integer_getChars_104, T_Integer_getChars_118, R_Integer_getChars, C_Integer_getChars, M_Integer_getChars, HH_Integer_getChars, KI_1, KI_0, KB_m100, KB_100, KI_m1, KB_m9, KB_45, -Int32.reduceOfInt, -Int8.reduceOfInt, -Int16.reduceOfInt, -Int32.ofInt_neg, g2, m100]
    try simp (disch := omega) [-Int64.not_lt, -Int64.not_le, -Int32.not_lt, -Int32.not_le, nI_z, nI_ltI, nI_leI, nI_1, nI_clamp, q_vp, nI_pos', rget_k, rset_k, lget_k, hup_hup, g2, m100]
    refine exB_ok (t := [(.aload_n 2, 1, 0, 0, 0, 0)]) (W47_ok G) (jj := fun q L st h o k n => EX G m_Integer_getChars q L st h o k n Q) (fun q L st h o k n hq => hq) (by decide +kernel) ?_
    simp [exB, hJ, exT, stp, lv_args, Value.category, lkL, stL1, stL2, insL, contX, q_ofNat, f4_3, nI_1, -Int32.not_lt, -Int32.not_le, -Int64.not_lt, -Int64.not_le, T_Integer_getChars_11, T_Integer_getChars_12, T_Integer_getChars_22, T_Integer_getChars_72, T_Integer_getChars_104, T_Integer_getChars_118, R_Integer_getChars, C_Integer_getChars, M_Integer_getChars, HH_Integer_getChars, KI_1, KI_0, KB_m100, KB_100, KI_m1, KB_m9, KB_45, -Int32.reduceOfInt, -Int8.reduceOfInt, -Int16.reduceOfInt, -Int32.ofInt_neg, hb, m9, hd, d1, e1, vp, h5]
    try simp (disch := omega) [-Int64.not_lt, -Int64.not_le, -Int32.not_lt, -Int32.not_le, nI_z, nI_ltI, nI_leI, nI_1, nI_clamp, q_vp, nI_pos', rget_k, rset_k, lget_k, hup_hup, hb, m9, hd, d1, e1, vp, h5]
    refine s_iinc (z := 5) (dlt := (-1)) (by decide +kernel) rfl (by decide) ?_
    simp [stL1, insL, KI_m1, -Int32.reduceOfInt, -Int32.ofInt_neg, lv_args, Value.category]
    refine exB_ok (t := [(.iload 5, 2, 0, 0, 0, 0), (.getstatic 83, 3, 1003, 0, 0, 0), (.iload_n 0, 1, 0, 0, 0, 0), (.ineg, 1, 0, 0, 0, 0)]) (W47_ok G) (jj := fun q L st h o k n => EX G m_Integer_getChars q L st h o k n Q) (fun q L st h o k n hq => hq) (by decide +kernel) ?_
    simp [exB, hJ, exT, stp, lv_args, Value.category, lkL, stL1, stL2, insL, contX, q_ofNat, f4_3, nI_1, -Int32.not_lt, -Int32.not_le, -Int64.not_lt, -Int64.not_le, T_Integer_getChars_11, T_Integer_getChars_12, T_Integer_getChars_22, T_Integer_getChars_72, T_Integer_getChars_104, T_Integer_getChars_118, R_Integer_getChars, C_Integer_getChars, M_Integer_getChars, HH_Integer_getChars, KI_1, KI_0, KB_m100, KB_100, KI_m1, KB_m9, KB_45, -Int32.reduceOfInt, -Int8.reduceOfInt, -Int16.reduceOfInt, -Int32.ofInt_neg, hb, m9, hd, d1, e1, vp, h5]
    try simp (disch := omega) [-Int64.not_lt, -Int64.not_le, -Int32.not_lt, -Int32.not_le, nI_z, nI_ltI, nI_leI, nI_1, nI_clamp, q_vp, nI_pos', rget_k, rset_k, lget_k, hup_hup, hb, m9, hd, d1, e1, vp, h5]
    refine exB_ok (t := [(.baload, 1, 1003, 0, 0, 0)]) (W47_ok G) (jj := fun q L st h o k n => EX G m_Integer_getChars q L st h o k n Q) (fun q L st h o k n hq => hq) (by decide +kernel) ?_
    simp [exB, hJ, exT, stp, lv_args, Value.category, lkL, stL1, stL2, insL, contX, q_ofNat, f4_3, nI_1, -Int32.not_lt, -Int32.not_le, -Int64.not_lt, -Int64.not_le, T_Integer_getChars_11, T_Integer_getChars_12, T_Integer_getChars_22, T_Integer_getChars_72, T_Integer_getChars_104, T_Integer_getChars_118, R_Integer_getChars, C_Integer_getChars, M_Integer_getChars, HH_Integer_getChars, KI_1, KI_0, KB_m100, KB_100, KI_m1, KB_m9, KB_45, -Int32.reduceOfInt, -Int8.reduceOfInt, -Int16.reduceOfInt, -Int32.ofInt_neg, hb, m9, hd, d1, e1, vp, h5]
    try simp (disch := omega) [-Int64.not_lt, -Int64.not_le, -Int32.not_lt, -Int32.not_le, nI_z, nI_ltI, nI_leI, nI_1, nI_clamp, q_vp, nI_pos', rget_k, rset_k, lget_k, hup_hup, hb, m9, hd, d1, e1, vp, h5]
    refine exB_ok (t := [(.bastore, 1, 0, 0, 0, 0), (.iload_n 0, 1, 0, 0, 0, 0), (.bipush (-9), 2, 0, 0, 0, 0), (.if_icmp .ge 16, 3, 104, 0, 0, 0)]) (W47_ok G) (jj := fun q L st h o k n => EX G m_Integer_getChars q L st h o k n Q) (fun q L st h o k n hq => hq) (by decide +kernel) ?_
    simp [exB, hJ, exT, stp, lv_args, Value.category, lkL, stL1, stL2, insL, contX, q_ofNat, f4_3, nI_1, -Int32.not_lt, -Int32.not_le, -Int64.not_lt, -Int64.not_le, T_Integer_getChars_11, T_Integer_getChars_12, T_Integer_getChars_22, T_Integer_getChars_72, T_Integer_getChars_104, T_Integer_getChars_118, R_Integer_getChars, C_Integer_getChars, M_Integer_getChars, HH_Integer_getChars, KI_1, KI_0, KB_m100, KB_100, KI_m1, KB_m9, KB_45, -Int32.reduceOfInt, -Int8.reduceOfInt, -Int16.reduceOfInt, -Int32.ofInt_neg, hb, m9, hd, d1, e1, vp, h5]
    try simp (disch := omega) [-Int64.not_lt, -Int64.not_le, -Int32.not_lt, -Int32.not_le, nI_z, nI_ltI, nI_leI, nI_1, nI_clamp, q_vp, nI_pos', rget_k, rset_k, lget_k, hup_hup, hb, m9, hd, d1, e1, vp, h5]
    refine exB_ok (t := [(.iload 6, 2, 0, 0, 0, 0), (.ifCond .eq 12, 3, 118, 0, 0, 0)]) (W47_ok G) (jj := fun q L st h o k n => EX G m_Integer_getChars q L st h o k n Q) (fun q L st h o k n hq => hq) (by decide +kernel) ?_
    simp [exB, hJ, exT, stp, lv_args, Value.category, lkL, stL1, stL2, insL, contX, q_ofNat, f4_3, nI_1, -Int32.not_lt, -Int32.not_le, -Int64.not_lt, -Int64.not_le, T_Integer_getChars_11, T_Integer_getChars_12, T_Integer_getChars_22, T_Integer_getChars_72, T_Integer_getChars_104, T_Integer_getChars_118, R_Integer_getChars, C_Integer_getChars, M_Integer_getChars, HH_Integer_getChars, KI_1, KI_0, KB_m100, KB_100, KI_m1, KB_m9, KB_45, -Int32.reduceOfInt, -Int8.reduceOfInt, -Int16.reduceOfInt, -Int32.ofInt_neg]
    try simp (disch := omega) [-Int64.not_lt, -Int64.not_le, -Int32.not_lt, -Int32.not_le, nI_z, nI_ltI, nI_leI, nI_1, nI_clamp, q_vp, nI_pos', rget_k, rset_k, lget_k, hup_hup]
    refine exB_ok (t := [(.iload 5, 2, 0, 0, 0, 0), (.ireturn, 1, 0, 0, 0, 0)]) (W47_ok G) (jj := fun q L st h o k n => EX G m_Integer_getChars q L st h o k n Q) (fun q L st h o k n hq => hq) (by decide +kernel) ?_
    simp [exB, hJ, exT, stp, lv_args, Value.category, lkL, stL1, stL2, insL, contX, q_ofNat, f4_3, nI_1, -Int32.not_lt, -Int32.not_le, -Int64.not_lt, -Int64.not_le, T_Integer_getChars_11, T_Integer_getChars_12, T_Integer_getChars_22, T_Integer_getChars_72, T_Integer_getChars_104, T_Integer_getChars_118, R_Integer_getChars, C_Integer_getChars, M_Integer_getChars, HH_Integer_getChars, KI_1, KI_0, KB_m100, KB_100, KI_m1, KB_m9, KB_45, -Int32.reduceOfInt, -Int8.reduceOfInt, -Int16.reduceOfInt, -Int32.ofInt_neg]
    try simp (disch := omega) [-Int64.not_lt, -Int64.not_le, -Int32.not_lt, -Int32.not_le, nI_z, nI_ltI, nI_leI, nI_1, nI_clamp, q_vp, nI_pos', rget_k, rset_k, lget_k, hup_hup]
    rw [put_1, show v % 10 = v by omega]
    rw [show decL v = [nI (48 + v)] from if_pos c] at hq
    exact hq
  · have h5 : ¬ -9 ≤ -nI v := Int32.not_le.mpr (h4.mpr (by omega))
    rw [if_neg c] at hp
    have e1 : nI (p + 2) + -1 = nI (p + 1) := sb_m1 (p := p + 2) (by omega)
    have e2 : nI (p + 1) + -1 = nI p := sb_m1 (p := p + 1) (by omega)
    have vp : vp_in (nI p) cap := vp_in_nI (by omega) (by omega)
    have vp2 : vp_in (nI (p + 1)) cap := vp_in_nI (by omega) (by omega)
    rw [if_neg c]
    refine Runs.of (by decide +kernel) (Nat.le_of_ble_eq_true rfl) (X_Integer_getChars_0 (W47_ok G) (genJ (P := fun J => exB _ _ _ _ (J 40) _ _ _ _ _ _ _ _) (fun J hJ => ?_)))
    simp [exB, hJ, exT, stp, lv_args, Value.category, lkL, stL1, stL2, insL, contX, q_ofNat, f4_3, nI_1, -Int32.not_lt, -Int32.not_le, -Int64.not_lt, -Int64.not_le, T_Integer_getChars_11, T_Integer_getChars_12, T_Integer_getChars_22, T_Integer_getChars_72, T_Integer_getChars_104, T_Integer_getChars_118, R_Integer_getChars, C_Integer_getChars, M_Integer_getChars, HH_Integer_getChars, KI_1, KI_0, KB_m100, KB_100, KI_m1, KB_m9, KB_45, -Int32.reduceOfInt, -Int8.reduceOfInt, -Int16.reduceOfInt, -Int32.ofInt_neg, h0, h1]
    try simp (disch := omega) [-Int64.not_lt, -Int64.not_le, -Int32.not_lt, -Int32.not_le, nI_z, nI_ltI, nI_leI, nI_1, nI_clamp, q_vp, nI_pos', rget_k, rset_k, lget_k, hup_hup, h0, h1]
    have hJ : True := trivial
    refine exB_ok (t := [(.iload_n 0, 1, 0, 0, 0, 0), (.bipush (-100), 2, 0, 0, 0, 0), (.if_icmp .gt 47, 3, 72, 0, 0, 0)]) (W47_ok G) (jj := fun q L st h o k n => EX G m_Integer_getChars q L st h o k n Q) (fun q L st h o k n hq => hq) (by decide +kernel) ?_
    simp [exB, hJ, exT, stp, lv_args, Value.category, lkL, stL1, stL2, insL, contX, q_ofNat, f4_3, nI_1, -Int32.not_lt, -Int32.not_le, -Int64.not_lt, -Int64.not_le, T_Integer_getChars_11, T_Integer_getChars_12, T_Integer_getChars_22, T_Integer_getChars_72, T_Integer_getChars_104, T_Integer_getChars_118, R_Integer_getChars, C_Integer_getChars, M_Integer_getChars, HH_Integer_getChars, KI_1, KI_0, KB_m100, KB_100, KI_m1, KB_m9, KB_45, -Int32.reduceOfInt, -Int8.reduceOfInt, -Int16.reduceOfInt, -Int32.ofInt_neg, g2, m100]
    try simp (disch := omega) [-Int64.not_lt, -Int64.not_le, -Int32.not_lt, -Int32.not_le, nI_z, nI_ltI, nI_leI, nI_1, nI_clamp, q_vp, nI_pos', rget_k, rset_k, lget_k, hup_hup, g2, m100]
    refine exB_ok (t := [(.aload_n 2, 1, 0, 0, 0, 0)]) (W47_ok G) (jj := fun q L st h o k n => EX G m_Integer_getChars q L st h o k n Q) (fun q L st h o k n hq => hq) (by decide +kernel) ?_
    simp [exB, hJ, exT, stp, lv_args, Value.category, lkL, stL1, stL2, insL, contX, q_ofNat, f4_3, nI_1, -Int32.not_lt, -Int32.not_le, -Int64.not_lt, -Int64.not_le, T_Integer_getChars_11, T_Integer_getChars_12, T_Integer_getChars_22, T_Integer_getChars_72, T_Integer_getChars_104, T_Integer_getChars_118, R_Integer_getChars, C_Integer_getChars, M_Integer_getChars, HH_Integer_getChars, KI_1, KI_0, KB_m100, KB_100, KI_m1, KB_m9, KB_45, -Int32.reduceOfInt, -Int8.reduceOfInt, -Int16.reduceOfInt, -Int32.ofInt_neg, hb, m9, hd, d1, e1, vp2, h5]
    try simp (disch := omega) [-Int64.not_lt, -Int64.not_le, -Int32.not_lt, -Int32.not_le, nI_z, nI_ltI, nI_leI, nI_1, nI_clamp, q_vp, nI_pos', rget_k, rset_k, lget_k, hup_hup, hb, m9, hd, d1, e1, vp2, h5]
    refine s_iinc (z := 5) (dlt := (-1)) (by decide +kernel) rfl (by decide) ?_
    simp [stL1, insL, KI_m1, -Int32.reduceOfInt, -Int32.ofInt_neg, lv_args, Value.category]
    refine exB_ok (t := [(.iload 5, 2, 0, 0, 0, 0), (.getstatic 83, 3, 1003, 0, 0, 0), (.iload_n 0, 1, 0, 0, 0, 0), (.ineg, 1, 0, 0, 0, 0)]) (W47_ok G) (jj := fun q L st h o k n => EX G m_Integer_getChars q L st h o k n Q) (fun q L st h o k n hq => hq) (by decide +kernel) ?_
    simp [exB, hJ, exT, stp, lv_args, Value.category, lkL, stL1, stL2, insL, contX, q_ofNat, f4_3, nI_1, -Int32.not_lt, -Int32.not_le, -Int64.not_lt, -Int64.not_le, T_Integer_getChars_11, T_Integer_getChars_12, T_Integer_getChars_22, T_Integer_getChars_72, T_Integer_getChars_104, T_Integer_getChars_118, R_Integer_getChars, C_Integer_getChars, M_Integer_getChars, HH_Integer_getChars, KI_1, KI_0, KB_m100, KB_100, KI_m1, KB_m9, KB_45, -Int32.reduceOfInt, -Int8.reduceOfInt, -Int16.reduceOfInt, -Int32.ofInt_neg, hb, m9, hd, d1, e1, vp2, h5]
    try simp (disch := omega) [-Int64.not_lt, -Int64.not_le, -Int32.not_lt, -Int32.not_le, nI_z, nI_ltI, nI_leI, nI_1, nI_clamp, q_vp, nI_pos', rget_k, rset_k, lget_k, hup_hup, hb, m9, hd, d1, e1, vp2, h5]
    refine exB_ok (t := [(.baload, 1, 1003, 0, 0, 0)]) (W47_ok G) (jj := fun q L st h o k n => EX G m_Integer_getChars q L st h o k n Q) (fun q L st h o k n hq => hq) (by decide +kernel) ?_
    simp [exB, hJ, exT, stp, lv_args, Value.category, lkL, stL1, stL2, insL, contX, q_ofNat, f4_3, nI_1, -Int32.not_lt, -Int32.not_le, -Int64.not_lt, -Int64.not_le, T_Integer_getChars_11, T_Integer_getChars_12, T_Integer_getChars_22, T_Integer_getChars_72, T_Integer_getChars_104, T_Integer_getChars_118, R_Integer_getChars, C_Integer_getChars, M_Integer_getChars, HH_Integer_getChars, KI_1, KI_0, KB_m100, KB_100, KI_m1, KB_m9, KB_45, -Int32.reduceOfInt, -Int8.reduceOfInt, -Int16.reduceOfInt, -Int32.ofInt_neg, hb, m9, hd, d1, e1, vp2, h5]
    try simp (disch := omega) [-Int64.not_lt, -Int64.not_le, -Int32.not_lt, -Int32.not_le, nI_z, nI_ltI, nI_leI, nI_1, nI_clamp, q_vp, nI_pos', rget_k, rset_k, lget_k, hup_hup, hb, m9, hd, d1, e1, vp2, h5]
    refine exB_ok (t := [(.bastore, 1, 0, 0, 0, 0), (.iload_n 0, 1, 0, 0, 0, 0), (.bipush (-9), 2, 0, 0, 0, 0), (.if_icmp .ge 16, 3, 104, 0, 0, 0)]) (W47_ok G) (jj := fun q L st h o k n => EX G m_Integer_getChars q L st h o k n Q) (fun q L st h o k n hq => hq) (by decide +kernel) ?_
    simp [exB, hJ, exT, stp, lv_args, Value.category, lkL, stL1, stL2, insL, contX, q_ofNat, f4_3, nI_1, -Int32.not_lt, -Int32.not_le, -Int64.not_lt, -Int64.not_le, T_Integer_getChars_11, T_Integer_getChars_12, T_Integer_getChars_22, T_Integer_getChars_72, T_Integer_getChars_104, T_Integer_getChars_118, R_Integer_getChars, C_Integer_getChars, M_Integer_getChars, HH_Integer_getChars, KI_1, KI_0, KB_m100, KB_100, KI_m1, KB_m9, KB_45, -Int32.reduceOfInt, -Int8.reduceOfInt, -Int16.reduceOfInt, -Int32.ofInt_neg, hb, m9, hd, d1, e1, vp2, h5]
    try simp (disch := omega) [-Int64.not_lt, -Int64.not_le, -Int32.not_lt, -Int32.not_le, nI_z, nI_ltI, nI_leI, nI_1, nI_clamp, q_vp, nI_pos', rget_k, rset_k, lget_k, hup_hup, hb, m9, hd, d1, e1, vp2, h5]
    refine exB_ok (t := [(.aload_n 2, 1, 0, 0, 0, 0)]) (W47_ok G) (jj := fun q L st h o k n => EX G m_Integer_getChars q L st h o k n Q) (fun q L st h o k n hq => hq) (by decide +kernel) ?_
    simp [exB, hJ, exT, stp, lv_args, Value.category, lkL, stL1, stL2, insL, contX, q_ofNat, f4_3, nI_1, -Int32.not_lt, -Int32.not_le, -Int64.not_lt, -Int64.not_le, T_Integer_getChars_11, T_Integer_getChars_12, T_Integer_getChars_22, T_Integer_getChars_72, T_Integer_getChars_104, T_Integer_getChars_118, R_Integer_getChars, C_Integer_getChars, M_Integer_getChars, HH_Integer_getChars, KI_1, KI_0, KB_m100, KB_100, KI_m1, KB_m9, KB_45, -Int32.reduceOfInt, -Int8.reduceOfInt, -Int16.reduceOfInt, -Int32.ofInt_neg, hd, d2, e2, vp, hup_at]
    try simp (disch := omega) [-Int64.not_lt, -Int64.not_le, -Int32.not_lt, -Int32.not_le, nI_z, nI_ltI, nI_leI, nI_1, nI_clamp, q_vp, nI_pos', rget_k, rset_k, lget_k, hup_hup, hd, d2, e2, vp, hup_at]
    refine s_iinc (z := 5) (dlt := (-1)) (by decide +kernel) rfl (by decide) ?_
    simp [stL1, insL, KI_m1, -Int32.reduceOfInt, -Int32.ofInt_neg, lv_args, Value.category]
    refine exB_ok (t := [(.iload 5, 2, 0, 0, 0, 0), (.getstatic 87, 3, 1004, 0, 0, 0), (.iload_n 0, 1, 0, 0, 0, 0), (.ineg, 1, 0, 0, 0, 0)]) (W47_ok G) (jj := fun q L st h o k n => EX G m_Integer_getChars q L st h o k n Q) (fun q L st h o k n hq => hq) (by decide +kernel) ?_
    simp [exB, hJ, exT, stp, lv_args, Value.category, lkL, stL1, stL2, insL, contX, q_ofNat, f4_3, nI_1, -Int32.not_lt, -Int32.not_le, -Int64.not_lt, -Int64.not_le, T_Integer_getChars_11, T_Integer_getChars_12, T_Integer_getChars_22, T_Integer_getChars_72, T_Integer_getChars_104, T_Integer_getChars_118, R_Integer_getChars, C_Integer_getChars, M_Integer_getChars, HH_Integer_getChars, KI_1, KI_0, KB_m100, KB_100, KI_m1, KB_m9, KB_45, -Int32.reduceOfInt, -Int8.reduceOfInt, -Int16.reduceOfInt, -Int32.ofInt_neg, hd, d2, e2, vp, hup_at]
    try simp (disch := omega) [-Int64.not_lt, -Int64.not_le, -Int32.not_lt, -Int32.not_le, nI_z, nI_ltI, nI_leI, nI_1, nI_clamp, q_vp, nI_pos', rget_k, rset_k, lget_k, hup_hup, hd, d2, e2, vp, hup_at]
    refine exB_ok (t := [(.baload, 1, 1004, 0, 0, 0)]) (W47_ok G) (jj := fun q L st h o k n => EX G m_Integer_getChars q L st h o k n Q) (fun q L st h o k n hq => hq) (by decide +kernel) ?_
    simp [exB, hJ, exT, stp, lv_args, Value.category, lkL, stL1, stL2, insL, contX, q_ofNat, f4_3, nI_1, -Int32.not_lt, -Int32.not_le, -Int64.not_lt, -Int64.not_le, T_Integer_getChars_11, T_Integer_getChars_12, T_Integer_getChars_22, T_Integer_getChars_72, T_Integer_getChars_104, T_Integer_getChars_118, R_Integer_getChars, C_Integer_getChars, M_Integer_getChars, HH_Integer_getChars, KI_1, KI_0, KB_m100, KB_100, KI_m1, KB_m9, KB_45, -Int32.reduceOfInt, -Int8.reduceOfInt, -Int16.reduceOfInt, -Int32.ofInt_neg, hd, d2, e2, vp, hup_at]
    try simp (disch := omega) [-Int64.not_lt, -Int64.not_le, -Int32.not_lt, -Int32.not_le, nI_z, nI_ltI, nI_leI, nI_1, nI_clamp, q_vp, nI_pos', rget_k, rset_k, lget_k, hup_hup, hd, d2, e2, vp, hup_at]
    refine exB_ok (t := [(.bastore, 1, 0, 0, 0, 0)]) (W47_ok G) (jj := fun q L st h o k n => EX G m_Integer_getChars q L st h o k n Q) (fun q L st h o k n hq => hq) (by decide +kernel) ?_
    simp [exB, hJ, exT, stp, lv_args, Value.category, lkL, stL1, stL2, insL, contX, q_ofNat, f4_3, nI_1, -Int32.not_lt, -Int32.not_le, -Int64.not_lt, -Int64.not_le, T_Integer_getChars_11, T_Integer_getChars_12, T_Integer_getChars_22, T_Integer_getChars_72, T_Integer_getChars_104, T_Integer_getChars_118, R_Integer_getChars, C_Integer_getChars, M_Integer_getChars, HH_Integer_getChars, KI_1, KI_0, KB_m100, KB_100, KI_m1, KB_m9, KB_45, -Int32.reduceOfInt, -Int8.reduceOfInt, -Int16.reduceOfInt, -Int32.ofInt_neg, hd, d2, e2, vp, hup_at]
    try simp (disch := omega) [-Int64.not_lt, -Int64.not_le, -Int32.not_lt, -Int32.not_le, nI_z, nI_ltI, nI_leI, nI_1, nI_clamp, q_vp, nI_pos', rget_k, rset_k, lget_k, hup_hup, hd, d2, e2, vp, hup_at]
    refine exB_ok (t := [(.iload 6, 2, 0, 0, 0, 0), (.ifCond .eq 12, 3, 118, 0, 0, 0)]) (W47_ok G) (jj := fun q L st h o k n => EX G m_Integer_getChars q L st h o k n Q) (fun q L st h o k n hq => hq) (by decide +kernel) ?_
    simp [exB, hJ, exT, stp, lv_args, Value.category, lkL, stL1, stL2, insL, contX, q_ofNat, f4_3, nI_1, -Int32.not_lt, -Int32.not_le, -Int64.not_lt, -Int64.not_le, T_Integer_getChars_11, T_Integer_getChars_12, T_Integer_getChars_22, T_Integer_getChars_72, T_Integer_getChars_104, T_Integer_getChars_118, R_Integer_getChars, C_Integer_getChars, M_Integer_getChars, HH_Integer_getChars, KI_1, KI_0, KB_m100, KB_100, KI_m1, KB_m9, KB_45, -Int32.reduceOfInt, -Int8.reduceOfInt, -Int16.reduceOfInt, -Int32.ofInt_neg]
    try simp (disch := omega) [-Int64.not_lt, -Int64.not_le, -Int32.not_lt, -Int32.not_le, nI_z, nI_ltI, nI_leI, nI_1, nI_clamp, q_vp, nI_pos', rget_k, rset_k, lget_k, hup_hup]
    refine exB_ok (t := [(.iload 5, 2, 0, 0, 0, 0), (.ireturn, 1, 0, 0, 0, 0)]) (W47_ok G) (jj := fun q L st h o k n => EX G m_Integer_getChars q L st h o k n Q) (fun q L st h o k n hq => hq) (by decide +kernel) ?_
    simp [exB, hJ, exT, stp, lv_args, Value.category, lkL, stL1, stL2, insL, contX, q_ofNat, f4_3, nI_1, -Int32.not_lt, -Int32.not_le, -Int64.not_lt, -Int64.not_le, T_Integer_getChars_11, T_Integer_getChars_12, T_Integer_getChars_22, T_Integer_getChars_72, T_Integer_getChars_104, T_Integer_getChars_118, R_Integer_getChars, C_Integer_getChars, M_Integer_getChars, HH_Integer_getChars, KI_1, KI_0, KB_m100, KB_100, KI_m1, KB_m9, KB_45, -Int32.reduceOfInt, -Int8.reduceOfInt, -Int16.reduceOfInt, -Int32.ofInt_neg]
    try simp (disch := omega) [-Int64.not_lt, -Int64.not_le, -Int32.not_lt, -Int32.not_le, nI_z, nI_ltI, nI_leI, nI_1, nI_clamp, q_vp, nI_pos', rget_k, rset_k, lget_k, hup_hup]
    rw [put_2]
    rw [show decL v = [nI (48 + v / 10), nI (48 + v % 10)] from if_neg c] at hq
    exact hq
end BL
