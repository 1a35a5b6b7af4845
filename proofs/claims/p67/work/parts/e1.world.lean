/-! e1: the world's small methods -/
def WDL (s : Nat → Int32) : Prop := ∀ d, d < nD s → ∃ a b : Nat, a < b ∧ b < nR s ∧ s (120 + 4 * d) = nI a ∧ s (120 + 4 * d + 1) = nI b
def WBI (s : Nat → Int32) : Prop := ∀ k, k < nR s → ∃ a b c : Bool, s (12 + 9 * k + 3) = tI a ∧ s (12 + 9 * k + 4) = tI b ∧ s (12 + 9 * k + 5) = tI c
theorem mn_N {x y : Nat} (hx : x < 24) (hy : y < 24) : (if nI y < nI x then nI y else nI x) = nI (if x < y then x else y) := by
  by_cases c : y < x
  · rw [if_pos (nI_lt c (by omega)), if_neg (by omega)]
  · rw [if_neg (fun e => c ((nI_ltI (by omega) (by omega)).mp e))]
    by_cases c2 : x < y
    · rw [if_pos c2]
    · rw [if_neg c2, show x = y by omega]
theorem mx_N {x y : Nat} (hx : x < 24) (hy : y < 24) : (if nI x < nI y then nI y else nI x) = nI (if x < y then y else x) := by
  by_cases c : x < y
  · rw [if_pos (nI_lt c (by omega)), if_pos c]
  · rw [if_neg (fun e => c ((nI_ltI (by omega) (by omega)).mp e)), if_neg c]
theorem btP_N {s : Nat → Int32} {x y d : Nat} (hx : x < 24) (hy : y < 24) (hd : d < nD s) (hW : WDL s) : btP s (nI x) (nI y) d = true ↔ s (120 + 4 * d) = nI (if x < y then x else y) ∧ s (120 + 4 * d + 1) = nI (if x < y then y else x) := by
  have e1 : (if nI x < nI y then nI x else nI y) = nI (if x < y then x else y) := by
    by_cases c : x < y
    · rw [if_pos (nI_lt c (by omega)), if_pos c]
    · rw [if_neg (fun e => c ((nI_ltI (by omega) (by omega)).mp e)), if_neg c]
  unfold btP
  rw [e1, mx_N hx hy]
  obtain ⟨a, b, hab, hb, ea, eb⟩ := hW d hd
  have hb24 : b < 2 ^ 31 := by
    have : nR s < 2 ^ 31 := by
      unfold nR Int32.toNatClampNeg
      have := (s 9).toInt_lt
      omega
    omega
  by_cases c : nI (if x < y then x else y) = nI (if x < y then y else x)
  · rw [if_pos c]
    constructor
    · intro h; cases h
    · rintro ⟨h1, h2⟩
      exfalso
      have := (nI_eq (by omega) hb24).mp (ea.symm.trans (h1.trans (c.trans (h2.symm.trans eb))))
      omega
  · rw [if_neg c]
    constructor
    · intro h
      by_cases c1 : s (120 + 4 * d) = nI (if x < y then x else y)
      · rw [if_pos c1] at h
        by_cases c2 : s (120 + 4 * d + 1) = nI (if x < y then y else x)
        · exact ⟨c1, c2⟩
        · rw [if_neg c2] at h; cases h
      · rw [if_neg c1] at h; cases h
    · rintro ⟨c1, c2⟩
      rw [if_pos c1, if_pos c2]
def rx_World_doorOf (as : List Value) (h : HM) (o : Option Nat) (Q : XQ) : Prop := A_rii as fun w a b => WX h w fun s c => ∃ x y, (a = nI x ∧ b = nI y ∧ x < 12 ∧ y < 12 ∧ RW s ∧ WDL s) ∧ Q (.inl (some (.int (btw s a b)))) h o
section WB
variable {G : GG} {as : List Value} {h : HM} {o : Option Nat} {Q : XQ}
theorem HH_World_doorOf : mHH 142 = [] := rfl
set_option maxRecDepth 2000 in
set_option maxHeartbeats 200000 in
theorem r_World_doorOf (hx : rx_World_doorOf as h o Q) : Runs G m_World_doorOf as h o Q := by
  obtain ⟨w, a, b, rfl, h0, s, c, rfl, x, y, ⟨rfl, rfl, hx, hy, ⟨r1, r2, r3, r4⟩, hD⟩, hq⟩ := E_rii hx
  change Nat at w
  unfold btw at hq
  have loop : ∀ j d : Nat, d + j = nD s → (∀ k, k < d → btP s (nI x) (nI y) k = false) → EX G m_World_doorOf 2 [(0, .ref w), (1, .int (nI x)), (2, .int (nI y)), (3, .int (nI d))] [] (hW h0 w s c) o 0 0 Q := by
    intro j
    induction j with
    | zero =>
      intro d hd2 hp
      obtain rfl : d = nD s := by omega
      refine X_World_doorOf_2 (W55_ok G) (genJ (P := fun J => exB _ _ _ _ (J 40) _ _ _ _ _ _ _ _) (fun J hJ => ?_))
      simp [exB, hJ, exT, stp, lv_args, Value.category, lkL, stL1, stL2, insL, contX, q_ofNat, f4_3, nI_1, -Int32.not_lt, -Int32.not_le, -Int64.not_lt, -Int64.not_le, T_World_doorOf_2, T_World_doorOf_44, T_World_doorOf_50, R_World_doorOf, C_World_doorOf, M_World_doorOf, HH_World_doorOf, KI_0, KI_1, KI_m1, -Int32.reduceOfInt, -Int8.reduceOfInt, -Int16.reduceOfInt, -Int32.ofInt_neg, A_r, A_ri, A_rii, A_riii, A_riiii, A_rr, A_i, A_ii, A_iii, hW_0, hW_1, hW_2, hW_15, hW_hW, rfs_at, wR_0, wR_1, wR_2, wR_3, wR_4, wR_5, wR_6, wD_0, wD_1, wD_2, wD_3, wS_0, wS_1, wS_2, wS_3, wS_4, wS_5, hW_s0, hW_s1, hW_s2, hW_s3, hW_s4, hW_s5, hW_f9, hW_f10, hW_f11, hW_f7, hW_f8, hW_f6, hW_fc, vv4_0, vv4_1, vv4_2, vv4_3, vv6_0, vv6_1, vv6_2, vv6_3, vv6_4, vv6_5, vv7_0, vv7_1, vv7_2, vv7_3, vv7_4, vv7_5, vv7_6, cl_0, cl_1, cl_2, cl_3, cl_4, cl_5, cl_6, tI_0, tI_1, tI_or, r3]
      try simp (disch := omega) [-Int64.not_lt, -Int64.not_le, -Int32.not_lt, -Int32.not_le, nI_z, nI_ltI, nI_leI, nI_1, nI_clamp, q_vp, nI_pos', rget_k, rset_k, lget_k, hup_hup, A_r, A_ri, A_rii, A_riii, A_riiii, A_rr, A_i, A_ii, A_iii, hW_0, hW_1, hW_2, hW_15, hW_hW, rfs_at, wR_0, wR_1, wR_2, wR_3, wR_4, wR_5, wR_6, wD_0, wD_1, wD_2, wD_3, wS_0, wS_1, wS_2, wS_3, wS_4, wS_5, hW_s0, hW_s1, hW_s2, hW_s3, hW_s4, hW_s5, hW_f9, hW_f10, hW_f11, hW_f7, hW_f8, hW_f6, hW_fc, vv4_0, vv4_1, vv4_2, vv4_3, vv6_0, vv6_1, vv6_2, vv6_3, vv6_4, vv6_5, vv7_0, vv7_1, vv7_2, vv7_3, vv7_4, vv7_5, vv7_6, cl_0, cl_1, cl_2, cl_3, cl_4, cl_5, cl_6, tI_0, tI_1, tI_or, r3]
      rw [frst_no hp] at hq
      exact hq
    | succ j ih =>
      intro d hd2 hp
      have hlt : d < nD s := by omega
      have hF : btP s (nI x) (nI y) d = false → EX G m_World_doorOf 2 [(0, .ref w), (1, .int (nI x)), (2, .int (nI y)), (3, .int (nI (d + 1)))] [] (hW h0 w s c) o 0 0 Q := fun hf => ih (d + 1) (by omega) (fr_step hp hf)
      have hT : btP s (nI x) (nI y) d = true → Q (.inl (some (.int (nI d)))) (hW h0 w s c) o := fun ht => by rw [frst_at hlt ht hp] at hq; exact hq
      have key := btP_N (s := s) (x := x) (y := y) (d := d) (by omega) (by omega) hlt hD
      have hm1 := mn_N (x := x) (y := y) (by omega) (by omega)
      have hm2 := mx_N (x := x) (y := y) (by omega) (by omega)
      refine X_World_doorOf_2 (W55_ok G) (genJ (P := fun J => exB _ _ _ _ (J 40) _ _ _ _ _ _ _ _) (fun J hJ => ?_))
      simp [exB, hJ, exT, stp, lv_args, Value.category, lkL, stL1, stL2, insL, contX, q_ofNat, f4_3, nI_1, -Int32.not_lt, -Int32.not_le, -Int64.not_lt, -Int64.not_le, T_World_doorOf_2, T_World_doorOf_44, T_World_doorOf_50, R_World_doorOf, C_World_doorOf, M_World_doorOf, HH_World_doorOf, KI_0, KI_1, KI_m1, -Int32.reduceOfInt, -Int8.reduceOfInt, -Int16.reduceOfInt, -Int32.ofInt_neg, A_r, A_ri, A_rii, A_riii, A_riiii, A_rr, A_i, A_ii, A_iii, hW_0, hW_1, hW_2, hW_15, hW_hW, rfs_at, wR_0, wR_1, wR_2, wR_3, wR_4, wR_5, wR_6, wD_0, wD_1, wD_2, wD_3, wS_0, wS_1, wS_2, wS_3, wS_4, wS_5, hW_s0, hW_s1, hW_s2, hW_s3, hW_s4, hW_s5, hW_f9, hW_f10, hW_f11, hW_f7, hW_f8, hW_f6, hW_fc, vv4_0, vv4_1, vv4_2, vv4_3, vv6_0, vv6_1, vv6_2, vv6_3, vv6_4, vv6_5, vv7_0, vv7_1, vv7_2, vv7_3, vv7_4, vv7_5, vv7_6, cl_0, cl_1, cl_2, cl_3, cl_4, cl_5, cl_6, tI_0, tI_1, tI_or, r3, hlt, Nat.not_le.mpr hlt, hm1, hm2, hW_d (show d < 24 by omega), nI_clamp (show d < 2 ^ 31 by omega), q_vp (show d < 24 by omega) (show 24 < 2 ^ 31 by decide)]
      try simp (disch := omega) [-Int64.not_lt, -Int64.not_le, -Int32.not_lt, -Int32.not_le, nI_z, nI_ltI, nI_leI, nI_1, nI_clamp, q_vp, nI_pos', rget_k, rset_k, lget_k, hup_hup, A_r, A_ri, A_rii, A_riii, A_riiii, A_rr, A_i, A_ii, A_iii, hW_0, hW_1, hW_2, hW_15, hW_hW, rfs_at, wR_0, wR_1, wR_2, wR_3, wR_4, wR_5, wR_6, wD_0, wD_1, wD_2, wD_3, wS_0, wS_1, wS_2, wS_3, wS_4, wS_5, hW_s0, hW_s1, hW_s2, hW_s3, hW_s4, hW_s5, hW_f9, hW_f10, hW_f11, hW_f7, hW_f8, hW_f6, hW_fc, vv4_0, vv4_1, vv4_2, vv4_3, vv6_0, vv6_1, vv6_2, vv6_3, vv6_4, vv6_5, vv7_0, vv7_1, vv7_2, vv7_3, vv7_4, vv7_5, vv7_6, cl_0, cl_1, cl_2, cl_3, cl_4, cl_5, cl_6, tI_0, tI_1, tI_or, r3, hlt, Nat.not_le.mpr hlt, hm1, hm2, hW_d (show d < 24 by omega), nI_clamp (show d < 2 ^ 31 by omega), q_vp (show d < 24 by omega) (show 24 < 2 ^ 31 by decide)]
      refine ⟨fun e => hF (Bool.eq_false_iff.mpr fun t => e (key.mp t).1), fun e => ⟨fun e2 => hF (Bool.eq_false_iff.mpr fun t => e2 (key.mp t).2), fun e2 => hT (key.mpr ⟨e, e2⟩)⟩⟩
  refine Runs.of (by decide +kernel) (Nat.le_of_ble_eq_true rfl) (X_World_doorOf_0 (W55_ok G) (genJ (P := fun J => exB _ _ _ _ (J 40) _ _ _ _ _ _ _ _) (fun J hJ => ?_)))
  simp [exB, hJ, exT, stp, lv_args, Value.category, lkL, stL1, stL2, insL, contX, q_ofNat, f4_3, nI_1, -Int32.not_lt, -Int32.not_le, -Int64.not_lt, -Int64.not_le, T_World_doorOf_2, T_World_doorOf_44, T_World_doorOf_50, R_World_doorOf, C_World_doorOf, M_World_doorOf, HH_World_doorOf, KI_0, KI_1, KI_m1, -Int32.reduceOfInt, -Int8.reduceOfInt, -Int16.reduceOfInt, -Int32.ofInt_neg, A_r, A_ri, A_rii, A_riii, A_riiii, A_rr, A_i, A_ii, A_iii, hW_0, hW_1, hW_2, hW_15, hW_hW, rfs_at, wR_0, wR_1, wR_2, wR_3, wR_4, wR_5, wR_6, wD_0, wD_1, wD_2, wD_3, wS_0, wS_1, wS_2, wS_3, wS_4, wS_5, hW_s0, hW_s1, hW_s2, hW_s3, hW_s4, hW_s5, hW_f9, hW_f10, hW_f11, hW_f7, hW_f8, hW_f6, hW_fc, vv4_0, vv4_1, vv4_2, vv4_3, vv6_0, vv6_1, vv6_2, vv6_3, vv6_4, vv6_5, vv7_0, vv7_1, vv7_2, vv7_3, vv7_4, vv7_5, vv7_6, cl_0, cl_1, cl_2, cl_3, cl_4, cl_5, cl_6, tI_0, tI_1, tI_or]
  try simp (disch := omega) [-Int64.not_lt, -Int64.not_le, -Int32.not_lt, -Int32.not_le, nI_z, nI_ltI, nI_leI, nI_1, nI_clamp, q_vp, nI_pos', rget_k, rset_k, lget_k, hup_hup, A_r, A_ri, A_rii, A_riii, A_riiii, A_rr, A_i, A_ii, A_iii, hW_0, hW_1, hW_2, hW_15, hW_hW, rfs_at, wR_0, wR_1, wR_2, wR_3, wR_4, wR_5, wR_6, wD_0, wD_1, wD_2, wD_3, wS_0, wS_1, wS_2, wS_3, wS_4, wS_5, hW_s0, hW_s1, hW_s2, hW_s3, hW_s4, hW_s5, hW_f9, hW_f10, hW_f11, hW_f7, hW_f8, hW_f6, hW_fc, vv4_0, vv4_1, vv4_2, vv4_3, vv6_0, vv6_1, vv6_2, vv6_3, vv6_4, vv6_5, vv7_0, vv7_1, vv7_2, vv7_3, vv7_4, vv7_5, vv7_6, cl_0, cl_1, cl_2, cl_3, cl_4, cl_5, cl_6, tI_0, tI_1, tI_or]
  exact loop (nD s) 0 (by omega) (fun k hk => absurd hk (Nat.not_lt_zero k))
end WB
def W56 (G : GG) : WF := (wcons 142 rx_World_doorOf (W55 G))
theorem W56_ok (G : GG) : WOK G (W56 G) := (wcons_ok (fun _ _ _ _ hx => r_World_doorOf hx) (W55_ok G))
def rx_World_next (as : List Value) (h : HM) (o : Option Nat) (Q : XQ) : Prop := A_rii as fun w a b => WX h w fun s c => ∃ x y, (a = nI x ∧ b = nI y ∧ x < 12 ∧ y < 12 ∧ RW s ∧ WDL s) ∧ Q (.inl (some (.int (tI (adj s a b))))) h o
def rx_World_possible (as : List Value) (h : HM) (o : Option Nat) (Q : XQ) : Prop := A_r as fun w => WX h w fun s c => RW s ∧ Q (.inl (some (.int (orF (poS s) (nR s))))) h o
def rx_World_heard (as : List Value) (h : HM) (o : Option Nat) (Q : XQ) : Prop := A_ri as fun w a => WX h w fun s c => ∃ d, (a = nI d ∧ d < nD s ∧ RW s ∧ WDL s ∧ WBI s) ∧ Q (.inl (some (.int (tI (hrd s d))))) h o
section WB
variable {G : GG} {as : List Value} {h : HM} {o : Option Nat} {Q : XQ}
theorem HH_World_next : mHH 143 = [] := rfl
theorem W56_World_doorOf {G : GG} {as : List Value} {h : HM} {o : Option Nat} {Q : XQ} : RX G (W56 G) 142 as h o Q = rx_World_doorOf as h o Q := rfl
set_option maxRecDepth 2000 in
set_option maxHeartbeats 200000 in
theorem r_World_next (hx : rx_World_next as h o Q) : Runs G m_World_next as h o Q := by
  obtain ⟨w, a, b, rfl, h0, s, c, rfl, x, y, ⟨rfl, rfl, kx, ky, hR, hD⟩, hq⟩ := E_rii hx
  change Nat at w
  have hJ : True := trivial
  refine Runs.of (by decide +kernel) (Nat.le_of_ble_eq_true rfl) ?_
  refine exB_ok (t := [(.aload_n 0, 1, 0, 0, 0, 0), (.iload_n 1, 1, 0, 0, 0, 0), (.iload_n 2, 1, 0, 0, 0, 0), (.invokevirtual 128, 3, 142, 0, 2, 11)]) (W56_ok G) (jj := fun q L st h o k n => EX G m_World_next q L st h o k n Q) (fun q L st h o k n hq => hq) (by decide +kernel) ?_
  simp [exB, hJ, exT, stp, lv_args, Value.category, lkL, stL1, stL2, insL, contX, q_ofNat, f4_3, nI_1, -Int32.not_lt, -Int32.not_le, -Int64.not_lt, -Int64.not_le, T_World_next_27, T_World_next_28, R_World_next, C_World_next, M_World_next, HH_World_next, KI_3, KI_1, KI_0, -Int32.reduceOfInt, -Int8.reduceOfInt, -Int16.reduceOfInt, -Int32.ofInt_neg, O_World_next_World_doorOf, C_World_doorOf, M_World_doorOf, W56_World_doorOf, rx_World_doorOf, A_r, A_ri, A_rii, A_riii, A_riiii, A_rr, A_i, A_ii, A_iii, hW_0, hW_1, hW_2, hW_15, hW_hW, rfs_at, wR_0, wR_1, wR_2, wR_3, wR_4, wR_5, wR_6, wD_0, wD_1, wD_2, wD_3, wS_0, wS_1, wS_2, wS_3, wS_4, wS_5, hW_s0, hW_s1, hW_s2, hW_s3, hW_s4, hW_s5, hW_f9, hW_f10, hW_f11, hW_f7, hW_f8, hW_f6, hW_fc, vv4_0, vv4_1, vv4_2, vv4_3, vv6_0, vv6_1, vv6_2, vv6_3, vv6_4, vv6_5, vv7_0, vv7_1, vv7_2, vv7_3, vv7_4, vv7_5, vv7_6, cl_0, cl_1, cl_2, cl_3, cl_4, cl_5, cl_6, tI_0, tI_1, tI_or, rx_World_doorOf]
  try simp (disch := omega) [-Int64.not_lt, -Int64.not_le, -Int32.not_lt, -Int32.not_le, nI_z, nI_ltI, nI_leI, nI_1, nI_clamp, q_vp, nI_pos', rget_k, rset_k, lget_k, hup_hup, A_r, A_ri, A_rii, A_riii, A_riiii, A_rr, A_i, A_ii, A_iii, hW_0, hW_1, hW_2, hW_15, hW_hW, rfs_at, wR_0, wR_1, wR_2, wR_3, wR_4, wR_5, wR_6, wD_0, wD_1, wD_2, wD_3, wS_0, wS_1, wS_2, wS_3, wS_4, wS_5, hW_s0, hW_s1, hW_s2, hW_s3, hW_s4, hW_s5, hW_f9, hW_f10, hW_f11, hW_f7, hW_f8, hW_f6, hW_fc, vv4_0, vv4_1, vv4_2, vv4_3, vv6_0, vv6_1, vv6_2, vv6_3, vv6_4, vv6_5, vv7_0, vv7_1, vv7_2, vv7_3, vv7_4, vv7_5, vv7_6, cl_0, cl_1, cl_2, cl_3, cl_4, cl_5, cl_6, tI_0, tI_1, tI_or, rx_World_doorOf]
  refine ⟨_, _, _, rfl, ⟨x, rfl, y, rfl, kx, ky, hR, hD⟩, ?_⟩
  unfold adj at hq
  rcases btw_cases s (nI x) (nI y) with e | ⟨d, hd, e, -⟩
  · rw [if_pos e] at hq
    rw [e]
    refine exB_ok (t := [(.istore_n 3, 1, 0, 0, 0, 0), (.iload_n 3, 1, 0, 0, 0, 0), (.ifCond .lt 19, 3, 27, 0, 0, 0)]) (W56_ok G) (jj := fun q L st h o k n => EX G m_World_next q L st h o k n Q) (fun q L st h o k n hq => hq) (by decide +kernel) ?_
    simp [exB, hJ, exT, stp, lv_args, Value.category, lkL, stL1, stL2, insL, contX, q_ofNat, f4_3, nI_1, -Int32.not_lt, -Int32.not_le, -Int64.not_lt, -Int64.not_le, T_World_next_27, T_World_next_28, R_World_next, C_World_next, M_World_next, HH_World_next, KI_3, KI_1, KI_0, -Int32.reduceOfInt, -Int8.reduceOfInt, -Int16.reduceOfInt, -Int32.ofInt_neg, O_World_next_World_doorOf, C_World_doorOf, M_World_doorOf, W56_World_doorOf, rx_World_doorOf]
    try simp (disch := omega) [-Int64.not_lt, -Int64.not_le, -Int32.not_lt, -Int32.not_le, nI_z, nI_ltI, nI_leI, nI_1, nI_clamp, q_vp, nI_pos', rget_k, rset_k, lget_k, hup_hup]
    refine exB_ok (t := [(.iconst 0, 1, 0, 0, 0, 0), (.ireturn, 1, 0, 0, 0, 0)]) (W56_ok G) (jj := fun q L st h o k n => EX G m_World_next q L st h o k n Q) (fun q L st h o k n hq => hq) (by decide +kernel) ?_
    simp [exB, hJ, exT, stp, lv_args, Value.category, lkL, stL1, stL2, insL, contX, q_ofNat, f4_3, nI_1, -Int32.not_lt, -Int32.not_le, -Int64.not_lt, -Int64.not_le, T_World_next_27, T_World_next_28, R_World_next, C_World_next, M_World_next, HH_World_next, KI_3, KI_1, KI_0, -Int32.reduceOfInt, -Int8.reduceOfInt, -Int16.reduceOfInt, -Int32.ofInt_neg, O_World_next_World_doorOf, C_World_doorOf, M_World_doorOf, W56_World_doorOf, rx_World_doorOf]
    try simp (disch := omega) [-Int64.not_lt, -Int64.not_le, -Int32.not_lt, -Int32.not_le, nI_z, nI_ltI, nI_leI, nI_1, nI_clamp, q_vp, nI_pos', rget_k, rset_k, lget_k, hup_hup]
    exact hq
  · have hd24 : d < 24 := by have := hR.2.2.2; omega
    rw [if_neg (by rw [e]; exact nI_m1 (by omega)), e, nI_clamp (by omega)] at hq
    rw [e]
    have l1 : ¬ nI d < 0 := nI_pos (by omega)
    refine exB_ok (t := [(.istore_n 3, 1, 0, 0, 0, 0), (.iload_n 3, 1, 0, 0, 0, 0), (.ifCond .lt 19, 3, 27, 0, 0, 0), (.aload_n 0, 1, 0, 0, 0, 0), (.getfield 18, 3, 11, 9, 0, 0), (.iload_n 3, 1, 0, 0, 0, 0), (.aaload, 1, 0, 0, 0, 0), (.iconst 3, 1, 0, 0, 0, 0), (.iaload, 1, 0, 0, 0, 0), (.iconst 1, 1, 0, 0, 0, 0), (.if_icmp .ne 7, 3, 27, 0, 0, 0)]) (W56_ok G) (jj := fun q L st h o k n => EX G m_World_next q L st h o k n Q) (fun q L st h o k n hq => hq) (by decide +kernel) ?_
    simp [exB, hJ, exT, stp, lv_args, Value.category, lkL, stL1, stL2, insL, contX, q_ofNat, f4_3, nI_1, -Int32.not_lt, -Int32.not_le, -Int64.not_lt, -Int64.not_le, T_World_next_27, T_World_next_28, R_World_next, C_World_next, M_World_next, HH_World_next, KI_3, KI_1, KI_0, -Int32.reduceOfInt, -Int8.reduceOfInt, -Int16.reduceOfInt, -Int32.ofInt_neg, O_World_next_World_doorOf, C_World_doorOf, M_World_doorOf, W56_World_doorOf, rx_World_doorOf, A_r, A_ri, A_rii, A_riii, A_riiii, A_rr, A_i, A_ii, A_iii, hW_0, hW_1, hW_2, hW_15, hW_hW, rfs_at, wR_0, wR_1, wR_2, wR_3, wR_4, wR_5, wR_6, wD_0, wD_1, wD_2, wD_3, wS_0, wS_1, wS_2, wS_3, wS_4, wS_5, hW_s0, hW_s1, hW_s2, hW_s3, hW_s4, hW_s5, hW_f9, hW_f10, hW_f11, hW_f7, hW_f8, hW_f6, hW_fc, vv4_0, vv4_1, vv4_2, vv4_3, vv6_0, vv6_1, vv6_2, vv6_3, vv6_4, vv6_5, vv7_0, vv7_1, vv7_2, vv7_3, vv7_4, vv7_5, vv7_6, cl_0, cl_1, cl_2, cl_3, cl_4, cl_5, cl_6, tI_0, tI_1, tI_or, l1, hW_d hd24, nI_clamp (show d < 2 ^ 31 by omega), q_vp hd24 (show 24 < 2 ^ 31 by decide)]
    try simp (disch := omega) [-Int64.not_lt, -Int64.not_le, -Int32.not_lt, -Int32.not_le, nI_z, nI_ltI, nI_leI, nI_1, nI_clamp, q_vp, nI_pos', rget_k, rset_k, lget_k, hup_hup, A_r, A_ri, A_rii, A_riii, A_riiii, A_rr, A_i, A_ii, A_iii, hW_0, hW_1, hW_2, hW_15, hW_hW, rfs_at, wR_0, wR_1, wR_2, wR_3, wR_4, wR_5, wR_6, wD_0, wD_1, wD_2, wD_3, wS_0, wS_1, wS_2, wS_3, wS_4, wS_5, hW_s0, hW_s1, hW_s2, hW_s3, hW_s4, hW_s5, hW_f9, hW_f10, hW_f11, hW_f7, hW_f8, hW_f6, hW_fc, vv4_0, vv4_1, vv4_2, vv4_3, vv6_0, vv6_1, vv6_2, vv6_3, vv6_4, vv6_5, vv7_0, vv7_1, vv7_2, vv7_3, vv7_4, vv7_5, vv7_6, cl_0, cl_1, cl_2, cl_3, cl_4, cl_5, cl_6, tI_0, tI_1, tI_or, l1, hW_d hd24, nI_clamp (show d < 2 ^ 31 by omega), q_vp hd24 (show 24 < 2 ^ 31 by decide)]
    refine ⟨fun e3 => ?_, fun e3 => ?_⟩
    · rw [if_neg e3] at hq
      refine exB_ok (t := [(.iconst 0, 1, 0, 0, 0, 0), (.ireturn, 1, 0, 0, 0, 0)]) (W56_ok G) (jj := fun q L st h o k n => EX G m_World_next q L st h o k n Q) (fun q L st h o k n hq => hq) (by decide +kernel) ?_
      simp [exB, hJ, exT, stp, lv_args, Value.category, lkL, stL1, stL2, insL, contX, q_ofNat, f4_3, nI_1, -Int32.not_lt, -Int32.not_le, -Int64.not_lt, -Int64.not_le, T_World_next_27, T_World_next_28, R_World_next, C_World_next, M_World_next, HH_World_next, KI_3, KI_1, KI_0, -Int32.reduceOfInt, -Int8.reduceOfInt, -Int16.reduceOfInt, -Int32.ofInt_neg, O_World_next_World_doorOf, C_World_doorOf, M_World_doorOf, W56_World_doorOf, rx_World_doorOf]
      try simp (disch := omega) [-Int64.not_lt, -Int64.not_le, -Int32.not_lt, -Int32.not_le, nI_z, nI_ltI, nI_leI, nI_1, nI_clamp, q_vp, nI_pos', rget_k, rset_k, lget_k, hup_hup]
      exact hq
    · rw [if_pos e3] at hq
      refine exB_ok (t := [(.iconst 1, 1, 0, 0, 0, 0), (.goto 4, 3, 28, 0, 0, 0)]) (W56_ok G) (jj := fun q L st h o k n => EX G m_World_next q L st h o k n Q) (fun q L st h o k n hq => hq) (by decide +kernel) ?_
      simp [exB, hJ, exT, stp, lv_args, Value.category, lkL, stL1, stL2, insL, contX, q_ofNat, f4_3, nI_1, -Int32.not_lt, -Int32.not_le, -Int64.not_lt, -Int64.not_le, T_World_next_27, T_World_next_28, R_World_next, C_World_next, M_World_next, HH_World_next, KI_3, KI_1, KI_0, -Int32.reduceOfInt, -Int8.reduceOfInt, -Int16.reduceOfInt, -Int32.ofInt_neg, O_World_next_World_doorOf, C_World_doorOf, M_World_doorOf, W56_World_doorOf, rx_World_doorOf]
      try simp (disch := omega) [-Int64.not_lt, -Int64.not_le, -Int32.not_lt, -Int32.not_le, nI_z, nI_ltI, nI_leI, nI_1, nI_clamp, q_vp, nI_pos', rget_k, rset_k, lget_k, hup_hup]
      refine exB_ok (t := [(.ireturn, 1, 0, 0, 0, 0)]) (W56_ok G) (jj := fun q L st h o k n => EX G m_World_next q L st h o k n Q) (fun q L st h o k n hq => hq) (by decide +kernel) ?_
      simp [exB, hJ, exT, stp, lv_args, Value.category, lkL, stL1, stL2, insL, contX, q_ofNat, f4_3, nI_1, -Int32.not_lt, -Int32.not_le, -Int64.not_lt, -Int64.not_le, T_World_next_27, T_World_next_28, R_World_next, C_World_next, M_World_next, HH_World_next, KI_3, KI_1, KI_0, -Int32.reduceOfInt, -Int8.reduceOfInt, -Int16.reduceOfInt, -Int32.ofInt_neg, O_World_next_World_doorOf, C_World_doorOf, M_World_doorOf, W56_World_doorOf, rx_World_doorOf]
      try simp (disch := omega) [-Int64.not_lt, -Int64.not_le, -Int32.not_lt, -Int32.not_le, nI_z, nI_ltI, nI_leI, nI_1, nI_clamp, q_vp, nI_pos', rget_k, rset_k, lget_k, hup_hup]
      exact hq
theorem HH_World_possible : mHH 144 = [] := rfl
set_option maxRecDepth 2000 in
set_option maxHeartbeats 200000 in
theorem r_World_possible (hx : rx_World_possible as h o Q) : Runs G m_World_possible as h o Q := by
  obtain ⟨w, rfl, h0, s, c, rfl, ⟨r1, r2, r3, r4⟩, hq⟩ := E_r hx
  change Nat at w
  have loop : ∀ j d : Nat, d + j = nR s → EX G m_World_possible 4 [(0, .ref w), (1, .int (orF (poS s) d)), (2, .int (nI d))] [] (hW h0 w s c) o 0 0 Q := by
    intro j
    induction j with
    | zero =>
      intro d hd2
      obtain rfl : d = nR s := by omega
      refine X_World_possible_4 (W56_ok G) (genJ (P := fun J => exB _ _ _ _ (J 40) _ _ _ _ _ _ _ _) (fun J hJ => ?_))
      simp [exB, hJ, exT, stp, lv_args, Value.category, lkL, stL1, stL2, insL, contX, q_ofNat, f4_3, nI_1, -Int32.not_lt, -Int32.not_le, -Int64.not_lt, -Int64.not_le, T_World_possible_4, T_World_possible_31, R_World_possible, C_World_possible, M_World_possible, HH_World_possible, KI_0, KI_3, KI_1, -Int32.reduceOfInt, -Int8.reduceOfInt, -Int16.reduceOfInt, -Int32.ofInt_neg, A_r, A_ri, A_rii, A_riii, A_riiii, A_rr, A_i, A_ii, A_iii, hW_0, hW_1, hW_2, hW_15, hW_hW, rfs_at, wR_0, wR_1, wR_2, wR_3, wR_4, wR_5, wR_6, wD_0, wD_1, wD_2, wD_3, wS_0, wS_1, wS_2, wS_3, wS_4, wS_5, hW_s0, hW_s1, hW_s2, hW_s3, hW_s4, hW_s5, hW_f9, hW_f10, hW_f11, hW_f7, hW_f8, hW_f6, hW_fc, vv4_0, vv4_1, vv4_2, vv4_3, vv6_0, vv6_1, vv6_2, vv6_3, vv6_4, vv6_5, vv7_0, vv7_1, vv7_2, vv7_3, vv7_4, vv7_5, vv7_6, cl_0, cl_1, cl_2, cl_3, cl_4, cl_5, cl_6, tI_0, tI_1, tI_or, r1]
      try simp (disch := omega) [-Int64.not_lt, -Int64.not_le, -Int32.not_lt, -Int32.not_le, nI_z, nI_ltI, nI_leI, nI_1, nI_clamp, q_vp, nI_pos', rget_k, rset_k, lget_k, hup_hup, A_r, A_ri, A_rii, A_riii, A_riiii, A_rr, A_i, A_ii, A_iii, hW_0, hW_1, hW_2, hW_15, hW_hW, rfs_at, wR_0, wR_1, wR_2, wR_3, wR_4, wR_5, wR_6, wD_0, wD_1, wD_2, wD_3, wS_0, wS_1, wS_2, wS_3, wS_4, wS_5, hW_s0, hW_s1, hW_s2, hW_s3, hW_s4, hW_s5, hW_f9, hW_f10, hW_f11, hW_f7, hW_f8, hW_f6, hW_fc, vv4_0, vv4_1, vv4_2, vv4_3, vv6_0, vv6_1, vv6_2, vv6_3, vv6_4, vv6_5, vv7_0, vv7_1, vv7_2, vv7_3, vv7_4, vv7_5, vv7_6, cl_0, cl_1, cl_2, cl_3, cl_4, cl_5, cl_6, tI_0, tI_1, tI_or, r1]
      exact hq
    | succ j ih =>
      intro d hd2
      have hlt : d < nR s := by omega
      have hI := ih (d + 1) (by omega)
      have e : orF (poS s) (d + 1) = orF (poS s) d ||| (s (12 + 9 * d + 5) <<< (nI d &&& 31)) := rfl
      refine X_World_possible_4 (W56_ok G) (genJ (P := fun J => exB _ _ _ _ (J 40) _ _ _ _ _ _ _ _) (fun J hJ => ?_))
      simp [exB, hJ, exT, stp, lv_args, Value.category, lkL, stL1, stL2, insL, contX, q_ofNat, f4_3, nI_1, -Int32.not_lt, -Int32.not_le, -Int64.not_lt, -Int64.not_le, T_World_possible_4, T_World_possible_31, R_World_possible, C_World_possible, M_World_possible, HH_World_possible, KI_0, KI_3, KI_1, -Int32.reduceOfInt, -Int8.reduceOfInt, -Int16.reduceOfInt, -Int32.ofInt_neg, A_r, A_ri, A_rii, A_riii, A_riiii, A_rr, A_i, A_ii, A_iii, hW_0, hW_1, hW_2, hW_15, hW_hW, rfs_at, wR_0, wR_1, wR_2, wR_3, wR_4, wR_5, wR_6, wD_0, wD_1, wD_2, wD_3, wS_0, wS_1, wS_2, wS_3, wS_4, wS_5, hW_s0, hW_s1, hW_s2, hW_s3, hW_s4, hW_s5, hW_f9, hW_f10, hW_f11, hW_f7, hW_f8, hW_f6, hW_fc, vv4_0, vv4_1, vv4_2, vv4_3, vv6_0, vv6_1, vv6_2, vv6_3, vv6_4, vv6_5, vv7_0, vv7_1, vv7_2, vv7_3, vv7_4, vv7_5, vv7_6, cl_0, cl_1, cl_2, cl_3, cl_4, cl_5, cl_6, tI_0, tI_1, tI_or, r1, hlt, Nat.not_le.mpr hlt, hW_r (show d < 12 by omega), nI_clamp (show d < 2 ^ 31 by omega), q_vp (show d < 12 by omega) (show 12 < 2 ^ 31 by decide)]
      try simp (disch := omega) [-Int64.not_lt, -Int64.not_le, -Int32.not_lt, -Int32.not_le, nI_z, nI_ltI, nI_leI, nI_1, nI_clamp, q_vp, nI_pos', rget_k, rset_k, lget_k, hup_hup, A_r, A_ri, A_rii, A_riii, A_riiii, A_rr, A_i, A_ii, A_iii, hW_0, hW_1, hW_2, hW_15, hW_hW, rfs_at, wR_0, wR_1, wR_2, wR_3, wR_4, wR_5, wR_6, wD_0, wD_1, wD_2, wD_3, wS_0, wS_1, wS_2, wS_3, wS_4, wS_5, hW_s0, hW_s1, hW_s2, hW_s3, hW_s4, hW_s5, hW_f9, hW_f10, hW_f11, hW_f7, hW_f8, hW_f6, hW_fc, vv4_0, vv4_1, vv4_2, vv4_3, vv6_0, vv6_1, vv6_2, vv6_3, vv6_4, vv6_5, vv7_0, vv7_1, vv7_2, vv7_3, vv7_4, vv7_5, vv7_6, cl_0, cl_1, cl_2, cl_3, cl_4, cl_5, cl_6, tI_0, tI_1, tI_or, r1, hlt, Nat.not_le.mpr hlt, hW_r (show d < 12 by omega), nI_clamp (show d < 2 ^ 31 by omega), q_vp (show d < 12 by omega) (show 12 < 2 ^ 31 by decide)]
      rw [← e]
      exact hI
  refine Runs.of (by decide +kernel) (Nat.le_of_ble_eq_true rfl) (X_World_possible_0 (W56_ok G) (genJ (P := fun J => exB _ _ _ _ (J 40) _ _ _ _ _ _ _ _) (fun J hJ => ?_)))
  simp [exB, hJ, exT, stp, lv_args, Value.category, lkL, stL1, stL2, insL, contX, q_ofNat, f4_3, nI_1, -Int32.not_lt, -Int32.not_le, -Int64.not_lt, -Int64.not_le, T_World_possible_4, T_World_possible_31, R_World_possible, C_World_possible, M_World_possible, HH_World_possible, KI_0, KI_3, KI_1, -Int32.reduceOfInt, -Int8.reduceOfInt, -Int16.reduceOfInt, -Int32.ofInt_neg, A_r, A_ri, A_rii, A_riii, A_riiii, A_rr, A_i, A_ii, A_iii, hW_0, hW_1, hW_2, hW_15, hW_hW, rfs_at, wR_0, wR_1, wR_2, wR_3, wR_4, wR_5, wR_6, wD_0, wD_1, wD_2, wD_3, wS_0, wS_1, wS_2, wS_3, wS_4, wS_5, hW_s0, hW_s1, hW_s2, hW_s3, hW_s4, hW_s5, hW_f9, hW_f10, hW_f11, hW_f7, hW_f8, hW_f6, hW_fc, vv4_0, vv4_1, vv4_2, vv4_3, vv6_0, vv6_1, vv6_2, vv6_3, vv6_4, vv6_5, vv7_0, vv7_1, vv7_2, vv7_3, vv7_4, vv7_5, vv7_6, cl_0, cl_1, cl_2, cl_3, cl_4, cl_5, cl_6, tI_0, tI_1, tI_or]
  try simp (disch := omega) [-Int64.not_lt, -Int64.not_le, -Int32.not_lt, -Int32.not_le, nI_z, nI_ltI, nI_leI, nI_1, nI_clamp, q_vp, nI_pos', rget_k, rset_k, lget_k, hup_hup, A_r, A_ri, A_rii, A_riii, A_riiii, A_rr, A_i, A_ii, A_iii, hW_0, hW_1, hW_2, hW_15, hW_hW, rfs_at, wR_0, wR_1, wR_2, wR_3, wR_4, wR_5, wR_6, wD_0, wD_1, wD_2, wD_3, wS_0, wS_1, wS_2, wS_3, wS_4, wS_5, hW_s0, hW_s1, hW_s2, hW_s3, hW_s4, hW_s5, hW_f9, hW_f10, hW_f11, hW_f7, hW_f8, hW_f6, hW_fc, vv4_0, vv4_1, vv4_2, vv4_3, vv6_0, vv6_1, vv6_2, vv6_3, vv6_4, vv6_5, vv7_0, vv7_1, vv7_2, vv7_3, vv7_4, vv7_5, vv7_6, cl_0, cl_1, cl_2, cl_3, cl_4, cl_5, cl_6, tI_0, tI_1, tI_or]
  exact loop (nR s) 0 (by omega)
theorem HH_World_heard : mHH 146 = [] := rfl
set_option maxRecDepth 2000 in
set_option maxHeartbeats 200000 in
theorem r_World_heard (hx : rx_World_heard as h o Q) : Runs G m_World_heard as h o Q := by
  obtain ⟨w, a, rfl, h0, s, c, rfl, d, ⟨rfl, hd, ⟨r1, r2, r3, r4⟩, hD, hB⟩, hq⟩ := E_ri hx
  change Nat at w
  have hd24 : d < 24 := by omega
  obtain ⟨x, y, hxy, hy, ex, ey⟩ := hD d hd
  obtain ⟨-, m1, -, -, f1, -⟩ := hB x (by omega)
  obtain ⟨-, m2, -, -, f2, -⟩ := hB y (by omega)
  have hJ : True := trivial
  unfold hrd at hq
  rw [ex, ey, nI_clamp (by omega), nI_clamp (by omega), f1, f2] at hq
  refine Runs.of (by decide +kernel) (Nat.le_of_ble_eq_true rfl) ?_
  refine exB_ok (t := [(.aload_n 0, 1, 0, 0, 0, 0), (.getfield 18, 3, 11, 9, 0, 0), (.iload_n 1, 1, 0, 0, 0, 0), (.aaload, 1, 0, 0, 0, 0), (.iconst 2, 1, 0, 0, 0, 0), (.iaload, 1, 0, 0, 0, 0), (.aload_n 0, 1, 0, 0, 0, 0), (.getfield 7, 3, 11, 7, 0, 0), (.iconst 2, 1, 0, 0, 0, 0), (.iaload, 1, 0, 0, 0, 0), (.if_icmp .lt 41, 3, 55, 0, 0, 0)]) (W56_ok G) (jj := fun q L st h o k n => EX G m_World_heard q L st h o k n Q) (fun q L st h o k n hq => hq) (by decide +kernel) ?_
  simp [exB, hJ, exT, stp, lv_args, Value.category, lkL, stL1, stL2, insL, contX, q_ofNat, f4_3, nI_1, -Int32.not_lt, -Int32.not_le, -Int64.not_lt, -Int64.not_le, T_World_heard_55, T_World_heard_56, R_World_heard, C_World_heard, M_World_heard, HH_World_heard, KI_2, KI_0, KI_1, -Int32.reduceOfInt, -Int8.reduceOfInt, -Int16.reduceOfInt, -Int32.ofInt_neg, A_r, A_ri, A_rii, A_riii, A_riiii, A_rr, A_i, A_ii, A_iii, hW_0, hW_1, hW_2, hW_15, hW_hW, rfs_at, wR_0, wR_1, wR_2, wR_3, wR_4, wR_5, wR_6, wD_0, wD_1, wD_2, wD_3, wS_0, wS_1, wS_2, wS_3, wS_4, wS_5, hW_s0, hW_s1, hW_s2, hW_s3, hW_s4, hW_s5, hW_f9, hW_f10, hW_f11, hW_f7, hW_f8, hW_f6, hW_fc, vv4_0, vv4_1, vv4_2, vv4_3, vv6_0, vv6_1, vv6_2, vv6_3, vv6_4, vv6_5, vv7_0, vv7_1, vv7_2, vv7_3, vv7_4, vv7_5, vv7_6, cl_0, cl_1, cl_2, cl_3, cl_4, cl_5, cl_6, tI_0, tI_1, tI_or, hW_d hd24, nI_clamp (show d < 2 ^ 31 by omega), q_vp hd24 (show 24 < 2 ^ 31 by decide)]
  try simp (disch := omega) [-Int64.not_lt, -Int64.not_le, -Int32.not_lt, -Int32.not_le, nI_z, nI_ltI, nI_leI, nI_1, nI_clamp, q_vp, nI_pos', rget_k, rset_k, lget_k, hup_hup, A_r, A_ri, A_rii, A_riii, A_riiii, A_rr, A_i, A_ii, A_iii, hW_0, hW_1, hW_2, hW_15, hW_hW, rfs_at, wR_0, wR_1, wR_2, wR_3, wR_4, wR_5, wR_6, wD_0, wD_1, wD_2, wD_3, wS_0, wS_1, wS_2, wS_3, wS_4, wS_5, hW_s0, hW_s1, hW_s2, hW_s3, hW_s4, hW_s5, hW_f9, hW_f10, hW_f11, hW_f7, hW_f8, hW_f6, hW_fc, vv4_0, vv4_1, vv4_2, vv4_3, vv6_0, vv6_1, vv6_2, vv6_3, vv6_4, vv6_5, vv7_0, vv7_1, vv7_2, vv7_3, vv7_4, vv7_5, vv7_6, cl_0, cl_1, cl_2, cl_3, cl_4, cl_5, cl_6, tI_0, tI_1, tI_or, hW_d hd24, nI_clamp (show d < 2 ^ 31 by omega), q_vp hd24 (show 24 < 2 ^ 31 by decide)]
  refine ⟨fun e => ?_, fun e => ?_⟩
  · rw [if_pos e] at hq
    refine exB_ok (t := [(.iconst 0, 1, 0, 0, 0, 0), (.ireturn, 1, 0, 0, 0, 0)]) (W56_ok G) (jj := fun q L st h o k n => EX G m_World_heard q L st h o k n Q) (fun q L st h o k n hq => hq) (by decide +kernel) ?_
    simp [exB, hJ, exT, stp, lv_args, Value.category, lkL, stL1, stL2, insL, contX, q_ofNat, f4_3, nI_1, -Int32.not_lt, -Int32.not_le, -Int64.not_lt, -Int64.not_le, T_World_heard_55, T_World_heard_56, R_World_heard, C_World_heard, M_World_heard, HH_World_heard, KI_2, KI_0, KI_1, -Int32.reduceOfInt, -Int8.reduceOfInt, -Int16.reduceOfInt, -Int32.ofInt_neg]
    try simp (disch := omega) [-Int64.not_lt, -Int64.not_le, -Int32.not_lt, -Int32.not_le, nI_z, nI_ltI, nI_leI, nI_1, nI_clamp, q_vp, nI_pos', rget_k, rset_k, lget_k, hup_hup]
    exact hq
  · rw [if_neg e] at hq
    refine exB_ok (t := [(.aload_n 0, 1, 0, 0, 0, 0), (.getfield 15, 3, 11, 8, 0, 0), (.aload_n 0, 1, 0, 0, 0, 0), (.getfield 18, 3, 11, 9, 0, 0), (.iload_n 1, 1, 0, 0, 0, 0), (.aaload, 1, 0, 0, 0, 0), (.iconst 0, 1, 0, 0, 0, 0), (.iaload, 1, 0, 0, 0, 0), (.aaload, 1, 0, 0, 0, 0), (.iconst 2, 1, 0, 0, 0, 0), (.iaload, 1, 0, 0, 0, 0), (.aload_n 0, 1, 0, 0, 0, 0), (.getfield 15, 3, 11, 8, 0, 0), (.aload_n 0, 1, 0, 0, 0, 0), (.getfield 18, 3, 11, 9, 0, 0), (.iload_n 1, 1, 0, 0, 0, 0), (.aaload, 1, 0, 0, 0, 0), (.iconst 1, 1, 0, 0, 0, 0), (.iaload, 1, 0, 0, 0, 0), (.aaload, 1, 0, 0, 0, 0), (.iconst 2, 1, 0, 0, 0, 0), (.iaload, 1, 0, 0, 0, 0), (.iadd, 1, 0, 0, 0, 0), (.ifCond .le 7, 3, 55, 0, 0, 0)]) (W56_ok G) (jj := fun q L st h o k n => EX G m_World_heard q L st h o k n Q) (fun q L st h o k n hq => hq) (by decide +kernel) ?_
    simp [exB, hJ, exT, stp, lv_args, Value.category, lkL, stL1, stL2, insL, contX, q_ofNat, f4_3, nI_1, -Int32.not_lt, -Int32.not_le, -Int64.not_lt, -Int64.not_le, T_World_heard_55, T_World_heard_56, R_World_heard, C_World_heard, M_World_heard, HH_World_heard, KI_2, KI_0, KI_1, -Int32.reduceOfInt, -Int8.reduceOfInt, -Int16.reduceOfInt, -Int32.ofInt_neg, A_r, A_ri, A_rii, A_riii, A_riiii, A_rr, A_i, A_ii, A_iii, hW_0, hW_1, hW_2, hW_15, hW_hW, rfs_at, wR_0, wR_1, wR_2, wR_3, wR_4, wR_5, wR_6, wD_0, wD_1, wD_2, wD_3, wS_0, wS_1, wS_2, wS_3, wS_4, wS_5, hW_s0, hW_s1, hW_s2, hW_s3, hW_s4, hW_s5, hW_f9, hW_f10, hW_f11, hW_f7, hW_f8, hW_f6, hW_fc, vv4_0, vv4_1, vv4_2, vv4_3, vv6_0, vv6_1, vv6_2, vv6_3, vv6_4, vv6_5, vv7_0, vv7_1, vv7_2, vv7_3, vv7_4, vv7_5, vv7_6, cl_0, cl_1, cl_2, cl_3, cl_4, cl_5, cl_6, tI_0, tI_1, tI_or, hW_d hd24, nI_clamp (show d < 2 ^ 31 by omega), q_vp hd24 (show 24 < 2 ^ 31 by decide), ex, ey, nI_clamp (show x < 2 ^ 31 by omega), nI_clamp (show y < 2 ^ 31 by omega), q_vp (show x < 12 by omega) (show 12 < 2 ^ 31 by decide), q_vp (show y < 12 by omega) (show 12 < 2 ^ 31 by decide), hW_r (show x < 12 by omega), hW_r (show y < 12 by omega), f1, f2]
    try simp (disch := omega) [-Int64.not_lt, -Int64.not_le, -Int32.not_lt, -Int32.not_le, nI_z, nI_ltI, nI_leI, nI_1, nI_clamp, q_vp, nI_pos', rget_k, rset_k, lget_k, hup_hup, A_r, A_ri, A_rii, A_riii, A_riiii, A_rr, A_i, A_ii, A_iii, hW_0, hW_1, hW_2, hW_15, hW_hW, rfs_at, wR_0, wR_1, wR_2, wR_3, wR_4, wR_5, wR_6, wD_0, wD_1, wD_2, wD_3, wS_0, wS_1, wS_2, wS_3, wS_4, wS_5, hW_s0, hW_s1, hW_s2, hW_s3, hW_s4, hW_s5, hW_f9, hW_f10, hW_f11, hW_f7, hW_f8, hW_f6, hW_fc, vv4_0, vv4_1, vv4_2, vv4_3, vv6_0, vv6_1, vv6_2, vv6_3, vv6_4, vv6_5, vv7_0, vv7_1, vv7_2, vv7_3, vv7_4, vv7_5, vv7_6, cl_0, cl_1, cl_2, cl_3, cl_4, cl_5, cl_6, tI_0, tI_1, tI_or, hW_d hd24, nI_clamp (show d < 2 ^ 31 by omega), q_vp hd24 (show 24 < 2 ^ 31 by decide), ex, ey, nI_clamp (show x < 2 ^ 31 by omega), nI_clamp (show y < 2 ^ 31 by omega), q_vp (show x < 12 by omega) (show 12 < 2 ^ 31 by decide), q_vp (show y < 12 by omega) (show 12 < 2 ^ 31 by decide), hW_r (show x < 12 by omega), hW_r (show y < 12 by omega), f1, f2]
    refine ⟨fun e => ?_, fun e => ?_⟩
    · have : (if tI m1 = 1 then true else if tI m2 = 1 then true else false) = false := by revert e; cases m1 <;> cases m2 <;> decide
      rw [this] at hq
      refine exB_ok (t := [(.iconst 0, 1, 0, 0, 0, 0), (.ireturn, 1, 0, 0, 0, 0)]) (W56_ok G) (jj := fun q L st h o k n => EX G m_World_heard q L st h o k n Q) (fun q L st h o k n hq => hq) (by decide +kernel) ?_
      simp [exB, hJ, exT, stp, lv_args, Value.category, lkL, stL1, stL2, insL, contX, q_ofNat, f4_3, nI_1, -Int32.not_lt, -Int32.not_le, -Int64.not_lt, -Int64.not_le, T_World_heard_55, T_World_heard_56, R_World_heard, C_World_heard, M_World_heard, HH_World_heard, KI_2, KI_0, KI_1, -Int32.reduceOfInt, -Int8.reduceOfInt, -Int16.reduceOfInt, -Int32.ofInt_neg]
      try simp (disch := omega) [-Int64.not_lt, -Int64.not_le, -Int32.not_lt, -Int32.not_le, nI_z, nI_ltI, nI_leI, nI_1, nI_clamp, q_vp, nI_pos', rget_k, rset_k, lget_k, hup_hup]
      exact hq
    · have : (if tI m1 = 1 then true else if tI m2 = 1 then true else false) = true := by revert e; cases m1 <;> cases m2 <;> decide
      rw [this] at hq
      refine exB_ok (t := [(.iconst 1, 1, 0, 0, 0, 0), (.goto 4, 3, 56, 0, 0, 0)]) (W56_ok G) (jj := fun q L st h o k n => EX G m_World_heard q L st h o k n Q) (fun q L st h o k n hq => hq) (by decide +kernel) ?_
      simp [exB, hJ, exT, stp, lv_args, Value.category, lkL, stL1, stL2, insL, contX, q_ofNat, f4_3, nI_1, -Int32.not_lt, -Int32.not_le, -Int64.not_lt, -Int64.not_le, T_World_heard_55, T_World_heard_56, R_World_heard, C_World_heard, M_World_heard, HH_World_heard, KI_2, KI_0, KI_1, -Int32.reduceOfInt, -Int8.reduceOfInt, -Int16.reduceOfInt, -Int32.ofInt_neg]
      try simp (disch := omega) [-Int64.not_lt, -Int64.not_le, -Int32.not_lt, -Int32.not_le, nI_z, nI_ltI, nI_leI, nI_1, nI_clamp, q_vp, nI_pos', rget_k, rset_k, lget_k, hup_hup]
      refine exB_ok (t := [(.ireturn, 1, 0, 0, 0, 0)]) (W56_ok G) (jj := fun q L st h o k n => EX G m_World_heard q L st h o k n Q) (fun q L st h o k n hq => hq) (by decide +kernel) ?_
      simp [exB, hJ, exT, stp, lv_args, Value.category, lkL, stL1, stL2, insL, contX, q_ofNat, f4_3, nI_1, -Int32.not_lt, -Int32.not_le, -Int64.not_lt, -Int64.not_le, T_World_heard_55, T_World_heard_56, R_World_heard, C_World_heard, M_World_heard, HH_World_heard, KI_2, KI_0, KI_1, -Int32.reduceOfInt, -Int8.reduceOfInt, -Int16.reduceOfInt, -Int32.ofInt_neg]
      try simp (disch := omega) [-Int64.not_lt, -Int64.not_le, -Int32.not_lt, -Int32.not_le, nI_z, nI_ltI, nI_leI, nI_1, nI_clamp, q_vp, nI_pos', rget_k, rset_k, lget_k, hup_hup]
      exact hq
end WB
def W57 (G : GG) : WF := (wcons 146 rx_World_heard (wcons 144 rx_World_possible (wcons 143 rx_World_next (W56 G))))
theorem W57_ok (G : GG) : WOK G (W57 G) := (wcons_ok (fun _ _ _ _ hx => r_World_heard hx) (wcons_ok (fun _ _ _ _ hx => r_World_possible hx) (wcons_ok (fun _ _ _ _ hx => r_World_next hx) (W56_ok G))))
