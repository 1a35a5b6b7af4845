/-! d2b: the lowest bit's number -/
section BL
variable {G : GG} {as : List Value} {h : HM} {o : Option Nat} {Q : XQ}
theorem HH_Integer_trailing : mHH 164 = [] := rfl
theorem tz_34 {m c : Nat} (hm : m < 4096) (hc : c < 100) (kk : EX G m_Integer_trailing 49 [(0, .int (nI (if 256 < m then m >>> 8 else m))), (1, .int (nI (if 256 < m then c + 8 else c)))] [] h o 0 0 Q) : EX G m_Integer_trailing 34 [(0, .int (nI m)), (1, .int (nI c))] [] h o 0 0 Q := by
  have hJ : True := trivial
  have u : ((nI m).toUInt32 >>> (Int32.toUInt32 8 &&& Int32.toUInt32 31)).toInt32 = nI (m >>> 8) := ush_n (k := m) (j := 8) (by omega) (by decide)
  by_cases hx : 256 < m
  · rw [if_pos hx, if_pos hx] at kk
    have l : ¬ nI m ≤ 256 := fun e => absurd (nI_lt hx (by omega)) (Int32.not_lt.mpr e)
    have w : nI c + 8 = nI (c + 8) := nI_add c 8
    refine exB_ok (t := [(.iload_n 0, 1, 0, 0, 0, 0), (.sipush 256, 3, 0, 0, 0, 0), (.if_icmp .le 11, 3, 49, 0, 0, 0)]) (W47_ok G) (jj := fun q L st h o k n => EX G m_Integer_trailing q L st h o k n Q) (fun q L st h o k n hq => hq) (by decide +kernel) ?_
    simp [exB, hJ, exT, stp, lv_args, Value.category, lkL, stL1, stL2, insL, contX, q_ofNat, f4_3, nI_1, -Int32.not_lt, -Int32.not_le, -Int64.not_lt, -Int64.not_le, T_Integer_trailing_17, T_Integer_trailing_34, T_Integer_trailing_49, T_Integer_trailing_62, T_Integer_trailing_74, R_Integer_trailing, C_Integer_trailing, M_Integer_trailing, HH_Integer_trailing, KI_m1, KI_1, KB_32, KI_16, KB_16, KS_256, KI_8, KB_8, KI_4, KI_2, -Int32.reduceOfInt, -Int8.reduceOfInt, -Int16.reduceOfInt, -Int32.ofInt_neg, l]
    try simp (disch := omega) [-Int64.not_lt, -Int64.not_le, -Int32.not_lt, -Int32.not_le, nI_z, nI_ltI, nI_leI, nI_1, nI_clamp, q_vp, nI_pos', rget_k, rset_k, lget_k, hup_hup, l]
    refine exB_ok (t := [(.iinc 1 8, 3, 0, 0, 0, 0)]) (W47_ok G) (jj := fun q L st h o k n => EX G m_Integer_trailing q L st h o k n Q) (fun q L st h o k n hq => hq) (by decide +kernel) ?_
    simp [exB, hJ, exT, stp, lv_args, Value.category, lkL, stL1, stL2, insL, contX, q_ofNat, f4_3, nI_1, -Int32.not_lt, -Int32.not_le, -Int64.not_lt, -Int64.not_le, T_Integer_trailing_17, T_Integer_trailing_34, T_Integer_trailing_49, T_Integer_trailing_62, T_Integer_trailing_74, R_Integer_trailing, C_Integer_trailing, M_Integer_trailing, HH_Integer_trailing, KI_m1, KI_1, KB_32, KI_16, KB_16, KS_256, KI_8, KB_8, KI_4, KI_2, -Int32.reduceOfInt, -Int8.reduceOfInt, -Int16.reduceOfInt, -Int32.ofInt_neg, w]
    try simp (disch := omega) [-Int64.not_lt, -Int64.not_le, -Int32.not_lt, -Int32.not_le, nI_z, nI_ltI, nI_leI, nI_1, nI_clamp, q_vp, nI_pos', rget_k, rset_k, lget_k, hup_hup, w]
    refine exB_ok (t := [(.iload_n 0, 1, 0, 0, 0, 0), (.bipush 8, 2, 0, 0, 0, 0), (.iushr, 1, 0, 0, 0, 0), (.istore_n 0, 1, 0, 0, 0, 0)]) (W47_ok G) (jj := fun q L st h o k n => EX G m_Integer_trailing q L st h o k n Q) (fun q L st h o k n hq => hq) (by decide +kernel) ?_
    simp [exB, hJ, exT, stp, lv_args, Value.category, lkL, stL1, stL2, insL, contX, q_ofNat, f4_3, nI_1, -Int32.not_lt, -Int32.not_le, -Int64.not_lt, -Int64.not_le, T_Integer_trailing_17, T_Integer_trailing_34, T_Integer_trailing_49, T_Integer_trailing_62, T_Integer_trailing_74, R_Integer_trailing, C_Integer_trailing, M_Integer_trailing, HH_Integer_trailing, KI_m1, KI_1, KB_32, KI_16, KB_16, KS_256, KI_8, KB_8, KI_4, KI_2, -Int32.reduceOfInt, -Int8.reduceOfInt, -Int16.reduceOfInt, -Int32.ofInt_neg, u]
    try simp (disch := omega) [-Int64.not_lt, -Int64.not_le, -Int32.not_lt, -Int32.not_le, nI_z, nI_ltI, nI_leI, nI_1, nI_clamp, q_vp, nI_pos', rget_k, rset_k, lget_k, hup_hup, u]
    exact kk
  · rw [if_neg hx, if_neg hx] at kk
    have l : nI m ≤ 256 := Int32.not_lt.mp fun e => hx ((nI_ltI (by omega) (by omega)).mp e)
    refine exB_ok (t := [(.iload_n 0, 1, 0, 0, 0, 0), (.sipush 256, 3, 0, 0, 0, 0), (.if_icmp .le 11, 3, 49, 0, 0, 0)]) (W47_ok G) (jj := fun q L st h o k n => EX G m_Integer_trailing q L st h o k n Q) (fun q L st h o k n hq => hq) (by decide +kernel) ?_
    simp [exB, hJ, exT, stp, lv_args, Value.category, lkL, stL1, stL2, insL, contX, q_ofNat, f4_3, nI_1, -Int32.not_lt, -Int32.not_le, -Int64.not_lt, -Int64.not_le, T_Integer_trailing_17, T_Integer_trailing_34, T_Integer_trailing_49, T_Integer_trailing_62, T_Integer_trailing_74, R_Integer_trailing, C_Integer_trailing, M_Integer_trailing, HH_Integer_trailing, KI_m1, KI_1, KB_32, KI_16, KB_16, KS_256, KI_8, KB_8, KI_4, KI_2, -Int32.reduceOfInt, -Int8.reduceOfInt, -Int16.reduceOfInt, -Int32.ofInt_neg, l]
    try simp (disch := omega) [-Int64.not_lt, -Int64.not_le, -Int32.not_lt, -Int32.not_le, nI_z, nI_ltI, nI_leI, nI_1, nI_clamp, q_vp, nI_pos', rget_k, rset_k, lget_k, hup_hup, l]
    exact kk
theorem tz_49 {m c : Nat} (hm : m < 4096) (hc : c < 100) (kk : EX G m_Integer_trailing 62 [(0, .int (nI (if 16 < m then m >>> 4 else m))), (1, .int (nI (if 16 < m then c + 4 else c)))] [] h o 0 0 Q) : EX G m_Integer_trailing 49 [(0, .int (nI m)), (1, .int (nI c))] [] h o 0 0 Q := by
  have hJ : True := trivial
  have u : ((nI m).toUInt32 >>> (Int32.toUInt32 4 &&& Int32.toUInt32 31)).toInt32 = nI (m >>> 4) := ush_n (k := m) (j := 4) (by omega) (by decide)
  by_cases hx : 16 < m
  · rw [if_pos hx, if_pos hx] at kk
    have l : ¬ nI m ≤ 16 := fun e => absurd (nI_lt hx (by omega)) (Int32.not_lt.mpr e)
    have w : nI c + 4 = nI (c + 4) := nI_add c 4
    refine exB_ok (t := [(.iload_n 0, 1, 0, 0, 0, 0), (.bipush 16, 2, 0, 0, 0, 0), (.if_icmp .le 10, 3, 62, 0, 0, 0)]) (W47_ok G) (jj := fun q L st h o k n => EX G m_Integer_trailing q L st h o k n Q) (fun q L st h o k n hq => hq) (by decide +kernel) ?_
    simp [exB, hJ, exT, stp, lv_args, Value.category, lkL, stL1, stL2, insL, contX, q_ofNat, f4_3, nI_1, -Int32.not_lt, -Int32.not_le, -Int64.not_lt, -Int64.not_le, T_Integer_trailing_17, T_Integer_trailing_34, T_Integer_trailing_49, T_Integer_trailing_62, T_Integer_trailing_74, R_Integer_trailing, C_Integer_trailing, M_Integer_trailing, HH_Integer_trailing, KI_m1, KI_1, KB_32, KI_16, KB_16, KS_256, KI_8, KB_8, KI_4, KI_2, -Int32.reduceOfInt, -Int8.reduceOfInt, -Int16.reduceOfInt, -Int32.ofInt_neg, l]
    try simp (disch := omega) [-Int64.not_lt, -Int64.not_le, -Int32.not_lt, -Int32.not_le, nI_z, nI_ltI, nI_leI, nI_1, nI_clamp, q_vp, nI_pos', rget_k, rset_k, lget_k, hup_hup, l]
    refine exB_ok (t := [(.iinc 1 4, 3, 0, 0, 0, 0)]) (W47_ok G) (jj := fun q L st h o k n => EX G m_Integer_trailing q L st h o k n Q) (fun q L st h o k n hq => hq) (by decide +kernel) ?_
    simp [exB, hJ, exT, stp, lv_args, Value.category, lkL, stL1, stL2, insL, contX, q_ofNat, f4_3, nI_1, -Int32.not_lt, -Int32.not_le, -Int64.not_lt, -Int64.not_le, T_Integer_trailing_17, T_Integer_trailing_34, T_Integer_trailing_49, T_Integer_trailing_62, T_Integer_trailing_74, R_Integer_trailing, C_Integer_trailing, M_Integer_trailing, HH_Integer_trailing, KI_m1, KI_1, KB_32, KI_16, KB_16, KS_256, KI_8, KB_8, KI_4, KI_2, -Int32.reduceOfInt, -Int8.reduceOfInt, -Int16.reduceOfInt, -Int32.ofInt_neg, w]
    try simp (disch := omega) [-Int64.not_lt, -Int64.not_le, -Int32.not_lt, -Int32.not_le, nI_z, nI_ltI, nI_leI, nI_1, nI_clamp, q_vp, nI_pos', rget_k, rset_k, lget_k, hup_hup, w]
    refine exB_ok (t := [(.iload_n 0, 1, 0, 0, 0, 0), (.iconst 4, 1, 0, 0, 0, 0), (.iushr, 1, 0, 0, 0, 0), (.istore_n 0, 1, 0, 0, 0, 0)]) (W47_ok G) (jj := fun q L st h o k n => EX G m_Integer_trailing q L st h o k n Q) (fun q L st h o k n hq => hq) (by decide +kernel) ?_
    simp [exB, hJ, exT, stp, lv_args, Value.category, lkL, stL1, stL2, insL, contX, q_ofNat, f4_3, nI_1, -Int32.not_lt, -Int32.not_le, -Int64.not_lt, -Int64.not_le, T_Integer_trailing_17, T_Integer_trailing_34, T_Integer_trailing_49, T_Integer_trailing_62, T_Integer_trailing_74, R_Integer_trailing, C_Integer_trailing, M_Integer_trailing, HH_Integer_trailing, KI_m1, KI_1, KB_32, KI_16, KB_16, KS_256, KI_8, KB_8, KI_4, KI_2, -Int32.reduceOfInt, -Int8.reduceOfInt, -Int16.reduceOfInt, -Int32.ofInt_neg, u]
    try simp (disch := omega) [-Int64.not_lt, -Int64.not_le, -Int32.not_lt, -Int32.not_le, nI_z, nI_ltI, nI_leI, nI_1, nI_clamp, q_vp, nI_pos', rget_k, rset_k, lget_k, hup_hup, u]
    exact kk
  · rw [if_neg hx, if_neg hx] at kk
    have l : nI m ≤ 16 := Int32.not_lt.mp fun e => hx ((nI_ltI (by omega) (by omega)).mp e)
    refine exB_ok (t := [(.iload_n 0, 1, 0, 0, 0, 0), (.bipush 16, 2, 0, 0, 0, 0), (.if_icmp .le 10, 3, 62, 0, 0, 0)]) (W47_ok G) (jj := fun q L st h o k n => EX G m_Integer_trailing q L st h o k n Q) (fun q L st h o k n hq => hq) (by decide +kernel) ?_
    simp [exB, hJ, exT, stp, lv_args, Value.category, lkL, stL1, stL2, insL, contX, q_ofNat, f4_3, nI_1, -Int32.not_lt, -Int32.not_le, -Int64.not_lt, -Int64.not_le, T_Integer_trailing_17, T_Integer_trailing_34, T_Integer_trailing_49, T_Integer_trailing_62, T_Integer_trailing_74, R_Integer_trailing, C_Integer_trailing, M_Integer_trailing, HH_Integer_trailing, KI_m1, KI_1, KB_32, KI_16, KB_16, KS_256, KI_8, KB_8, KI_4, KI_2, -Int32.reduceOfInt, -Int8.reduceOfInt, -Int16.reduceOfInt, -Int32.ofInt_neg, l]
    try simp (disch := omega) [-Int64.not_lt, -Int64.not_le, -Int32.not_lt, -Int32.not_le, nI_z, nI_ltI, nI_leI, nI_1, nI_clamp, q_vp, nI_pos', rget_k, rset_k, lget_k, hup_hup, l]
    exact kk
theorem tz_62 {m c : Nat} (hm : m < 4096) (hc : c < 100) (kk : EX G m_Integer_trailing 74 [(0, .int (nI (if 4 < m then m >>> 2 else m))), (1, .int (nI (if 4 < m then c + 2 else c)))] [] h o 0 0 Q) : EX G m_Integer_trailing 62 [(0, .int (nI m)), (1, .int (nI c))] [] h o 0 0 Q := by
  have hJ : True := trivial
  have u : ((nI m).toUInt32 >>> (Int32.toUInt32 2 &&& Int32.toUInt32 31)).toInt32 = nI (m >>> 2) := ush_n (k := m) (j := 2) (by omega) (by decide)
  by_cases hx : 4 < m
  · rw [if_pos hx, if_pos hx] at kk
    have l : ¬ nI m ≤ 4 := fun e => absurd (nI_lt hx (by omega)) (Int32.not_lt.mpr e)
    have w : nI c + 2 = nI (c + 2) := nI_add c 2
    refine exB_ok (t := [(.iload_n 0, 1, 0, 0, 0, 0), (.iconst 4, 1, 0, 0, 0, 0), (.if_icmp .le 10, 3, 74, 0, 0, 0)]) (W47_ok G) (jj := fun q L st h o k n => EX G m_Integer_trailing q L st h o k n Q) (fun q L st h o k n hq => hq) (by decide +kernel) ?_
    simp [exB, hJ, exT, stp, lv_args, Value.category, lkL, stL1, stL2, insL, contX, q_ofNat, f4_3, nI_1, -Int32.not_lt, -Int32.not_le, -Int64.not_lt, -Int64.not_le, T_Integer_trailing_17, T_Integer_trailing_34, T_Integer_trailing_49, T_Integer_trailing_62, T_Integer_trailing_74, R_Integer_trailing, C_Integer_trailing, M_Integer_trailing, HH_Integer_trailing, KI_m1, KI_1, KB_32, KI_16, KB_16, KS_256, KI_8, KB_8, KI_4, KI_2, -Int32.reduceOfInt, -Int8.reduceOfInt, -Int16.reduceOfInt, -Int32.ofInt_neg, l]
    try simp (disch := omega) [-Int64.not_lt, -Int64.not_le, -Int32.not_lt, -Int32.not_le, nI_z, nI_ltI, nI_leI, nI_1, nI_clamp, q_vp, nI_pos', rget_k, rset_k, lget_k, hup_hup, l]
    refine exB_ok (t := [(.iinc 1 2, 3, 0, 0, 0, 0)]) (W47_ok G) (jj := fun q L st h o k n => EX G m_Integer_trailing q L st h o k n Q) (fun q L st h o k n hq => hq) (by decide +kernel) ?_
    simp [exB, hJ, exT, stp, lv_args, Value.category, lkL, stL1, stL2, insL, contX, q_ofNat, f4_3, nI_1, -Int32.not_lt, -Int32.not_le, -Int64.not_lt, -Int64.not_le, T_Integer_trailing_17, T_Integer_trailing_34, T_Integer_trailing_49, T_Integer_trailing_62, T_Integer_trailing_74, R_Integer_trailing, C_Integer_trailing, M_Integer_trailing, HH_Integer_trailing, KI_m1, KI_1, KB_32, KI_16, KB_16, KS_256, KI_8, KB_8, KI_4, KI_2, -Int32.reduceOfInt, -Int8.reduceOfInt, -Int16.reduceOfInt, -Int32.ofInt_neg, w]
    try simp (disch := omega) [-Int64.not_lt, -Int64.not_le, -Int32.not_lt, -Int32.not_le, nI_z, nI_ltI, nI_leI, nI_1, nI_clamp, q_vp, nI_pos', rget_k, rset_k, lget_k, hup_hup, w]
    refine exB_ok (t := [(.iload_n 0, 1, 0, 0, 0, 0), (.iconst 2, 1, 0, 0, 0, 0), (.iushr, 1, 0, 0, 0, 0), (.istore_n 0, 1, 0, 0, 0, 0)]) (W47_ok G) (jj := fun q L st h o k n => EX G m_Integer_trailing q L st h o k n Q) (fun q L st h o k n hq => hq) (by decide +kernel) ?_
    simp [exB, hJ, exT, stp, lv_args, Value.category, lkL, stL1, stL2, insL, contX, q_ofNat, f4_3, nI_1, -Int32.not_lt, -Int32.not_le, -Int64.not_lt, -Int64.not_le, T_Integer_trailing_17, T_Integer_trailing_34, T_Integer_trailing_49, T_Integer_trailing_62, T_Integer_trailing_74, R_Integer_trailing, C_Integer_trailing, M_Integer_trailing, HH_Integer_trailing, KI_m1, KI_1, KB_32, KI_16, KB_16, KS_256, KI_8, KB_8, KI_4, KI_2, -Int32.reduceOfInt, -Int8.reduceOfInt, -Int16.reduceOfInt, -Int32.ofInt_neg, u]
    try simp (disch := omega) [-Int64.not_lt, -Int64.not_le, -Int32.not_lt, -Int32.not_le, nI_z, nI_ltI, nI_leI, nI_1, nI_clamp, q_vp, nI_pos', rget_k, rset_k, lget_k, hup_hup, u]
    exact kk
  · rw [if_neg hx, if_neg hx] at kk
    have l : nI m ≤ 4 := Int32.not_lt.mp fun e => hx ((nI_ltI (by omega) (by omega)).mp e)
    refine exB_ok (t := [(.iload_n 0, 1, 0, 0, 0, 0), (.iconst 4, 1, 0, 0, 0, 0), (.if_icmp .le 10, 3, 74, 0, 0, 0)]) (W47_ok G) (jj := fun q L st h o k n => EX G m_Integer_trailing q L st h o k n Q) (fun q L st h o k n hq => hq) (by decide +kernel) ?_
    simp [exB, hJ, exT, stp, lv_args, Value.category, lkL, stL1, stL2, insL, contX, q_ofNat, f4_3, nI_1, -Int32.not_lt, -Int32.not_le, -Int64.not_lt, -Int64.not_le, T_Integer_trailing_17, T_Integer_trailing_34, T_Integer_trailing_49, T_Integer_trailing_62, T_Integer_trailing_74, R_Integer_trailing, C_Integer_trailing, M_Integer_trailing, HH_Integer_trailing, KI_m1, KI_1, KB_32, KI_16, KB_16, KS_256, KI_8, KB_8, KI_4, KI_2, -Int32.reduceOfInt, -Int8.reduceOfInt, -Int16.reduceOfInt, -Int32.ofInt_neg, l]
    try simp (disch := omega) [-Int64.not_lt, -Int64.not_le, -Int32.not_lt, -Int32.not_le, nI_z, nI_ltI, nI_leI, nI_1, nI_clamp, q_vp, nI_pos', rget_k, rset_k, lget_k, hup_hup, l]
    exact kk
set_option maxRecDepth 2000 in
set_option maxHeartbeats 200000 in
theorem r_Integer_trailing (hx : rx_Integer_trailing as h o Q) : Runs G m_Integer_trailing as h o Q := by
  obtain ⟨x, rfl, t, ⟨ht, e⟩, hq⟩ := E_i hx
  have key : (if 2 ^ t - 1 = 0 then nI 32 &&& nI 0 else nI 0) = nI 0 := by split <;> decide
  by_cases t0 : t = 0
  · subst t0
    have e : ~~~x &&& (x - 1) = 0 := e
    have hJ : True := trivial
    refine Runs.of (by decide +kernel) (Nat.le_of_ble_eq_true rfl) ?_
    refine exB_ok (t := [(.iload_n 0, 1, 0, 0, 0, 0), (.iconst (-1), 1, 0, 0, 0, 0), (.ixor, 1, 0, 0, 0, 0), (.iload_n 0, 1, 0, 0, 0, 0), (.iconst 1, 1, 0, 0, 0, 0), (.isub, 1, 0, 0, 0, 0), (.iand, 1, 0, 0, 0, 0), (.istore_n 0, 1, 0, 0, 0, 0), (.iload_n 0, 1, 0, 0, 0, 0), (.ifCond .gt 8, 3, 17, 0, 0, 0)]) (W47_ok G) (jj := fun q L st h o k n => EX G m_Integer_trailing q L st h o k n Q) (fun q L st h o k n hq => hq) (by decide +kernel) ?_
    simp [exB, hJ, exT, stp, lv_args, Value.category, lkL, stL1, stL2, insL, contX, q_ofNat, f4_3, nI_1, -Int32.not_lt, -Int32.not_le, -Int64.not_lt, -Int64.not_le, T_Integer_trailing_17, T_Integer_trailing_34, T_Integer_trailing_49, T_Integer_trailing_62, T_Integer_trailing_74, R_Integer_trailing, C_Integer_trailing, M_Integer_trailing, HH_Integer_trailing, KI_m1, KI_1, KB_32, KI_16, KB_16, KS_256, KI_8, KB_8, KI_4, KI_2, -Int32.reduceOfInt, -Int8.reduceOfInt, -Int16.reduceOfInt, -Int32.ofInt_neg, e]
    try simp (disch := omega) [-Int64.not_lt, -Int64.not_le, -Int32.not_lt, -Int32.not_le, nI_z, nI_ltI, nI_leI, nI_1, nI_clamp, q_vp, nI_pos', rget_k, rset_k, lget_k, hup_hup, e]
    refine exB_ok (t := [(.iload_n 0, 1, 0, 0, 0, 0), (.bipush 32, 2, 0, 0, 0, 0), (.iand, 1, 0, 0, 0, 0), (.ireturn, 1, 0, 0, 0, 0)]) (W47_ok G) (jj := fun q L st h o k n => EX G m_Integer_trailing q L st h o k n Q) (fun q L st h o k n hq => hq) (by decide +kernel) ?_
    simp [exB, hJ, exT, stp, lv_args, Value.category, lkL, stL1, stL2, insL, contX, q_ofNat, f4_3, nI_1, -Int32.not_lt, -Int32.not_le, -Int64.not_lt, -Int64.not_le, T_Integer_trailing_17, T_Integer_trailing_34, T_Integer_trailing_49, T_Integer_trailing_62, T_Integer_trailing_74, R_Integer_trailing, C_Integer_trailing, M_Integer_trailing, HH_Integer_trailing, KI_m1, KI_1, KB_32, KI_16, KB_16, KS_256, KI_8, KB_8, KI_4, KI_2, -Int32.reduceOfInt, -Int8.reduceOfInt, -Int16.reduceOfInt, -Int32.ofInt_neg]
    try simp (disch := omega) [-Int64.not_lt, -Int64.not_le, -Int32.not_lt, -Int32.not_le, nI_z, nI_ltI, nI_leI, nI_1, nI_clamp, q_vp, nI_pos', rget_k, rset_k, lget_k, hup_hup]
    exact hq
  · have hJ : True := trivial
    have hm : 0 < 2 ^ t - 1 ∧ 2 ^ t - 1 < 4096 := by
      have : t = 1 ∨ t = 2 ∨ t = 3 ∨ t = 4 ∨ t = 5 ∨ t = 6 ∨ t = 7 ∨ t = 8 ∨ t = 9 ∨ t = 10 ∨ t = 11 := by omega
      rcases this with rfl | rfl | rfl | rfl | rfl | rfl | rfl | rfl | rfl | rfl | rfl <;> decide
    have fin : ∀ m c : Nat, m < 4096 → nI c + nI (m >>> 1) = nI t → EX G m_Integer_trailing 74 [(0, .int (nI m)), (1, .int (nI c))] [] h o 0 0 Q := by
      intro m c hm hc
      have u := ush_n (k := m) (j := 1) (by omega) (by decide)
      have u : ((nI m).toUInt32 >>> (Int32.toUInt32 1 &&& Int32.toUInt32 31)).toInt32 = nI (m >>> 1) := u
      refine exB_ok (t := [(.iload_n 1, 1, 0, 0, 0, 0), (.iload_n 0, 1, 0, 0, 0, 0), (.iconst 1, 1, 0, 0, 0, 0), (.iushr, 1, 0, 0, 0, 0), (.iadd, 1, 0, 0, 0, 0), (.ireturn, 1, 0, 0, 0, 0)]) (W47_ok G) (jj := fun q L st h o k n => EX G m_Integer_trailing q L st h o k n Q) (fun q L st h o k n hq => hq) (by decide +kernel) ?_
      simp [exB, hJ, exT, stp, lv_args, Value.category, lkL, stL1, stL2, insL, contX, q_ofNat, f4_3, nI_1, -Int32.not_lt, -Int32.not_le, -Int64.not_lt, -Int64.not_le, T_Integer_trailing_17, T_Integer_trailing_34, T_Integer_trailing_49, T_Integer_trailing_62, T_Integer_trailing_74, R_Integer_trailing, C_Integer_trailing, M_Integer_trailing, HH_Integer_trailing, KI_m1, KI_1, KB_32, KI_16, KB_16, KS_256, KI_8, KB_8, KI_4, KI_2, -Int32.reduceOfInt, -Int8.reduceOfInt, -Int16.reduceOfInt, -Int32.ofInt_neg, u, hc]
      try simp (disch := omega) [-Int64.not_lt, -Int64.not_le, -Int32.not_lt, -Int32.not_le, nI_z, nI_ltI, nI_leI, nI_1, nI_clamp, q_vp, nI_pos', rget_k, rset_k, lget_k, hup_hup, u, hc]
      exact hq
    obtain ⟨m, em⟩ : ∃ m, m = 2 ^ t - 1 := ⟨_, rfl⟩
    rw [← em] at e hm
    have l0 : ¬ nI m ≤ 0 := fun e => absurd (nI_lt (show 0 < m from hm.1) (by omega)) (Int32.not_lt.mpr e)
    have l0' : 0 < nI m := Int32.not_le.mp l0
    have l1 : nI m ≤ 65536 := Int32.not_lt.mp fun e => absurd ((nI_ltI (a := 65536) (b := m) (by omega) (by omega)).mp e) (by omega)
    refine Runs.of (by decide +kernel) (Nat.le_of_ble_eq_true rfl) ?_
    refine exB_ok (t := [(.iload_n 0, 1, 0, 0, 0, 0), (.iconst (-1), 1, 0, 0, 0, 0), (.ixor, 1, 0, 0, 0, 0), (.iload_n 0, 1, 0, 0, 0, 0), (.iconst 1, 1, 0, 0, 0, 0), (.isub, 1, 0, 0, 0, 0), (.iand, 1, 0, 0, 0, 0), (.istore_n 0, 1, 0, 0, 0, 0), (.iload_n 0, 1, 0, 0, 0, 0), (.ifCond .gt 8, 3, 17, 0, 0, 0)]) (W47_ok G) (jj := fun q L st h o k n => EX G m_Integer_trailing q L st h o k n Q) (fun q L st h o k n hq => hq) (by decide +kernel) ?_
    simp [exB, hJ, exT, stp, lv_args, Value.category, lkL, stL1, stL2, insL, contX, q_ofNat, f4_3, nI_1, -Int32.not_lt, -Int32.not_le, -Int64.not_lt, -Int64.not_le, T_Integer_trailing_17, T_Integer_trailing_34, T_Integer_trailing_49, T_Integer_trailing_62, T_Integer_trailing_74, R_Integer_trailing, C_Integer_trailing, M_Integer_trailing, HH_Integer_trailing, KI_m1, KI_1, KB_32, KI_16, KB_16, KS_256, KI_8, KB_8, KI_4, KI_2, -Int32.reduceOfInt, -Int8.reduceOfInt, -Int16.reduceOfInt, -Int32.ofInt_neg, e, l0, l0']
    try simp (disch := omega) [-Int64.not_lt, -Int64.not_le, -Int32.not_lt, -Int32.not_le, nI_z, nI_ltI, nI_leI, nI_1, nI_clamp, q_vp, nI_pos', rget_k, rset_k, lget_k, hup_hup, e, l0, l0']
    refine exB_ok (t := [(.iconst 1, 1, 0, 0, 0, 0), (.istore_n 1, 1, 0, 0, 0, 0), (.iload_n 0, 1, 0, 0, 0, 0), (.ldc_w 264, 3, 65536, 0, 0, 0), (.if_icmp .le 11, 3, 34, 0, 0, 0)]) (W47_ok G) (jj := fun q L st h o k n => EX G m_Integer_trailing q L st h o k n Q) (fun q L st h o k n hq => hq) (by decide +kernel) ?_
    simp [exB, hJ, exT, stp, lv_args, Value.category, lkL, stL1, stL2, insL, contX, q_ofNat, f4_3, nI_1, -Int32.not_lt, -Int32.not_le, -Int64.not_lt, -Int64.not_le, T_Integer_trailing_17, T_Integer_trailing_34, T_Integer_trailing_49, T_Integer_trailing_62, T_Integer_trailing_74, R_Integer_trailing, C_Integer_trailing, M_Integer_trailing, HH_Integer_trailing, KI_m1, KI_1, KB_32, KI_16, KB_16, KS_256, KI_8, KB_8, KI_4, KI_2, -Int32.reduceOfInt, -Int8.reduceOfInt, -Int16.reduceOfInt, -Int32.ofInt_neg, l1]
    try simp (disch := omega) [-Int64.not_lt, -Int64.not_le, -Int32.not_lt, -Int32.not_le, nI_z, nI_ltI, nI_leI, nI_1, nI_clamp, q_vp, nI_pos', rget_k, rset_k, lget_k, hup_hup, l1]
    refine ⟨fun _ => ?_, fun h => absurd h (by omega)⟩
    refine tz_34 (m := m) (c := 1) hm.2 (by decide) (tz_49 ?_ ?_ (tz_62 ?_ ?_ (fin _ _ ?_ ?_)))
    all_goals
      subst em
      have : t = 1 ∨ t = 2 ∨ t = 3 ∨ t = 4 ∨ t = 5 ∨ t = 6 ∨ t = 7 ∨ t = 8 ∨ t = 9 ∨ t = 10 ∨ t = 11 := by omega
      rcases this with rfl | rfl | rfl | rfl | rfl | rfl | rfl | rfl | rfl | rfl | rfl <;> decide
end BL
