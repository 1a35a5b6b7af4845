/-! c2: houses, scripts are made -/
set_option maxRecDepth 8000
/-- a fresh house -/
def HN : HT := clrT H0
theorem hH_made (h : HM) (a : Nat) : hup (rowN (hup (rowN (hup (rowN (hup (rowN (hup (rowN (hup (rowN (hup (rowN (hup (rowN (hup (hup h (a + 1) (longs 12 fun _ => 0)) a (.inr (3, [.ref (a + 1), .null, .null, .null, .null, .null, .null, .null, .null, .int 0, .int 0, .int 0, .int 0, .int 0, .int 0, .int 0, .int 0, .int 0, .int 0]))) (a + 2) 12) a (.inr (3, [.ref (a + 1), .ref (a + 2), .null, .null, .null, .null, .null, .null, .null, .int 0, .int 0, .int 0, .int 0, .int 0, .int 0, .int 0, .int 0, .int 0, .int 0]))) (a + 4) 12) a (.inr (3, [.ref (a + 1), .ref (a + 2), .ref (a + 4), .null, .null, .null, .null, .null, .null, .int 0, .int 0, .int 0, .int 0, .int 0, .int 0, .int 0, .int 0, .int 0, .int 0]))) (a + 6) 12) a (.inr (3, [.ref (a + 1), .ref (a + 2), .ref (a + 4), .ref (a + 6), .null, .null, .null, .null, .null, .int 0, .int 0, .int 0, .int 0, .int 0, .int 0, .int 0, .int 0, .int 0, .int 0]))) (a + 8) 12) a (.inr (3, [.ref (a + 1), .ref (a + 2), .ref (a + 4), .ref (a + 6), .ref (a + 8), .null, .null, .null, .null, .int 0, .int 0, .int 0, .int 0, .int 0, .int 0, .int 0, .int 0, .int 0, .int 0]))) (a + 10) 24) a (.inr (3, [.ref (a + 1), .ref (a + 2), .ref (a + 4), .ref (a + 6), .ref (a + 8), .ref (a + 10), .null, .null, .null, .int 0, .int 0, .int 0, .int 0, .int 0, .int 0, .int 0, .int 0, .int 0, .int 0]))) (a + 12) 24) a (.inr (3, [.ref (a + 1), .ref (a + 2), .ref (a + 4), .ref (a + 6), .ref (a + 8), .ref (a + 10), .ref (a + 12), .null, .null, .int 0, .int 0, .int 0, .int 0, .int 0, .int 0, .int 0, .int 0, .int 0, .int 0]))) (a + 14) 24) a (.inr (3, [.ref (a + 1), .ref (a + 2), .ref (a + 4), .ref (a + 6), .ref (a + 8), .ref (a + 10), .ref (a + 12), .ref (a + 14), .null, .int 0, .int 0, .int 0, .int 0, .int 0, .int 0, .int 0, .int 0, .int 0, .int 0]))) (a + 16) 6) a (.inr (3, [.ref (a + 1), .ref (a + 2), .ref (a + 4), .ref (a + 6), .ref (a + 8), .ref (a + 10), .ref (a + 12), .ref (a + 14), .ref (a + 16), .int 0, .int 0, .int 0, .int 0, .int 0, .int 0, .int 0, .int 0, .int 0, .int 0])) = hH h a H0 := by
  funext x
  by_cases c : a ≤ x ∧ x < a + 18
  · obtain ⟨i, hi, rfl⟩ : ∃ i, i < 18 ∧ x = a + i := ⟨x - a, by omega, by omega⟩
    rw [hH_at hi]
    have : i = 0 ∨ i = 1 ∨ i = 2 ∨ i = 3 ∨ i = 4 ∨ i = 5 ∨ i = 6 ∨ i = 7 ∨ i = 8 ∨ i = 9 ∨ i = 10 ∨ i = 11 ∨ i = 12 ∨ i = 13 ∨ i = 14 ∨ i = 15 ∨ i = 16 ∨ i = 17 := by omega
    rcases this with rfl | rfl | rfl | rfl | rfl | rfl | rfl | rfl | rfl | rfl | rfl | rfl | rfl | rfl | rfl | rfl | rfl | rfl <;> simp [rowN, hup, cH, H0] <;> rfl
  · unfold hH
    rw [if_neg c]
    simp only [rowN, hup]
    repeat rw [if_neg (by omega)]
def rx_House_init (as : List Value) (h : HM) (o : Option Nat) (Q : XQ) : Prop := A_r as fun a => (o = some (a + 1) ∧ h a = some (.inr (3, [.null, .null, .null, .null, .null, .null, .null, .null, .null, .int 0, .int 0, .int 0, .int 0, .int 0, .int 0, .int 0, .int 0, .int 0, .int 0]))) ∧ Q (.inl none) (hH h a HN) (some (a + 18))
section CI
variable {G : GG} {as : List Value} {h : HM} {o : Option Nat} {Q : XQ}
theorem HH_House_init : mHH 25 = [] := rfl
theorem TY_3_0 {v : Nat} : okw (tyC 3 0) (.ref v) = True := rfl
theorem TY_3_0n : okw (tyC 3 0) (.null) = True := rfl
theorem TY_3_1 {v : Nat} : okw (tyC 3 1) (.ref v) = True := rfl
theorem TY_3_1n : okw (tyC 3 1) (.null) = True := rfl
theorem TY_3_2 {v : Nat} : okw (tyC 3 2) (.ref v) = True := rfl
theorem TY_3_2n : okw (tyC 3 2) (.null) = True := rfl
theorem TY_3_3 {v : Nat} : okw (tyC 3 3) (.ref v) = True := rfl
theorem TY_3_3n : okw (tyC 3 3) (.null) = True := rfl
theorem TY_3_4 {v : Nat} : okw (tyC 3 4) (.ref v) = True := rfl
theorem TY_3_4n : okw (tyC 3 4) (.null) = True := rfl
theorem TY_3_5 {v : Nat} : okw (tyC 3 5) (.ref v) = True := rfl
theorem TY_3_5n : okw (tyC 3 5) (.null) = True := rfl
theorem TY_3_6 {v : Nat} : okw (tyC 3 6) (.ref v) = True := rfl
theorem TY_3_6n : okw (tyC 3 6) (.null) = True := rfl
theorem TY_3_7 {v : Nat} : okw (tyC 3 7) (.ref v) = True := rfl
theorem TY_3_7n : okw (tyC 3 7) (.null) = True := rfl
theorem TY_3_8 {v : Nat} : okw (tyC 3 8) (.ref v) = True := rfl
theorem TY_3_8n : okw (tyC 3 8) (.null) = True := rfl
theorem W43_House_clear {G : GG} {as : List Value} {h : HM} {o : Option Nat} {Q : XQ} : RX G (W43 G) 26 as h o Q = rx_House_clear as h o Q := rfl
theorem W43_Row_init {G : GG} {as : List Value} {h : HM} {o : Option Nat} {Q : XQ} : RX G (W43 G) 60 as h o Q = rx_Row_init as h o Q := rfl
set_option maxRecDepth 2000 in
set_option maxHeartbeats 200000 in
theorem r_House_init (hx : rx_House_init as h o Q) : Runs G m_House_init as h o Q := by
  obtain ⟨a, rfl, ⟨rfl, h1⟩, hq⟩ := E_r hx
  change Nat at a
  have hJ : True := trivial
  have F1 : 1 ≤ (mF m_House_init).1 := by decide
  have F2 : 12 ≤ (mF m_House_init).2 := by decide
  refine Runs.of (by decide +kernel) (Nat.le_of_ble_eq_true rfl) ?_
  have m0 : a ≠ a + 1 := by omega
  refine exB_ok (t := [(.aload_n 0, 1, 0, 0, 0, 0), (.invokespecial 3, 3, 100000, 0, 0, 0), (.aload_n 0, 1, 0, 0, 0, 0), (.bipush 12, 2, 0, 0, 0, 0), (.newarray .long, 2, 0, 0, 12, 0), (.putfield 9, 3, 3, 0, 0, 0)]) (W43_ok G) (jj := fun q L st h o k n => EX G m_House_init q L st h o k n Q) (fun q L st h o k n hq => hq) (by decide +kernel) ?_
  simp [exB, hJ, exT, stp, lv_args, Value.category, lkL, stL1, stL2, insL, contX, q_ofNat, f4_3, nI_1, -Int32.not_lt, -Int32.not_le, -Int64.not_lt, -Int64.not_le, R_House_init, C_House_init, M_House_init, HH_House_init, KB_12, KB_24, KB_6, -Int32.reduceOfInt, -Int8.reduceOfInt, -Int16.reduceOfInt, -Int32.ofInt_neg, TY_3_0, TY_3_0n, TY_3_1, TY_3_1n, TY_3_2, TY_3_2n, TY_3_3, TY_3_3n, TY_3_4, TY_3_4n, TY_3_5, TY_3_5n, TY_3_6, TY_3_6n, TY_3_7, TY_3_7n, TY_3_8, TY_3_8n, O_House_init_House_clear, C_House_clear, M_House_clear, W43_House_clear, rx_House_clear, O_House_init_Row_init, C_Row_init, M_Row_init, W43_Row_init, rx_Row_init, F1, F2, h1, hup_at, hup_nq m0, c12]
  try simp (disch := omega) [-Int64.not_lt, -Int64.not_le, -Int32.not_lt, -Int32.not_le, nI_z, nI_ltI, nI_leI, nI_1, nI_clamp, q_vp, nI_pos', rget_k, rset_k, lget_k, hup_hup, F1, F2, h1, hup_at, hup_nq m0, c12]
  obtain ⟨Y0, e0⟩ : ∃ H, H = hup (hup h (a + 1) (longs 12 fun _ => 0)) a (.inr (3, [.ref (a + 1), .null, .null, .null, .null, .null, .null, .null, .null, .int 0, .int 0, .int 0, .int 0, .int 0, .int 0, .int 0, .int 0, .int 0, .int 0])) := ⟨_, rfl⟩
  have g0 : Y0 a = some (.inr (3, [.ref (a + 1), .null, .null, .null, .null, .null, .null, .null, .null, .int 0, .int 0, .int 0, .int 0, .int 0, .int 0, .int 0, .int 0, .int 0, .int 0])) := by rw [e0, hup_at]
  change EX G _ _ _ _ (hup (hup h (a + 1) (longs 12 fun _ => 0)) a (.inr (3, [.ref (a + 1), .null, .null, .null, .null, .null, .null, .null, .null, .int 0, .int 0, .int 0, .int 0, .int 0, .int 0, .int 0, .int 0, .int 0, .int 0]))) (some (a + 2)) 1 12 Q
  rw [← e0]
  have n1 : a ≠ a + 2 := by omega
  have n2 : a ≠ a + 2 + 1 := by omega
  have n3 : a + 2 ≠ a + 2 + 1 := by omega
  have l1 : (0 : Int32) < 12 := by decide
  have l2 : (12 : Int32) ≤ 600 := by decide
  have hro : roomOK m_House_init 60 2 13 = true := by decide +kernel
  refine exB_ok (t := [(.aload_n 0, 1, 0, 0, 0, 0), (.new 15, 3, 7, 0, 0, 0), (.dup, 1, 0, 0, 0, 0), (.bipush 12, 2, 0, 0, 0, 0), (.invokespecial 17, 3, 60, 0, 1, 0), (.putfield 20, 3, 3, 1, 0, 0)]) (W43_ok G) (jj := fun q L st h o k n => EX G m_House_init q L st h o k n Q) (fun q L st h o k n hq => hq) (by decide +kernel) ?_
  simp [exB, hJ, exT, stp, lv_args, Value.category, lkL, stL1, stL2, insL, contX, q_ofNat, f4_3, nI_1, -Int32.not_lt, -Int32.not_le, -Int64.not_lt, -Int64.not_le, R_House_init, C_House_init, M_House_init, HH_House_init, KB_12, KB_24, KB_6, -Int32.reduceOfInt, -Int8.reduceOfInt, -Int16.reduceOfInt, -Int32.ofInt_neg, TY_3_0, TY_3_0n, TY_3_1, TY_3_1n, TY_3_2, TY_3_2n, TY_3_3, TY_3_3n, TY_3_4, TY_3_4n, TY_3_5, TY_3_5n, TY_3_6, TY_3_6n, TY_3_7, TY_3_7n, TY_3_8, TY_3_8n, O_House_init_House_clear, C_House_clear, M_House_clear, W43_House_clear, rx_House_clear, O_House_init_Row_init, C_Row_init, M_Row_init, W43_Row_init, rx_Row_init, F1, F2, g0, hup_at, hup_hup, dfl, nFl, A_ri, hro, c12, hup_nq n1, hup_nq n2, hup_nq n3, n3, l1, l2]
  try simp (disch := omega) [-Int64.not_lt, -Int64.not_le, -Int32.not_lt, -Int32.not_le, nI_z, nI_ltI, nI_leI, nI_1, nI_clamp, q_vp, nI_pos', rget_k, rset_k, lget_k, hup_hup, F1, F2, g0, hup_at, hup_hup, dfl, nFl, A_ri, hro, c12, hup_nq n1, hup_nq n2, hup_nq n3, n3, l1, l2]
  obtain ⟨Y1, e1⟩ : ∃ H, H = hup (rowN Y0 (a + 2) 12) a (.inr (3, [.ref (a + 1), .ref (a + 2), .null, .null, .null, .null, .null, .null, .null, .int 0, .int 0, .int 0, .int 0, .int 0, .int 0, .int 0, .int 0, .int 0, .int 0])) := ⟨_, rfl⟩
  have g1 : Y1 a = some (.inr (3, [.ref (a + 1), .ref (a + 2), .null, .null, .null, .null, .null, .null, .null, .int 0, .int 0, .int 0, .int 0, .int 0, .int 0, .int 0, .int 0, .int 0, .int 0])) := by rw [e1, hup_at]
  change EX G _ _ _ _ (hup (rowN Y0 (a + 2) 12) a (.inr (3, [.ref (a + 1), .ref (a + 2), .null, .null, .null, .null, .null, .null, .null, .int 0, .int 0, .int 0, .int 0, .int 0, .int 0, .int 0, .int 0, .int 0, .int 0]))) (some (a + 4)) 3 613 Q
  rw [← e1]
  clear n1 n2 n3 hro l1 l2
  have n1 : a ≠ a + 4 := by omega
  have n2 : a ≠ a + 4 + 1 := by omega
  have n3 : a + 4 ≠ a + 4 + 1 := by omega
  have l1 : (0 : Int32) < 12 := by decide
  have l2 : (12 : Int32) ≤ 600 := by decide
  have hro : roomOK m_House_init 60 4 614 = true := by decide +kernel
  refine exB_ok (t := [(.aload_n 0, 1, 0, 0, 0, 0), (.new 15, 3, 7, 0, 0, 0), (.dup, 1, 0, 0, 0, 0), (.bipush 12, 2, 0, 0, 0, 0), (.invokespecial 17, 3, 60, 0, 1, 0), (.putfield 24, 3, 3, 2, 0, 0)]) (W43_ok G) (jj := fun q L st h o k n => EX G m_House_init q L st h o k n Q) (fun q L st h o k n hq => hq) (by decide +kernel) ?_
  simp [exB, hJ, exT, stp, lv_args, Value.category, lkL, stL1, stL2, insL, contX, q_ofNat, f4_3, nI_1, -Int32.not_lt, -Int32.not_le, -Int64.not_lt, -Int64.not_le, R_House_init, C_House_init, M_House_init, HH_House_init, KB_12, KB_24, KB_6, -Int32.reduceOfInt, -Int8.reduceOfInt, -Int16.reduceOfInt, -Int32.ofInt_neg, TY_3_0, TY_3_0n, TY_3_1, TY_3_1n, TY_3_2, TY_3_2n, TY_3_3, TY_3_3n, TY_3_4, TY_3_4n, TY_3_5, TY_3_5n, TY_3_6, TY_3_6n, TY_3_7, TY_3_7n, TY_3_8, TY_3_8n, O_House_init_House_clear, C_House_clear, M_House_clear, W43_House_clear, rx_House_clear, O_House_init_Row_init, C_Row_init, M_Row_init, W43_Row_init, rx_Row_init, F1, F2, g1, hup_at, hup_hup, dfl, nFl, A_ri, hro, c12, hup_nq n1, hup_nq n2, hup_nq n3, n3, l1, l2]
  try simp (disch := omega) [-Int64.not_lt, -Int64.not_le, -Int32.not_lt, -Int32.not_le, nI_z, nI_ltI, nI_leI, nI_1, nI_clamp, q_vp, nI_pos', rget_k, rset_k, lget_k, hup_hup, F1, F2, g1, hup_at, hup_hup, dfl, nFl, A_ri, hro, c12, hup_nq n1, hup_nq n2, hup_nq n3, n3, l1, l2]
  obtain ⟨Y2, e2⟩ : ∃ H, H = hup (rowN Y1 (a + 4) 12) a (.inr (3, [.ref (a + 1), .ref (a + 2), .ref (a + 4), .null, .null, .null, .null, .null, .null, .int 0, .int 0, .int 0, .int 0, .int 0, .int 0, .int 0, .int 0, .int 0, .int 0])) := ⟨_, rfl⟩
  have g2 : Y2 a = some (.inr (3, [.ref (a + 1), .ref (a + 2), .ref (a + 4), .null, .null, .null, .null, .null, .null, .int 0, .int 0, .int 0, .int 0, .int 0, .int 0, .int 0, .int 0, .int 0, .int 0])) := by rw [e2, hup_at]
  change EX G _ _ _ _ (hup (rowN Y1 (a + 4) 12) a (.inr (3, [.ref (a + 1), .ref (a + 2), .ref (a + 4), .null, .null, .null, .null, .null, .null, .int 0, .int 0, .int 0, .int 0, .int 0, .int 0, .int 0, .int 0, .int 0, .int 0]))) (some (a + 6)) 5 1214 Q
  rw [← e2]
  clear n1 n2 n3 hro l1 l2
  have n1 : a ≠ a + 6 := by omega
  have n2 : a ≠ a + 6 + 1 := by omega
  have n3 : a + 6 ≠ a + 6 + 1 := by omega
  have l1 : (0 : Int32) < 12 := by decide
  have l2 : (12 : Int32) ≤ 600 := by decide
  have hro : roomOK m_House_init 60 6 1215 = true := by decide +kernel
  refine exB_ok (t := [(.aload_n 0, 1, 0, 0, 0, 0), (.new 15, 3, 7, 0, 0, 0), (.dup, 1, 0, 0, 0, 0), (.bipush 12, 2, 0, 0, 0, 0), (.invokespecial 17, 3, 60, 0, 1, 0), (.putfield 27, 3, 3, 3, 0, 0)]) (W43_ok G) (jj := fun q L st h o k n => EX G m_House_init q L st h o k n Q) (fun q L st h o k n hq => hq) (by decide +kernel) ?_
  simp [exB, hJ, exT, stp, lv_args, Value.category, lkL, stL1, stL2, insL, contX, q_ofNat, f4_3, nI_1, -Int32.not_lt, -Int32.not_le, -Int64.not_lt, -Int64.not_le, R_House_init, C_House_init, M_House_init, HH_House_init, KB_12, KB_24, KB_6, -Int32.reduceOfInt, -Int8.reduceOfInt, -Int16.reduceOfInt, -Int32.ofInt_neg, TY_3_0, TY_3_0n, TY_3_1, TY_3_1n, TY_3_2, TY_3_2n, TY_3_3, TY_3_3n, TY_3_4, TY_3_4n, TY_3_5, TY_3_5n, TY_3_6, TY_3_6n, TY_3_7, TY_3_7n, TY_3_8, TY_3_8n, O_House_init_House_clear, C_House_clear, M_House_clear, W43_House_clear, rx_House_clear, O_House_init_Row_init, C_Row_init, M_Row_init, W43_Row_init, rx_Row_init, F1, F2, g2, hup_at, hup_hup, dfl, nFl, A_ri, hro, c12, hup_nq n1, hup_nq n2, hup_nq n3, n3, l1, l2]
  try simp (disch := omega) [-Int64.not_lt, -Int64.not_le, -Int32.not_lt, -Int32.not_le, nI_z, nI_ltI, nI_leI, nI_1, nI_clamp, q_vp, nI_pos', rget_k, rset_k, lget_k, hup_hup, F1, F2, g2, hup_at, hup_hup, dfl, nFl, A_ri, hro, c12, hup_nq n1, hup_nq n2, hup_nq n3, n3, l1, l2]
  obtain ⟨Y3, e3⟩ : ∃ H, H = hup (rowN Y2 (a + 6) 12) a (.inr (3, [.ref (a + 1), .ref (a + 2), .ref (a + 4), .ref (a + 6), .null, .null, .null, .null, .null, .int 0, .int 0, .int 0, .int 0, .int 0, .int 0, .int 0, .int 0, .int 0, .int 0])) := ⟨_, rfl⟩
  have g3 : Y3 a = some (.inr (3, [.ref (a + 1), .ref (a + 2), .ref (a + 4), .ref (a + 6), .null, .null, .null, .null, .null, .int 0, .int 0, .int 0, .int 0, .int 0, .int 0, .int 0, .int 0, .int 0, .int 0])) := by rw [e3, hup_at]
  change EX G _ _ _ _ (hup (rowN Y2 (a + 6) 12) a (.inr (3, [.ref (a + 1), .ref (a + 2), .ref (a + 4), .ref (a + 6), .null, .null, .null, .null, .null, .int 0, .int 0, .int 0, .int 0, .int 0, .int 0, .int 0, .int 0, .int 0, .int 0]))) (some (a + 8)) 7 1815 Q
  rw [← e3]
  clear n1 n2 n3 hro l1 l2
  have n1 : a ≠ a + 8 := by omega
  have n2 : a ≠ a + 8 + 1 := by omega
  have n3 : a + 8 ≠ a + 8 + 1 := by omega
  have l1 : (0 : Int32) < 12 := by decide
  have l2 : (12 : Int32) ≤ 600 := by decide
  have hro : roomOK m_House_init 60 8 1816 = true := by decide +kernel
  refine exB_ok (t := [(.aload_n 0, 1, 0, 0, 0, 0), (.new 15, 3, 7, 0, 0, 0), (.dup, 1, 0, 0, 0, 0), (.bipush 12, 2, 0, 0, 0, 0), (.invokespecial 17, 3, 60, 0, 1, 0), (.putfield 30, 3, 3, 4, 0, 0)]) (W43_ok G) (jj := fun q L st h o k n => EX G m_House_init q L st h o k n Q) (fun q L st h o k n hq => hq) (by decide +kernel) ?_
  simp [exB, hJ, exT, stp, lv_args, Value.category, lkL, stL1, stL2, insL, contX, q_ofNat, f4_3, nI_1, -Int32.not_lt, -Int32.not_le, -Int64.not_lt, -Int64.not_le, R_House_init, C_House_init, M_House_init, HH_House_init, KB_12, KB_24, KB_6, -Int32.reduceOfInt, -Int8.reduceOfInt, -Int16.reduceOfInt, -Int32.ofInt_neg, TY_3_0, TY_3_0n, TY_3_1, TY_3_1n, TY_3_2, TY_3_2n, TY_3_3, TY_3_3n, TY_3_4, TY_3_4n, TY_3_5, TY_3_5n, TY_3_6, TY_3_6n, TY_3_7, TY_3_7n, TY_3_8, TY_3_8n, O_House_init_House_clear, C_House_clear, M_House_clear, W43_House_clear, rx_House_clear, O_House_init_Row_init, C_Row_init, M_Row_init, W43_Row_init, rx_Row_init, F1, F2, g3, hup_at, hup_hup, dfl, nFl, A_ri, hro, c12, hup_nq n1, hup_nq n2, hup_nq n3, n3, l1, l2]
  try simp (disch := omega) [-Int64.not_lt, -Int64.not_le, -Int32.not_lt, -Int32.not_le, nI_z, nI_ltI, nI_leI, nI_1, nI_clamp, q_vp, nI_pos', rget_k, rset_k, lget_k, hup_hup, F1, F2, g3, hup_at, hup_hup, dfl, nFl, A_ri, hro, c12, hup_nq n1, hup_nq n2, hup_nq n3, n3, l1, l2]
  obtain ⟨Y4, e4⟩ : ∃ H, H = hup (rowN Y3 (a + 8) 12) a (.inr (3, [.ref (a + 1), .ref (a + 2), .ref (a + 4), .ref (a + 6), .ref (a + 8), .null, .null, .null, .null, .int 0, .int 0, .int 0, .int 0, .int 0, .int 0, .int 0, .int 0, .int 0, .int 0])) := ⟨_, rfl⟩
  have g4 : Y4 a = some (.inr (3, [.ref (a + 1), .ref (a + 2), .ref (a + 4), .ref (a + 6), .ref (a + 8), .null, .null, .null, .null, .int 0, .int 0, .int 0, .int 0, .int 0, .int 0, .int 0, .int 0, .int 0, .int 0])) := by rw [e4, hup_at]
  change EX G _ _ _ _ (hup (rowN Y3 (a + 8) 12) a (.inr (3, [.ref (a + 1), .ref (a + 2), .ref (a + 4), .ref (a + 6), .ref (a + 8), .null, .null, .null, .null, .int 0, .int 0, .int 0, .int 0, .int 0, .int 0, .int 0, .int 0, .int 0, .int 0]))) (some (a + 10)) 9 2416 Q
  rw [← e4]
  clear n1 n2 n3 hro l1 l2
  have n1 : a ≠ a + 10 := by omega
  have n2 : a ≠ a + 10 + 1 := by omega
  have n3 : a + 10 ≠ a + 10 + 1 := by omega
  have l1 : (0 : Int32) < 24 := by decide
  have l2 : (24 : Int32) ≤ 600 := by decide
  have hro : roomOK m_House_init 60 10 2417 = true := by decide +kernel
  refine exB_ok (t := [(.aload_n 0, 1, 0, 0, 0, 0), (.new 15, 3, 7, 0, 0, 0), (.dup, 1, 0, 0, 0, 0), (.bipush 24, 2, 0, 0, 0, 0), (.invokespecial 17, 3, 60, 0, 1, 0), (.putfield 33, 3, 3, 5, 0, 0)]) (W43_ok G) (jj := fun q L st h o k n => EX G m_House_init q L st h o k n Q) (fun q L st h o k n hq => hq) (by decide +kernel) ?_
  simp [exB, hJ, exT, stp, lv_args, Value.category, lkL, stL1, stL2, insL, contX, q_ofNat, f4_3, nI_1, -Int32.not_lt, -Int32.not_le, -Int64.not_lt, -Int64.not_le, R_House_init, C_House_init, M_House_init, HH_House_init, KB_12, KB_24, KB_6, -Int32.reduceOfInt, -Int8.reduceOfInt, -Int16.reduceOfInt, -Int32.ofInt_neg, TY_3_0, TY_3_0n, TY_3_1, TY_3_1n, TY_3_2, TY_3_2n, TY_3_3, TY_3_3n, TY_3_4, TY_3_4n, TY_3_5, TY_3_5n, TY_3_6, TY_3_6n, TY_3_7, TY_3_7n, TY_3_8, TY_3_8n, O_House_init_House_clear, C_House_clear, M_House_clear, W43_House_clear, rx_House_clear, O_House_init_Row_init, C_Row_init, M_Row_init, W43_Row_init, rx_Row_init, F1, F2, g4, hup_at, hup_hup, dfl, nFl, A_ri, hro, c24, hup_nq n1, hup_nq n2, hup_nq n3, n3, l1, l2]
  try simp (disch := omega) [-Int64.not_lt, -Int64.not_le, -Int32.not_lt, -Int32.not_le, nI_z, nI_ltI, nI_leI, nI_1, nI_clamp, q_vp, nI_pos', rget_k, rset_k, lget_k, hup_hup, F1, F2, g4, hup_at, hup_hup, dfl, nFl, A_ri, hro, c24, hup_nq n1, hup_nq n2, hup_nq n3, n3, l1, l2]
  obtain ⟨Y5, e5⟩ : ∃ H, H = hup (rowN Y4 (a + 10) 24) a (.inr (3, [.ref (a + 1), .ref (a + 2), .ref (a + 4), .ref (a + 6), .ref (a + 8), .ref (a + 10), .null, .null, .null, .int 0, .int 0, .int 0, .int 0, .int 0, .int 0, .int 0, .int 0, .int 0, .int 0])) := ⟨_, rfl⟩
  have g5 : Y5 a = some (.inr (3, [.ref (a + 1), .ref (a + 2), .ref (a + 4), .ref (a + 6), .ref (a + 8), .ref (a + 10), .null, .null, .null, .int 0, .int 0, .int 0, .int 0, .int 0, .int 0, .int 0, .int 0, .int 0, .int 0])) := by rw [e5, hup_at]
  change EX G _ _ _ _ (hup (rowN Y4 (a + 10) 24) a (.inr (3, [.ref (a + 1), .ref (a + 2), .ref (a + 4), .ref (a + 6), .ref (a + 8), .ref (a + 10), .null, .null, .null, .int 0, .int 0, .int 0, .int 0, .int 0, .int 0, .int 0, .int 0, .int 0, .int 0]))) (some (a + 12)) 11 3017 Q
  rw [← e5]
  clear n1 n2 n3 hro l1 l2
  have n1 : a ≠ a + 12 := by omega
  have n2 : a ≠ a + 12 + 1 := by omega
  have n3 : a + 12 ≠ a + 12 + 1 := by omega
  have l1 : (0 : Int32) < 24 := by decide
  have l2 : (24 : Int32) ≤ 600 := by decide
  have hro : roomOK m_House_init 60 12 3018 = true := by decide +kernel
  refine exB_ok (t := [(.aload_n 0, 1, 0, 0, 0, 0), (.new 15, 3, 7, 0, 0, 0), (.dup, 1, 0, 0, 0, 0), (.bipush 24, 2, 0, 0, 0, 0), (.invokespecial 17, 3, 60, 0, 1, 0), (.putfield 36, 3, 3, 6, 0, 0)]) (W43_ok G) (jj := fun q L st h o k n => EX G m_House_init q L st h o k n Q) (fun q L st h o k n hq => hq) (by decide +kernel) ?_
  simp [exB, hJ, exT, stp, lv_args, Value.category, lkL, stL1, stL2, insL, contX, q_ofNat, f4_3, nI_1, -Int32.not_lt, -Int32.not_le, -Int64.not_lt, -Int64.not_le, R_House_init, C_House_init, M_House_init, HH_House_init, KB_12, KB_24, KB_6, -Int32.reduceOfInt, -Int8.reduceOfInt, -Int16.reduceOfInt, -Int32.ofInt_neg, TY_3_0, TY_3_0n, TY_3_1, TY_3_1n, TY_3_2, TY_3_2n, TY_3_3, TY_3_3n, TY_3_4, TY_3_4n, TY_3_5, TY_3_5n, TY_3_6, TY_3_6n, TY_3_7, TY_3_7n, TY_3_8, TY_3_8n, O_House_init_House_clear, C_House_clear, M_House_clear, W43_House_clear, rx_House_clear, O_House_init_Row_init, C_Row_init, M_Row_init, W43_Row_init, rx_Row_init, F1, F2, g5, hup_at, hup_hup, dfl, nFl, A_ri, hro, c24, hup_nq n1, hup_nq n2, hup_nq n3, n3, l1, l2]
  try simp (disch := omega) [-Int64.not_lt, -Int64.not_le, -Int32.not_lt, -Int32.not_le, nI_z, nI_ltI, nI_leI, nI_1, nI_clamp, q_vp, nI_pos', rget_k, rset_k, lget_k, hup_hup, F1, F2, g5, hup_at, hup_hup, dfl, nFl, A_ri, hro, c24, hup_nq n1, hup_nq n2, hup_nq n3, n3, l1, l2]
  obtain ⟨Y6, e6⟩ : ∃ H, H = hup (rowN Y5 (a + 12) 24) a (.inr (3, [.ref (a + 1), .ref (a + 2), .ref (a + 4), .ref (a + 6), .ref (a + 8), .ref (a + 10), .ref (a + 12), .null, .null, .int 0, .int 0, .int 0, .int 0, .int 0, .int 0, .int 0, .int 0, .int 0, .int 0])) := ⟨_, rfl⟩
  have g6 : Y6 a = some (.inr (3, [.ref (a + 1), .ref (a + 2), .ref (a + 4), .ref (a + 6), .ref (a + 8), .ref (a + 10), .ref (a + 12), .null, .null, .int 0, .int 0, .int 0, .int 0, .int 0, .int 0, .int 0, .int 0, .int 0, .int 0])) := by rw [e6, hup_at]
  change EX G _ _ _ _ (hup (rowN Y5 (a + 12) 24) a (.inr (3, [.ref (a + 1), .ref (a + 2), .ref (a + 4), .ref (a + 6), .ref (a + 8), .ref (a + 10), .ref (a + 12), .null, .null, .int 0, .int 0, .int 0, .int 0, .int 0, .int 0, .int 0, .int 0, .int 0, .int 0]))) (some (a + 14)) 13 3618 Q
  rw [← e6]
  clear n1 n2 n3 hro l1 l2
  have n1 : a ≠ a + 14 := by omega
  have n2 : a ≠ a + 14 + 1 := by omega
  have n3 : a + 14 ≠ a + 14 + 1 := by omega
  have l1 : (0 : Int32) < 24 := by decide
  have l2 : (24 : Int32) ≤ 600 := by decide
  have hro : roomOK m_House_init 60 14 3619 = true := by decide +kernel
  refine exB_ok (t := [(.aload_n 0, 1, 0, 0, 0, 0), (.new 15, 3, 7, 0, 0, 0), (.dup, 1, 0, 0, 0, 0), (.bipush 24, 2, 0, 0, 0, 0), (.invokespecial 17, 3, 60, 0, 1, 0), (.putfield 39, 3, 3, 7, 0, 0)]) (W43_ok G) (jj := fun q L st h o k n => EX G m_House_init q L st h o k n Q) (fun q L st h o k n hq => hq) (by decide +kernel) ?_
  simp [exB, hJ, exT, stp, lv_args, Value.category, lkL, stL1, stL2, insL, contX, q_ofNat, f4_3, nI_1, -Int32.not_lt, -Int32.not_le, -Int64.not_lt, -Int64.not_le, R_House_init, C_House_init, M_House_init, HH_House_init, KB_12, KB_24, KB_6, -Int32.reduceOfInt, -Int8.reduceOfInt, -Int16.reduceOfInt, -Int32.ofInt_neg, TY_3_0, TY_3_0n, TY_3_1, TY_3_1n, TY_3_2, TY_3_2n, TY_3_3, TY_3_3n, TY_3_4, TY_3_4n, TY_3_5, TY_3_5n, TY_3_6, TY_3_6n, TY_3_7, TY_3_7n, TY_3_8, TY_3_8n, O_House_init_House_clear, C_House_clear, M_House_clear, W43_House_clear, rx_House_clear, O_House_init_Row_init, C_Row_init, M_Row_init, W43_Row_init, rx_Row_init, F1, F2, g6, hup_at, hup_hup, dfl, nFl, A_ri, hro, c24, hup_nq n1, hup_nq n2, hup_nq n3, n3, l1, l2]
  try simp (disch := omega) [-Int64.not_lt, -Int64.not_le, -Int32.not_lt, -Int32.not_le, nI_z, nI_ltI, nI_leI, nI_1, nI_clamp, q_vp, nI_pos', rget_k, rset_k, lget_k, hup_hup, F1, F2, g6, hup_at, hup_hup, dfl, nFl, A_ri, hro, c24, hup_nq n1, hup_nq n2, hup_nq n3, n3, l1, l2]
  obtain ⟨Y7, e7⟩ : ∃ H, H = hup (rowN Y6 (a + 14) 24) a (.inr (3, [.ref (a + 1), .ref (a + 2), .ref (a + 4), .ref (a + 6), .ref (a + 8), .ref (a + 10), .ref (a + 12), .ref (a + 14), .null, .int 0, .int 0, .int 0, .int 0, .int 0, .int 0, .int 0, .int 0, .int 0, .int 0])) := ⟨_, rfl⟩
  have g7 : Y7 a = some (.inr (3, [.ref (a + 1), .ref (a + 2), .ref (a + 4), .ref (a + 6), .ref (a + 8), .ref (a + 10), .ref (a + 12), .ref (a + 14), .null, .int 0, .int 0, .int 0, .int 0, .int 0, .int 0, .int 0, .int 0, .int 0, .int 0])) := by rw [e7, hup_at]
  change EX G _ _ _ _ (hup (rowN Y6 (a + 14) 24) a (.inr (3, [.ref (a + 1), .ref (a + 2), .ref (a + 4), .ref (a + 6), .ref (a + 8), .ref (a + 10), .ref (a + 12), .ref (a + 14), .null, .int 0, .int 0, .int 0, .int 0, .int 0, .int 0, .int 0, .int 0, .int 0, .int 0]))) (some (a + 16)) 15 4219 Q
  rw [← e7]
  clear n1 n2 n3 hro l1 l2
  have n1 : a ≠ a + 16 := by omega
  have n2 : a ≠ a + 16 + 1 := by omega
  have n3 : a + 16 ≠ a + 16 + 1 := by omega
  have l1 : (0 : Int32) < 6 := by decide
  have l2 : (6 : Int32) ≤ 600 := by decide
  have hro : roomOK m_House_init 60 16 4220 = true := by decide +kernel
  refine exB_ok (t := [(.aload_n 0, 1, 0, 0, 0, 0), (.new 15, 3, 7, 0, 0, 0), (.dup, 1, 0, 0, 0, 0), (.bipush 6, 2, 0, 0, 0, 0), (.invokespecial 17, 3, 60, 0, 1, 0), (.putfield 44, 3, 3, 8, 0, 0)]) (W43_ok G) (jj := fun q L st h o k n => EX G m_House_init q L st h o k n Q) (fun q L st h o k n hq => hq) (by decide +kernel) ?_
  simp [exB, hJ, exT, stp, lv_args, Value.category, lkL, stL1, stL2, insL, contX, q_ofNat, f4_3, nI_1, -Int32.not_lt, -Int32.not_le, -Int64.not_lt, -Int64.not_le, R_House_init, C_House_init, M_House_init, HH_House_init, KB_12, KB_24, KB_6, -Int32.reduceOfInt, -Int8.reduceOfInt, -Int16.reduceOfInt, -Int32.ofInt_neg, TY_3_0, TY_3_0n, TY_3_1, TY_3_1n, TY_3_2, TY_3_2n, TY_3_3, TY_3_3n, TY_3_4, TY_3_4n, TY_3_5, TY_3_5n, TY_3_6, TY_3_6n, TY_3_7, TY_3_7n, TY_3_8, TY_3_8n, O_House_init_House_clear, C_House_clear, M_House_clear, W43_House_clear, rx_House_clear, O_House_init_Row_init, C_Row_init, M_Row_init, W43_Row_init, rx_Row_init, F1, F2, g7, hup_at, hup_hup, dfl, nFl, A_ri, hro, c6, hup_nq n1, hup_nq n2, hup_nq n3, n3, l1, l2]
  try simp (disch := omega) [-Int64.not_lt, -Int64.not_le, -Int32.not_lt, -Int32.not_le, nI_z, nI_ltI, nI_leI, nI_1, nI_clamp, q_vp, nI_pos', rget_k, rset_k, lget_k, hup_hup, F1, F2, g7, hup_at, hup_hup, dfl, nFl, A_ri, hro, c6, hup_nq n1, hup_nq n2, hup_nq n3, n3, l1, l2]
  obtain ⟨Y8, e8⟩ : ∃ H, H = hup (rowN Y7 (a + 16) 6) a (.inr (3, [.ref (a + 1), .ref (a + 2), .ref (a + 4), .ref (a + 6), .ref (a + 8), .ref (a + 10), .ref (a + 12), .ref (a + 14), .ref (a + 16), .int 0, .int 0, .int 0, .int 0, .int 0, .int 0, .int 0, .int 0, .int 0, .int 0])) := ⟨_, rfl⟩
  have g8 : Y8 a = some (.inr (3, [.ref (a + 1), .ref (a + 2), .ref (a + 4), .ref (a + 6), .ref (a + 8), .ref (a + 10), .ref (a + 12), .ref (a + 14), .ref (a + 16), .int 0, .int 0, .int 0, .int 0, .int 0, .int 0, .int 0, .int 0, .int 0, .int 0])) := by rw [e8, hup_at]
  change EX G _ _ _ _ (hup (rowN Y7 (a + 16) 6) a (.inr (3, [.ref (a + 1), .ref (a + 2), .ref (a + 4), .ref (a + 6), .ref (a + 8), .ref (a + 10), .ref (a + 12), .ref (a + 14), .ref (a + 16), .int 0, .int 0, .int 0, .int 0, .int 0, .int 0, .int 0, .int 0, .int 0, .int 0]))) (some (a + 18)) 17 4820 Q
  rw [← e8]
  clear n1 n2 n3 hro l1 l2
  have eH : Y8 = hH h a H0 := by
    rw [e8, e7, e6, e5, e4, e3, e2, e1, e0]
    exact hH_made h a
  rw [eH]
  have hro : roomOK m_House_init m_House_clear 17 4820 = true := by decide +kernel
  have hZ : HOK H0 := ⟨by decide, by decide⟩
  refine exB_ok (t := [(.aload_n 0, 1, 0, 0, 0, 0), (.invokevirtual 47, 3, 26, 0, 0, 3), (.return_, 1, 0, 0, 0, 0)]) (W43_ok G) (jj := fun q L st h o k n => EX G m_House_init q L st h o k n Q) (fun q L st h o k n hq => hq) (by decide +kernel) ?_
  simp [exB, hJ, exT, stp, lv_args, Value.category, lkL, stL1, stL2, insL, contX, q_ofNat, f4_3, nI_1, -Int32.not_lt, -Int32.not_le, -Int64.not_lt, -Int64.not_le, R_House_init, C_House_init, M_House_init, HH_House_init, KB_12, KB_24, KB_6, -Int32.reduceOfInt, -Int8.reduceOfInt, -Int16.reduceOfInt, -Int32.ofInt_neg, TY_3_0, TY_3_0n, TY_3_1, TY_3_1n, TY_3_2, TY_3_2n, TY_3_3, TY_3_3n, TY_3_4, TY_3_4n, TY_3_5, TY_3_5n, TY_3_6, TY_3_6n, TY_3_7, TY_3_7n, TY_3_8, TY_3_8n, O_House_init_House_clear, C_House_clear, M_House_clear, W43_House_clear, rx_House_clear, O_House_init_Row_init, C_Row_init, M_Row_init, W43_Row_init, rx_Row_init, A_r, hH_0, HX_eq hZ, hro]
  try simp (disch := omega) [-Int64.not_lt, -Int64.not_le, -Int32.not_lt, -Int32.not_le, nI_z, nI_ltI, nI_leI, nI_1, nI_clamp, q_vp, nI_pos', rget_k, rset_k, lget_k, hup_hup, A_r, hH_0, HX_eq hZ, hro]
  rw [hH_hH]
  exact hq
end CI
def W44 (G : GG) : WF := (wcons 25 rx_House_init (W43 G))
theorem W44_ok (G : GG) : WOK G (W44 G) := (wcons_ok (fun _ _ _ _ hx => r_House_init hx) (W43_ok G))
