/-! c3: the script is made -/
set_option maxRecDepth 8000
def blk (h : HM) (a n : Nat) (f : Nat → AE) : HM := fun x => if a ≤ x ∧ x < a + n then some (f (x - a)) else h x
def cS (a p q r k : Nat) : AE := match k with
  | 0 => .inr (8, [.ref p, .ref q, .ref r, .ref (a + 1), .ref (a + 3), .ref (a + 5), .ref (a + 7), .int 0, .int 0, .int 0, .int 0])
  | 1 => .inr (7, [.ref (a + 2)])
  | 2 => ints 60 fun _ => 0
  | 3 => .inr (7, [.ref (a + 4)])
  | 4 => ints 60 fun _ => 0
  | 5 => .inr (7, [.ref (a + 6)])
  | 6 => ints 60 fun _ => 0
  | 7 => .inr (7, [.ref (a + 8)])
  | _ => ints 60 fun _ => 0
theorem blk_S (h : HM) (a p q r : Nat) : hup (hup (rowN (hup (rowN (hup (rowN (hup (rowN (h) (a + 1) 60) a (.inr (8, [.null, .null, .null, .ref (a + 1), .null, .null, .null, .int 0, .int 0, .int 0, .int 0]))) (a + 3) 60) a (.inr (8, [.null, .null, .null, .ref (a + 1), .ref (a + 3), .null, .null, .int 0, .int 0, .int 0, .int 0]))) (a + 5) 60) a (.inr (8, [.null, .null, .null, .ref (a + 1), .ref (a + 3), .ref (a + 5), .null, .int 0, .int 0, .int 0, .int 0]))) (a + 7) 60) a (.inr (8, [.null, .null, .null, .ref (a + 1), .ref (a + 3), .ref (a + 5), .ref (a + 7), .int 0, .int 0, .int 0, .int 0]))) a (.inr (8, [.ref p, .ref q, .ref r, .ref (a + 1), .ref (a + 3), .ref (a + 5), .ref (a + 7), .int 0, .int 0, .int 0, .int 0])) = blk h a 9 (cS a p q r) := by
  funext x
  by_cases c : a ≤ x ∧ x < a + 9
  · obtain ⟨i, hi, rfl⟩ : ∃ i, i < 9 ∧ x = a + i := ⟨x - a, by omega, by omega⟩
    unfold blk
    rw [if_pos c, Nat.add_sub_cancel_left]
    have : i = 0 ∨ i = 1 ∨ i = 2 ∨ i = 3 ∨ i = 4 ∨ i = 5 ∨ i = 6 ∨ i = 7 ∨ i = 8 := by omega
    rcases this with rfl | rfl | rfl | rfl | rfl | rfl | rfl | rfl | rfl <;> simp [rowN, hup, cS]
  · unfold blk
    rw [if_neg c]
    simp only [rowN, hup]
    repeat rw [if_neg (by omega)]
def rx_Script_init (as : List Value) (h : HM) (o : Option Nat) (Q : XQ) : Prop := A_rrrr as fun a p q r => (o = some (a + 1) ∧ h a = some (.inr (8, [.null, .null, .null, .null, .null, .null, .null, .int 0, .int 0, .int 0, .int 0]))) ∧ Q (.inl none) (blk h a 9 (cS a p q r)) (some (a + 9))
section CI
variable {G : GG} {as : List Value} {h : HM} {o : Option Nat} {Q : XQ}
theorem HH_Script_init : mHH 65 = [] := rfl
theorem TY_8_3 {v : Nat} : okw (tyC 8 3) (.ref v) = True := rfl
theorem TY_8_3n : okw (tyC 8 3) (.null) = True := rfl
theorem TY_8_4 {v : Nat} : okw (tyC 8 4) (.ref v) = True := rfl
theorem TY_8_4n : okw (tyC 8 4) (.null) = True := rfl
theorem TY_8_5 {v : Nat} : okw (tyC 8 5) (.ref v) = True := rfl
theorem TY_8_5n : okw (tyC 8 5) (.null) = True := rfl
theorem TY_8_6 {v : Nat} : okw (tyC 8 6) (.ref v) = True := rfl
theorem TY_8_6n : okw (tyC 8 6) (.null) = True := rfl
theorem TY_8_0 {v : Nat} : okw (tyC 8 0) (.ref v) = True := rfl
theorem TY_8_0n : okw (tyC 8 0) (.null) = True := rfl
theorem TY_8_1 {v : Nat} : okw (tyC 8 1) (.ref v) = True := rfl
theorem TY_8_1n : okw (tyC 8 1) (.null) = True := rfl
theorem TY_8_2 {v : Nat} : okw (tyC 8 2) (.ref v) = True := rfl
theorem TY_8_2n : okw (tyC 8 2) (.null) = True := rfl
theorem W44_Row_init {G : GG} {as : List Value} {h : HM} {o : Option Nat} {Q : XQ} : RX G (W44 G) 60 as h o Q = rx_Row_init as h o Q := rfl
set_option maxRecDepth 2000 in
set_option maxHeartbeats 200000 in
theorem r_Script_init (hx : rx_Script_init as h o Q) : Runs G m_Script_init as h o Q := by
  obtain ⟨a, p, q, r, rfl, ⟨rfl, h1⟩, hq⟩ := E_rrrr hx
  change Nat at a p q r
  have hJ : True := trivial
  have F1 : 1 ≤ (mF m_Script_init).1 := by decide
  have F2 : 12 ≤ (mF m_Script_init).2 := by decide
  refine Runs.of (by decide +kernel) (Nat.le_of_ble_eq_true rfl) ?_
  have n1 : a ≠ a + 1 := by omega
  have n2 : a ≠ a + 1 + 1 := by omega
  have n3 : a + 1 ≠ a + 1 + 1 := by omega
  have l1 : (0 : Int32) < 60 := by decide
  have l2 : (60 : Int32) ≤ 600 := by decide
  have hro : roomOK m_Script_init 60 1 1 = true := by decide +kernel
  refine exB_ok (t := [(.aload_n 0, 1, 0, 0, 0, 0), (.invokespecial 3, 3, 100000, 0, 0, 0), (.aload_n 0, 1, 0, 0, 0, 0), (.new 9, 3, 7, 0, 0, 0), (.dup, 1, 0, 0, 0, 0), (.bipush 60, 2, 0, 0, 0, 0), (.invokespecial 13, 3, 60, 0, 1, 0), (.putfield 16, 3, 8, 3, 0, 0)]) (W44_ok G) (jj := fun q L st h o k n => EX G m_Script_init q L st h o k n Q) (fun q L st h o k n hq => hq) (by decide +kernel) ?_
  simp [exB, hJ, exT, stp, lv_args, Value.category, lkL, stL1, stL2, insL, contX, q_ofNat, f4_3, nI_1, -Int32.not_lt, -Int32.not_le, -Int64.not_lt, -Int64.not_le, R_Script_init, C_Script_init, M_Script_init, HH_Script_init, KB_60, -Int32.reduceOfInt, -Int8.reduceOfInt, -Int16.reduceOfInt, -Int32.ofInt_neg, TY_8_3, TY_8_3n, TY_8_4, TY_8_4n, TY_8_5, TY_8_5n, TY_8_6, TY_8_6n, TY_8_0, TY_8_0n, TY_8_1, TY_8_1n, TY_8_2, TY_8_2n, O_Script_init_Row_init, C_Row_init, M_Row_init, W44_Row_init, rx_Row_init, F1, F2, h1, hup_at, hup_hup, dfl, nFl, A_ri, hro, c60, hup_nq n1, hup_nq n2, hup_nq n3, n3, l1, l2]
  try simp (disch := omega) [-Int64.not_lt, -Int64.not_le, -Int32.not_lt, -Int32.not_le, nI_z, nI_ltI, nI_leI, nI_1, nI_clamp, q_vp, nI_pos', rget_k, rset_k, lget_k, hup_hup, F1, F2, h1, hup_at, hup_hup, dfl, nFl, A_ri, hro, c60, hup_nq n1, hup_nq n2, hup_nq n3, n3, l1, l2]
  obtain ⟨Y1, e1⟩ : ∃ H, H = hup (rowN h (a + 1) 60) a (.inr (8, [.null, .null, .null, .ref (a + 1), .null, .null, .null, .int 0, .int 0, .int 0, .int 0])) := ⟨_, rfl⟩
  have g1 : Y1 a = some (.inr (8, [.null, .null, .null, .ref (a + 1), .null, .null, .null, .int 0, .int 0, .int 0, .int 0])) := by rw [e1, hup_at]
  change EX G _ _ _ _ (hup (rowN h (a + 1) 60) a (.inr (8, [.null, .null, .null, .ref (a + 1), .null, .null, .null, .int 0, .int 0, .int 0, .int 0]))) (some (a + 3)) 2 601 Q
  rw [← e1]
  clear n1 n2 n3 hro l1 l2
  have n1 : a ≠ a + 3 := by omega
  have n2 : a ≠ a + 3 + 1 := by omega
  have n3 : a + 3 ≠ a + 3 + 1 := by omega
  have l1 : (0 : Int32) < 60 := by decide
  have l2 : (60 : Int32) ≤ 600 := by decide
  have hro : roomOK m_Script_init 60 3 602 = true := by decide +kernel
  refine exB_ok (t := [(.aload_n 0, 1, 0, 0, 0, 0), (.new 9, 3, 7, 0, 0, 0), (.dup, 1, 0, 0, 0, 0), (.bipush 60, 2, 0, 0, 0, 0), (.invokespecial 13, 3, 60, 0, 1, 0), (.putfield 20, 3, 8, 4, 0, 0)]) (W44_ok G) (jj := fun q L st h o k n => EX G m_Script_init q L st h o k n Q) (fun q L st h o k n hq => hq) (by decide +kernel) ?_
  simp [exB, hJ, exT, stp, lv_args, Value.category, lkL, stL1, stL2, insL, contX, q_ofNat, f4_3, nI_1, -Int32.not_lt, -Int32.not_le, -Int64.not_lt, -Int64.not_le, R_Script_init, C_Script_init, M_Script_init, HH_Script_init, KB_60, -Int32.reduceOfInt, -Int8.reduceOfInt, -Int16.reduceOfInt, -Int32.ofInt_neg, TY_8_3, TY_8_3n, TY_8_4, TY_8_4n, TY_8_5, TY_8_5n, TY_8_6, TY_8_6n, TY_8_0, TY_8_0n, TY_8_1, TY_8_1n, TY_8_2, TY_8_2n, O_Script_init_Row_init, C_Row_init, M_Row_init, W44_Row_init, rx_Row_init, F1, F2, g1, hup_at, hup_hup, dfl, nFl, A_ri, hro, c60, hup_nq n1, hup_nq n2, hup_nq n3, n3, l1, l2]
  try simp (disch := omega) [-Int64.not_lt, -Int64.not_le, -Int32.not_lt, -Int32.not_le, nI_z, nI_ltI, nI_leI, nI_1, nI_clamp, q_vp, nI_pos', rget_k, rset_k, lget_k, hup_hup, F1, F2, g1, hup_at, hup_hup, dfl, nFl, A_ri, hro, c60, hup_nq n1, hup_nq n2, hup_nq n3, n3, l1, l2]
  obtain ⟨Y2, e2⟩ : ∃ H, H = hup (rowN Y1 (a + 3) 60) a (.inr (8, [.null, .null, .null, .ref (a + 1), .ref (a + 3), .null, .null, .int 0, .int 0, .int 0, .int 0])) := ⟨_, rfl⟩
  have g2 : Y2 a = some (.inr (8, [.null, .null, .null, .ref (a + 1), .ref (a + 3), .null, .null, .int 0, .int 0, .int 0, .int 0])) := by rw [e2, hup_at]
  change EX G _ _ _ _ (hup (rowN Y1 (a + 3) 60) a (.inr (8, [.null, .null, .null, .ref (a + 1), .ref (a + 3), .null, .null, .int 0, .int 0, .int 0, .int 0]))) (some (a + 5)) 4 1202 Q
  rw [← e2]
  clear n1 n2 n3 hro l1 l2
  have n1 : a ≠ a + 5 := by omega
  have n2 : a ≠ a + 5 + 1 := by omega
  have n3 : a + 5 ≠ a + 5 + 1 := by omega
  have l1 : (0 : Int32) < 60 := by decide
  have l2 : (60 : Int32) ≤ 600 := by decide
  have hro : roomOK m_Script_init 60 5 1203 = true := by decide +kernel
  refine exB_ok (t := [(.aload_n 0, 1, 0, 0, 0, 0), (.new 9, 3, 7, 0, 0, 0), (.dup, 1, 0, 0, 0, 0), (.bipush 60, 2, 0, 0, 0, 0), (.invokespecial 13, 3, 60, 0, 1, 0), (.putfield 23, 3, 8, 5, 0, 0)]) (W44_ok G) (jj := fun q L st h o k n => EX G m_Script_init q L st h o k n Q) (fun q L st h o k n hq => hq) (by decide +kernel) ?_
  simp [exB, hJ, exT, stp, lv_args, Value.category, lkL, stL1, stL2, insL, contX, q_ofNat, f4_3, nI_1, -Int32.not_lt, -Int32.not_le, -Int64.not_lt, -Int64.not_le, R_Script_init, C_Script_init, M_Script_init, HH_Script_init, KB_60, -Int32.reduceOfInt, -Int8.reduceOfInt, -Int16.reduceOfInt, -Int32.ofInt_neg, TY_8_3, TY_8_3n, TY_8_4, TY_8_4n, TY_8_5, TY_8_5n, TY_8_6, TY_8_6n, TY_8_0, TY_8_0n, TY_8_1, TY_8_1n, TY_8_2, TY_8_2n, O_Script_init_Row_init, C_Row_init, M_Row_init, W44_Row_init, rx_Row_init, F1, F2, g2, hup_at, hup_hup, dfl, nFl, A_ri, hro, c60, hup_nq n1, hup_nq n2, hup_nq n3, n3, l1, l2]
  try simp (disch := omega) [-Int64.not_lt, -Int64.not_le, -Int32.not_lt, -Int32.not_le, nI_z, nI_ltI, nI_leI, nI_1, nI_clamp, q_vp, nI_pos', rget_k, rset_k, lget_k, hup_hup, F1, F2, g2, hup_at, hup_hup, dfl, nFl, A_ri, hro, c60, hup_nq n1, hup_nq n2, hup_nq n3, n3, l1, l2]
  obtain ⟨Y3, e3⟩ : ∃ H, H = hup (rowN Y2 (a + 5) 60) a (.inr (8, [.null, .null, .null, .ref (a + 1), .ref (a + 3), .ref (a + 5), .null, .int 0, .int 0, .int 0, .int 0])) := ⟨_, rfl⟩
  have g3 : Y3 a = some (.inr (8, [.null, .null, .null, .ref (a + 1), .ref (a + 3), .ref (a + 5), .null, .int 0, .int 0, .int 0, .int 0])) := by rw [e3, hup_at]
  change EX G _ _ _ _ (hup (rowN Y2 (a + 5) 60) a (.inr (8, [.null, .null, .null, .ref (a + 1), .ref (a + 3), .ref (a + 5), .null, .int 0, .int 0, .int 0, .int 0]))) (some (a + 7)) 6 1803 Q
  rw [← e3]
  clear n1 n2 n3 hro l1 l2
  have n1 : a ≠ a + 7 := by omega
  have n2 : a ≠ a + 7 + 1 := by omega
  have n3 : a + 7 ≠ a + 7 + 1 := by omega
  have l1 : (0 : Int32) < 60 := by decide
  have l2 : (60 : Int32) ≤ 600 := by decide
  have hro : roomOK m_Script_init 60 7 1804 = true := by decide +kernel
  refine exB_ok (t := [(.aload_n 0, 1, 0, 0, 0, 0), (.new 9, 3, 7, 0, 0, 0), (.dup, 1, 0, 0, 0, 0), (.bipush 60, 2, 0, 0, 0, 0), (.invokespecial 13, 3, 60, 0, 1, 0), (.putfield 26, 3, 8, 6, 0, 0)]) (W44_ok G) (jj := fun q L st h o k n => EX G m_Script_init q L st h o k n Q) (fun q L st h o k n hq => hq) (by decide +kernel) ?_
  simp [exB, hJ, exT, stp, lv_args, Value.category, lkL, stL1, stL2, insL, contX, q_ofNat, f4_3, nI_1, -Int32.not_lt, -Int32.not_le, -Int64.not_lt, -Int64.not_le, R_Script_init, C_Script_init, M_Script_init, HH_Script_init, KB_60, -Int32.reduceOfInt, -Int8.reduceOfInt, -Int16.reduceOfInt, -Int32.ofInt_neg, TY_8_3, TY_8_3n, TY_8_4, TY_8_4n, TY_8_5, TY_8_5n, TY_8_6, TY_8_6n, TY_8_0, TY_8_0n, TY_8_1, TY_8_1n, TY_8_2, TY_8_2n, O_Script_init_Row_init, C_Row_init, M_Row_init, W44_Row_init, rx_Row_init, F1, F2, g3, hup_at, hup_hup, dfl, nFl, A_ri, hro, c60, hup_nq n1, hup_nq n2, hup_nq n3, n3, l1, l2]
  try simp (disch := omega) [-Int64.not_lt, -Int64.not_le, -Int32.not_lt, -Int32.not_le, nI_z, nI_ltI, nI_leI, nI_1, nI_clamp, q_vp, nI_pos', rget_k, rset_k, lget_k, hup_hup, F1, F2, g3, hup_at, hup_hup, dfl, nFl, A_ri, hro, c60, hup_nq n1, hup_nq n2, hup_nq n3, n3, l1, l2]
  obtain ⟨Y4, e4⟩ : ∃ H, H = hup (rowN Y3 (a + 7) 60) a (.inr (8, [.null, .null, .null, .ref (a + 1), .ref (a + 3), .ref (a + 5), .ref (a + 7), .int 0, .int 0, .int 0, .int 0])) := ⟨_, rfl⟩
  have g4 : Y4 a = some (.inr (8, [.null, .null, .null, .ref (a + 1), .ref (a + 3), .ref (a + 5), .ref (a + 7), .int 0, .int 0, .int 0, .int 0])) := by rw [e4, hup_at]
  change EX G _ _ _ _ (hup (rowN Y3 (a + 7) 60) a (.inr (8, [.null, .null, .null, .ref (a + 1), .ref (a + 3), .ref (a + 5), .ref (a + 7), .int 0, .int 0, .int 0, .int 0]))) (some (a + 9)) 8 2404 Q
  rw [← e4]
  clear n1 n2 n3 hro l1 l2
  refine exB_ok (t := [(.aload_n 0, 1, 0, 0, 0, 0), (.aload_n 1, 1, 0, 0, 0, 0), (.putfield 29, 3, 8, 0, 0, 0), (.aload_n 0, 1, 0, 0, 0, 0), (.aload_n 2, 1, 0, 0, 0, 0), (.putfield 33, 3, 8, 1, 0, 0), (.aload_n 0, 1, 0, 0, 0, 0), (.aload_n 3, 1, 0, 0, 0, 0), (.putfield 37, 3, 8, 2, 0, 0), (.return_, 1, 0, 0, 0, 0)]) (W44_ok G) (jj := fun q L st h o k n => EX G m_Script_init q L st h o k n Q) (fun q L st h o k n hq => hq) (by decide +kernel) ?_
  simp [exB, hJ, exT, stp, lv_args, Value.category, lkL, stL1, stL2, insL, contX, q_ofNat, f4_3, nI_1, -Int32.not_lt, -Int32.not_le, -Int64.not_lt, -Int64.not_le, R_Script_init, C_Script_init, M_Script_init, HH_Script_init, KB_60, -Int32.reduceOfInt, -Int8.reduceOfInt, -Int16.reduceOfInt, -Int32.ofInt_neg, TY_8_3, TY_8_3n, TY_8_4, TY_8_4n, TY_8_5, TY_8_5n, TY_8_6, TY_8_6n, TY_8_0, TY_8_0n, TY_8_1, TY_8_1n, TY_8_2, TY_8_2n, O_Script_init_Row_init, C_Row_init, M_Row_init, W44_Row_init, rx_Row_init, g4, hup_at, hup_hup]
  try simp (disch := omega) [-Int64.not_lt, -Int64.not_le, -Int32.not_lt, -Int32.not_le, nI_z, nI_ltI, nI_leI, nI_1, nI_clamp, q_vp, nI_pos', rget_k, rset_k, lget_k, hup_hup, g4, hup_at, hup_hup]
  have eH : hup Y4 a (.inr (8, [.ref p, .ref q, .ref r, .ref (a + 1), .ref (a + 3), .ref (a + 5), .ref (a + 7), .int 0, .int 0, .int 0, .int 0])) = blk h a 9 (cS a p q r) := by
    rw [e4, e3, e2, e1]
    exact blk_S h a p q r
  rw [eH]
  exact hq
end CI
def W45 (G : GG) : WF := (wcons 65 rx_Script_init (W44 G))
theorem W45_ok (G : GG) : WOK G (W45 G) := (wcons_ok (fun _ _ _ _ hx => r_Script_init hx) (W44_ok G))
