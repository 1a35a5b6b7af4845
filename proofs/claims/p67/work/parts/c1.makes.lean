/-! c1: objects are made -/
set_option maxRecDepth 8000
/-- a row of n zeros at w -/
def rowN (h : HM) (w n : Nat) : HM := hup (hup (hup h w (.inr (7, [.null]))) (w + 1) (ints n fun _ => 0)) w (.inr (7, [.ref (w + 1)]))
theorem c12 : (12 : Int32).toNatClampNeg = 12 := by decide
theorem c24 : (24 : Int32).toNatClampNeg = 24 := by decide
theorem c6 : (6 : Int32).toNatClampNeg = 6 := by decide
theorem c60 : (60 : Int32).toNatClampNeg = 60 := by decide
theorem c144 : (144 : Int32).toNatClampNeg = 144 := by decide
theorem c192 : (192 : Int32).toNatClampNeg = 192 := by decide
theorem c600 : (600 : Int32).toNatClampNeg = 600 := by decide
def rx_Night_init (as : List Value) (h : HM) (o : Option Nat) (Q : XQ) : Prop := A_r as fun a => Q (.inl none) h o
def rx_Actions_init (as : List Value) (h : HM) (o : Option Nat) (Q : XQ) : Prop := A_rrr as fun a p q => h a = some (.inr (0, [.null, .null])) ∧ Q (.inl none) (hup h a (.inr (0, [.ref p, .ref q]))) o
def rx_Description_init (as : List Value) (h : HM) (o : Option Nat) (Q : XQ) : Prop := A_rrrr as fun a p q r => h a = some (.inr (1, [.null, .null, .null])) ∧ Q (.inl none) (hup h a (.inr (1, [.ref p, .ref q, .ref r]))) o
def rx_Tokens_init (as : List Value) (h : HM) (o : Option Nat) (Q : XQ) : Prop := A_rr as fun a p => h a = some (.inr (9, [.null, .int 0, .int 0, .int 0, .int 0, .long 0, .int 0, .int 0, .int 0])) ∧ Q (.inl none) (hup h a (.inr (9, [.ref p, .int 0, .int 0, .int 0, .int 0, .long 0, .int 0, .int 0, .int (-1)]))) o
def rx_Input_init (as : List Value) (h : HM) (o : Option Nat) (Q : XQ) : Prop := A_r as fun a => ∃ w, (o = some w ∧ a < w ∧ h a = some (.inr (4, [.null, .int 0]))) ∧ Q (.inl none) (hup (rowN h w 600) a (.inr (4, [.ref w, .int 0]))) (some (w + 2))
def rx_Paths_init (as : List Value) (h : HM) (o : Option Nat) (Q : XQ) : Prop := A_r as fun a => ∃ w, (o = some w ∧ a < w ∧ h a = some (.inr (6, [.null]))) ∧ Q (.inl none) (hup (rowN h w 144) a (.inr (6, [.ref w]))) (some (w + 2))
section CI
variable {G : GG} {as : List Value} {h : HM} {o : Option Nat} {Q : XQ}
theorem F_Night_init : ∃ x, mF m_Night_init = x ∧ 1 ≤ x.1 ∧ 12 ≤ x.2 := ⟨_, rfl, by decide, by decide⟩
theorem F_Actions_init : ∃ x, mF m_Actions_init = x ∧ 1 ≤ x.1 ∧ 12 ≤ x.2 := ⟨_, rfl, by decide, by decide⟩
theorem F_Description_init : ∃ x, mF m_Description_init = x ∧ 1 ≤ x.1 ∧ 12 ≤ x.2 := ⟨_, rfl, by decide, by decide⟩
theorem F_Tokens_init : ∃ x, mF m_Tokens_init = x ∧ 1 ≤ x.1 ∧ 12 ≤ x.2 := ⟨_, rfl, by decide, by decide⟩
theorem F_Input_init : ∃ x, mF m_Input_init = x ∧ 1 ≤ x.1 ∧ 12 ≤ x.2 := ⟨_, rfl, by decide, by decide⟩
theorem F_Paths_init : ∃ x, mF m_Paths_init = x ∧ 1 ≤ x.1 ∧ 12 ≤ x.2 := ⟨_, rfl, by decide, by decide⟩
theorem HH_Night_init : mHH 44 = [] := rfl
set_option maxRecDepth 2000 in
set_option maxHeartbeats 200000 in
theorem r_Night_init (hx : rx_Night_init as h o Q) : Runs G m_Night_init as h o Q := by
  obtain ⟨a, rfl, hq⟩ := E_r hx
  have hJ : True := trivial
  have F1 : 1 ≤ (mF m_Night_init).1 := by decide
  have F2 : 12 ≤ (mF m_Night_init).2 := by decide
  refine Runs.of (by decide +kernel) (Nat.le_of_ble_eq_true rfl) ?_
  refine exB_ok (t := [(.aload_n 0, 1, 0, 0, 0, 0), (.invokespecial 3, 3, 100000, 0, 0, 0), (.return_, 1, 0, 0, 0, 0)]) (W42_ok G) (jj := fun q L st h o k n => EX G m_Night_init q L st h o k n Q) (fun q L st h o k n hq => hq) (by decide +kernel) ?_
  simp [exB, hJ, exT, stp, lv_args, Value.category, lkL, stL1, stL2, insL, contX, q_ofNat, f4_3, nI_1, -Int32.not_lt, -Int32.not_le, -Int64.not_lt, -Int64.not_le, R_Night_init, C_Night_init, M_Night_init, HH_Night_init, -Int32.reduceOfInt, -Int8.reduceOfInt, -Int16.reduceOfInt, -Int32.ofInt_neg, F1, F2]
  try simp (disch := omega) [-Int64.not_lt, -Int64.not_le, -Int32.not_lt, -Int32.not_le, nI_z, nI_ltI, nI_leI, nI_1, nI_clamp, q_vp, nI_pos', rget_k, rset_k, lget_k, hup_hup, F1, F2]
  exact hq
theorem HH_Actions_init : mHH 0 = [] := rfl
theorem TY_0_0 {v : Nat} : okw (tyC 0 0) (.ref v) = True := rfl
theorem TY_0_0n : okw (tyC 0 0) (.null) = True := rfl
theorem TY_0_1 {v : Nat} : okw (tyC 0 1) (.ref v) = True := rfl
theorem TY_0_1n : okw (tyC 0 1) (.null) = True := rfl
set_option maxRecDepth 2000 in
set_option maxHeartbeats 200000 in
theorem r_Actions_init (hx : rx_Actions_init as h o Q) : Runs G m_Actions_init as h o Q := by
  obtain ⟨a, p, q, rfl, h1, hq⟩ := E_rrr hx
  have hJ : True := trivial
  have F1 : 1 ≤ (mF m_Actions_init).1 := by decide
  have F2 : 12 ≤ (mF m_Actions_init).2 := by decide
  refine Runs.of (by decide +kernel) (Nat.le_of_ble_eq_true rfl) ?_
  refine exB_ok (t := [(.aload_n 0, 1, 0, 0, 0, 0), (.invokespecial 3, 3, 100000, 0, 0, 0), (.aload_n 0, 1, 0, 0, 0, 0), (.aload_n 1, 1, 0, 0, 0, 0), (.putfield 9, 3, 0, 0, 0, 0), (.aload_n 0, 1, 0, 0, 0, 0), (.aload_n 2, 1, 0, 0, 0, 0), (.putfield 15, 3, 0, 1, 0, 0), (.return_, 1, 0, 0, 0, 0)]) (W42_ok G) (jj := fun q L st h o k n => EX G m_Actions_init q L st h o k n Q) (fun q L st h o k n hq => hq) (by decide +kernel) ?_
  simp [exB, hJ, exT, stp, lv_args, Value.category, lkL, stL1, stL2, insL, contX, q_ofNat, f4_3, nI_1, -Int32.not_lt, -Int32.not_le, -Int64.not_lt, -Int64.not_le, R_Actions_init, C_Actions_init, M_Actions_init, HH_Actions_init, -Int32.reduceOfInt, -Int8.reduceOfInt, -Int16.reduceOfInt, -Int32.ofInt_neg, TY_0_0, TY_0_0n, TY_0_1, TY_0_1n, F1, F2, h1, hup_at, hup_hup]
  try simp (disch := omega) [-Int64.not_lt, -Int64.not_le, -Int32.not_lt, -Int32.not_le, nI_z, nI_ltI, nI_leI, nI_1, nI_clamp, q_vp, nI_pos', rget_k, rset_k, lget_k, hup_hup, F1, F2, h1, hup_at, hup_hup]
  exact hq
theorem HH_Description_init : mHH 12 = [] := rfl
theorem TY_1_0 {v : Nat} : okw (tyC 1 0) (.ref v) = True := rfl
theorem TY_1_0n : okw (tyC 1 0) (.null) = True := rfl
theorem TY_1_1 {v : Nat} : okw (tyC 1 1) (.ref v) = True := rfl
theorem TY_1_1n : okw (tyC 1 1) (.null) = True := rfl
theorem TY_1_2 {v : Nat} : okw (tyC 1 2) (.ref v) = True := rfl
theorem TY_1_2n : okw (tyC 1 2) (.null) = True := rfl
set_option maxRecDepth 2000 in
set_option maxHeartbeats 200000 in
theorem r_Description_init (hx : rx_Description_init as h o Q) : Runs G m_Description_init as h o Q := by
  obtain ⟨a, p, q, r, rfl, h1, hq⟩ := E_rrrr hx
  have hJ : True := trivial
  have F1 : 1 ≤ (mF m_Description_init).1 := by decide
  have F2 : 12 ≤ (mF m_Description_init).2 := by decide
  refine Runs.of (by decide +kernel) (Nat.le_of_ble_eq_true rfl) ?_
  refine exB_ok (t := [(.aload_n 0, 1, 0, 0, 0, 0), (.invokespecial 3, 3, 100000, 0, 0, 0), (.aload_n 0, 1, 0, 0, 0, 0), (.aload_n 1, 1, 0, 0, 0, 0), (.putfield 9, 3, 1, 0, 0, 0), (.aload_n 0, 1, 0, 0, 0, 0), (.aload_n 2, 1, 0, 0, 0, 0), (.putfield 15, 3, 1, 1, 0, 0), (.aload_n 0, 1, 0, 0, 0, 0), (.aload_n 3, 1, 0, 0, 0, 0), (.putfield 19, 3, 1, 2, 0, 0), (.return_, 1, 0, 0, 0, 0)]) (W42_ok G) (jj := fun q L st h o k n => EX G m_Description_init q L st h o k n Q) (fun q L st h o k n hq => hq) (by decide +kernel) ?_
  simp [exB, hJ, exT, stp, lv_args, Value.category, lkL, stL1, stL2, insL, contX, q_ofNat, f4_3, nI_1, -Int32.not_lt, -Int32.not_le, -Int64.not_lt, -Int64.not_le, R_Description_init, C_Description_init, M_Description_init, HH_Description_init, -Int32.reduceOfInt, -Int8.reduceOfInt, -Int16.reduceOfInt, -Int32.ofInt_neg, TY_1_0, TY_1_0n, TY_1_1, TY_1_1n, TY_1_2, TY_1_2n, F1, F2, h1, hup_at, hup_hup]
  try simp (disch := omega) [-Int64.not_lt, -Int64.not_le, -Int32.not_lt, -Int32.not_le, nI_z, nI_ltI, nI_leI, nI_1, nI_clamp, q_vp, nI_pos', rget_k, rset_k, lget_k, hup_hup, F1, F2, h1, hup_at, hup_hup]
  exact hq
theorem HH_Tokens_init : mHH 70 = [] := rfl
theorem TY_9_0 {v : Nat} : okw (tyC 9 0) (.ref v) = True := rfl
theorem TY_9_0n : okw (tyC 9 0) (.null) = True := rfl
set_option maxRecDepth 2000 in
set_option maxHeartbeats 200000 in
theorem r_Tokens_init (hx : rx_Tokens_init as h o Q) : Runs G m_Tokens_init as h o Q := by
  obtain ⟨a, p, rfl, h1, hq⟩ := E_rr hx
  have hJ : True := trivial
  have F1 : 1 ≤ (mF m_Tokens_init).1 := by decide
  have F2 : 12 ≤ (mF m_Tokens_init).2 := by decide
  refine Runs.of (by decide +kernel) (Nat.le_of_ble_eq_true rfl) ?_
  refine exB_ok (t := [(.aload_n 0, 1, 0, 0, 0, 0), (.invokespecial 3, 3, 100000, 0, 0, 0), (.aload_n 0, 1, 0, 0, 0, 0), (.iconst (-1), 1, 0, 0, 0, 0), (.putfield 9, 3, 9, 8, 0, 0), (.aload_n 0, 1, 0, 0, 0, 0), (.aload_n 1, 1, 0, 0, 0, 0), (.putfield 15, 3, 9, 0, 0, 0), (.return_, 1, 0, 0, 0, 0)]) (W42_ok G) (jj := fun q L st h o k n => EX G m_Tokens_init q L st h o k n Q) (fun q L st h o k n hq => hq) (by decide +kernel) ?_
  simp [exB, hJ, exT, stp, lv_args, Value.category, lkL, stL1, stL2, insL, contX, q_ofNat, f4_3, nI_1, -Int32.not_lt, -Int32.not_le, -Int64.not_lt, -Int64.not_le, R_Tokens_init, C_Tokens_init, M_Tokens_init, HH_Tokens_init, KI_m1, -Int32.reduceOfInt, -Int8.reduceOfInt, -Int16.reduceOfInt, -Int32.ofInt_neg, TY_9_8, TY_9_0, TY_9_0n, F1, F2, h1, hup_at, hup_hup]
  try simp (disch := omega) [-Int64.not_lt, -Int64.not_le, -Int32.not_lt, -Int32.not_le, nI_z, nI_ltI, nI_leI, nI_1, nI_clamp, q_vp, nI_pos', rget_k, rset_k, lget_k, hup_hup, F1, F2, h1, hup_at, hup_hup]
  exact hq
theorem HH_Input_init : mHH 41 = [] := rfl
theorem TY_4_0 {v : Nat} : okw (tyC 4 0) (.ref v) = True := rfl
theorem TY_4_0n : okw (tyC 4 0) (.null) = True := rfl
theorem W42_Row_init {G : GG} {as : List Value} {h : HM} {o : Option Nat} {Q : XQ} : RX G (W42 G) 60 as h o Q = rx_Row_init as h o Q := rfl
set_option maxRecDepth 2000 in
set_option maxHeartbeats 200000 in
theorem r_Input_init (hx : rx_Input_init as h o Q) : Runs G m_Input_init as h o Q := by
  obtain ⟨a, rfl, w, ⟨rfl, hw, h1⟩, hq⟩ := E_r hx
  have hJ : True := trivial
  have F1 : 1 ≤ (mF m_Input_init).1 := by decide
  have F2 : 12 ≤ (mF m_Input_init).2 := by decide
  have n1 : a ≠ w := Nat.ne_of_lt hw
  have n2 : a ≠ w + 1 := Nat.ne_of_lt (Nat.lt_succ_of_lt hw)
  have hro : roomOK m_Input_init 60 1 1 = true := by decide +kernel
  have n3 : w ≠ w + 1 := by omega
  have l1 : (0 : Int32) < 600 := by decide
  have l2 : (600 : Int32) ≤ 600 := by decide
  unfold rowN at hq
  refine Runs.of (by decide +kernel) (Nat.le_of_ble_eq_true rfl) ?_
  refine exB_ok (t := [(.aload_n 0, 1, 0, 0, 0, 0), (.invokespecial 3, 3, 100000, 0, 0, 0), (.aload_n 0, 1, 0, 0, 0, 0), (.new 9, 3, 7, 0, 0, 0), (.dup, 1, 0, 0, 0, 0), (.sipush 600, 3, 0, 0, 0, 0), (.invokespecial 11, 3, 60, 0, 1, 0), (.putfield 14, 3, 4, 0, 0, 0), (.return_, 1, 0, 0, 0, 0)]) (W42_ok G) (jj := fun q L st h o k n => EX G m_Input_init q L st h o k n Q) (fun q L st h o k n hq => hq) (by decide +kernel) ?_
  simp [exB, hJ, exT, stp, lv_args, Value.category, lkL, stL1, stL2, insL, contX, q_ofNat, f4_3, nI_1, -Int32.not_lt, -Int32.not_le, -Int64.not_lt, -Int64.not_le, R_Input_init, C_Input_init, M_Input_init, HH_Input_init, KS_600, -Int32.reduceOfInt, -Int8.reduceOfInt, -Int16.reduceOfInt, -Int32.ofInt_neg, TY_4_0, TY_4_0n, O_Input_init_Row_init, C_Row_init, M_Row_init, W42_Row_init, rx_Row_init, F1, F2, h1, hup_at, hup_hup, dfl, nFl, A_ri, hro, c600, hup_nq n1, hup_nq n2, hup_nq n3, n3, l1, l2]
  try simp (disch := omega) [-Int64.not_lt, -Int64.not_le, -Int32.not_lt, -Int32.not_le, nI_z, nI_ltI, nI_leI, nI_1, nI_clamp, q_vp, nI_pos', rget_k, rset_k, lget_k, hup_hup, F1, F2, h1, hup_at, hup_hup, dfl, nFl, A_ri, hro, c600, hup_nq n1, hup_nq n2, hup_nq n3, n3, l1, l2]
  exact hq
theorem HH_Paths_init : mHH 55 = [] := rfl
theorem TY_6_0 {v : Nat} : okw (tyC 6 0) (.ref v) = True := rfl
theorem TY_6_0n : okw (tyC 6 0) (.null) = True := rfl
set_option maxRecDepth 2000 in
set_option maxHeartbeats 200000 in
theorem r_Paths_init (hx : rx_Paths_init as h o Q) : Runs G m_Paths_init as h o Q := by
  obtain ⟨a, rfl, w, ⟨rfl, hw, h1⟩, hq⟩ := E_r hx
  have hJ : True := trivial
  have F1 : 1 ≤ (mF m_Paths_init).1 := by decide
  have F2 : 12 ≤ (mF m_Paths_init).2 := by decide
  have n1 : a ≠ w := Nat.ne_of_lt hw
  have n2 : a ≠ w + 1 := Nat.ne_of_lt (Nat.lt_succ_of_lt hw)
  have hro : roomOK m_Paths_init 60 1 1 = true := by decide +kernel
  have n3 : w ≠ w + 1 := by omega
  have l1 : (0 : Int32) < 144 := by decide
  have l2 : (144 : Int32) ≤ 600 := by decide
  unfold rowN at hq
  refine Runs.of (by decide +kernel) (Nat.le_of_ble_eq_true rfl) ?_
  refine exB_ok (t := [(.aload_n 0, 1, 0, 0, 0, 0), (.invokespecial 3, 3, 100000, 0, 0, 0), (.aload_n 0, 1, 0, 0, 0, 0), (.new 9, 3, 7, 0, 0, 0), (.dup, 1, 0, 0, 0, 0), (.sipush 144, 3, 0, 0, 0, 0), (.invokespecial 11, 3, 60, 0, 1, 0), (.putfield 14, 3, 6, 0, 0, 0), (.return_, 1, 0, 0, 0, 0)]) (W42_ok G) (jj := fun q L st h o k n => EX G m_Paths_init q L st h o k n Q) (fun q L st h o k n hq => hq) (by decide +kernel) ?_
  simp [exB, hJ, exT, stp, lv_args, Value.category, lkL, stL1, stL2, insL, contX, q_ofNat, f4_3, nI_1, -Int32.not_lt, -Int32.not_le, -Int64.not_lt, -Int64.not_le, R_Paths_init, C_Paths_init, M_Paths_init, HH_Paths_init, KS_144, -Int32.reduceOfInt, -Int8.reduceOfInt, -Int16.reduceOfInt, -Int32.ofInt_neg, TY_6_0, TY_6_0n, O_Paths_init_Row_init, C_Row_init, M_Row_init, W42_Row_init, rx_Row_init, F1, F2, h1, hup_at, hup_hup, dfl, nFl, A_ri, hro, c144, hup_nq n1, hup_nq n2, hup_nq n3, n3, l1, l2]
  try simp (disch := omega) [-Int64.not_lt, -Int64.not_le, -Int32.not_lt, -Int32.not_le, nI_z, nI_ltI, nI_leI, nI_1, nI_clamp, q_vp, nI_pos', rget_k, rset_k, lget_k, hup_hup, F1, F2, h1, hup_at, hup_hup, dfl, nFl, A_ri, hro, c144, hup_nq n1, hup_nq n2, hup_nq n3, n3, l1, l2]
  exact hq
end CI
def W43 (G : GG) : WF := (wcons 55 rx_Paths_init (wcons 41 rx_Input_init (wcons 70 rx_Tokens_init (wcons 12 rx_Description_init (wcons 0 rx_Actions_init (wcons 44 rx_Night_init (W42 G)))))))
theorem W43_ok (G : GG) : WOK G (W43 G) := (wcons_ok (fun _ _ _ _ hx => r_Paths_init hx) (wcons_ok (fun _ _ _ _ hx => r_Input_init hx) (wcons_ok (fun _ _ _ _ hx => r_Tokens_init hx) (wcons_ok (fun _ _ _ _ hx => r_Description_init hx) (wcons_ok (fun _ _ _ _ hx => r_Actions_init hx) (wcons_ok (fun _ _ _ _ hx => r_Night_init hx) (W42_ok G)))))))
