/-! h1: builders of text: made, read, turned to strings -/
def CHS (l : List Int32) : Prop := ∀ k, k < l.length → ∃ c, c < 128 ∧ l.getD k 0 = nI c
abbrev bld0 : AE := .inr (12, [.null, .int 0, .int 0, .int 0])
abbrev str0 : AE := .inr (13, [.null, .int 0, .int 0, .int 0])
abbrev strO (b : Nat) : AE := .inr (13, [.ref b, .int 0, .int 0, .int 0])
def rx_AB_charAt (as : List Value) (h : HM) (o : Option Nat) (Q : XQ) : Prop := A_ri as fun a j => ∃ b cap f l i, (BLD h a b cap f l ∧ j = nI i ∧ i < l.length) ∧ Q (.inl (some (.int (l.getD i 0 &&& 255)))) h o
def rx_AB_init (as : List Value) (h : HM) (o : Option Nat) (Q : XQ) : Prop := A_ri as fun a n => ∃ z N, (o = some z ∧ h a = some bld0 ∧ a < z ∧ n = nI N ∧ N ≤ 16) ∧ Q (.inl none) (hup (hup h z (byA N (fun _ => 0))) a (bld z 0)) (some (z + 1))
def rx_Arr_copyRangeB (as : List Value) (h : HM) (o : Option Nat) (Q : XQ) : Prop := A_rii as fun b x y => ∃ z cap f n, (o = some z ∧ h b = some (byA cap f) ∧ b < z ∧ x = 0 ∧ y = nI n ∧ n < cap ∧ cap ≤ 1802 ∧ sb_Fit f) ∧ Q (.inl (some (.ref z))) (hup h z (byA n (va_cpy f (fun _ => 0) 0 0 n))) (some (z + 1))
section TX
variable {G : GG} {as : List Value} {h : HM} {o : Option Nat} {Q : XQ}
theorem HH_AB_charAt : mHH 154 = [] := rfl
theorem W68_St_checkIndex {G : GG} {as : List Value} {h : HM} {o : Option Nat} {Q : XQ} : RX G (W68 G) 175 as h o Q = rx_St_checkIndex as h o Q := rfl
set_option maxRecDepth 2000 in
set_option maxHeartbeats 200000 in
theorem r_AB_charAt (hx : rx_AB_charAt as h o Q) : Runs G m_AB_charAt as h o Q := by
  obtain ⟨a, j, rfl, b, cap, f, l, i, ⟨⟨⟨h1, h2⟩, hab, hB⟩, rfl, hi⟩, hq⟩ := E_ri hx
  change Nat at a
  obtain ⟨b1, b2, b3, b4⟩ := id hB
  obtain ⟨y, ey⟩ : ∃ y, y = l.getD i 0 := ⟨_, rfl⟩
  have e1 := b4 i hi
  rw [← ey] at e1 hq
  have l1 : ¬ nI cap < nI l.length := fun e => by have := (nI_ltI (by omega) (by omega)).mp e; omega
  have l2 : ¬ nI i < 0 := nI_pos (by omega)
  have l3 : nI i < nI l.length := nI_lt hi (by omega)
  have hJ : True := trivial
  refine Runs.of (by decide +kernel) (Nat.le_of_ble_eq_true rfl) ?_
  refine exB_ok (t := [(.aload_n 0, 1, 0, 0, 0, 0), (.getfield 22, 3, 12, 1, 0, 0), (.istore_n 2, 1, 0, 0, 0, 0), (.aload_n 0, 1, 0, 0, 0, 0), (.getfield 15, 3, 12, 0, 0, 0), (.astore_n 3, 1, 0, 0, 0, 0)]) (W68_ok G) (jj := fun q L st h o k n => EX G m_AB_charAt q L st h o k n Q) (fun q L st h o k n hq => hq) (by decide +kernel) ?_
  simp [exB, hJ, exT, stp, lv_args, Value.category, lkL, stL1, stL2, insL, contX, q_ofNat, f4_3, nI_1, -Int32.not_lt, -Int32.not_le, -Int64.not_lt, -Int64.not_le, T_AB_charAt_42, R_AB_charAt, C_AB_charAt, M_AB_charAt, HH_AB_charAt, KS_255, -Int32.reduceOfInt, -Int8.reduceOfInt, -Int16.reduceOfInt, -Int32.ofInt_neg, O_AB_charAt_St_checkIndex, C_St_checkIndex, M_St_checkIndex, W68_St_checkIndex, rx_St_checkIndex, h1]
  try simp (disch := omega) [-Int64.not_lt, -Int64.not_le, -Int32.not_lt, -Int32.not_le, nI_z, nI_ltI, nI_leI, nI_1, nI_clamp, q_vp, nI_pos', rget_k, rset_k, lget_k, hup_hup, h1]
  refine exB_ok (t := [(.aload_n 0, 1, 0, 0, 0, 0), (.getfield 79, 3, 12, 3, 0, 0), (.aload_n 3, 1, 0, 0, 0, 0), (.arraylength, 1, 0, 0, 0, 0), (.iload_n 2, 1, 0, 0, 0, 0), (.ishr, 1, 0, 0, 0, 0), (.invokestatic 138, 3, 167, 0, 2, 0), (.istore 4, 2, 0, 0, 0, 0)]) (W68_ok G) (jj := fun q L st h o k n => EX G m_AB_charAt q L st h o k n Q) (fun q L st h o k n hq => hq) (by decide +kernel) ?_
  simp [exB, hJ, exT, stp, lv_args, Value.category, lkL, stL1, stL2, insL, contX, q_ofNat, f4_3, nI_1, -Int32.not_lt, -Int32.not_le, -Int64.not_lt, -Int64.not_le, T_AB_charAt_42, R_AB_charAt, C_AB_charAt, M_AB_charAt, HH_AB_charAt, KS_255, -Int32.reduceOfInt, -Int8.reduceOfInt, -Int16.reduceOfInt, -Int32.ofInt_neg, O_AB_charAt_St_checkIndex, C_St_checkIndex, M_St_checkIndex, W68_St_checkIndex, rx_St_checkIndex, h1, h2, sb_shr0, l1]
  try simp (disch := omega) [-Int64.not_lt, -Int64.not_le, -Int32.not_lt, -Int32.not_le, nI_z, nI_ltI, nI_leI, nI_1, nI_clamp, q_vp, nI_pos', rget_k, rset_k, lget_k, hup_hup, h1, h2, sb_shr0, l1]
  refine exB_ok (t := [(.iload_n 1, 1, 0, 0, 0, 0), (.iload 4, 2, 0, 0, 0, 0), (.invokestatic 144, 3, 175, 0, 2, 0)]) (W68_ok G) (jj := fun q L st h o k n => EX G m_AB_charAt q L st h o k n Q) (fun q L st h o k n hq => hq) (by decide +kernel) ?_
  simp [exB, hJ, exT, stp, lv_args, Value.category, lkL, stL1, stL2, insL, contX, q_ofNat, f4_3, nI_1, -Int32.not_lt, -Int32.not_le, -Int64.not_lt, -Int64.not_le, T_AB_charAt_42, R_AB_charAt, C_AB_charAt, M_AB_charAt, HH_AB_charAt, KS_255, -Int32.reduceOfInt, -Int8.reduceOfInt, -Int16.reduceOfInt, -Int32.ofInt_neg, O_AB_charAt_St_checkIndex, C_St_checkIndex, M_St_checkIndex, W68_St_checkIndex, rx_St_checkIndex, A_ii, rx_St_checkIndex, l2, l3]
  try simp (disch := omega) [-Int64.not_lt, -Int64.not_le, -Int32.not_lt, -Int32.not_le, nI_z, nI_ltI, nI_leI, nI_1, nI_clamp, q_vp, nI_pos', rget_k, rset_k, lget_k, hup_hup, A_ii, rx_St_checkIndex, l2, l3]
  refine exB_ok (t := [(.iload_n 2, 1, 0, 0, 0, 0), (.ifCond .ne 12, 3, 42, 0, 0, 0)]) (W68_ok G) (jj := fun q L st h o k n => EX G m_AB_charAt q L st h o k n Q) (fun q L st h o k n hq => hq) (by decide +kernel) ?_
  simp [exB, hJ, exT, stp, lv_args, Value.category, lkL, stL1, stL2, insL, contX, q_ofNat, f4_3, nI_1, -Int32.not_lt, -Int32.not_le, -Int64.not_lt, -Int64.not_le, T_AB_charAt_42, R_AB_charAt, C_AB_charAt, M_AB_charAt, HH_AB_charAt, KS_255, -Int32.reduceOfInt, -Int8.reduceOfInt, -Int16.reduceOfInt, -Int32.ofInt_neg, O_AB_charAt_St_checkIndex, C_St_checkIndex, M_St_checkIndex, W68_St_checkIndex, rx_St_checkIndex]
  try simp (disch := omega) [-Int64.not_lt, -Int64.not_le, -Int32.not_lt, -Int32.not_le, nI_z, nI_ltI, nI_leI, nI_1, nI_clamp, q_vp, nI_pos', rget_k, rset_k, lget_k, hup_hup]
  refine exB_ok (t := [(.aload_n 3, 1, 0, 0, 0, 0), (.iload_n 1, 1, 0, 0, 0, 0), (.baload, 1, 0, 0, 0, 0), (.sipush 255, 3, 0, 0, 0, 0), (.iand, 1, 0, 0, 0, 0), (.i2c, 1, 0, 0, 0, 0), (.ireturn, 1, 0, 0, 0, 0)]) (W68_ok G) (jj := fun q L st h o k n => EX G m_AB_charAt q L st h o k n Q) (fun q L st h o k n hq => hq) (by decide +kernel) ?_
  simp [exB, hJ, exT, stp, lv_args, Value.category, lkL, stL1, stL2, insL, contX, q_ofNat, f4_3, nI_1, -Int32.not_lt, -Int32.not_le, -Int64.not_lt, -Int64.not_le, T_AB_charAt_42, R_AB_charAt, C_AB_charAt, M_AB_charAt, HH_AB_charAt, KS_255, -Int32.reduceOfInt, -Int8.reduceOfInt, -Int16.reduceOfInt, -Int32.ofInt_neg, O_AB_charAt_St_checkIndex, C_St_checkIndex, M_St_checkIndex, W68_St_checkIndex, rx_St_checkIndex, h2, e1, nI_clamp (show i < 2 ^ 31 by omega), q_vp (show i < cap by omega) (show cap < 2 ^ 31 by omega), tx_c, tx_n, -Int32.toUInt32_and]
  try simp (disch := omega) [-Int64.not_lt, -Int64.not_le, -Int32.not_lt, -Int32.not_le, nI_z, nI_ltI, nI_leI, nI_1, nI_clamp, q_vp, nI_pos', rget_k, rset_k, lget_k, hup_hup, h2, e1, nI_clamp (show i < 2 ^ 31 by omega), q_vp (show i < cap by omega) (show cap < 2 ^ 31 by omega), tx_c, tx_n, -Int32.toUInt32_and]
  exact hq
theorem HH_AB_init : mHH 150 = [] := rfl
theorem TY_12_1 {v : Int32} : okw (tyC 12 1) (.int v) = (v = 0 ∨ v = 1) := rfl
set_option maxRecDepth 2000 in
set_option maxHeartbeats 200000 in
theorem r_AB_init (hx : rx_AB_init as h o Q) : Runs G m_AB_init as h o Q := by
  obtain ⟨a, n, rfl, z, N, ⟨rfl, h1, ha, rfl, hN⟩, hq⟩ := E_ri hx
  change Nat at a
  have n1 : a ≠ z := Nat.ne_of_lt ha
  have hJ : True := trivial
  refine Runs.of (by decide +kernel) (Nat.le_of_ble_eq_true rfl) ?_
  have l2 : ¬ nI N < 0 := nI_pos (by omega)
  refine exB_ok (t := [(.aload_n 0, 1, 0, 0, 0, 0), (.invokespecial 3, 3, 100000, 0, 0, 0)]) (W68_ok G) (jj := fun q L st h o k n => EX G m_AB_init q L st h o k n Q) (fun q L st h o k n hq => hq) (by decide +kernel) ?_
  simp [exB, hJ, exT, stp, lv_args, Value.category, lkL, stL1, stL2, insL, contX, q_ofNat, f4_3, nI_1, -Int32.not_lt, -Int32.not_le, -Int64.not_lt, -Int64.not_le, T_AB_init_25, T_AB_init_38, R_AB_init, C_AB_init, M_AB_init, HH_AB_init, KI_0, KI_1, -Int32.reduceOfInt, -Int8.reduceOfInt, -Int16.reduceOfInt, -Int32.ofInt_neg, TY_12_0, TY_12_0n, TY_12_1]
  try simp (disch := omega) [-Int64.not_lt, -Int64.not_le, -Int32.not_lt, -Int32.not_le, nI_z, nI_ltI, nI_leI, nI_1, nI_clamp, q_vp, nI_pos', rget_k, rset_k, lget_k, hup_hup]
  refine ⟨by decide +kernel, ?_⟩
  refine exB_ok (t := [(.getstatic 18, 3, 0, 1, 0, 0), (.ifCond .eq 18, 3, 25, 0, 0, 0)]) (W68_ok G) (jj := fun q L st h o k n => EX G m_AB_init q L st h o k n Q) (fun q L st h o k n hq => hq) (by decide +kernel) ?_
  simp [exB, hJ, exT, stp, lv_args, Value.category, lkL, stL1, stL2, insL, contX, q_ofNat, f4_3, nI_1, -Int32.not_lt, -Int32.not_le, -Int64.not_lt, -Int64.not_le, T_AB_init_25, T_AB_init_38, R_AB_init, C_AB_init, M_AB_init, HH_AB_init, KI_0, KI_1, -Int32.reduceOfInt, -Int8.reduceOfInt, -Int16.reduceOfInt, -Int32.ofInt_neg, TY_12_0, TY_12_0n, TY_12_1]
  try simp (disch := omega) [-Int64.not_lt, -Int64.not_le, -Int32.not_lt, -Int32.not_le, nI_z, nI_ltI, nI_leI, nI_1, nI_clamp, q_vp, nI_pos', rget_k, rset_k, lget_k, hup_hup]
  refine exB_ok (t := [(.aload_n 0, 1, 0, 0, 0, 0), (.iload_n 1, 1, 0, 0, 0, 0), (.newarray .byte, 2, 0, 0, 0, 0)]) (W68_ok G) (jj := fun q L st h o k n => EX G m_AB_init q L st h o k n Q) (fun q L st h o k n hq => hq) (by decide +kernel) ?_
  simp [exB, hJ, exT, stp, lv_args, Value.category, lkL, stL1, stL2, insL, contX, q_ofNat, f4_3, nI_1, -Int32.not_lt, -Int32.not_le, -Int64.not_lt, -Int64.not_le, T_AB_init_25, T_AB_init_38, R_AB_init, C_AB_init, M_AB_init, HH_AB_init, KI_0, KI_1, -Int32.reduceOfInt, -Int8.reduceOfInt, -Int16.reduceOfInt, -Int32.ofInt_neg, TY_12_0, TY_12_0n, TY_12_1, l2, nI_clamp (show N < 2 ^ 31 by omega), show N ≤ 5000 by omega, hN]
  try simp (disch := omega) [-Int64.not_lt, -Int64.not_le, -Int32.not_lt, -Int32.not_le, nI_z, nI_ltI, nI_leI, nI_1, nI_clamp, q_vp, nI_pos', rget_k, rset_k, lget_k, hup_hup, l2, nI_clamp (show N < 2 ^ 31 by omega), show N ≤ 5000 by omega, hN]
  refine exB_ok (t := [(.putfield 15, 3, 12, 0, 0, 0)]) (W68_ok G) (jj := fun q L st h o k n => EX G m_AB_init q L st h o k n Q) (fun q L st h o k n hq => hq) (by decide +kernel) ?_
  simp [exB, hJ, exT, stp, lv_args, Value.category, lkL, stL1, stL2, insL, contX, q_ofNat, f4_3, nI_1, -Int32.not_lt, -Int32.not_le, -Int64.not_lt, -Int64.not_le, T_AB_init_25, T_AB_init_38, R_AB_init, C_AB_init, M_AB_init, HH_AB_init, KI_0, KI_1, -Int32.reduceOfInt, -Int8.reduceOfInt, -Int16.reduceOfInt, -Int32.ofInt_neg, TY_12_0, TY_12_0n, TY_12_1, h1, hup_nq n1, hup_at]
  try simp (disch := omega) [-Int64.not_lt, -Int64.not_le, -Int32.not_lt, -Int32.not_le, nI_z, nI_ltI, nI_leI, nI_1, nI_clamp, q_vp, nI_pos', rget_k, rset_k, lget_k, hup_hup, h1, hup_nq n1, hup_at]
  refine exB_ok (t := [(.aload_n 0, 1, 0, 0, 0, 0), (.iconst 0, 1, 0, 0, 0, 0), (.putfield 22, 3, 12, 1, 0, 0), (.goto 16, 3, 38, 0, 0, 0)]) (W68_ok G) (jj := fun q L st h o k n => EX G m_AB_init q L st h o k n Q) (fun q L st h o k n hq => hq) (by decide +kernel) ?_
  simp [exB, hJ, exT, stp, lv_args, Value.category, lkL, stL1, stL2, insL, contX, q_ofNat, f4_3, nI_1, -Int32.not_lt, -Int32.not_le, -Int64.not_lt, -Int64.not_le, T_AB_init_25, T_AB_init_38, R_AB_init, C_AB_init, M_AB_init, HH_AB_init, KI_0, KI_1, -Int32.reduceOfInt, -Int8.reduceOfInt, -Int16.reduceOfInt, -Int32.ofInt_neg, TY_12_0, TY_12_0n, TY_12_1, hup_at, hup_hup]
  try simp (disch := omega) [-Int64.not_lt, -Int64.not_le, -Int32.not_lt, -Int32.not_le, nI_z, nI_ltI, nI_leI, nI_1, nI_clamp, q_vp, nI_pos', rget_k, rset_k, lget_k, hup_hup, hup_at, hup_hup]
  refine exB_ok (t := [(.return_, 1, 0, 0, 0, 0)]) (W68_ok G) (jj := fun q L st h o k n => EX G m_AB_init q L st h o k n Q) (fun q L st h o k n hq => hq) (by decide +kernel) ?_
  simp [exB, hJ, exT, stp, lv_args, Value.category, lkL, stL1, stL2, insL, contX, q_ofNat, f4_3, nI_1, -Int32.not_lt, -Int32.not_le, -Int64.not_lt, -Int64.not_le, T_AB_init_25, T_AB_init_38, R_AB_init, C_AB_init, M_AB_init, HH_AB_init, KI_0, KI_1, -Int32.reduceOfInt, -Int8.reduceOfInt, -Int16.reduceOfInt, -Int32.ofInt_neg, TY_12_0, TY_12_0n, TY_12_1]
  try simp (disch := omega) [-Int64.not_lt, -Int64.not_le, -Int32.not_lt, -Int32.not_le, nI_z, nI_ltI, nI_leI, nI_1, nI_clamp, q_vp, nI_pos', rget_k, rset_k, lget_k, hup_hup]
  exact ⟨hN, hq⟩
theorem HH_Arr_copyRangeB : mHH 188 = [] := rfl
theorem W68_Arr_checkLength {G : GG} {as : List Value} {h : HM} {o : Option Nat} {Q : XQ} : RX G (W68 G) 186 as h o Q = rx_Arr_checkLength as h o Q := rfl
set_option maxRecDepth 2000 in
set_option maxHeartbeats 200000 in
theorem r_Arr_copyRangeB (hx : rx_Arr_copyRangeB as h o Q) : Runs G m_Arr_copyRangeB as h o Q := by
  obtain ⟨b, x, y, rfl, z, cap, f, n, ⟨rfl, h1, hz, rfl, rfl, hn, hc, hf⟩, hq⟩ := E_rii hx
  change Nat at b
  have n1 : b ≠ z := Nat.ne_of_lt hz
  have l1 : ¬ nI n < 0 := nI_pos (by omega)
  have l2 : nI n < nI cap := nI_lt hn (by omega)
  have e1 : nI n - 0 = nI n := by simp
  have e2 : nI cap - 0 = nI cap := by simp
  have hJ : True := trivial
  refine Runs.of (by decide +kernel) (Nat.le_of_ble_eq_true rfl) ?_
  refine exB_ok (t := [(.iload_n 1, 1, 0, 0, 0, 0), (.iload_n 2, 1, 0, 0, 0, 0), (.invokestatic 343, 3, 186, 0, 2, 0)]) (W68_ok G) (jj := fun q L st h o k n => EX G m_Arr_copyRangeB q L st h o k n Q) (fun q L st h o k n hq => hq) (by decide +kernel) ?_
  simp [exB, hJ, exT, stp, lv_args, Value.category, lkL, stL1, stL2, insL, contX, q_ofNat, f4_3, nI_1, -Int32.not_lt, -Int32.not_le, -Int64.not_lt, -Int64.not_le, R_Arr_copyRangeB, C_Arr_copyRangeB, M_Arr_copyRangeB, HH_Arr_copyRangeB, KI_0, -Int32.reduceOfInt, -Int8.reduceOfInt, -Int16.reduceOfInt, -Int32.ofInt_neg, O_Arr_copyRangeB_Arr_checkLength, C_Arr_checkLength, M_Arr_checkLength, W68_Arr_checkLength, rx_Arr_checkLength, A_ii, rx_Arr_checkLength, l1]
  try simp (disch := omega) [-Int64.not_lt, -Int64.not_le, -Int32.not_lt, -Int32.not_le, nI_z, nI_ltI, nI_leI, nI_1, nI_clamp, q_vp, nI_pos', rget_k, rset_k, lget_k, hup_hup, A_ii, rx_Arr_checkLength, l1]
  refine exB_ok (t := [(.iload_n 2, 1, 0, 0, 0, 0), (.iload_n 1, 1, 0, 0, 0, 0), (.isub, 1, 0, 0, 0, 0), (.istore_n 3, 1, 0, 0, 0, 0)]) (W68_ok G) (jj := fun q L st h o k n => EX G m_Arr_copyRangeB q L st h o k n Q) (fun q L st h o k n hq => hq) (by decide +kernel) ?_
  simp [exB, hJ, exT, stp, lv_args, Value.category, lkL, stL1, stL2, insL, contX, q_ofNat, f4_3, nI_1, -Int32.not_lt, -Int32.not_le, -Int64.not_lt, -Int64.not_le, R_Arr_copyRangeB, C_Arr_copyRangeB, M_Arr_copyRangeB, HH_Arr_copyRangeB, KI_0, -Int32.reduceOfInt, -Int8.reduceOfInt, -Int16.reduceOfInt, -Int32.ofInt_neg, O_Arr_copyRangeB_Arr_checkLength, C_Arr_checkLength, M_Arr_checkLength, W68_Arr_checkLength, rx_Arr_checkLength, e1]
  try simp (disch := omega) [-Int64.not_lt, -Int64.not_le, -Int32.not_lt, -Int32.not_le, nI_z, nI_ltI, nI_leI, nI_1, nI_clamp, q_vp, nI_pos', rget_k, rset_k, lget_k, hup_hup, e1]
  refine exB_ok (t := [(.iload_n 3, 1, 0, 0, 0, 0), (.newarray .byte, 2, 0, 0, 0, 0), (.astore 4, 2, 0, 0, 0, 0)]) (W68_ok G) (jj := fun q L st h o k n => EX G m_Arr_copyRangeB q L st h o k n Q) (fun q L st h o k n hq => hq) (by decide +kernel) ?_
  simp [exB, hJ, exT, stp, lv_args, Value.category, lkL, stL1, stL2, insL, contX, q_ofNat, f4_3, nI_1, -Int32.not_lt, -Int32.not_le, -Int64.not_lt, -Int64.not_le, R_Arr_copyRangeB, C_Arr_copyRangeB, M_Arr_copyRangeB, HH_Arr_copyRangeB, KI_0, -Int32.reduceOfInt, -Int8.reduceOfInt, -Int16.reduceOfInt, -Int32.ofInt_neg, O_Arr_copyRangeB_Arr_checkLength, C_Arr_checkLength, M_Arr_checkLength, W68_Arr_checkLength, rx_Arr_checkLength, l1, nI_clamp (show n < 2 ^ 31 by omega), show n ≤ 5000 by omega, show n ≤ 4000 by omega]
  try simp (disch := omega) [-Int64.not_lt, -Int64.not_le, -Int32.not_lt, -Int32.not_le, nI_z, nI_ltI, nI_leI, nI_1, nI_clamp, q_vp, nI_pos', rget_k, rset_k, lget_k, hup_hup, l1, nI_clamp (show n < 2 ^ 31 by omega), show n ≤ 5000 by omega, show n ≤ 4000 by omega]
  refine exB_ok (t := [(.aload_n 0, 1, 0, 0, 0, 0), (.iload_n 1, 1, 0, 0, 0, 0), (.aload 4, 2, 0, 0, 0, 0), (.iconst 0, 1, 0, 0, 0, 0), (.aload_n 0, 1, 0, 0, 0, 0), (.arraylength, 1, 0, 0, 0, 0), (.iload_n 1, 1, 0, 0, 0, 0), (.isub, 1, 0, 0, 0, 0), (.iload_n 3, 1, 0, 0, 0, 0), (.invokestatic 304, 3, 167, 0, 2, 0)]) (W68_ok G) (jj := fun q L st h o k n => EX G m_Arr_copyRangeB q L st h o k n Q) (fun q L st h o k n hq => hq) (by decide +kernel) ?_
  simp [exB, hJ, exT, stp, lv_args, Value.category, lkL, stL1, stL2, insL, contX, q_ofNat, f4_3, nI_1, -Int32.not_lt, -Int32.not_le, -Int64.not_lt, -Int64.not_le, R_Arr_copyRangeB, C_Arr_copyRangeB, M_Arr_copyRangeB, HH_Arr_copyRangeB, KI_0, -Int32.reduceOfInt, -Int8.reduceOfInt, -Int16.reduceOfInt, -Int32.ofInt_neg, O_Arr_copyRangeB_Arr_checkLength, C_Arr_checkLength, M_Arr_checkLength, W68_Arr_checkLength, rx_Arr_checkLength, h1, hup_nq n1, e2, l2]
  try simp (disch := omega) [-Int64.not_lt, -Int64.not_le, -Int32.not_lt, -Int32.not_le, nI_z, nI_ltI, nI_leI, nI_1, nI_clamp, q_vp, nI_pos', rget_k, rset_k, lget_k, hup_hup, h1, hup_nq n1, e2, l2]
  refine ⟨by omega, ?_⟩
  refine exB_ok (t := [(.invokestatic 150, 3, 100001, 3, 0, 0)]) (W68_ok G) (jj := fun q L st h o k n => EX G m_Arr_copyRangeB q L st h o k n Q) (fun q L st h o k n hq => hq) (by decide +kernel) ?_
  simp [exB, hJ, exT, stp, lv_args, Value.category, lkL, stL1, stL2, insL, contX, q_ofNat, f4_3, nI_1, -Int32.not_lt, -Int32.not_le, -Int64.not_lt, -Int64.not_le, R_Arr_copyRangeB, C_Arr_copyRangeB, M_Arr_copyRangeB, HH_Arr_copyRangeB, KI_0, -Int32.reduceOfInt, -Int8.reduceOfInt, -Int16.reduceOfInt, -Int32.ofInt_neg, O_Arr_copyRangeB_Arr_checkLength, C_Arr_checkLength, M_Arr_checkLength, W68_Arr_checkLength, rx_Arr_checkLength, h1, hup_nq n1, hup_at, l1, nI_clamp (show n < 2 ^ 31 by omega), cl_0, hup_hup]
  try simp (disch := omega) [-Int64.not_lt, -Int64.not_le, -Int32.not_lt, -Int32.not_le, nI_z, nI_ltI, nI_leI, nI_1, nI_clamp, q_vp, nI_pos', rget_k, rset_k, lget_k, hup_hup, h1, hup_nq n1, hup_at, l1, nI_clamp (show n < 2 ^ 31 by omega), cl_0, hup_hup]
  refine ⟨by omega, fun j _ => hf j, ?_⟩
  refine exB_ok (t := [(.aload 4, 2, 0, 0, 0, 0), (.areturn, 1, 0, 0, 0, 0)]) (W68_ok G) (jj := fun q L st h o k n => EX G m_Arr_copyRangeB q L st h o k n Q) (fun q L st h o k n hq => hq) (by decide +kernel) ?_
  simp [exB, hJ, exT, stp, lv_args, Value.category, lkL, stL1, stL2, insL, contX, q_ofNat, f4_3, nI_1, -Int32.not_lt, -Int32.not_le, -Int64.not_lt, -Int64.not_le, R_Arr_copyRangeB, C_Arr_copyRangeB, M_Arr_copyRangeB, HH_Arr_copyRangeB, KI_0, -Int32.reduceOfInt, -Int8.reduceOfInt, -Int16.reduceOfInt, -Int32.ofInt_neg, O_Arr_copyRangeB_Arr_checkLength, C_Arr_checkLength, M_Arr_checkLength, W68_Arr_checkLength, rx_Arr_checkLength]
  try simp (disch := omega) [-Int64.not_lt, -Int64.not_le, -Int32.not_lt, -Int32.not_le, nI_z, nI_ltI, nI_leI, nI_1, nI_clamp, q_vp, nI_pos', rget_k, rset_k, lget_k, hup_hup]
  exact ⟨by omega, hq⟩
end TX
def W69 (G : GG) : WF := (wcons 188 rx_Arr_copyRangeB (wcons 150 rx_AB_init (wcons 154 rx_AB_charAt (W68 G))))
theorem W69_ok (G : GG) : WOK G (W69 G) := (wcons_ok (fun _ _ _ _ hx => r_Arr_copyRangeB hx) (wcons_ok (fun _ _ _ _ hx => r_AB_init hx) (wcons_ok (fun _ _ _ _ hx => r_AB_charAt hx) (W68_ok G))))
def rx_SB_charAt (as : List Value) (h : HM) (o : Option Nat) (Q : XQ) : Prop := A_ri as fun a j => ∃ b cap f l i, (BLD h a b cap f l ∧ j = nI i ∧ i < l.length) ∧ Q (.inl (some (.int (l.getD i 0 &&& 255)))) h o
def rx_SB_length (as : List Value) (h : HM) (o : Option Nat) (Q : XQ) : Prop := A_r as fun a => ∃ b n, h a = some (bld b n) ∧ Q (.inl (some (.int (nI n)))) h o
def rx_SB_init (as : List Value) (h : HM) (o : Option Nat) (Q : XQ) : Prop := A_r as fun a => ∃ z, (o = some z ∧ h a = some bld0 ∧ a < z) ∧ Q (.inl none) (hup (hup h z (byA 16 (fun _ => 0))) a (bld z 0)) (some (z + 1))
def rx_Arr_copyRange (as : List Value) (h : HM) (o : Option Nat) (Q : XQ) : Prop := A_rii as fun b x y => ∃ z cap f n, (o = some z ∧ h b = some (byA cap f) ∧ b < z ∧ x = 0 ∧ y = nI n ∧ n < cap ∧ cap ≤ 1802 ∧ sb_Fit f) ∧ Q (.inl (some (.ref z))) (hup h z (byA n (va_cpy f (fun _ => 0) 0 0 n))) (some (z + 1))
section TX
variable {G : GG} {as : List Value} {h : HM} {o : Option Nat} {Q : XQ}
theorem HH_SB_charAt : mHH 181 = [] := rfl
theorem W69_AB_charAt {G : GG} {as : List Value} {h : HM} {o : Option Nat} {Q : XQ} : RX G (W69 G) 154 as h o Q = rx_AB_charAt as h o Q := rfl
set_option maxRecDepth 2000 in
set_option maxHeartbeats 200000 in
theorem r_SB_charAt (hx : rx_SB_charAt as h o Q) : Runs G m_SB_charAt as h o Q := by
  obtain ⟨a, j, rfl, b, cap, f, l, i, ⟨⟨⟨h1, h2⟩, hab, hB⟩, rfl, hi⟩, hq⟩ := E_ri hx
  change Nat at a
  have hJ : True := trivial
  refine Runs.of (by decide +kernel) (Nat.le_of_ble_eq_true rfl) ?_
  refine exB_ok (t := [(.aload_n 0, 1, 0, 0, 0, 0), (.iload_n 1, 1, 0, 0, 0, 0), (.invokespecial 329, 3, 154, 3, 1, 0)]) (W69_ok G) (jj := fun q L st h o k n => EX G m_SB_charAt q L st h o k n Q) (fun q L st h o k n hq => hq) (by decide +kernel) ?_
  simp [exB, hJ, exT, stp, lv_args, Value.category, lkL, stL1, stL2, insL, contX, q_ofNat, f4_3, nI_1, -Int32.not_lt, -Int32.not_le, -Int64.not_lt, -Int64.not_le, R_SB_charAt, C_SB_charAt, M_SB_charAt, HH_SB_charAt, -Int32.reduceOfInt, -Int8.reduceOfInt, -Int16.reduceOfInt, -Int32.ofInt_neg, O_SB_charAt_AB_charAt, C_AB_charAt, M_AB_charAt, W69_AB_charAt, rx_AB_charAt, h1, A_ri, rx_AB_charAt]
  try simp (disch := omega) [-Int64.not_lt, -Int64.not_le, -Int32.not_lt, -Int32.not_le, nI_z, nI_ltI, nI_leI, nI_1, nI_clamp, q_vp, nI_pos', rget_k, rset_k, lget_k, hup_hup, h1, A_ri, rx_AB_charAt]
  refine ⟨b, cap, f, l, i, ⟨⟨⟨h1, h2⟩, hab, hB⟩, rfl, hi⟩, ?_⟩
  show EX G m_SB_charAt 5 _ _ _ _ _ _ _
  rw [List.getD_eq_getElem?_getD] at hq
  try rw [List.getD_eq_getElem?_getD]
  generalize l[i]?.getD 0 = y at hq ⊢
  refine exB_ok (t := [(.ireturn, 1, 0, 0, 0, 0)]) (W69_ok G) (jj := fun q L st h o k n => EX G m_SB_charAt q L st h o k n Q) (fun q L st h o k n hq => hq) (by decide +kernel) ?_
  simp [exB, hJ, exT, stp, lv_args, Value.category, lkL, stL1, stL2, insL, contX, q_ofNat, f4_3, nI_1, -Int32.not_lt, -Int32.not_le, -Int64.not_lt, -Int64.not_le, R_SB_charAt, C_SB_charAt, M_SB_charAt, HH_SB_charAt, -Int32.reduceOfInt, -Int8.reduceOfInt, -Int16.reduceOfInt, -Int32.ofInt_neg, O_SB_charAt_AB_charAt, C_AB_charAt, M_AB_charAt, W69_AB_charAt, rx_AB_charAt, tx_n, -Int32.toUInt32_and]
  try simp (disch := omega) [-Int64.not_lt, -Int64.not_le, -Int32.not_lt, -Int32.not_le, nI_z, nI_ltI, nI_leI, nI_1, nI_clamp, q_vp, nI_pos', rget_k, rset_k, lget_k, hup_hup, tx_n, -Int32.toUInt32_and]
  exact hq
theorem HH_SB_length : mHH 182 = [] := rfl
theorem W69_AB_length {G : GG} {as : List Value} {h : HM} {o : Option Nat} {Q : XQ} : RX G (W69 G) 151 as h o Q = rx_AB_length as h o Q := rfl
set_option maxRecDepth 2000 in
set_option maxHeartbeats 200000 in
theorem r_SB_length (hx : rx_SB_length as h o Q) : Runs G m_SB_length as h o Q := by
  obtain ⟨a, rfl, b, n, h1, hq⟩ := E_r hx
  change Nat at a
  have hJ : True := trivial
  refine Runs.of (by decide +kernel) (Nat.le_of_ble_eq_true rfl) ?_
  refine exB_ok (t := [(.aload_n 0, 1, 0, 0, 0, 0), (.invokespecial 343, 3, 151, 3, 0, 0)]) (W69_ok G) (jj := fun q L st h o k n => EX G m_SB_length q L st h o k n Q) (fun q L st h o k n hq => hq) (by decide +kernel) ?_
  simp [exB, hJ, exT, stp, lv_args, Value.category, lkL, stL1, stL2, insL, contX, q_ofNat, f4_3, nI_1, -Int32.not_lt, -Int32.not_le, -Int64.not_lt, -Int64.not_le, R_SB_length, C_SB_length, M_SB_length, HH_SB_length, -Int32.reduceOfInt, -Int8.reduceOfInt, -Int16.reduceOfInt, -Int32.ofInt_neg, O_SB_length_AB_length, C_AB_length, M_AB_length, W69_AB_length, rx_AB_length, h1, A_r, rx_AB_length]
  try simp (disch := omega) [-Int64.not_lt, -Int64.not_le, -Int32.not_lt, -Int32.not_le, nI_z, nI_ltI, nI_leI, nI_1, nI_clamp, q_vp, nI_pos', rget_k, rset_k, lget_k, hup_hup, h1, A_r, rx_AB_length]
  refine ⟨b, n, ⟨rfl, rfl⟩, ?_⟩
  refine exB_ok (t := [(.ireturn, 1, 0, 0, 0, 0)]) (W69_ok G) (jj := fun q L st h o k n => EX G m_SB_length q L st h o k n Q) (fun q L st h o k n hq => hq) (by decide +kernel) ?_
  simp [exB, hJ, exT, stp, lv_args, Value.category, lkL, stL1, stL2, insL, contX, q_ofNat, f4_3, nI_1, -Int32.not_lt, -Int32.not_le, -Int64.not_lt, -Int64.not_le, R_SB_length, C_SB_length, M_SB_length, HH_SB_length, -Int32.reduceOfInt, -Int8.reduceOfInt, -Int16.reduceOfInt, -Int32.ofInt_neg, O_SB_length_AB_length, C_AB_length, M_AB_length, W69_AB_length, rx_AB_length]
  try simp (disch := omega) [-Int64.not_lt, -Int64.not_le, -Int32.not_lt, -Int32.not_le, nI_z, nI_ltI, nI_leI, nI_1, nI_clamp, q_vp, nI_pos', rget_k, rset_k, lget_k, hup_hup]
  exact hq
theorem HH_SB_init : mHH 176 = [] := rfl
theorem W69_AB_init {G : GG} {as : List Value} {h : HM} {o : Option Nat} {Q : XQ} : RX G (W69 G) 150 as h o Q = rx_AB_init as h o Q := rfl
set_option maxRecDepth 2000 in
set_option maxHeartbeats 200000 in
theorem r_SB_init (hx : rx_SB_init as h o Q) : Runs G m_SB_init as h o Q := by
  obtain ⟨a, rfl, z, ⟨rfl, h1, ha⟩, hq⟩ := E_r hx
  change Nat at a
  have hJ : True := trivial
  refine Runs.of (by decide +kernel) (Nat.le_of_ble_eq_true rfl) ?_
  refine exB_ok (t := [(.aload_n 0, 1, 0, 0, 0, 0), (.bipush 16, 2, 0, 0, 0, 0), (.invokespecial 1, 3, 150, 0, 1, 0)]) (W69_ok G) (jj := fun q L st h o k n => EX G m_SB_init q L st h o k n Q) (fun q L st h o k n hq => hq) (by decide +kernel) ?_
  simp [exB, hJ, exT, stp, lv_args, Value.category, lkL, stL1, stL2, insL, contX, q_ofNat, f4_3, nI_1, -Int32.not_lt, -Int32.not_le, -Int64.not_lt, -Int64.not_le, R_SB_init, C_SB_init, M_SB_init, HH_SB_init, KB_16, -Int32.reduceOfInt, -Int8.reduceOfInt, -Int16.reduceOfInt, -Int32.ofInt_neg, O_SB_init_AB_init, C_AB_init, M_AB_init, W69_AB_init, rx_AB_init, h1, A_ri, rx_AB_init]
  try simp (disch := omega) [-Int64.not_lt, -Int64.not_le, -Int32.not_lt, -Int32.not_le, nI_z, nI_ltI, nI_leI, nI_1, nI_clamp, q_vp, nI_pos', rget_k, rset_k, lget_k, hup_hup, h1, A_ri, rx_AB_init]
  refine ⟨z, 16, ⟨rfl, ha, rfl, by decide⟩, ?_⟩
  show EX G m_SB_init 6 _ _ _ _ _ _ _
  refine exB_ok (t := [(.return_, 1, 0, 0, 0, 0)]) (W69_ok G) (jj := fun q L st h o k n => EX G m_SB_init q L st h o k n Q) (fun q L st h o k n hq => hq) (by decide +kernel) ?_
  simp [exB, hJ, exT, stp, lv_args, Value.category, lkL, stL1, stL2, insL, contX, q_ofNat, f4_3, nI_1, -Int32.not_lt, -Int32.not_le, -Int64.not_lt, -Int64.not_le, R_SB_init, C_SB_init, M_SB_init, HH_SB_init, KB_16, -Int32.reduceOfInt, -Int8.reduceOfInt, -Int16.reduceOfInt, -Int32.ofInt_neg, O_SB_init_AB_init, C_AB_init, M_AB_init, W69_AB_init, rx_AB_init]
  try simp (disch := omega) [-Int64.not_lt, -Int64.not_le, -Int32.not_lt, -Int32.not_le, nI_z, nI_ltI, nI_leI, nI_1, nI_clamp, q_vp, nI_pos', rget_k, rset_k, lget_k, hup_hup]
  exact hq
theorem HH_Arr_copyRange : mHH 187 = [] := rfl
theorem W69_Arr_copyRangeB {G : GG} {as : List Value} {h : HM} {o : Option Nat} {Q : XQ} : RX G (W69 G) 188 as h o Q = rx_Arr_copyRangeB as h o Q := rfl
set_option maxRecDepth 2000 in
set_option maxHeartbeats 200000 in
theorem r_Arr_copyRange (hx : rx_Arr_copyRange as h o Q) : Runs G m_Arr_copyRange as h o Q := by
  obtain ⟨b, x, y, rfl, z, cap, f, n, ⟨rfl, h1, hz, rfl, rfl, hn, hc, hf⟩, hq⟩ := E_rii hx
  change Nat at b
  have ne : ¬ nI n = nI cap := fun e => by have := (nI_eq (by omega) (by omega)).mp e; omega
  have hJ : True := trivial
  refine Runs.of (by decide +kernel) (Nat.le_of_ble_eq_true rfl) ?_
  refine exB_ok (t := [(.iload_n 1, 1, 0, 0, 0, 0), (.ifCond .ne 9, 3, 10, 0, 0, 0)]) (W69_ok G) (jj := fun q L st h o k n => EX G m_Arr_copyRange q L st h o k n Q) (fun q L st h o k n hq => hq) (by decide +kernel) ?_
  simp [exB, hJ, exT, stp, lv_args, Value.category, lkL, stL1, stL2, insL, contX, q_ofNat, f4_3, nI_1, -Int32.not_lt, -Int32.not_le, -Int64.not_lt, -Int64.not_le, T_Arr_copyRange_10, T_Arr_copyRange_17, R_Arr_copyRange, C_Arr_copyRange, M_Arr_copyRange, HH_Arr_copyRange, -Int32.reduceOfInt, -Int8.reduceOfInt, -Int16.reduceOfInt, -Int32.ofInt_neg, O_Arr_copyRange_Arr_copyRangeB, C_Arr_copyRangeB, M_Arr_copyRangeB, W69_Arr_copyRangeB, rx_Arr_copyRangeB]
  try simp (disch := omega) [-Int64.not_lt, -Int64.not_le, -Int32.not_lt, -Int32.not_le, nI_z, nI_ltI, nI_leI, nI_1, nI_clamp, q_vp, nI_pos', rget_k, rset_k, lget_k, hup_hup]
  refine exB_ok (t := [(.iload_n 2, 1, 0, 0, 0, 0), (.aload_n 0, 1, 0, 0, 0, 0), (.arraylength, 1, 0, 0, 0, 0), (.if_icmp .eq 10, 3, 17, 0, 0, 0)]) (W69_ok G) (jj := fun q L st h o k n => EX G m_Arr_copyRange q L st h o k n Q) (fun q L st h o k n hq => hq) (by decide +kernel) ?_
  simp [exB, hJ, exT, stp, lv_args, Value.category, lkL, stL1, stL2, insL, contX, q_ofNat, f4_3, nI_1, -Int32.not_lt, -Int32.not_le, -Int64.not_lt, -Int64.not_le, T_Arr_copyRange_10, T_Arr_copyRange_17, R_Arr_copyRange, C_Arr_copyRange, M_Arr_copyRange, HH_Arr_copyRange, -Int32.reduceOfInt, -Int8.reduceOfInt, -Int16.reduceOfInt, -Int32.ofInt_neg, O_Arr_copyRange_Arr_copyRangeB, C_Arr_copyRangeB, M_Arr_copyRangeB, W69_Arr_copyRangeB, rx_Arr_copyRangeB, h1, ne]
  try simp (disch := omega) [-Int64.not_lt, -Int64.not_le, -Int32.not_lt, -Int32.not_le, nI_z, nI_ltI, nI_leI, nI_1, nI_clamp, q_vp, nI_pos', rget_k, rset_k, lget_k, hup_hup, h1, ne]
  refine exB_ok (t := [(.aload_n 0, 1, 0, 0, 0, 0), (.iload_n 1, 1, 0, 0, 0, 0), (.iload_n 2, 1, 0, 0, 0, 0), (.invokestatic 339, 3, 188, 0, 3, 0)]) (W69_ok G) (jj := fun q L st h o k n => EX G m_Arr_copyRange q L st h o k n Q) (fun q L st h o k n hq => hq) (by decide +kernel) ?_
  simp [exB, hJ, exT, stp, lv_args, Value.category, lkL, stL1, stL2, insL, contX, q_ofNat, f4_3, nI_1, -Int32.not_lt, -Int32.not_le, -Int64.not_lt, -Int64.not_le, T_Arr_copyRange_10, T_Arr_copyRange_17, R_Arr_copyRange, C_Arr_copyRange, M_Arr_copyRange, HH_Arr_copyRange, -Int32.reduceOfInt, -Int8.reduceOfInt, -Int16.reduceOfInt, -Int32.ofInt_neg, O_Arr_copyRange_Arr_copyRangeB, C_Arr_copyRangeB, M_Arr_copyRangeB, W69_Arr_copyRangeB, rx_Arr_copyRangeB, h1, A_rii, rx_Arr_copyRangeB]
  try simp (disch := omega) [-Int64.not_lt, -Int64.not_le, -Int32.not_lt, -Int32.not_le, nI_z, nI_ltI, nI_leI, nI_1, nI_clamp, q_vp, nI_pos', rget_k, rset_k, lget_k, hup_hup, h1, A_rii, rx_Arr_copyRangeB]
  refine ⟨z, cap, f, n, ⟨rfl, ⟨rfl, rfl⟩, hz, rfl, hn, hc, hf⟩, ?_⟩
  refine exB_ok (t := [(.areturn, 1, 0, 0, 0, 0)]) (W69_ok G) (jj := fun q L st h o k n => EX G m_Arr_copyRange q L st h o k n Q) (fun q L st h o k n hq => hq) (by decide +kernel) ?_
  simp [exB, hJ, exT, stp, lv_args, Value.category, lkL, stL1, stL2, insL, contX, q_ofNat, f4_3, nI_1, -Int32.not_lt, -Int32.not_le, -Int64.not_lt, -Int64.not_le, T_Arr_copyRange_10, T_Arr_copyRange_17, R_Arr_copyRange, C_Arr_copyRange, M_Arr_copyRange, HH_Arr_copyRange, -Int32.reduceOfInt, -Int8.reduceOfInt, -Int16.reduceOfInt, -Int32.ofInt_neg, O_Arr_copyRange_Arr_copyRangeB, C_Arr_copyRangeB, M_Arr_copyRangeB, W69_Arr_copyRangeB, rx_Arr_copyRangeB]
  try simp (disch := omega) [-Int64.not_lt, -Int64.not_le, -Int32.not_lt, -Int32.not_le, nI_z, nI_ltI, nI_leI, nI_1, nI_clamp, q_vp, nI_pos', rget_k, rset_k, lget_k, hup_hup]
  exact hq
end TX
def W70 (G : GG) : WF := (wcons 187 rx_Arr_copyRange (wcons 176 rx_SB_init (wcons 182 rx_SB_length (wcons 181 rx_SB_charAt (W69 G)))))
theorem W70_ok (G : GG) : WOK G (W70 G) := (wcons_ok (fun _ _ _ _ hx => r_Arr_copyRange hx) (wcons_ok (fun _ _ _ _ hx => r_SB_init hx) (wcons_ok (fun _ _ _ _ hx => r_SB_length hx) (wcons_ok (fun _ _ _ _ hx => r_SB_charAt hx) (W69_ok G)))))
def A_rrN (as : List Value) (P : Nat → Nat → Prop) : Prop := match as with | [.ref a, .ref b, .null] => P a b | _ => False
theorem E_rrN {as : List Value} {P : Nat → Nat → Prop} (h : A_rrN as P) : ∃ a b, as = [.ref a, .ref b, .null] ∧ P a b := by
  unfold A_rrN at h; split at h; exact ⟨_, _, rfl, h⟩; exact h.elim
def rx_St_initV (as : List Value) (h : HM) (o : Option Nat) (Q : XQ) : Prop := A_rrN as fun a t => ∃ z b cap f l, (o = some z ∧ h a = some str0 ∧ BLD h t b cap f l ∧ a < z ∧ b < z ∧ t < z ∧ l.length < cap) ∧ ∀ F, (∀ i, i < l.length → F i = l.getD i 0) → Q (.inl none) (hup (hup h z (byA l.length F)) a (strO z)) (some (z + 1))
section TX
variable {G : GG} {as : List Value} {h : HM} {o : Option Nat} {Q : XQ}
theorem HH_St_initV : mHH 172 = [] := rfl
theorem TY_13_1 {v : Int32} : okw (tyC 13 1) (.int v) = (v = 0 ∨ v = 1) := rfl
theorem TY_13_0 {v : Nat} : okw (tyC 13 0) (.ref v) = True := rfl
theorem TY_13_0n : okw (tyC 13 0) (.null) = True := rfl
theorem W70_AB_getValue {G : GG} {as : List Value} {h : HM} {o : Option Nat} {Q : XQ} : RX G (W70 G) 158 as h o Q = rx_AB_getValue as h o Q := rfl
theorem W70_AB_isLatin1 {G : GG} {as : List Value} {h : HM} {o : Option Nat} {Q : XQ} : RX G (W70 G) 159 as h o Q = rx_AB_isLatin1 as h o Q := rfl
theorem W70_SB_length {G : GG} {as : List Value} {h : HM} {o : Option Nat} {Q : XQ} : RX G (W70 G) 182 as h o Q = rx_SB_length as h o Q := rfl
theorem W70_Arr_copyRange {G : GG} {as : List Value} {h : HM} {o : Option Nat} {Q : XQ} : RX G (W70 G) 187 as h o Q = rx_Arr_copyRange as h o Q := rfl
set_option maxRecDepth 2000 in
set_option maxHeartbeats 200000 in
theorem r_St_initV (hx : rx_St_initV as h o Q) : Runs G m_St_initV as h o Q := by
  obtain ⟨a, t, rfl, z, b, cap, f, l, ⟨rfl, h1, ⟨⟨h2, h3⟩, hab, hB⟩, haz, hbz, htz, hlc⟩, hq⟩ := E_rrN hx
  change Nat at a
  obtain ⟨b1, b2, b3, b4⟩ := id hB
  have hat : t ≠ a := fun e => by rw [e, h1] at h2; exact absurd (Option.some.inj h2) (by simp)
  have hba : b ≠ a := fun e => by rw [e, h1] at h3; exact absurd (Option.some.inj h3) (by simp)
  have naz : a ≠ z := Nat.ne_of_lt haz
  have hq := hq (va_cpy f (fun _ => 0) 0 0 l.length) (fun i hi => (sb_cpy0 hi).trans (b4 i hi))
  have h2a : ∀ e, hup h a e t = some (bld b l.length) := fun e => (hup_nq hat).trans h2
  have h3a : ∀ e, hup h a e b = some (byA cap f) := fun e => (hup_nq hba).trans h3
  have hJ : True := trivial
  refine Runs.of (by decide +kernel) (Nat.le_of_ble_eq_true rfl) ?_
  refine exB_ok (t := [(.aload_n 0, 1, 0, 0, 0, 0), (.invokespecial 1, 3, 100000, 0, 0, 0)]) (W70_ok G) (jj := fun q L st h o k n => EX G m_St_initV q L st h o k n Q) (fun q L st h o k n hq => hq) (by decide +kernel) ?_
  simp [exB, hJ, exT, stp, lv_args, Value.category, lkL, stL1, stL2, insL, contX, q_ofNat, f4_3, nI_1, -Int32.not_lt, -Int32.not_le, -Int64.not_lt, -Int64.not_le, T_St_initV_41, T_St_initV_79, T_St_initV_97, R_St_initV, C_St_initV, M_St_initV, HH_St_initV, KI_0, KI_1, -Int32.reduceOfInt, -Int8.reduceOfInt, -Int16.reduceOfInt, -Int32.ofInt_neg, TY_13_1, TY_13_0, TY_13_0n, O_St_initV_AB_getValue, C_AB_getValue, M_AB_getValue, W70_AB_getValue, rx_AB_getValue, O_St_initV_AB_isLatin1, C_AB_isLatin1, M_AB_isLatin1, W70_AB_isLatin1, rx_AB_isLatin1, O_St_initV_SB_length, C_SB_length, M_SB_length, W70_SB_length, rx_SB_length, O_St_initV_Arr_copyRange, C_Arr_copyRange, M_Arr_copyRange, W70_Arr_copyRange, rx_Arr_copyRange]
  try simp (disch := omega) [-Int64.not_lt, -Int64.not_le, -Int32.not_lt, -Int32.not_le, nI_z, nI_ltI, nI_leI, nI_1, nI_clamp, q_vp, nI_pos', rget_k, rset_k, lget_k, hup_hup]
  refine ⟨by decide +kernel, ?_⟩
  refine exB_ok (t := [(.aload_n 1, 1, 0, 0, 0, 0), (.invokevirtual 552, 3, 158, 2, 0, 12)]) (W70_ok G) (jj := fun q L st h o k n => EX G m_St_initV q L st h o k n Q) (fun q L st h o k n hq => hq) (by decide +kernel) ?_
  simp [exB, hJ, exT, stp, lv_args, Value.category, lkL, stL1, stL2, insL, contX, q_ofNat, f4_3, nI_1, -Int32.not_lt, -Int32.not_le, -Int64.not_lt, -Int64.not_le, T_St_initV_41, T_St_initV_79, T_St_initV_97, R_St_initV, C_St_initV, M_St_initV, HH_St_initV, KI_0, KI_1, -Int32.reduceOfInt, -Int8.reduceOfInt, -Int16.reduceOfInt, -Int32.ofInt_neg, TY_13_1, TY_13_0, TY_13_0n, O_St_initV_AB_getValue, C_AB_getValue, M_AB_getValue, W70_AB_getValue, rx_AB_getValue, O_St_initV_AB_isLatin1, C_AB_isLatin1, M_AB_isLatin1, W70_AB_isLatin1, rx_AB_isLatin1, O_St_initV_SB_length, C_SB_length, M_SB_length, W70_SB_length, rx_SB_length, O_St_initV_Arr_copyRange, C_Arr_copyRange, M_Arr_copyRange, W70_Arr_copyRange, rx_Arr_copyRange, h2, A_r, rx_AB_getValue]
  try simp (disch := omega) [-Int64.not_lt, -Int64.not_le, -Int32.not_lt, -Int32.not_le, nI_z, nI_ltI, nI_leI, nI_1, nI_clamp, q_vp, nI_pos', rget_k, rset_k, lget_k, hup_hup, h2, A_r, rx_AB_getValue]
  refine ⟨b, ⟨rfl, l.length, rfl⟩, ?_⟩
  refine exB_ok (t := [(.astore_n 3, 1, 0, 0, 0, 0), (.aload_n 1, 1, 0, 0, 0, 0), (.invokevirtual 549, 3, 182, 2, 0, 12)]) (W70_ok G) (jj := fun q L st h o k n => EX G m_St_initV q L st h o k n Q) (fun q L st h o k n hq => hq) (by decide +kernel) ?_
  simp [exB, hJ, exT, stp, lv_args, Value.category, lkL, stL1, stL2, insL, contX, q_ofNat, f4_3, nI_1, -Int32.not_lt, -Int32.not_le, -Int64.not_lt, -Int64.not_le, T_St_initV_41, T_St_initV_79, T_St_initV_97, R_St_initV, C_St_initV, M_St_initV, HH_St_initV, KI_0, KI_1, -Int32.reduceOfInt, -Int8.reduceOfInt, -Int16.reduceOfInt, -Int32.ofInt_neg, TY_13_1, TY_13_0, TY_13_0n, O_St_initV_AB_getValue, C_AB_getValue, M_AB_getValue, W70_AB_getValue, rx_AB_getValue, O_St_initV_AB_isLatin1, C_AB_isLatin1, M_AB_isLatin1, W70_AB_isLatin1, rx_AB_isLatin1, O_St_initV_SB_length, C_SB_length, M_SB_length, W70_SB_length, rx_SB_length, O_St_initV_Arr_copyRange, C_Arr_copyRange, M_Arr_copyRange, W70_Arr_copyRange, rx_Arr_copyRange, h2, A_r, rx_SB_length]
  try simp (disch := omega) [-Int64.not_lt, -Int64.not_le, -Int32.not_lt, -Int32.not_le, nI_z, nI_ltI, nI_leI, nI_1, nI_clamp, q_vp, nI_pos', rget_k, rset_k, lget_k, hup_hup, h2, A_r, rx_SB_length]
  refine ⟨b, l.length, ⟨rfl, rfl⟩, ?_⟩
  refine exB_ok (t := [(.istore 4, 2, 0, 0, 0, 0), (.aload_n 1, 1, 0, 0, 0, 0), (.invokevirtual 1047, 3, 159, 2, 0, 12)]) (W70_ok G) (jj := fun q L st h o k n => EX G m_St_initV q L st h o k n Q) (fun q L st h o k n hq => hq) (by decide +kernel) ?_
  simp [exB, hJ, exT, stp, lv_args, Value.category, lkL, stL1, stL2, insL, contX, q_ofNat, f4_3, nI_1, -Int32.not_lt, -Int32.not_le, -Int64.not_lt, -Int64.not_le, T_St_initV_41, T_St_initV_79, T_St_initV_97, R_St_initV, C_St_initV, M_St_initV, HH_St_initV, KI_0, KI_1, -Int32.reduceOfInt, -Int8.reduceOfInt, -Int16.reduceOfInt, -Int32.ofInt_neg, TY_13_1, TY_13_0, TY_13_0n, O_St_initV_AB_getValue, C_AB_getValue, M_AB_getValue, W70_AB_getValue, rx_AB_getValue, O_St_initV_AB_isLatin1, C_AB_isLatin1, M_AB_isLatin1, W70_AB_isLatin1, rx_AB_isLatin1, O_St_initV_SB_length, C_SB_length, M_SB_length, W70_SB_length, rx_SB_length, O_St_initV_Arr_copyRange, C_Arr_copyRange, M_Arr_copyRange, W70_Arr_copyRange, rx_Arr_copyRange, h2, A_r, rx_AB_isLatin1]
  try simp (disch := omega) [-Int64.not_lt, -Int64.not_le, -Int32.not_lt, -Int32.not_le, nI_z, nI_ltI, nI_leI, nI_1, nI_clamp, q_vp, nI_pos', rget_k, rset_k, lget_k, hup_hup, h2, A_r, rx_AB_isLatin1]
  refine ⟨⟨l.length, rfl⟩, ?_⟩
  refine exB_ok (t := [(.ifCond .eq 22, 3, 41, 0, 0, 0)]) (W70_ok G) (jj := fun q L st h o k n => EX G m_St_initV q L st h o k n Q) (fun q L st h o k n hq => hq) (by decide +kernel) ?_
  simp [exB, hJ, exT, stp, lv_args, Value.category, lkL, stL1, stL2, insL, contX, q_ofNat, f4_3, nI_1, -Int32.not_lt, -Int32.not_le, -Int64.not_lt, -Int64.not_le, T_St_initV_41, T_St_initV_79, T_St_initV_97, R_St_initV, C_St_initV, M_St_initV, HH_St_initV, KI_0, KI_1, -Int32.reduceOfInt, -Int8.reduceOfInt, -Int16.reduceOfInt, -Int32.ofInt_neg, TY_13_1, TY_13_0, TY_13_0n, O_St_initV_AB_getValue, C_AB_getValue, M_AB_getValue, W70_AB_getValue, rx_AB_getValue, O_St_initV_AB_isLatin1, C_AB_isLatin1, M_AB_isLatin1, W70_AB_isLatin1, rx_AB_isLatin1, O_St_initV_SB_length, C_SB_length, M_SB_length, W70_SB_length, rx_SB_length, O_St_initV_Arr_copyRange, C_Arr_copyRange, M_Arr_copyRange, W70_Arr_copyRange, rx_Arr_copyRange]
  try simp (disch := omega) [-Int64.not_lt, -Int64.not_le, -Int32.not_lt, -Int32.not_le, nI_z, nI_ltI, nI_leI, nI_1, nI_clamp, q_vp, nI_pos', rget_k, rset_k, lget_k, hup_hup]
  refine exB_ok (t := [(.aload_n 0, 1, 0, 0, 0, 0), (.iconst 0, 1, 0, 0, 0, 0), (.putfield 15, 3, 13, 1, 0, 0)]) (W70_ok G) (jj := fun q L st h o k n => EX G m_St_initV q L st h o k n Q) (fun q L st h o k n hq => hq) (by decide +kernel) ?_
  simp [exB, hJ, exT, stp, lv_args, Value.category, lkL, stL1, stL2, insL, contX, q_ofNat, f4_3, nI_1, -Int32.not_lt, -Int32.not_le, -Int64.not_lt, -Int64.not_le, T_St_initV_41, T_St_initV_79, T_St_initV_97, R_St_initV, C_St_initV, M_St_initV, HH_St_initV, KI_0, KI_1, -Int32.reduceOfInt, -Int8.reduceOfInt, -Int16.reduceOfInt, -Int32.ofInt_neg, TY_13_1, TY_13_0, TY_13_0n, O_St_initV_AB_getValue, C_AB_getValue, M_AB_getValue, W70_AB_getValue, rx_AB_getValue, O_St_initV_AB_isLatin1, C_AB_isLatin1, M_AB_isLatin1, W70_AB_isLatin1, rx_AB_isLatin1, O_St_initV_SB_length, C_SB_length, M_SB_length, W70_SB_length, rx_SB_length, O_St_initV_Arr_copyRange, C_Arr_copyRange, M_Arr_copyRange, W70_Arr_copyRange, rx_Arr_copyRange, h1]
  try simp (disch := omega) [-Int64.not_lt, -Int64.not_le, -Int32.not_lt, -Int32.not_le, nI_z, nI_ltI, nI_leI, nI_1, nI_clamp, q_vp, nI_pos', rget_k, rset_k, lget_k, hup_hup, h1]
  refine exB_ok (t := [(.aload_n 0, 1, 0, 0, 0, 0), (.aload_n 3, 1, 0, 0, 0, 0), (.iconst 0, 1, 0, 0, 0, 0), (.iload 4, 2, 0, 0, 0, 0), (.invokestatic 54, 3, 187, 0, 3, 0)]) (W70_ok G) (jj := fun q L st h o k n => EX G m_St_initV q L st h o k n Q) (fun q L st h o k n hq => hq) (by decide +kernel) ?_
  simp [exB, hJ, exT, stp, lv_args, Value.category, lkL, stL1, stL2, insL, contX, q_ofNat, f4_3, nI_1, -Int32.not_lt, -Int32.not_le, -Int64.not_lt, -Int64.not_le, T_St_initV_41, T_St_initV_79, T_St_initV_97, R_St_initV, C_St_initV, M_St_initV, HH_St_initV, KI_0, KI_1, -Int32.reduceOfInt, -Int8.reduceOfInt, -Int16.reduceOfInt, -Int32.ofInt_neg, TY_13_1, TY_13_0, TY_13_0n, O_St_initV_AB_getValue, C_AB_getValue, M_AB_getValue, W70_AB_getValue, rx_AB_getValue, O_St_initV_AB_isLatin1, C_AB_isLatin1, M_AB_isLatin1, W70_AB_isLatin1, rx_AB_isLatin1, O_St_initV_SB_length, C_SB_length, M_SB_length, W70_SB_length, rx_SB_length, O_St_initV_Arr_copyRange, C_Arr_copyRange, M_Arr_copyRange, W70_Arr_copyRange, rx_Arr_copyRange, h3a, A_rii, rx_Arr_copyRange]
  try simp (disch := omega) [-Int64.not_lt, -Int64.not_le, -Int32.not_lt, -Int32.not_le, nI_z, nI_ltI, nI_leI, nI_1, nI_clamp, q_vp, nI_pos', rget_k, rset_k, lget_k, hup_hup, h3a, A_rii, rx_Arr_copyRange]
  refine ⟨z, cap, f, l.length, ⟨rfl, ⟨rfl, rfl⟩, hbz, rfl, hlc, b2, b3⟩, ?_⟩
  refine exB_ok (t := [(.putfield 9, 3, 13, 0, 0, 0), (.goto 59, 3, 97, 0, 0, 0)]) (W70_ok G) (jj := fun q L st h o k n => EX G m_St_initV q L st h o k n Q) (fun q L st h o k n hq => hq) (by decide +kernel) ?_
  simp [exB, hJ, exT, stp, lv_args, Value.category, lkL, stL1, stL2, insL, contX, q_ofNat, f4_3, nI_1, -Int32.not_lt, -Int32.not_le, -Int64.not_lt, -Int64.not_le, T_St_initV_41, T_St_initV_79, T_St_initV_97, R_St_initV, C_St_initV, M_St_initV, HH_St_initV, KI_0, KI_1, -Int32.reduceOfInt, -Int8.reduceOfInt, -Int16.reduceOfInt, -Int32.ofInt_neg, TY_13_1, TY_13_0, TY_13_0n, O_St_initV_AB_getValue, C_AB_getValue, M_AB_getValue, W70_AB_getValue, rx_AB_getValue, O_St_initV_AB_isLatin1, C_AB_isLatin1, M_AB_isLatin1, W70_AB_isLatin1, rx_AB_isLatin1, O_St_initV_SB_length, C_SB_length, M_SB_length, W70_SB_length, rx_SB_length, O_St_initV_Arr_copyRange, C_Arr_copyRange, M_Arr_copyRange, W70_Arr_copyRange, rx_Arr_copyRange, hup_nq naz, hup_at]
  try simp (disch := omega) [-Int64.not_lt, -Int64.not_le, -Int32.not_lt, -Int32.not_le, nI_z, nI_ltI, nI_leI, nI_1, nI_clamp, q_vp, nI_pos', rget_k, rset_k, lget_k, hup_hup, hup_nq naz, hup_at]
  refine exB_ok (t := [(.return_, 1, 0, 0, 0, 0)]) (W70_ok G) (jj := fun q L st h o k n => EX G m_St_initV q L st h o k n Q) (fun q L st h o k n hq => hq) (by decide +kernel) ?_
  simp [exB, hJ, exT, stp, lv_args, Value.category, lkL, stL1, stL2, insL, contX, q_ofNat, f4_3, nI_1, -Int32.not_lt, -Int32.not_le, -Int64.not_lt, -Int64.not_le, T_St_initV_41, T_St_initV_79, T_St_initV_97, R_St_initV, C_St_initV, M_St_initV, HH_St_initV, KI_0, KI_1, -Int32.reduceOfInt, -Int8.reduceOfInt, -Int16.reduceOfInt, -Int32.ofInt_neg, TY_13_1, TY_13_0, TY_13_0n, O_St_initV_AB_getValue, C_AB_getValue, M_AB_getValue, W70_AB_getValue, rx_AB_getValue, O_St_initV_AB_isLatin1, C_AB_isLatin1, M_AB_isLatin1, W70_AB_isLatin1, rx_AB_isLatin1, O_St_initV_SB_length, C_SB_length, M_SB_length, W70_SB_length, rx_SB_length, O_St_initV_Arr_copyRange, C_Arr_copyRange, M_Arr_copyRange, W70_Arr_copyRange, rx_Arr_copyRange]
  try simp (disch := omega) [-Int64.not_lt, -Int64.not_le, -Int32.not_lt, -Int32.not_le, nI_z, nI_ltI, nI_leI, nI_1, nI_clamp, q_vp, nI_pos', rget_k, rset_k, lget_k, hup_hup]
  rw [hup_ba2 (Ne.symm naz), hup_swap naz]
  exact hq
end TX
def W71 (G : GG) : WF := (wcons 172 rx_St_initV (W70 G))
theorem W71_ok (G : GG) : WOK G (W71 G) := (wcons_ok (fun _ _ _ _ hx => r_St_initV hx) (W70_ok G))
def rx_St_init (as : List Value) (h : HM) (o : Option Nat) (Q : XQ) : Prop := A_rr as fun a t => ∃ z b cap f l, (o = some z ∧ h a = some str0 ∧ BLD h t b cap f l ∧ a < z ∧ b < z ∧ t < z ∧ l.length < cap) ∧ ∀ F, (∀ i, i < l.length → F i = l.getD i 0) → Q (.inl none) (hup (hup h z (byA l.length F)) a (strO z)) (some (z + 1))
section TX
variable {G : GG} {as : List Value} {h : HM} {o : Option Nat} {Q : XQ}
theorem HH_St_init : mHH 168 = [] := rfl
theorem W71_St_initV {G : GG} {as : List Value} {h : HM} {o : Option Nat} {Q : XQ} : RX G (W71 G) 172 as h o Q = rx_St_initV as h o Q := rfl
set_option maxRecDepth 2000 in
set_option maxHeartbeats 200000 in
theorem r_St_init (hx : rx_St_init as h o Q) : Runs G m_St_init as h o Q := by
  obtain ⟨a, t, rfl, z, b, cap, f, l, ⟨rfl, h1, hB, haz, hbz, htz, hlc⟩, hq⟩ := E_rr hx
  change Nat at a
  have hJ : True := trivial
  refine Runs.of (by decide +kernel) (Nat.le_of_ble_eq_true rfl) ?_
  refine exB_ok (t := [(.aload_n 0, 1, 0, 0, 0, 0), (.aload_n 1, 1, 0, 0, 0, 0), (.aconst_null, 1, 0, 0, 0, 0), (.invokespecial 489, 3, 172, 0, 2, 0)]) (W71_ok G) (jj := fun q L st h o k n => EX G m_St_init q L st h o k n Q) (fun q L st h o k n hq => hq) (by decide +kernel) ?_
  simp [exB, hJ, exT, stp, lv_args, Value.category, lkL, stL1, stL2, insL, contX, q_ofNat, f4_3, nI_1, -Int32.not_lt, -Int32.not_le, -Int64.not_lt, -Int64.not_le, R_St_init, C_St_init, M_St_init, HH_St_init, -Int32.reduceOfInt, -Int8.reduceOfInt, -Int16.reduceOfInt, -Int32.ofInt_neg, O_St_init_St_initV, C_St_initV, M_St_initV, W71_St_initV, rx_St_initV, A_rrN, rx_St_initV]
  try simp (disch := omega) [-Int64.not_lt, -Int64.not_le, -Int32.not_lt, -Int32.not_le, nI_z, nI_ltI, nI_leI, nI_1, nI_clamp, q_vp, nI_pos', rget_k, rset_k, lget_k, hup_hup, A_rrN, rx_St_initV]
  refine ⟨z, b, cap, f, l, ⟨rfl, h1, hB, haz, hbz, htz, hlc⟩, fun F hF => ?_⟩
  show EX G m_St_init 6 _ _ _ _ _ _ _
  have hq := hq F hF
  refine exB_ok (t := [(.return_, 1, 0, 0, 0, 0)]) (W71_ok G) (jj := fun q L st h o k n => EX G m_St_init q L st h o k n Q) (fun q L st h o k n hq => hq) (by decide +kernel) ?_
  simp [exB, hJ, exT, stp, lv_args, Value.category, lkL, stL1, stL2, insL, contX, q_ofNat, f4_3, nI_1, -Int32.not_lt, -Int32.not_le, -Int64.not_lt, -Int64.not_le, R_St_init, C_St_init, M_St_init, HH_St_init, -Int32.reduceOfInt, -Int8.reduceOfInt, -Int16.reduceOfInt, -Int32.ofInt_neg, O_St_init_St_initV, C_St_initV, M_St_initV, W71_St_initV, rx_St_initV]
  try simp (disch := omega) [-Int64.not_lt, -Int64.not_le, -Int32.not_lt, -Int32.not_le, nI_z, nI_ltI, nI_leI, nI_1, nI_clamp, q_vp, nI_pos', rget_k, rset_k, lget_k, hup_hup]
  exact hq
end TX
def W72 (G : GG) : WF := (wcons 168 rx_St_init (W71 G))
theorem W72_ok (G : GG) : WOK G (W72 G) := (wcons_ok (fun _ _ _ _ hx => r_St_init hx) (W71_ok G))
def rx_SB_toString (as : List Value) (h : HM) (o : Option Nat) (Q : XQ) : Prop := A_r as fun t => ∃ z b cap f l, (o = some z ∧ BLD h t b cap f l ∧ b < z ∧ t < z ∧ l.length < cap) ∧ ∀ F, (∀ i, i < l.length → F i = l.getD i 0) → Q (.inl (some (.ref z))) (hup (hup h (z + 1) (byA l.length F)) z (strO (z + 1))) (some (z + 2))
section TX
variable {G : GG} {as : List Value} {h : HM} {o : Option Nat} {Q : XQ}
theorem HH_SB_toString : mHH 180 = [] := rfl
theorem W72_St_init {G : GG} {as : List Value} {h : HM} {o : Option Nat} {Q : XQ} : RX G (W72 G) 168 as h o Q = rx_St_init as h o Q := rfl
set_option maxRecDepth 2000 in
set_option maxHeartbeats 200000 in
theorem r_SB_toString (hx : rx_SB_toString as h o Q) : Runs G m_SB_toString as h o Q := by
  obtain ⟨t, rfl, z, b, cap, f, l, ⟨rfl, ⟨⟨h2, h3⟩, hab, hB⟩, hbz, htz, hlc⟩, hq⟩ := E_r hx
  change Nat at t
  have ntz : t ≠ z := Nat.ne_of_lt htz
  have nbz : b ≠ z := Nat.ne_of_lt hbz
  have hJ : True := trivial
  refine Runs.of (by decide +kernel) (Nat.le_of_ble_eq_true rfl) ?_
  refine exB_ok (t := [(.new 18, 3, 13, 0, 0, 0)]) (W72_ok G) (jj := fun q L st h o k n => EX G m_SB_toString q L st h o k n Q) (fun q L st h o k n hq => hq) (by decide +kernel) ?_
  simp [exB, hJ, exT, stp, lv_args, Value.category, lkL, stL1, stL2, insL, contX, q_ofNat, f4_3, nI_1, -Int32.not_lt, -Int32.not_le, -Int64.not_lt, -Int64.not_le, R_SB_toString, C_SB_toString, M_SB_toString, HH_SB_toString, -Int32.reduceOfInt, -Int8.reduceOfInt, -Int16.reduceOfInt, -Int32.ofInt_neg, O_SB_toString_St_init, C_St_init, M_St_init, W72_St_init, rx_St_init, dfl, nFl]
  try simp (disch := omega) [-Int64.not_lt, -Int64.not_le, -Int32.not_lt, -Int32.not_le, nI_z, nI_ltI, nI_leI, nI_1, nI_clamp, q_vp, nI_pos', rget_k, rset_k, lget_k, hup_hup, dfl, nFl]
  have r1 : roomOK m_SB_toString 168 1 4 = true := by decide +kernel
  refine exB_ok (t := [(.dup, 1, 0, 0, 0, 0), (.aload_n 0, 1, 0, 0, 0, 0), (.invokespecial 137, 3, 168, 0, 1, 0)]) (W72_ok G) (jj := fun q L st h o k n => EX G m_SB_toString q L st h o k n Q) (fun q L st h o k n hq => hq) (by decide +kernel) ?_
  simp [exB, hJ, exT, stp, lv_args, Value.category, lkL, stL1, stL2, insL, contX, q_ofNat, f4_3, nI_1, -Int32.not_lt, -Int32.not_le, -Int64.not_lt, -Int64.not_le, R_SB_toString, C_SB_toString, M_SB_toString, HH_SB_toString, -Int32.reduceOfInt, -Int8.reduceOfInt, -Int16.reduceOfInt, -Int32.ofInt_neg, O_SB_toString_St_init, C_St_init, M_St_init, W72_St_init, rx_St_init, A_rr, rx_St_init, r1]
  try simp (disch := omega) [-Int64.not_lt, -Int64.not_le, -Int32.not_lt, -Int32.not_le, nI_z, nI_ltI, nI_leI, nI_1, nI_clamp, q_vp, nI_pos', rget_k, rset_k, lget_k, hup_hup, A_rr, rx_St_init, r1]
  refine ⟨z + 1, b, cap, f, l, ⟨rfl, hup_at _ _ _, ⟨⟨(hup_nq ntz).trans h2, (hup_nq nbz).trans h3⟩, hab, hB⟩, by omega, by omega, by omega, hlc⟩, fun F hF => ?_⟩
  show EX G m_SB_toString 8 _ _ _ _ _ _ _
  have hq := hq F hF
  rw [hup_ba2 (show z + 1 ≠ z by omega), hup_swap (show z ≠ z + 1 by omega)]
  refine exB_ok (t := [(.areturn, 1, 0, 0, 0, 0)]) (W72_ok G) (jj := fun q L st h o k n => EX G m_SB_toString q L st h o k n Q) (fun q L st h o k n hq => hq) (by decide +kernel) ?_
  simp [exB, hJ, exT, stp, lv_args, Value.category, lkL, stL1, stL2, insL, contX, q_ofNat, f4_3, nI_1, -Int32.not_lt, -Int32.not_le, -Int64.not_lt, -Int64.not_le, R_SB_toString, C_SB_toString, M_SB_toString, HH_SB_toString, -Int32.reduceOfInt, -Int8.reduceOfInt, -Int16.reduceOfInt, -Int32.ofInt_neg, O_SB_toString_St_init, C_St_init, M_St_init, W72_St_init, rx_St_init]
  try simp (disch := omega) [-Int64.not_lt, -Int64.not_le, -Int32.not_lt, -Int32.not_le, nI_z, nI_ltI, nI_leI, nI_1, nI_clamp, q_vp, nI_pos', rget_k, rset_k, lget_k, hup_hup]
  exact hq
end TX
def W73 (G : GG) : WF := (wcons 180 rx_SB_toString (W72 G))
theorem W73_ok (G : GG) : WOK G (W73 G) := (wcons_ok (fun _ _ _ _ hx => r_SB_toString hx) (W72_ok G))
