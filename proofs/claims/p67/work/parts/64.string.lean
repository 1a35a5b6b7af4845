/-! 64: texts: constants and strings of the heap -/
def txL (k : Nat) : List Int32 := (TEXTS[k]?).getD []
def txC (k j : Nat) : Int32 := ((txL k)[j]?.getD 0) &&& 255
theorem tx_small : TEXTS.all (fun l => decide (l.length < 1000) && l.all fun b => decide (0 ≤ b ∧ b < 128)) = true := by decide +kernel
theorem tx_len {k : Nat} (hk : k < TEXTS.length) : (txL k).length < 1000 := by
  have h := List.all_eq_true.mp tx_small (TEXTS[k]) (List.getElem_mem hk)
  unfold txL
  rw [List.getElem?_eq_getElem hk]
  simp only [Bool.and_eq_true, decide_eq_true_eq] at h
  exact h.1
theorem sh_0 (x : Int32) : x >>> ((0 : Int32) &&& 31) = x := by
  refine b_ext fun i hi => ?_
  rw [show (0 : Int32) = nI 0 from rfl, b_sshr 0 (by decide) x hi, if_pos (by omega), Nat.zero_add]
theorem tx_cn (x : Int32) : ∃ n, n < 256 ∧ x &&& 255 = nI n := by
  obtain ⟨n, hn, e⟩ := wb_of32 x
  exact ⟨n % 256, Nat.mod_lt _ (by decide), by rw [e]; exact fa_mask n 8⟩
theorem tx_d1 : ∀ n, n < 256 → ((nI n).toUInt32 % 65536).toInt32 = nI n ∧ narrow .char (.int (nI n)) = .int (nI n) := by decide +kernel
theorem tx_c (x : Int32) : ((x &&& 255).toUInt32 % 65536).toInt32 = x &&& 255 := by
  obtain ⟨n, hn, e⟩ := tx_cn x
  rw [e]
  exact (tx_d1 n hn).1
theorem tx_n (x : Int32) : narrow .char (.int (x &&& 255)) = .int (x &&& 255) := by
  obtain ⟨n, hn, e⟩ := tx_cn x
  rw [e]
  exact (tx_d1 n hn).2
/-- the text at a: its length, its bytes -/
def STR (G : GG) (h : HM) (a len : Nat) (f : Nat → Int32) : Prop := (∃ k, k < TEXTS.length ∧ a = gS G k ∧ len = (txL k).length ∧ f = fun j => (txL k)[j]?.getD 0) ∨ (∃ b fs, h a = some (.inr (13, .ref b :: .int 0 :: fs)) ∧ h b = some (.inl (3, len, .inl f)))
def BYT (G : GG) (h : HM) (b len : Nat) (f : Nat → Int32) : Prop := (∃ k, k < TEXTS.length ∧ b = gS G (100 + k) ∧ len = (txL k).length ∧ f = fun j => (txL k)[j]?.getD 0) ∨ h b = some (.inl (3, len, .inl f))
def A_iiv (as : List Value) (P : Int32 → Int32 → Prop) : Prop := match as with | [.int i, .int n, v] => (v = .null ∨ ∃ t, v = .ref t) ∧ P i n | _ => False
theorem E_iiv {as : List Value} {P : Int32 → Int32 → Prop} (h : A_iiv as P) : ∃ i n v, as = [.int i, .int n, v] ∧ (v = .null ∨ ∃ t, v = .ref t) ∧ P i n := by
  unfold A_iiv at h; split at h; exact ⟨_, _, _, rfl, h⟩; exact h.elim
def rx_St_isLatin1 (G : GG) (as : List Value) (h : HM) (o : Option Nat) (Q : XQ) : Prop := A_r as fun a => ∃ len f, STR G h a len f ∧ Q (.inl (some (.int 1))) h o
def rx_St_coder (G : GG) (as : List Value) (h : HM) (o : Option Nat) (Q : XQ) : Prop := A_r as fun a => ∃ len f, STR G h a len f ∧ Q (.inl (some (.int 0))) h o
def rx_St_length (G : GG) (as : List Value) (h : HM) (o : Option Nat) (Q : XQ) : Prop := A_r as fun a => ∃ len f, STR G h a len f ∧ Q (.inl (some (.int (nI len)))) h o
def rx_Pre_checkIndex (as : List Value) (h : HM) (o : Option Nat) (Q : XQ) : Prop := A_iiv as fun i n => (¬ i < 0 ∧ i < n) ∧ Q (.inl (some (.int i))) h o
def rx_St_checkIndex (as : List Value) (h : HM) (o : Option Nat) (Q : XQ) : Prop := A_ii as fun i n => (¬ i < 0 ∧ i < n) ∧ Q (.inl none) h o
def rx_L1_charAt (G : GG) (as : List Value) (h : HM) (o : Option Nat) (Q : XQ) : Prop := A_ri as fun b j => ∃ len f, (BYT G h b len f ∧ vp_in j len ∧ len < 2147483648) ∧ Q (.inl (some (.int (f j.toNatClampNeg &&& 255)))) h o
def rx_St_charAt (G : GG) (as : List Value) (h : HM) (o : Option Nat) (Q : XQ) : Prop := A_ri as fun a j => ∃ len f, (STR G h a len f ∧ vp_in j len ∧ len < 2147483648) ∧ Q (.inl (some (.int (f j.toNatClampNeg &&& 255)))) h o
theorem vp_lt {j : Int32} {n : Nat} (h : vp_in j n) (hn : n < 2147483648) : ¬ j < 0 ∧ j < nI n := by
  have h1 : ¬ j < 0 := fun e => h (Or.inl e)
  refine ⟨h1, ?_⟩
  have e := q_nI_of (Int32.not_lt.mp h1)
  rw [← e]
  exact nI_lt (Nat.lt_of_not_le fun q => h (Or.inr q)) hn
section ST0
variable {G : GG} {as : List Value} {h : HM} {o : Option Nat} {Q : XQ}
theorem HH_St_isLatin1 : mHH 174 = [] := rfl
set_option maxRecDepth 2000 in
set_option maxHeartbeats 200000 in
theorem r_St_isLatin1 (hx : rx_St_isLatin1 G as h o Q) : Runs G m_St_isLatin1 as h o Q := by
  obtain ⟨a, rfl, len, f, hs, hq⟩ := E_r hx
  have hJ : True := trivial
  refine Runs.of (by decide +kernel) (Nat.le_of_ble_eq_true rfl) ?_
  refine exB_ok (t := [(.getstatic 38, 3, 0, 1, 0, 0), (.ifCond .eq 14, 3, 17, 0, 0, 0), (.aload_n 0, 1, 0, 0, 0, 0)]) (W13_ok G) (jj := fun q L st h o k n => EX G m_St_isLatin1 q L st h o k n Q) (fun q L st h o k n hq => hq) (by decide +kernel) ?_
  simp [exB, hJ, exT, stp, lv_args, Value.category, lkL, stL1, stL2, insL, contX, q_ofNat, f4_3, nI_1, -Int32.not_lt, -Int32.not_le, -Int64.not_lt, -Int64.not_le, T_St_isLatin1_17, T_St_isLatin1_18, R_St_isLatin1, C_St_isLatin1, M_St_isLatin1, HH_St_isLatin1, KI_1, KI_0, -Int32.reduceOfInt, -Int8.reduceOfInt, -Int16.reduceOfInt, -Int32.ofInt_neg]
  try simp (disch := omega) [-Int64.not_lt, -Int64.not_le, -Int32.not_lt, -Int32.not_le, nI_z, nI_ltI, nI_leI, nI_1, nI_clamp, q_vp, nI_pos', rget_k, rset_k, lget_k, hup_hup]
  rcases hs with ⟨k, hk, rfl, -, -⟩ | ⟨b, fs, hb, -⟩
  · refine s_getfC (idx := 15) hk (by decide +kernel) (by decide +kernel) ?_
    refine exB_ok (t := [(.ifCond .ne 7, 3, 17, 0, 0, 0), (.iconst 1, 1, 0, 0, 0, 0), (.goto 4, 3, 18, 0, 0, 0)]) (W13_ok G) (jj := fun q L st h o k n => EX G m_St_isLatin1 q L st h o k n Q) (fun q L st h o k n hq => hq) (by decide +kernel) ?_
    simp [exB, hJ, exT, stp, lv_args, Value.category, lkL, stL1, stL2, insL, contX, q_ofNat, f4_3, nI_1, -Int32.not_lt, -Int32.not_le, -Int64.not_lt, -Int64.not_le, T_St_isLatin1_17, T_St_isLatin1_18, R_St_isLatin1, C_St_isLatin1, M_St_isLatin1, HH_St_isLatin1, KI_1, KI_0, -Int32.reduceOfInt, -Int8.reduceOfInt, -Int16.reduceOfInt, -Int32.ofInt_neg]
    try simp (disch := omega) [-Int64.not_lt, -Int64.not_le, -Int32.not_lt, -Int32.not_le, nI_z, nI_ltI, nI_leI, nI_1, nI_clamp, q_vp, nI_pos', rget_k, rset_k, lget_k, hup_hup]
    refine exB_ok (t := [(.ireturn, 1, 0, 0, 0, 0)]) (W13_ok G) (jj := fun q L st h o k n => EX G m_St_isLatin1 q L st h o k n Q) (fun q L st h o k n hq => hq) (by decide +kernel) ?_
    simp [exB, hJ, exT, stp, lv_args, Value.category, lkL, stL1, stL2, insL, contX, q_ofNat, f4_3, nI_1, -Int32.not_lt, -Int32.not_le, -Int64.not_lt, -Int64.not_le, T_St_isLatin1_17, T_St_isLatin1_18, R_St_isLatin1, C_St_isLatin1, M_St_isLatin1, HH_St_isLatin1, KI_1, KI_0, -Int32.reduceOfInt, -Int8.reduceOfInt, -Int16.reduceOfInt, -Int32.ofInt_neg]
    try simp (disch := omega) [-Int64.not_lt, -Int64.not_le, -Int32.not_lt, -Int32.not_le, nI_z, nI_ltI, nI_leI, nI_1, nI_clamp, q_vp, nI_pos', rget_k, rset_k, lget_k, hup_hup]
    exact hq
  · refine exB_ok (t := [(.getfield 15, 3, 13, 1, 0, 0), (.ifCond .ne 7, 3, 17, 0, 0, 0), (.iconst 1, 1, 0, 0, 0, 0), (.goto 4, 3, 18, 0, 0, 0)]) (W13_ok G) (jj := fun q L st h o k n => EX G m_St_isLatin1 q L st h o k n Q) (fun q L st h o k n hq => hq) (by decide +kernel) ?_
    simp [exB, hJ, exT, stp, lv_args, Value.category, lkL, stL1, stL2, insL, contX, q_ofNat, f4_3, nI_1, -Int32.not_lt, -Int32.not_le, -Int64.not_lt, -Int64.not_le, T_St_isLatin1_17, T_St_isLatin1_18, R_St_isLatin1, C_St_isLatin1, M_St_isLatin1, HH_St_isLatin1, KI_1, KI_0, -Int32.reduceOfInt, -Int8.reduceOfInt, -Int16.reduceOfInt, -Int32.ofInt_neg, hb]
    try simp (disch := omega) [-Int64.not_lt, -Int64.not_le, -Int32.not_lt, -Int32.not_le, nI_z, nI_ltI, nI_leI, nI_1, nI_clamp, q_vp, nI_pos', rget_k, rset_k, lget_k, hup_hup, hb]
    refine exB_ok (t := [(.ireturn, 1, 0, 0, 0, 0)]) (W13_ok G) (jj := fun q L st h o k n => EX G m_St_isLatin1 q L st h o k n Q) (fun q L st h o k n hq => hq) (by decide +kernel) ?_
    simp [exB, hJ, exT, stp, lv_args, Value.category, lkL, stL1, stL2, insL, contX, q_ofNat, f4_3, nI_1, -Int32.not_lt, -Int32.not_le, -Int64.not_lt, -Int64.not_le, T_St_isLatin1_17, T_St_isLatin1_18, R_St_isLatin1, C_St_isLatin1, M_St_isLatin1, HH_St_isLatin1, KI_1, KI_0, -Int32.reduceOfInt, -Int8.reduceOfInt, -Int16.reduceOfInt, -Int32.ofInt_neg]
    try simp (disch := omega) [-Int64.not_lt, -Int64.not_le, -Int32.not_lt, -Int32.not_le, nI_z, nI_ltI, nI_leI, nI_1, nI_clamp, q_vp, nI_pos', rget_k, rset_k, lget_k, hup_hup]
    exact hq
theorem HH_St_coder : mHH 173 = [] := rfl
set_option maxRecDepth 2000 in
set_option maxHeartbeats 200000 in
theorem r_St_coder (hx : rx_St_coder G as h o Q) : Runs G m_St_coder as h o Q := by
  obtain ⟨a, rfl, len, f, hs, hq⟩ := E_r hx
  have hJ : True := trivial
  refine Runs.of (by decide +kernel) (Nat.le_of_ble_eq_true rfl) ?_
  refine exB_ok (t := [(.getstatic 38, 3, 0, 1, 0, 0), (.ifCond .eq 10, 3, 13, 0, 0, 0), (.aload_n 0, 1, 0, 0, 0, 0)]) (W13_ok G) (jj := fun q L st h o k n => EX G m_St_coder q L st h o k n Q) (fun q L st h o k n hq => hq) (by decide +kernel) ?_
  simp [exB, hJ, exT, stp, lv_args, Value.category, lkL, stL1, stL2, insL, contX, q_ofNat, f4_3, nI_1, -Int32.not_lt, -Int32.not_le, -Int64.not_lt, -Int64.not_le, T_St_coder_13, T_St_coder_14, R_St_coder, C_St_coder, M_St_coder, HH_St_coder, KI_1, -Int32.reduceOfInt, -Int8.reduceOfInt, -Int16.reduceOfInt, -Int32.ofInt_neg]
  try simp (disch := omega) [-Int64.not_lt, -Int64.not_le, -Int32.not_lt, -Int32.not_le, nI_z, nI_ltI, nI_leI, nI_1, nI_clamp, q_vp, nI_pos', rget_k, rset_k, lget_k, hup_hup]
  rcases hs with ⟨k, hk, rfl, -, -⟩ | ⟨b, fs, hb, -⟩
  · refine s_getfC (idx := 15) hk (by decide +kernel) (by decide +kernel) ?_
    refine exB_ok (t := [(.goto 4, 3, 14, 0, 0, 0)]) (W13_ok G) (jj := fun q L st h o k n => EX G m_St_coder q L st h o k n Q) (fun q L st h o k n hq => hq) (by decide +kernel) ?_
    simp [exB, hJ, exT, stp, lv_args, Value.category, lkL, stL1, stL2, insL, contX, q_ofNat, f4_3, nI_1, -Int32.not_lt, -Int32.not_le, -Int64.not_lt, -Int64.not_le, T_St_coder_13, T_St_coder_14, R_St_coder, C_St_coder, M_St_coder, HH_St_coder, KI_1, -Int32.reduceOfInt, -Int8.reduceOfInt, -Int16.reduceOfInt, -Int32.ofInt_neg]
    try simp (disch := omega) [-Int64.not_lt, -Int64.not_le, -Int32.not_lt, -Int32.not_le, nI_z, nI_ltI, nI_leI, nI_1, nI_clamp, q_vp, nI_pos', rget_k, rset_k, lget_k, hup_hup]
    refine exB_ok (t := [(.ireturn, 1, 0, 0, 0, 0)]) (W13_ok G) (jj := fun q L st h o k n => EX G m_St_coder q L st h o k n Q) (fun q L st h o k n hq => hq) (by decide +kernel) ?_
    simp [exB, hJ, exT, stp, lv_args, Value.category, lkL, stL1, stL2, insL, contX, q_ofNat, f4_3, nI_1, -Int32.not_lt, -Int32.not_le, -Int64.not_lt, -Int64.not_le, T_St_coder_13, T_St_coder_14, R_St_coder, C_St_coder, M_St_coder, HH_St_coder, KI_1, -Int32.reduceOfInt, -Int8.reduceOfInt, -Int16.reduceOfInt, -Int32.ofInt_neg]
    try simp (disch := omega) [-Int64.not_lt, -Int64.not_le, -Int32.not_lt, -Int32.not_le, nI_z, nI_ltI, nI_leI, nI_1, nI_clamp, q_vp, nI_pos', rget_k, rset_k, lget_k, hup_hup]
    exact ⟨rfl, hq⟩
  · refine exB_ok (t := [(.getfield 15, 3, 13, 1, 0, 0), (.goto 4, 3, 14, 0, 0, 0)]) (W13_ok G) (jj := fun q L st h o k n => EX G m_St_coder q L st h o k n Q) (fun q L st h o k n hq => hq) (by decide +kernel) ?_
    simp [exB, hJ, exT, stp, lv_args, Value.category, lkL, stL1, stL2, insL, contX, q_ofNat, f4_3, nI_1, -Int32.not_lt, -Int32.not_le, -Int64.not_lt, -Int64.not_le, T_St_coder_13, T_St_coder_14, R_St_coder, C_St_coder, M_St_coder, HH_St_coder, KI_1, -Int32.reduceOfInt, -Int8.reduceOfInt, -Int16.reduceOfInt, -Int32.ofInt_neg, hb]
    try simp (disch := omega) [-Int64.not_lt, -Int64.not_le, -Int32.not_lt, -Int32.not_le, nI_z, nI_ltI, nI_leI, nI_1, nI_clamp, q_vp, nI_pos', rget_k, rset_k, lget_k, hup_hup, hb]
    refine exB_ok (t := [(.ireturn, 1, 0, 0, 0, 0)]) (W13_ok G) (jj := fun q L st h o k n => EX G m_St_coder q L st h o k n Q) (fun q L st h o k n hq => hq) (by decide +kernel) ?_
    simp [exB, hJ, exT, stp, lv_args, Value.category, lkL, stL1, stL2, insL, contX, q_ofNat, f4_3, nI_1, -Int32.not_lt, -Int32.not_le, -Int64.not_lt, -Int64.not_le, T_St_coder_13, T_St_coder_14, R_St_coder, C_St_coder, M_St_coder, HH_St_coder, KI_1, -Int32.reduceOfInt, -Int8.reduceOfInt, -Int16.reduceOfInt, -Int32.ofInt_neg]
    try simp (disch := omega) [-Int64.not_lt, -Int64.not_le, -Int32.not_lt, -Int32.not_le, nI_z, nI_ltI, nI_leI, nI_1, nI_clamp, q_vp, nI_pos', rget_k, rset_k, lget_k, hup_hup]
    exact ⟨rfl, hq⟩
theorem HH_Pre_checkIndex : mHH 190 = [] := rfl
set_option maxRecDepth 2000 in
set_option maxHeartbeats 200000 in
theorem r_Pre_checkIndex (hx : rx_Pre_checkIndex as h o Q) : Runs G m_Pre_checkIndex as h o Q := by
  obtain ⟨i, n, v, rfl, hv, ⟨h1, h2⟩, hq⟩ := E_iiv hx
  have h3 : ¬ n ≤ i := Int32.not_le.mpr h2
  rcases hv with rfl | ⟨t, rfl⟩
  · refine Runs.of (by decide +kernel) (Nat.le_of_ble_eq_true rfl) (X_Pre_checkIndex_0 (W13_ok G) (genJ (P := fun J => exB _ _ _ _ (J 40) _ _ _ _ _ _ _ _) (fun J hJ => ?_)))
    simp [exB, hJ, exT, stp, lv_args, Value.category, lkL, stL1, stL2, insL, contX, q_ofNat, f4_3, nI_1, -Int32.not_lt, -Int32.not_le, -Int64.not_lt, -Int64.not_le, T_Pre_checkIndex_9, T_Pre_checkIndex_16, R_Pre_checkIndex, C_Pre_checkIndex, M_Pre_checkIndex, HH_Pre_checkIndex, -Int32.reduceOfInt, -Int8.reduceOfInt, -Int16.reduceOfInt, -Int32.ofInt_neg, h1, h2, h3]
    try simp (disch := omega) [-Int64.not_lt, -Int64.not_le, -Int32.not_lt, -Int32.not_le, nI_z, nI_ltI, nI_leI, nI_1, nI_clamp, q_vp, nI_pos', rget_k, rset_k, lget_k, hup_hup, h1, h2, h3]
    exact hq
  · refine Runs.of (by decide +kernel) (Nat.le_of_ble_eq_true rfl) (X_Pre_checkIndex_0 (W13_ok G) (genJ (P := fun J => exB _ _ _ _ (J 40) _ _ _ _ _ _ _ _) (fun J hJ => ?_)))
    simp [exB, hJ, exT, stp, lv_args, Value.category, lkL, stL1, stL2, insL, contX, q_ofNat, f4_3, nI_1, -Int32.not_lt, -Int32.not_le, -Int64.not_lt, -Int64.not_le, T_Pre_checkIndex_9, T_Pre_checkIndex_16, R_Pre_checkIndex, C_Pre_checkIndex, M_Pre_checkIndex, HH_Pre_checkIndex, -Int32.reduceOfInt, -Int8.reduceOfInt, -Int16.reduceOfInt, -Int32.ofInt_neg, h1, h2, h3]
    try simp (disch := omega) [-Int64.not_lt, -Int64.not_le, -Int32.not_lt, -Int32.not_le, nI_z, nI_ltI, nI_leI, nI_1, nI_clamp, q_vp, nI_pos', rget_k, rset_k, lget_k, hup_hup, h1, h2, h3]
    exact hq
end ST0
def W14 (G : GG) : WF := (wcons 190 rx_Pre_checkIndex (wcons 173 (rx_St_coder G) (wcons 174 (rx_St_isLatin1 G) (W13 G))))
theorem W14_ok (G : GG) : WOK G (W14 G) := (wcons_ok (fun _ _ _ _ hx => r_Pre_checkIndex hx) (wcons_ok (fun _ _ _ _ hx => r_St_coder hx) (wcons_ok (fun _ _ _ _ hx => r_St_isLatin1 hx) (W13_ok G))))
section ST1
variable {G : GG} {as : List Value} {h : HM} {o : Option Nat} {Q : XQ}
theorem HH_St_checkIndex : mHH 175 = [] := rfl
theorem W14_Pre_checkIndex {G : GG} {as : List Value} {h : HM} {o : Option Nat} {Q : XQ} : RX G (W14 G) 190 as h o Q = rx_Pre_checkIndex as h o Q := rfl
set_option maxRecDepth 2000 in
set_option maxHeartbeats 200000 in
theorem r_St_checkIndex (hx : rx_St_checkIndex as h o Q) : Runs G m_St_checkIndex as h o Q := by
  obtain ⟨i, n, rfl, ⟨h1, h2⟩, hq⟩ := E_ii hx
  refine Runs.of (by decide +kernel) (Nat.le_of_ble_eq_true rfl) (X_St_checkIndex_0 (W14_ok G) (genJ (P := fun J => exB _ _ _ _ (J 40) _ _ _ _ _ _ _ _) (fun J hJ => ?_)))
  simp [exB, hJ, exT, stp, lv_args, Value.category, lkL, stL1, stL2, insL, contX, q_ofNat, f4_3, nI_1, -Int32.not_lt, -Int32.not_le, -Int64.not_lt, -Int64.not_le, R_St_checkIndex, C_St_checkIndex, M_St_checkIndex, HH_St_checkIndex, -Int32.reduceOfInt, -Int8.reduceOfInt, -Int16.reduceOfInt, -Int32.ofInt_neg, O_St_checkIndex_Pre_checkIndex, C_Pre_checkIndex, M_Pre_checkIndex, W14_Pre_checkIndex, rx_Pre_checkIndex, A_iiv]
  try simp (disch := omega) [-Int64.not_lt, -Int64.not_le, -Int32.not_lt, -Int32.not_le, nI_z, nI_ltI, nI_leI, nI_1, nI_clamp, q_vp, nI_pos', rget_k, rset_k, lget_k, hup_hup, A_iiv]
  exact ⟨⟨h1, h2⟩, hq⟩
end ST1
def W15 (G : GG) : WF := (wcons 175 rx_St_checkIndex (W14 G))
theorem W15_ok (G : GG) : WOK G (W15 G) := (wcons_ok (fun _ _ _ _ hx => r_St_checkIndex hx) (W14_ok G))
/-- a byte of a text constant -/
theorem s_tb {G : GG} {i pc : Nat} {L : List (Nat × Value)} {st : List Value} {h : HM} {o : Option Nat} {k n : Nat} {Q : XQ} {tk : Nat} {j : Int32} (htk : tk < TEXTS.length) (hd : decode (mC i) pc = .ok (.baload, 1)) (hin : vp_in j (txL tk).length) (kk : EX G i (pc + 1) L (.int ((txL tk)[j.toNatClampNeg]?.getD 0) :: st) h o k n Q) : EX G i pc L (.int j :: .ref (gS G (100 + tk)) :: st) h o k n Q := by
  intro p l e s m args below meth c H locs ls C hl hR hS
  exact va_tb C.1 C.2.1 (C.2.2.2.2.2.2.2.2.2.1.2.2.2.2.2.2.2.2.2.1 tk htk).2.2.2 hS hin rfl hd (kk p l e s m args below meth c H locs ls C hl hR hS)
theorem s_alenX {G : GG} {i pc : Nat} {L : List (Nat × Value)} {st : List Value} {h : HM} {o : Option Nat} {k n : Nat} {Q : XQ} {tk : Nat} (htk : tk < TEXTS.length) (hd : decode (mC i) pc = .ok (.arraylength, 1)) (kk : EX G i (pc + 1) L (.int (nI (txL tk).length) :: st) h o k n Q) : EX G i pc L (.ref (gS G (100 + tk)) :: st) h o k n Q := s_alenT htk hd kk
section ST2
variable {G : GG} {as : List Value} {h : HM} {o : Option Nat} {Q : XQ}
theorem HH_L1_charAt : mHH 183 = [] := rfl
theorem W15_St_checkIndex {G : GG} {as : List Value} {h : HM} {o : Option Nat} {Q : XQ} : RX G (W15 G) 175 as h o Q = rx_St_checkIndex as h o Q := rfl
set_option maxRecDepth 2000 in
set_option maxHeartbeats 200000 in
theorem r_L1_charAt (hx : rx_L1_charAt G as h o Q) : Runs G m_L1_charAt as h o Q := by
  obtain ⟨b, j, rfl, len, f, ⟨hb, hv, hl⟩, hq⟩ := E_ri hx
  obtain ⟨h1, h2⟩ := vp_lt hv hl
  rcases hb with ⟨tk, htk, rfl, rfl, rfl⟩ | hb
  · have hJ : True := trivial
    refine Runs.of (by decide +kernel) (Nat.le_of_ble_eq_true rfl) ?_
    refine exB_ok (t := [(.iload_n 1, 1, 0, 0, 0, 0), (.aload_n 0, 1, 0, 0, 0, 0)]) (W15_ok G) (jj := fun q L st h o k n => EX G m_L1_charAt q L st h o k n Q) (fun q L st h o k n hq => hq) (by decide +kernel) ?_
    simp [exB, hJ, exT, stp, lv_args, Value.category, lkL, stL1, stL2, insL, contX, q_ofNat, f4_3, nI_1, -Int32.not_lt, -Int32.not_le, -Int64.not_lt, -Int64.not_le, R_L1_charAt, C_L1_charAt, M_L1_charAt, HH_L1_charAt, KS_255, -Int32.reduceOfInt, -Int8.reduceOfInt, -Int16.reduceOfInt, -Int32.ofInt_neg, O_L1_charAt_St_checkIndex, C_St_checkIndex, M_St_checkIndex, W15_St_checkIndex, rx_St_checkIndex]
    try simp (disch := omega) [-Int64.not_lt, -Int64.not_le, -Int32.not_lt, -Int32.not_le, nI_z, nI_ltI, nI_leI, nI_1, nI_clamp, q_vp, nI_pos', rget_k, rset_k, lget_k, hup_hup]
    refine s_alenX htk (by decide +kernel) ?_
    refine exB_ok (t := [(.invokestatic 9, 3, 175, 0, 2, 0), (.aload_n 0, 1, 0, 0, 0, 0), (.iload_n 1, 1, 0, 0, 0, 0)]) (W15_ok G) (jj := fun q L st h o k n => EX G m_L1_charAt q L st h o k n Q) (fun q L st h o k n hq => hq) (by decide +kernel) ?_
    simp [exB, hJ, exT, stp, lv_args, Value.category, lkL, stL1, stL2, insL, contX, q_ofNat, f4_3, nI_1, -Int32.not_lt, -Int32.not_le, -Int64.not_lt, -Int64.not_le, R_L1_charAt, C_L1_charAt, M_L1_charAt, HH_L1_charAt, KS_255, -Int32.reduceOfInt, -Int8.reduceOfInt, -Int16.reduceOfInt, -Int32.ofInt_neg, O_L1_charAt_St_checkIndex, C_St_checkIndex, M_St_checkIndex, W15_St_checkIndex, rx_St_checkIndex, A_ii, h1]
    try simp (disch := omega) [-Int64.not_lt, -Int64.not_le, -Int32.not_lt, -Int32.not_le, nI_z, nI_ltI, nI_leI, nI_1, nI_clamp, q_vp, nI_pos', rget_k, rset_k, lget_k, hup_hup, A_ii, h1]
    refine ⟨h2, ?_⟩
    refine s_tb htk (by decide +kernel) hv ?_
    refine exB_ok (t := [(.sipush 255, 3, 0, 0, 0, 0), (.iand, 1, 0, 0, 0, 0), (.i2c, 1, 0, 0, 0, 0), (.ireturn, 1, 0, 0, 0, 0)]) (W15_ok G) (jj := fun q L st h o k n => EX G m_L1_charAt q L st h o k n Q) (fun q L st h o k n hq => hq) (by decide +kernel) ?_
    simp [exB, hJ, exT, stp, lv_args, Value.category, lkL, stL1, stL2, insL, contX, q_ofNat, f4_3, nI_1, -Int32.not_lt, -Int32.not_le, -Int64.not_lt, -Int64.not_le, R_L1_charAt, C_L1_charAt, M_L1_charAt, HH_L1_charAt, KS_255, -Int32.reduceOfInt, -Int8.reduceOfInt, -Int16.reduceOfInt, -Int32.ofInt_neg, O_L1_charAt_St_checkIndex, C_St_checkIndex, M_St_checkIndex, W15_St_checkIndex, rx_St_checkIndex, tx_c, tx_n, -Int32.toUInt32_and]
    try simp (disch := omega) [-Int64.not_lt, -Int64.not_le, -Int32.not_lt, -Int32.not_le, nI_z, nI_ltI, nI_leI, nI_1, nI_clamp, q_vp, nI_pos', rget_k, rset_k, lget_k, hup_hup, tx_c, tx_n, -Int32.toUInt32_and]
    exact hq
  · refine Runs.of (by decide +kernel) (Nat.le_of_ble_eq_true rfl) (X_L1_charAt_0 (W15_ok G) (genJ (P := fun J => exB _ _ _ _ (J 40) _ _ _ _ _ _ _ _) (fun J hJ => ?_)))
    simp [exB, hJ, exT, stp, lv_args, Value.category, lkL, stL1, stL2, insL, contX, q_ofNat, f4_3, nI_1, -Int32.not_lt, -Int32.not_le, -Int64.not_lt, -Int64.not_le, R_L1_charAt, C_L1_charAt, M_L1_charAt, HH_L1_charAt, KS_255, -Int32.reduceOfInt, -Int8.reduceOfInt, -Int16.reduceOfInt, -Int32.ofInt_neg, O_L1_charAt_St_checkIndex, C_St_checkIndex, M_St_checkIndex, W15_St_checkIndex, rx_St_checkIndex, A_ii, hb, h1, hv, tx_c, tx_n, -Int32.toUInt32_and]
    try simp (disch := omega) [-Int64.not_lt, -Int64.not_le, -Int32.not_lt, -Int32.not_le, nI_z, nI_ltI, nI_leI, nI_1, nI_clamp, q_vp, nI_pos', rget_k, rset_k, lget_k, hup_hup, A_ii, hb, h1, hv, tx_c, tx_n, -Int32.toUInt32_and]
    exact ⟨h2, hq⟩
theorem HH_St_length : mHH 169 = [] := rfl
theorem W15_St_coder {G : GG} {as : List Value} {h : HM} {o : Option Nat} {Q : XQ} : RX G (W15 G) 173 as h o Q = rx_St_coder G as h o Q := rfl
set_option maxRecDepth 2000 in
set_option maxHeartbeats 200000 in
theorem r_St_length (hx : rx_St_length G as h o Q) : Runs G m_St_length as h o Q := by
  obtain ⟨a, rfl, len, f, hs, hq⟩ := E_r hx
  have hJ : True := trivial
  refine Runs.of (by decide +kernel) (Nat.le_of_ble_eq_true rfl) ?_
  refine exB_ok (t := [(.aload_n 0, 1, 0, 0, 0, 0)]) (W15_ok G) (jj := fun q L st h o k n => EX G m_St_length q L st h o k n Q) (fun q L st h o k n hq => hq) (by decide +kernel) ?_
  simp [exB, hJ, exT, stp, lv_args, Value.category, lkL, stL1, stL2, insL, contX, q_ofNat, f4_3, nI_1, -Int32.not_lt, -Int32.not_le, -Int64.not_lt, -Int64.not_le, R_St_length, C_St_length, M_St_length, HH_St_length, -Int32.reduceOfInt, -Int8.reduceOfInt, -Int16.reduceOfInt, -Int32.ofInt_neg, O_St_length_St_coder, C_St_coder, M_St_coder, W15_St_coder, rx_St_coder]
  try simp (disch := omega) [-Int64.not_lt, -Int64.not_le, -Int32.not_lt, -Int32.not_le, nI_z, nI_ltI, nI_leI, nI_1, nI_clamp, q_vp, nI_pos', rget_k, rset_k, lget_k, hup_hup]
  rcases id hs with ⟨k, hk, rfl, rfl, rfl⟩ | ⟨b, fs, hb, hb2⟩
  · refine s_getfV (idx := 9) hk (by decide +kernel) (by decide +kernel) ?_
    refine s_alenX hk (by decide +kernel) ?_
    refine exB_ok (t := [(.aload_n 0, 1, 0, 0, 0, 0)]) (W15_ok G) (jj := fun q L st h o k n => EX G m_St_length q L st h o k n Q) (fun q L st h o k n hq => hq) (by decide +kernel) ?_
    simp [exB, hJ, exT, stp, lv_args, Value.category, lkL, stL1, stL2, insL, contX, q_ofNat, f4_3, nI_1, -Int32.not_lt, -Int32.not_le, -Int64.not_lt, -Int64.not_le, R_St_length, C_St_length, M_St_length, HH_St_length, -Int32.reduceOfInt, -Int8.reduceOfInt, -Int16.reduceOfInt, -Int32.ofInt_neg, O_St_length_St_coder, C_St_coder, M_St_coder, W15_St_coder, rx_St_coder]
    try simp (disch := omega) [-Int64.not_lt, -Int64.not_le, -Int32.not_lt, -Int32.not_le, nI_z, nI_ltI, nI_leI, nI_1, nI_clamp, q_vp, nI_pos', rget_k, rset_k, lget_k, hup_hup]
    refine s_callVC (idx := 335) (j := m_St_coder) (nest := 0) (as := []) hk (by decide +kernel) (mmem_in (by decide +kernel)) rfl (by decide +kernel) rfl rfl (by decide +kernel) (Nat.le_of_ble_eq_true rfl) rfl rfl ?_
    refine RX_ok (W15_ok G) ?_
    show rx_St_coder G _ _ _ _
    refine ⟨_, _, hs, ?_⟩
    show EX G m_St_length 9 _ _ _ _ _ _ _
    refine exB_ok (t := [(.ishr, 1, 0, 0, 0, 0), (.ireturn, 1, 0, 0, 0, 0)]) (W15_ok G) (jj := fun q L st h o k n => EX G m_St_length q L st h o k n Q) (fun q L st h o k n hq => hq) (by decide +kernel) ?_
    simp [exB, hJ, exT, stp, lv_args, Value.category, lkL, stL1, stL2, insL, contX, q_ofNat, f4_3, nI_1, -Int32.not_lt, -Int32.not_le, -Int64.not_lt, -Int64.not_le, R_St_length, C_St_length, M_St_length, HH_St_length, -Int32.reduceOfInt, -Int8.reduceOfInt, -Int16.reduceOfInt, -Int32.ofInt_neg, O_St_length_St_coder, C_St_coder, M_St_coder, W15_St_coder, rx_St_coder, sh_0]
    try simp (disch := omega) [-Int64.not_lt, -Int64.not_le, -Int32.not_lt, -Int32.not_le, nI_z, nI_ltI, nI_leI, nI_1, nI_clamp, q_vp, nI_pos', rget_k, rset_k, lget_k, hup_hup, sh_0]
    exact hq
  · refine exB_ok (t := [(.getfield 9, 3, 13, 0, 0, 0), (.arraylength, 1, 0, 0, 0, 0), (.aload_n 0, 1, 0, 0, 0, 0), (.invokevirtual 335, 3, 173, 0, 0, 13), (.ishr, 1, 0, 0, 0, 0), (.ireturn, 1, 0, 0, 0, 0)]) (W15_ok G) (jj := fun q L st h o k n => EX G m_St_length q L st h o k n Q) (fun q L st h o k n hq => hq) (by decide +kernel) ?_
    simp [exB, hJ, exT, stp, lv_args, Value.category, lkL, stL1, stL2, insL, contX, q_ofNat, f4_3, nI_1, -Int32.not_lt, -Int32.not_le, -Int64.not_lt, -Int64.not_le, R_St_length, C_St_length, M_St_length, HH_St_length, -Int32.reduceOfInt, -Int8.reduceOfInt, -Int16.reduceOfInt, -Int32.ofInt_neg, O_St_length_St_coder, C_St_coder, M_St_coder, W15_St_coder, rx_St_coder, hb, hb2, A_r, rx_St_coder, sh_0]
    try simp (disch := omega) [-Int64.not_lt, -Int64.not_le, -Int32.not_lt, -Int32.not_le, nI_z, nI_ltI, nI_leI, nI_1, nI_clamp, q_vp, nI_pos', rget_k, rset_k, lget_k, hup_hup, hb, hb2, A_r, rx_St_coder, sh_0]
    exact ⟨⟨_, _, hs⟩, hq⟩
end ST2
def W16 (G : GG) : WF := (wcons 169 (rx_St_length G) (wcons 183 (rx_L1_charAt G) (W15 G)))
theorem W16_ok (G : GG) : WOK G (W16 G) := (wcons_ok (fun _ _ _ _ hx => r_St_length hx) (wcons_ok (fun _ _ _ _ hx => r_L1_charAt hx) (W15_ok G)))
section ST3
variable {G : GG} {as : List Value} {h : HM} {o : Option Nat} {Q : XQ}
theorem HH_St_charAt : mHH 170 = [] := rfl
theorem W16_St_isLatin1 {G : GG} {as : List Value} {h : HM} {o : Option Nat} {Q : XQ} : RX G (W16 G) 174 as h o Q = rx_St_isLatin1 G as h o Q := rfl
theorem W16_L1_charAt {G : GG} {as : List Value} {h : HM} {o : Option Nat} {Q : XQ} : RX G (W16 G) 183 as h o Q = rx_L1_charAt G as h o Q := rfl
set_option maxRecDepth 2000 in
set_option maxHeartbeats 200000 in
theorem r_St_charAt (hx : rx_St_charAt G as h o Q) : Runs G m_St_charAt as h o Q := by
  obtain ⟨a, j, rfl, len, f, ⟨hs, hv, hl⟩, hq⟩ := E_ri hx
  have hJ : True := trivial
  refine Runs.of (by decide +kernel) (Nat.le_of_ble_eq_true rfl) ?_
  refine exB_ok (t := [(.aload_n 0, 1, 0, 0, 0, 0)]) (W16_ok G) (jj := fun q L st h o k n => EX G m_St_charAt q L st h o k n Q) (fun q L st h o k n hq => hq) (by decide +kernel) ?_
  simp [exB, hJ, exT, stp, lv_args, Value.category, lkL, stL1, stL2, insL, contX, q_ofNat, f4_3, nI_1, -Int32.not_lt, -Int32.not_le, -Int64.not_lt, -Int64.not_le, T_St_charAt_16, R_St_charAt, C_St_charAt, M_St_charAt, HH_St_charAt, -Int32.reduceOfInt, -Int8.reduceOfInt, -Int16.reduceOfInt, -Int32.ofInt_neg, O_St_charAt_St_isLatin1, C_St_isLatin1, M_St_isLatin1, W16_St_isLatin1, rx_St_isLatin1, O_St_charAt_L1_charAt, C_L1_charAt, M_L1_charAt, W16_L1_charAt, rx_L1_charAt]
  try simp (disch := omega) [-Int64.not_lt, -Int64.not_le, -Int32.not_lt, -Int32.not_le, nI_z, nI_ltI, nI_leI, nI_1, nI_clamp, q_vp, nI_pos', rget_k, rset_k, lget_k, hup_hup]
  rcases id hs with ⟨k, hk, rfl, rfl, rfl⟩ | ⟨b, fs, hb, hb2⟩
  · refine s_callVC (idx := 492) (j := m_St_isLatin1) (nest := 0) (as := []) hk (by decide +kernel) (mmem_in (by decide +kernel)) rfl (by decide +kernel) rfl rfl (by decide +kernel) (Nat.le_of_ble_eq_true rfl) rfl rfl ?_
    refine RX_ok (W16_ok G) ?_
    show rx_St_isLatin1 G _ _ _ _
    refine ⟨_, _, hs, ?_⟩
    show EX G m_St_charAt 4 _ _ _ _ _ _ _
    refine exB_ok (t := [(.ifCond .eq 12, 3, 16, 0, 0, 0), (.aload_n 0, 1, 0, 0, 0, 0)]) (W16_ok G) (jj := fun q L st h o k n => EX G m_St_charAt q L st h o k n Q) (fun q L st h o k n hq => hq) (by decide +kernel) ?_
    simp [exB, hJ, exT, stp, lv_args, Value.category, lkL, stL1, stL2, insL, contX, q_ofNat, f4_3, nI_1, -Int32.not_lt, -Int32.not_le, -Int64.not_lt, -Int64.not_le, T_St_charAt_16, R_St_charAt, C_St_charAt, M_St_charAt, HH_St_charAt, -Int32.reduceOfInt, -Int8.reduceOfInt, -Int16.reduceOfInt, -Int32.ofInt_neg, O_St_charAt_St_isLatin1, C_St_isLatin1, M_St_isLatin1, W16_St_isLatin1, rx_St_isLatin1, O_St_charAt_L1_charAt, C_L1_charAt, M_L1_charAt, W16_L1_charAt, rx_L1_charAt]
    try simp (disch := omega) [-Int64.not_lt, -Int64.not_le, -Int32.not_lt, -Int32.not_le, nI_z, nI_ltI, nI_leI, nI_1, nI_clamp, q_vp, nI_pos', rget_k, rset_k, lget_k, hup_hup]
    refine s_getfV (idx := 9) hk (by decide +kernel) (by decide +kernel) ?_
    refine exB_ok (t := [(.iload_n 1, 1, 0, 0, 0, 0), (.invokestatic 495, 3, 183, 0, 2, 0), (.ireturn, 1, 0, 0, 0, 0)]) (W16_ok G) (jj := fun q L st h o k n => EX G m_St_charAt q L st h o k n Q) (fun q L st h o k n hq => hq) (by decide +kernel) ?_
    simp [exB, hJ, exT, stp, lv_args, Value.category, lkL, stL1, stL2, insL, contX, q_ofNat, f4_3, nI_1, -Int32.not_lt, -Int32.not_le, -Int64.not_lt, -Int64.not_le, T_St_charAt_16, R_St_charAt, C_St_charAt, M_St_charAt, HH_St_charAt, -Int32.reduceOfInt, -Int8.reduceOfInt, -Int16.reduceOfInt, -Int32.ofInt_neg, O_St_charAt_St_isLatin1, C_St_isLatin1, M_St_isLatin1, W16_St_isLatin1, rx_St_isLatin1, O_St_charAt_L1_charAt, C_L1_charAt, M_L1_charAt, W16_L1_charAt, rx_L1_charAt, A_ri, rx_L1_charAt, tx_n, -Int32.toUInt32_and]
    try simp (disch := omega) [-Int64.not_lt, -Int64.not_le, -Int32.not_lt, -Int32.not_le, nI_z, nI_ltI, nI_leI, nI_1, nI_clamp, q_vp, nI_pos', rget_k, rset_k, lget_k, hup_hup, A_ri, rx_L1_charAt, tx_n, -Int32.toUInt32_and]
    exact ⟨_, _, ⟨Or.inl ⟨k, hk, rfl, rfl, rfl⟩, hv, hl⟩, hq⟩
  · refine exB_ok (t := [(.invokevirtual 492, 3, 174, 0, 0, 13), (.ifCond .eq 12, 3, 16, 0, 0, 0), (.aload_n 0, 1, 0, 0, 0, 0), (.getfield 9, 3, 13, 0, 0, 0), (.iload_n 1, 1, 0, 0, 0, 0), (.invokestatic 495, 3, 183, 0, 2, 0), (.ireturn, 1, 0, 0, 0, 0)]) (W16_ok G) (jj := fun q L st h o k n => EX G m_St_charAt q L st h o k n Q) (fun q L st h o k n hq => hq) (by decide +kernel) ?_
    simp [exB, hJ, exT, stp, lv_args, Value.category, lkL, stL1, stL2, insL, contX, q_ofNat, f4_3, nI_1, -Int32.not_lt, -Int32.not_le, -Int64.not_lt, -Int64.not_le, T_St_charAt_16, R_St_charAt, C_St_charAt, M_St_charAt, HH_St_charAt, -Int32.reduceOfInt, -Int8.reduceOfInt, -Int16.reduceOfInt, -Int32.ofInt_neg, O_St_charAt_St_isLatin1, C_St_isLatin1, M_St_isLatin1, W16_St_isLatin1, rx_St_isLatin1, O_St_charAt_L1_charAt, C_L1_charAt, M_L1_charAt, W16_L1_charAt, rx_L1_charAt, A_r, rx_St_isLatin1, A_ri, rx_L1_charAt, hb, hb2, tx_n, -Int32.toUInt32_and]
    try simp (disch := omega) [-Int64.not_lt, -Int64.not_le, -Int32.not_lt, -Int32.not_le, nI_z, nI_ltI, nI_leI, nI_1, nI_clamp, q_vp, nI_pos', rget_k, rset_k, lget_k, hup_hup, A_r, rx_St_isLatin1, A_ri, rx_L1_charAt, hb, hb2, tx_n, -Int32.toUInt32_and]
    exact ⟨⟨_, _, hs⟩, _, _, ⟨Or.inr hb2, hv, hl⟩, hq⟩
end ST3
def W17 (G : GG) : WF := (wcons 170 (rx_St_charAt G) (W16 G))
theorem W17_ok (G : GG) : WOK G (W17 G) := (wcons_ok (fun _ _ _ _ hx => r_St_charAt hx) (W16_ok G))
section JR
variable {G : GG} {i pc : Nat} {L : List (Nat × Value)} {st : List Value} {h : HM} {o : Option Nat} {k n : Nat} {Q : XQ}
theorem s_strlen {a : Nat} (ha : a < TEXTS.length) (hi : (mN i).cls = "GhostRooms$Tokens") (hd : decode (mC i) pc = .ok (.invokevirtual 73, 3)) (hroom : roomOK i m_St_length k n = true) (_ : True) (_ : True) (_ : True) (hcat : (st.map fun v => v.category).sum ≤ 8)
    (kk : EX G i (pc + 3) L (.int (nI (txL a).length) :: st) h o (k + (mRc m_St_length).1) (n + (mRc m_St_length).2) Q) : EX G i pc L (.ref (gS G a) :: st) h o k n Q := by
  refine s_callVC (idx := 73) (j := m_St_length) (nest := 0) (as := []) ha hd (mmem_in (by rw [hi]; decide +kernel)) rfl (by decide +kernel) rfl rfl hroom hcat rfl rfl ?_
  refine RX_ok (W17_ok G) ?_
  show rx_St_length G _ _ _ _
  exact ⟨_, _, Or.inl ⟨a, ha, rfl, rfl, rfl⟩, kk⟩
theorem s_charAt {a j : Nat} (ha : a < TEXTS.length) (hj : j < (txL a).length) (hi : (mN i).cls = "GhostRooms$Tokens") (hd : decode (mC i) pc = .ok (.invokevirtual 78, 3)) (hroom : roomOK i m_St_charAt k n = true) (_ : True) (_ : True) (_ : True) (hcat : (st.map fun v => v.category).sum ≤ 8)
    (kk : EX G i (pc + 3) L (.int (txC a j) :: st) h o (k + (mRc m_St_charAt).1) (n + (mRc m_St_charAt).2) Q) : EX G i pc L (.int (nI j) :: .ref (gS G a) :: st) h o k n Q := by
  have hlen := tx_len ha
  refine s_callVC (idx := 78) (j := m_St_charAt) (nest := 0) (as := [.int (nI j)]) ha hd (mmem_in (by rw [hi]; decide +kernel)) rfl (by decide +kernel) rfl rfl hroom hcat rfl rfl ?_
  refine RX_ok (W17_ok G) ?_
  show rx_St_charAt G _ _ _ _
  refine ⟨_, _, ⟨Or.inl ⟨a, ha, rfl, rfl, rfl⟩, vp_in_nI hj (by omega), by omega⟩, ?_⟩
  rw [nI_clamp (by omega)]
  exact kk
end JR
theorem s_gets {G : GG} {i pc : Nat} {L : List (Nat × Value)} {st : List Value} {h : HM} {o : Option Nat} {k n : Nat} {Q : XQ} {idx kx : Nat} (hd : decode (mC i) pc = .ok (.getstatic idx, 3)) (hq : ((mN i).cls, idx, 1000 + kx, 0) ∈ GSk) (hkx : kx < 3) (kk : EX G i (pc + 3) L (.ref (gS G (1000 + kx)) :: st) h o k n Q) : EX G i pc L st h o k n Q := s_getsA hd hq ⟨by omega, by omega⟩ kk
theorem s_tlen {G : GG} {i pc : Nat} {L : List (Nat × Value)} {st : List Value} {h : HM} {o : Option Nat} {k n : Nat} {Q : XQ} {kx : Nat} (hkx : kx < 3) (hd : decode (mC i) pc = .ok (.arraylength, 1)) (kk : EX G i (pc + 1) L (.int 6 :: st) h o k n Q) : EX G i pc L (.ref (gS G (1000 + kx)) :: st) h o k n Q := by
  intro p l e s m args below meth c H locs ls C hl hR hS
  exact va_tlen C.1 C.2.1 (C.2.2.2.2.2.2.2.2.2.1.2.2.2.2.2.2.2.2.1 kx hkx).2 hS (v := 6) rfl hd (kk p l e s m args below meth c H locs ls C hl hR hS)
theorem s_tld {G : GG} {i pc : Nat} {L : List (Nat × Value)} {st : List Value} {h : HM} {o : Option Nat} {k n : Nat} {Q : XQ} {kx : Nat} {x : Int32} (hkx : kx < 3) (hin : vp_in x 6) (hd : decode (mC i) pc = .ok (.iaload, 1)) (kk : EX G i (pc + 1) L (.int (stV kx x.toNatClampNeg) :: st) h o k n Q) : EX G i pc L (.int x :: .ref (gS G (1000 + kx)) :: st) h o k n Q := by
  intro p l e s m args below meth c H locs ls C hl hR hS
  exact va_ti C.1 C.2.1 (C.2.2.2.2.2.2.2.2.2.1.2.2.2.2.2.2.2.2.1 kx hkx).2 hS hin rfl hd (kk p l e s m args below meth c H locs ls C hl hR hS)
