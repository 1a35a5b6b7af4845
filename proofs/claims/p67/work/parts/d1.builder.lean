/-! d1: builders of text: small steps -/
abbrev bld (b n : Nat) : AE := .inr (12, [.ref b, .int 0, .int 0, .int (nI n)])
abbrev byA (cap : Nat) (f : Nat → Int32) : AE := .inl (3, cap, .inl f)
/-- an array that holds the text l -/
def BOK (cap : Nat) (f : Nat → Int32) (l : List Int32) : Prop := l.length ≤ cap ∧ cap ≤ 1802 ∧ sb_Fit f ∧ ∀ i, i < l.length → f i = l.getD i 0
def BLD (h : HM) (a b cap : Nat) (f : Nat → Int32) (l : List Int32) : Prop := (h a = some (bld b l.length) ∧ h b = some (byA cap f)) ∧ a ≠ b ∧ BOK cap f l
/-- behind a change of the builder: a new array or the old one, the text l -/
def APO (Q : XQ) (v : OUT) (h : HM) (a z b cap need : Nat) (l : List Int32) : Prop := ∀ b' cap' f' z', ((b' = b ∧ z' = z) ∨ (b' = z ∧ z' = z + 1)) → BOK cap' f' l → need ≤ cap' → cap ≤ cap' → Q v (hup (hup h b' (byA cap' f')) a (bld b' l.length)) (some z')
def decL (v : Nat) : List Int32 := if v < 10 then [nI (48 + v)] else [nI (48 + v / 10), nI (48 + v % 10)]
def A_iir (as : List Value) (P : Int32 → Int32 → Nat → Prop) : Prop := match as with | [.int i, .int j, .ref b] => P i j b | _ => False
theorem E_iir {as : List Value} {P : Int32 → Int32 → Nat → Prop} (h : A_iir as P) : ∃ i j b, as = [.int i, .int j, .ref b] ∧ P i j b := by
  unfold A_iir at h; split at h; exact ⟨_, _, _, rfl, h⟩; exact h.elim
def rx_AB_length (as : List Value) (h : HM) (o : Option Nat) (Q : XQ) : Prop := A_r as fun a => ∃ b n, h a = some (bld b n) ∧ Q (.inl (some (.int (nI n)))) h o
def rx_AB_isLatin1 (as : List Value) (h : HM) (o : Option Nat) (Q : XQ) : Prop := A_r as fun a => ∃ b n, h a = some (bld b n) ∧ Q (.inl (some (.int 1))) h o
def rx_AB_getValue (as : List Value) (h : HM) (o : Option Nat) (Q : XQ) : Prop := A_r as fun a => ∃ b n, h a = some (bld b n) ∧ Q (.inl (some (.ref b))) h o
def rx_L1_canEncode (as : List Value) (h : HM) (o : Option Nat) (Q : XQ) : Prop := A_i as fun x => x ≤ 255 ∧ Q (.inl (some (.int 1))) h o
def rx_AS_newLength (as : List Value) (h : HM) (o : Option Nat) (Q : XQ) : Prop := A_iii as fun x y w => ∃ a b c : Nat, (x = nI a ∧ y = nI b ∧ w = nI c ∧ a ≤ 5000 ∧ b ≤ 5000 ∧ c ≤ 5000 ∧ 0 < c) ∧ Q (.inl (some (.int (nI (a + (if b < c then c else b)))))) h o
def rx_Arr_checkLength (as : List Value) (h : HM) (o : Option Nat) (Q : XQ) : Prop := A_ii as fun x y => ¬ y < x ∧ Q (.inl none) h o
def rx_Arr_copyOf (as : List Value) (h : HM) (o : Option Nat) (Q : XQ) : Prop := A_ri as fun b n => ∃ z cap f m, (o = some z ∧ h b = some (byA cap f) ∧ b < z ∧ n = nI m ∧ cap < m ∧ m ≤ 4000 ∧ sb_Fit f) ∧ Q (.inl (some (.ref z))) (hup h z (byA m (va_cpy f (fun _ => 0) 0 0 cap))) (some (z + 1))
def rx_Integer_stringSize (as : List Value) (h : HM) (o : Option Nat) (Q : XQ) : Prop := A_i as fun x => ∃ v, (v < 100 ∧ x = nI v) ∧ Q (.inl (some (.int (nI (decL v).length)))) h o
section BL
variable {G : GG} {as : List Value} {h : HM} {o : Option Nat} {Q : XQ}
theorem HH_AB_length : mHH 151 = [] := rfl
set_option maxRecDepth 2000 in
set_option maxHeartbeats 200000 in
theorem r_AB_length (hx : rx_AB_length as h o Q) : Runs G m_AB_length as h o Q := by
  obtain ⟨a, rfl, b, n, h1, hq⟩ := E_r hx
  refine Runs.of (by decide +kernel) (Nat.le_of_ble_eq_true rfl) (X_AB_length_0 (W47_ok G) (genJ (P := fun J => exB _ _ _ _ (J 40) _ _ _ _ _ _ _ _) (fun J hJ => ?_)))
  simp [exB, hJ, exT, stp, lv_args, Value.category, lkL, stL1, stL2, insL, contX, q_ofNat, f4_3, nI_1, -Int32.not_lt, -Int32.not_le, -Int64.not_lt, -Int64.not_le, R_AB_length, C_AB_length, M_AB_length, HH_AB_length, -Int32.reduceOfInt, -Int8.reduceOfInt, -Int16.reduceOfInt, -Int32.ofInt_neg, h1]
  try simp (disch := omega) [-Int64.not_lt, -Int64.not_le, -Int32.not_lt, -Int32.not_le, nI_z, nI_ltI, nI_leI, nI_1, nI_clamp, q_vp, nI_pos', rget_k, rset_k, lget_k, hup_hup, h1]
  exact hq
theorem HH_AB_isLatin1 : mHH 159 = [] := rfl
set_option maxRecDepth 2000 in
set_option maxHeartbeats 200000 in
theorem r_AB_isLatin1 (hx : rx_AB_isLatin1 as h o Q) : Runs G m_AB_isLatin1 as h o Q := by
  obtain ⟨a, rfl, b, n, h1, hq⟩ := E_r hx
  refine Runs.of (by decide +kernel) (Nat.le_of_ble_eq_true rfl) (X_AB_isLatin1_0 (W47_ok G) (genJ (P := fun J => exB _ _ _ _ (J 40) _ _ _ _ _ _ _ _) (fun J hJ => ?_)))
  simp [exB, hJ, exT, stp, lv_args, Value.category, lkL, stL1, stL2, insL, contX, q_ofNat, f4_3, nI_1, -Int32.not_lt, -Int32.not_le, -Int64.not_lt, -Int64.not_le, T_AB_isLatin1_17, T_AB_isLatin1_18, R_AB_isLatin1, C_AB_isLatin1, M_AB_isLatin1, HH_AB_isLatin1, KI_1, KI_0, -Int32.reduceOfInt, -Int8.reduceOfInt, -Int16.reduceOfInt, -Int32.ofInt_neg, h1]
  try simp (disch := omega) [-Int64.not_lt, -Int64.not_le, -Int32.not_lt, -Int32.not_le, nI_z, nI_ltI, nI_leI, nI_1, nI_clamp, q_vp, nI_pos', rget_k, rset_k, lget_k, hup_hup, h1]
  exact hq
theorem HH_AB_getValue : mHH 158 = [] := rfl
set_option maxRecDepth 2000 in
set_option maxHeartbeats 200000 in
theorem r_AB_getValue (hx : rx_AB_getValue as h o Q) : Runs G m_AB_getValue as h o Q := by
  obtain ⟨a, rfl, b, n, h1, hq⟩ := E_r hx
  refine Runs.of (by decide +kernel) (Nat.le_of_ble_eq_true rfl) (X_AB_getValue_0 (W47_ok G) (genJ (P := fun J => exB _ _ _ _ (J 40) _ _ _ _ _ _ _ _) (fun J hJ => ?_)))
  simp [exB, hJ, exT, stp, lv_args, Value.category, lkL, stL1, stL2, insL, contX, q_ofNat, f4_3, nI_1, -Int32.not_lt, -Int32.not_le, -Int64.not_lt, -Int64.not_le, R_AB_getValue, C_AB_getValue, M_AB_getValue, HH_AB_getValue, -Int32.reduceOfInt, -Int8.reduceOfInt, -Int16.reduceOfInt, -Int32.ofInt_neg, h1]
  try simp (disch := omega) [-Int64.not_lt, -Int64.not_le, -Int32.not_lt, -Int32.not_le, nI_z, nI_ltI, nI_leI, nI_1, nI_clamp, q_vp, nI_pos', rget_k, rset_k, lget_k, hup_hup, h1]
  exact hq
theorem HH_L1_canEncode : mHH 184 = [] := rfl
set_option maxRecDepth 2000 in
set_option maxHeartbeats 200000 in
theorem r_L1_canEncode (hx : rx_L1_canEncode as h o Q) : Runs G m_L1_canEncode as h o Q := by
  obtain ⟨x, rfl, h1, hq⟩ := E_i hx
  have h2 : ¬ 255 < x := Int32.not_lt.mpr h1
  refine Runs.of (by decide +kernel) (Nat.le_of_ble_eq_true rfl) (X_L1_canEncode_0 (W47_ok G) (genJ (P := fun J => exB _ _ _ _ (J 40) _ _ _ _ _ _ _ _) (fun J hJ => ?_)))
  simp [exB, hJ, exT, stp, lv_args, Value.category, lkL, stL1, stL2, insL, contX, q_ofNat, f4_3, nI_1, -Int32.not_lt, -Int32.not_le, -Int64.not_lt, -Int64.not_le, T_L1_canEncode_11, T_L1_canEncode_12, R_L1_canEncode, C_L1_canEncode, M_L1_canEncode, HH_L1_canEncode, KS_255, KI_1, KI_0, -Int32.reduceOfInt, -Int8.reduceOfInt, -Int16.reduceOfInt, -Int32.ofInt_neg, h1, h2]
  try simp (disch := omega) [-Int64.not_lt, -Int64.not_le, -Int32.not_lt, -Int32.not_le, nI_z, nI_ltI, nI_leI, nI_1, nI_clamp, q_vp, nI_pos', rget_k, rset_k, lget_k, hup_hup, h1, h2]
  exact hq
theorem nI_max {b c : Nat} (hb : b ≤ 5000) (hc : c ≤ 5000) : (if nI b < nI c then nI c else nI b) = nI (if b < c then c else b) := by
  by_cases h : b < c
  · rw [if_pos h, if_pos (nI_lt h (by omega))]
  · rw [if_neg h, if_neg (fun e => h ((nI_ltI (by omega) (by omega)).mp e))]
theorem HH_AS_newLength : mHH 189 = [] := rfl
set_option maxRecDepth 2000 in
set_option maxHeartbeats 200000 in
theorem r_AS_newLength (hx : rx_AS_newLength as h o Q) : Runs G m_AS_newLength as h o Q := by
  obtain ⟨x, y, w, rfl, a, b, c, ⟨rfl, rfl, rfl, ha, hb, hc, h0⟩, hq⟩ := E_iii hx
  obtain ⟨m, em, hm⟩ : ∃ m, (if b < c then c else b) = m ∧ 0 < m ∧ m ≤ 5000 := ⟨_, rfl, by split <;> omega, by split <;> omega⟩
  rw [em] at hq
  have l1 : ¬ nI (a + m) ≤ 0 := fun e => absurd (nI_lt (show 0 < a + m by omega) (by omega)) (Int32.not_lt.mpr e)
  have l2 : ¬ nI 2147483639 < nI (a + m) := fun e => by
    have := (nI_ltI (a := 2147483639) (b := a + m) (by omega) (by omega)).mp e
    omega
  refine Runs.of (by decide +kernel) (Nat.le_of_ble_eq_true rfl) (X_AS_newLength_0 (W47_ok G) (genJ (P := fun J => exB _ _ _ _ (J 40) _ _ _ _ _ _ _ _) (fun J hJ => ?_)))
  simp [exB, hJ, exT, stp, lv_args, Value.category, lkL, stL1, stL2, insL, contX, q_ofNat, f4_3, nI_1, -Int32.not_lt, -Int32.not_le, -Int64.not_lt, -Int64.not_le, T_AS_newLength_21, R_AS_newLength, C_AS_newLength, M_AS_newLength, HH_AS_newLength, KI_0, -Int32.reduceOfInt, -Int8.reduceOfInt, -Int16.reduceOfInt, -Int32.ofInt_neg, nI_max hb hc, em, nI_add, l1, l2]
  try simp (disch := omega) [-Int64.not_lt, -Int64.not_le, -Int32.not_lt, -Int32.not_le, nI_z, nI_ltI, nI_leI, nI_1, nI_clamp, q_vp, nI_pos', rget_k, rset_k, lget_k, hup_hup, nI_max hb hc, em, nI_add, l1, l2]
  exact hq
theorem HH_Arr_checkLength : mHH 186 = [] := rfl
set_option maxRecDepth 2000 in
set_option maxHeartbeats 200000 in
theorem r_Arr_checkLength (hx : rx_Arr_checkLength as h o Q) : Runs G m_Arr_checkLength as h o Q := by
  obtain ⟨x, y, rfl, h1, hq⟩ := E_ii hx
  have h2 : x ≤ y := Int32.not_lt.mp h1
  refine Runs.of (by decide +kernel) (Nat.le_of_ble_eq_true rfl) (X_Arr_checkLength_0 (W47_ok G) (genJ (P := fun J => exB _ _ _ _ (J 40) _ _ _ _ _ _ _ _) (fun J hJ => ?_)))
  simp [exB, hJ, exT, stp, lv_args, Value.category, lkL, stL1, stL2, insL, contX, q_ofNat, f4_3, nI_1, -Int32.not_lt, -Int32.not_le, -Int64.not_lt, -Int64.not_le, T_Arr_checkLength_37, R_Arr_checkLength, C_Arr_checkLength, M_Arr_checkLength, HH_Arr_checkLength, -Int32.reduceOfInt, -Int8.reduceOfInt, -Int16.reduceOfInt, -Int32.ofInt_neg, h1, h2]
  try simp (disch := omega) [-Int64.not_lt, -Int64.not_le, -Int32.not_lt, -Int32.not_le, nI_z, nI_ltI, nI_leI, nI_1, nI_clamp, q_vp, nI_pos', rget_k, rset_k, lget_k, hup_hup, h1, h2]
  exact hq
theorem HH_Arr_copyOf : mHH 185 = [] := rfl
set_option maxRecDepth 2000 in
set_option maxHeartbeats 200000 in
theorem r_Arr_copyOf (hx : rx_Arr_copyOf as h o Q) : Runs G m_Arr_copyOf as h o Q := by
  obtain ⟨b, n, rfl, z, cap, f, m, ⟨rfl, h1, hz, rfl, hm, hm2, hf⟩, hq⟩ := E_ri hx
  change Nat at b
  have n1 : b ≠ z := by omega
  have e1 : nI m ≠ nI cap := fun e => by have := nI_lt hm (by omega); rw [e] at this; exact Int32.lt_irrefl this
  have e2 : nI cap < nI m := nI_lt hm (by omega)
  refine Runs.of (by decide +kernel) (Nat.le_of_ble_eq_true rfl) (X_Arr_copyOf_0 (W47_ok G) (genJ (P := fun J => exB _ _ _ _ (J 40) _ _ _ _ _ _ _ _) (fun J hJ => ?_)))
  have n2 : ¬ m < cap := by omega
  simp [exB, hJ, exT, stp, lv_args, Value.category, lkL, stL1, stL2, insL, contX, q_ofNat, f4_3, nI_1, -Int32.not_lt, -Int32.not_le, -Int64.not_lt, -Int64.not_le, T_Arr_copyOf_14, R_Arr_copyOf, C_Arr_copyOf, M_Arr_copyOf, HH_Arr_copyOf, KI_0, -Int32.reduceOfInt, -Int8.reduceOfInt, -Int16.reduceOfInt, -Int32.ofInt_neg, h1, hup_nq n1, hup_at, e1, e2, n2]
  try simp (disch := omega) [-Int64.not_lt, -Int64.not_le, -Int32.not_lt, -Int32.not_le, nI_z, nI_ltI, nI_leI, nI_1, nI_clamp, q_vp, nI_pos', rget_k, rset_k, lget_k, hup_hup, h1, hup_nq n1, hup_at, e1, e2, n2]
  exact ⟨⟨nI_pos (by omega), by omega⟩, by omega, ⟨⟨nI_pos (by omega), by omega⟩, fun j _ => hf j, by omega, hq⟩⟩
theorem dec_nle : ∀ v, v < 100 → ¬ nI v < 0 ∧ ¬ (-nI v ≤ -100) ∧ (-nI v ≤ -10 ↔ 10 ≤ v) ∧ (-nI v < -9 ↔ 10 ≤ v) := by decide +kernel
theorem b10 : (-10 : Int8).toInt32 = (-10 : Int32) := by decide
theorem dec_len (v : Nat) : (decL v).length = if v < 10 then 1 else 2 := by unfold decL; split <;> rfl
theorem HH_Integer_stringSize : mHH 163 = [] := rfl
set_option maxRecDepth 2000 in
set_option maxHeartbeats 200000 in
theorem r_Integer_stringSize (hx : rx_Integer_stringSize as h o Q) : Runs G m_Integer_stringSize as h o Q := by
  obtain ⟨x, rfl, v, ⟨hv, rfl⟩, hq⟩ := E_i hx
  obtain ⟨h1, h2, h3, h4⟩ := dec_nle v hv
  rw [dec_len] at hq
  have h0 : 0 ≤ nI v := Int32.not_lt.mp h1
  by_cases c : v < 10
  · have h5 : ¬ -nI v ≤ -10 := fun e => absurd (h3.mp e) (by omega)
    rw [if_pos c] at hq
    refine Runs.of (by decide +kernel) (Nat.le_of_ble_eq_true rfl) (X_Integer_stringSize_0 (W47_ok G) (genJ (P := fun J => exB _ _ _ _ (J 40) _ _ _ _ _ _ _ _) (fun J hJ => ?_)))
    simp [exB, hJ, exT, stp, lv_args, Value.category, lkL, stL1, stL2, insL, contX, q_ofNat, f4_3, nI_1, -Int32.not_lt, -Int32.not_le, -Int64.not_lt, -Int64.not_le, T_Integer_stringSize_11, T_Integer_stringSize_16, T_Integer_stringSize_31, T_Integer_stringSize_42, R_Integer_stringSize, C_Integer_stringSize, M_Integer_stringSize, HH_Integer_stringSize, KI_1, KI_0, KB_m10, KB_10, -Int32.reduceOfInt, -Int8.reduceOfInt, -Int16.reduceOfInt, -Int32.ofInt_neg, h0, h1, b10]
    try simp (disch := omega) [-Int64.not_lt, -Int64.not_le, -Int32.not_lt, -Int32.not_le, nI_z, nI_ltI, nI_leI, nI_1, nI_clamp, q_vp, nI_pos', rget_k, rset_k, lget_k, hup_hup, h0, h1, b10]
    refine X_Integer_stringSize_16 (W47_ok G) (genJ (P := fun J => exB _ _ _ _ (J 40) _ _ _ _ _ _ _ _) (fun J hJ => ?_))
    simp [exB, hJ, exT, stp, lv_args, Value.category, lkL, stL1, stL2, insL, contX, q_ofNat, f4_3, nI_1, -Int32.not_lt, -Int32.not_le, -Int64.not_lt, -Int64.not_le, T_Integer_stringSize_11, T_Integer_stringSize_16, T_Integer_stringSize_31, T_Integer_stringSize_42, R_Integer_stringSize, C_Integer_stringSize, M_Integer_stringSize, HH_Integer_stringSize, KI_1, KI_0, KB_m10, KB_10, -Int32.reduceOfInt, -Int8.reduceOfInt, -Int16.reduceOfInt, -Int32.ofInt_neg, h0, h1, h5]
    try simp (disch := omega) [-Int64.not_lt, -Int64.not_le, -Int32.not_lt, -Int32.not_le, nI_z, nI_ltI, nI_leI, nI_1, nI_clamp, q_vp, nI_pos', rget_k, rset_k, lget_k, hup_hup, h0, h1, h5]
    exact hq
  · have h5 : -nI v ≤ -10 := h3.mpr (by omega)
    rw [if_neg c] at hq
    refine Runs.of (by decide +kernel) (Nat.le_of_ble_eq_true rfl) (X_Integer_stringSize_0 (W47_ok G) (genJ (P := fun J => exB _ _ _ _ (J 40) _ _ _ _ _ _ _ _) (fun J hJ => ?_)))
    simp [exB, hJ, exT, stp, lv_args, Value.category, lkL, stL1, stL2, insL, contX, q_ofNat, f4_3, nI_1, -Int32.not_lt, -Int32.not_le, -Int64.not_lt, -Int64.not_le, T_Integer_stringSize_11, T_Integer_stringSize_16, T_Integer_stringSize_31, T_Integer_stringSize_42, R_Integer_stringSize, C_Integer_stringSize, M_Integer_stringSize, HH_Integer_stringSize, KI_1, KI_0, KB_m10, KB_10, -Int32.reduceOfInt, -Int8.reduceOfInt, -Int16.reduceOfInt, -Int32.ofInt_neg, h0, h1, b10]
    try simp (disch := omega) [-Int64.not_lt, -Int64.not_le, -Int32.not_lt, -Int32.not_le, nI_z, nI_ltI, nI_leI, nI_1, nI_clamp, q_vp, nI_pos', rget_k, rset_k, lget_k, hup_hup, h0, h1, b10]
    refine X_Integer_stringSize_16 (W47_ok G) (genJ (P := fun J => exB _ _ _ _ (J 40) _ _ _ _ _ _ _ _) (fun J hJ => ?_))
    simp [exB, hJ, exT, stp, lv_args, Value.category, lkL, stL1, stL2, insL, contX, q_ofNat, f4_3, nI_1, -Int32.not_lt, -Int32.not_le, -Int64.not_lt, -Int64.not_le, T_Integer_stringSize_11, T_Integer_stringSize_16, T_Integer_stringSize_31, T_Integer_stringSize_42, R_Integer_stringSize, C_Integer_stringSize, M_Integer_stringSize, HH_Integer_stringSize, KI_1, KI_0, KB_m10, KB_10, -Int32.reduceOfInt, -Int8.reduceOfInt, -Int16.reduceOfInt, -Int32.ofInt_neg, h0, h1, h5, h2]
    try simp (disch := omega) [-Int64.not_lt, -Int64.not_le, -Int32.not_lt, -Int32.not_le, nI_z, nI_ltI, nI_leI, nI_1, nI_clamp, q_vp, nI_pos', rget_k, rset_k, lget_k, hup_hup, h0, h1, h5, h2]
    refine X_Integer_stringSize_16 (W47_ok G) (genJ (P := fun J => exB _ _ _ _ (J 40) _ _ _ _ _ _ _ _) (fun J hJ => ?_))
    simp [exB, hJ, exT, stp, lv_args, Value.category, lkL, stL1, stL2, insL, contX, q_ofNat, f4_3, nI_1, -Int32.not_lt, -Int32.not_le, -Int64.not_lt, -Int64.not_le, T_Integer_stringSize_11, T_Integer_stringSize_16, T_Integer_stringSize_31, T_Integer_stringSize_42, R_Integer_stringSize, C_Integer_stringSize, M_Integer_stringSize, HH_Integer_stringSize, KI_1, KI_0, KB_m10, KB_10, -Int32.reduceOfInt, -Int8.reduceOfInt, -Int16.reduceOfInt, -Int32.ofInt_neg, h0, h1, h5, h2]
    try simp (disch := omega) [-Int64.not_lt, -Int64.not_le, -Int32.not_lt, -Int32.not_le, nI_z, nI_ltI, nI_leI, nI_1, nI_clamp, q_vp, nI_pos', rget_k, rset_k, lget_k, hup_hup, h0, h1, h5, h2]
    exact hq
end BL
