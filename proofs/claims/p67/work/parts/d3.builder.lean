/-! d3: builders of text: room, appends -/
def W48 (G : GG) : WF := (wcons 164 rx_Integer_trailing (wcons 162 rx_Integer_getChars (wcons 163 rx_Integer_stringSize (wcons 185 rx_Arr_copyOf (wcons 186 rx_Arr_checkLength (wcons 189 rx_AS_newLength (wcons 184 rx_L1_canEncode (wcons 158 rx_AB_getValue (wcons 159 rx_AB_isLatin1 (wcons 151 rx_AB_length (W47 G)))))))))))
theorem W48_ok (G : GG) : WOK G (W48 G) := (wcons_ok (fun _ _ _ _ hx => r_Integer_trailing hx) (wcons_ok (fun _ _ _ _ hx => r_Integer_getChars hx) (wcons_ok (fun _ _ _ _ hx => r_Integer_stringSize hx) (wcons_ok (fun _ _ _ _ hx => r_Arr_copyOf hx) (wcons_ok (fun _ _ _ _ hx => r_Arr_checkLength hx) (wcons_ok (fun _ _ _ _ hx => r_AS_newLength hx) (wcons_ok (fun _ _ _ _ hx => r_L1_canEncode hx) (wcons_ok (fun _ _ _ _ hx => r_AB_getValue hx) (wcons_ok (fun _ _ _ _ hx => r_AB_isLatin1 hx) (wcons_ok (fun _ _ _ _ hx => r_AB_length hx) (W47_ok G)))))))))))
def capN (cap m : Nat) : Nat := cap + (if m - cap < cap + 2 then cap + 2 else m - cap)
def rx_AB_newCap (as : List Value) (h : HM) (o : Option Nat) (Q : XQ) : Prop := A_ri as fun a x => ∃ b cap n f m, (h a = some (bld b n) ∧ h b = some (byA cap f) ∧ x = nI m ∧ cap < m ∧ m ≤ 900) ∧ Q (.inl (some (.int (nI (capN cap m))))) h o
def rx_AB_ensure (as : List Value) (h : HM) (o : Option Nat) (Q : XQ) : Prop := A_ri as fun a x => ∃ z b cap f l m, (o = some z ∧ a < z ∧ b < z ∧ BLD h a b cap f l ∧ x = nI m ∧ m ≤ 900) ∧ APO Q (.inl none) h a z b cap m l
section BL
variable {G : GG} {as : List Value} {h : HM} {o : Option Nat} {Q : XQ}
theorem HH_AB_newCap : mHH 153 = [] := rfl
theorem W48_AS_newLength {G : GG} {as : List Value} {h : HM} {o : Option Nat} {Q : XQ} : RX G (W48 G) 189 as h o Q = rx_AS_newLength as h o Q := rfl
set_option maxRecDepth 2000 in
set_option maxHeartbeats 200000 in
theorem r_AB_newCap (hx : rx_AB_newCap as h o Q) : Runs G m_AB_newCap as h o Q := by
  obtain ⟨a, x, rfl, b, cap, n, f, m, ⟨h1, h2, rfl, hc, hm⟩, hq⟩ := E_ri hx
  have e1 := nI_subN (a := m) (b := cap) (by omega)
  have e2 : (2 : Int32) <<< (Int32.ofInt 0 &&& 31) = 2 := by decide
  have e3 : nI cap + 2 = nI (cap + 2) := nI_add cap 2
  have e4 : capN cap m ≤ 1802 := by unfold capN; split <;> omega
  have e5 : ¬ nI (capN cap m) = nI 2147483647 := fun e => by
    have := nI_lt (show capN cap m < 2147483647 by omega) (by omega)
    rw [e] at this
    exact Int32.lt_irrefl this
  refine Runs.of (by decide +kernel) (Nat.le_of_ble_eq_true rfl) (X_AB_newCap_0 (W48_ok G) (genJ (P := fun J => exB _ _ _ _ (J 40) _ _ _ _ _ _ _ _) (fun J hJ => ?_)))
  simp [exB, hJ, exT, stp, lv_args, Value.category, lkL, stL1, stL2, insL, contX, q_ofNat, f4_3, nI_1, -Int32.not_lt, -Int32.not_le, -Int64.not_lt, -Int64.not_le, T_AB_newCap_51, R_AB_newCap, C_AB_newCap, M_AB_newCap, HH_AB_newCap, KI_2, -Int32.reduceOfInt, -Int8.reduceOfInt, -Int16.reduceOfInt, -Int32.ofInt_neg, O_AB_newCap_AS_newLength, C_AS_newLength, M_AS_newLength, W48_AS_newLength, rx_AS_newLength, h1, h2, sb_shl0, sb_shr0, e1, e2, e3, A_iii, rx_AS_newLength]
  try simp (disch := omega) [-Int64.not_lt, -Int64.not_le, -Int32.not_lt, -Int32.not_le, nI_z, nI_ltI, nI_leI, nI_1, nI_clamp, q_vp, nI_pos', rget_k, rset_k, lget_k, hup_hup, h1, h2, sb_shl0, sb_shr0, e1, e2, e3, A_iii, rx_AS_newLength]
  exact ⟨cap, m - cap, cap + 2, ⟨rfl, rfl, rfl, by omega, by omega, by omega, by omega⟩, fun _ => hq, fun e => absurd e e5⟩
end BL
def W49 (G : GG) : WF := (wcons 153 rx_AB_newCap (W48 G))
theorem W49_ok (G : GG) : WOK G (W49 G) := (wcons_ok (fun _ _ _ _ hx => r_AB_newCap hx) (W48_ok G))
theorem sub_np {m c : Nat} (h : m ≤ c) (hc : c < 2 ^ 31) : nI m - nI c ≤ 0 := by
  have e : nI m - nI c = -nI (c - m) := by
    rw [← nI_subN h, Int32.neg_sub]
  rw [e, show (0 : Int32) = -nI 0 by decide]
  exact (sb_nle (by omega) (by decide)).mpr (Nat.zero_le _)
theorem BOK_grow {cap m : Nat} {f : Nat → Int32} {l : List Int32} (h : BOK cap f l) (hc : cap < m) (hm : m ≤ 900) : BOK (capN cap m) (va_cpy f (fun _ => 0) 0 0 cap) l ∧ m ≤ capN cap m := by
  obtain ⟨h1, h2, h3, h4⟩ := h
  have e : m ≤ capN cap m ∧ capN cap m ≤ 1802 := by unfold capN; split <;> omega
  exact ⟨⟨by omega, e.2, sb_fitC h3 sb_fit0, fun i hi => (sb_cpy0 (by omega)).trans (h4 i hi)⟩, e.1⟩
section BL
variable {G : GG} {as : List Value} {h : HM} {o : Option Nat} {Q : XQ}
theorem HH_AB_ensure : mHH 152 = [] := rfl
theorem TY_12_0 {v : Nat} : okw (tyC 12 0) (.ref v) = True := rfl
theorem TY_12_0n : okw (tyC 12 0) (.null) = True := rfl
theorem W49_AB_newCap {G : GG} {as : List Value} {h : HM} {o : Option Nat} {Q : XQ} : RX G (W49 G) 153 as h o Q = rx_AB_newCap as h o Q := rfl
theorem W49_Arr_copyOf {G : GG} {as : List Value} {h : HM} {o : Option Nat} {Q : XQ} : RX G (W49 G) 185 as h o Q = rx_Arr_copyOf as h o Q := rfl
set_option maxRecDepth 2000 in
set_option maxHeartbeats 200000 in
theorem r_AB_ensure (hx : rx_AB_ensure as h o Q) : Runs G m_AB_ensure as h o Q := by
  obtain ⟨a, x, rfl, z, b, cap, f, l, m, ⟨rfl, ha, hb, ⟨⟨h1, h2⟩, hab, hB⟩, rfl, hm⟩, hq⟩ := E_ri hx
  obtain ⟨h5, h6, h7, h8⟩ := id hB
  by_cases c : cap < m
  · obtain ⟨g1, g2⟩ := BOK_grow hB c hm
    have q := hq z _ _ _ (Or.inr ⟨rfl, rfl⟩) g1 g2 (by unfold capN; omega)
    have e1 := nI_subN (a := m) (b := cap) (by omega)
    have e2 : 0 < nI (m - cap) := nI_lt (show 0 < m - cap by omega) (by omega)
    have e3 : ¬ nI (m - cap) ≤ 0 := Int32.not_le.mpr e2
    have n1 : a ≠ z := Nat.ne_of_lt ha
    have n2 : b ≠ z := Nat.ne_of_lt hb
    refine Runs.of (by decide +kernel) (Nat.le_of_ble_eq_true rfl) (X_AB_ensure_0 (W49_ok G) (genJ (P := fun J => exB _ _ _ _ (J 40) _ _ _ _ _ _ _ _) (fun J hJ => ?_)))
    simp [exB, hJ, exT, stp, lv_args, Value.category, lkL, stL1, stL2, insL, contX, q_ofNat, f4_3, nI_1, -Int32.not_lt, -Int32.not_le, -Int64.not_lt, -Int64.not_le, T_AB_ensure_38, R_AB_ensure, C_AB_ensure, M_AB_ensure, HH_AB_ensure, -Int32.reduceOfInt, -Int8.reduceOfInt, -Int16.reduceOfInt, -Int32.ofInt_neg, TY_12_0, TY_12_0n, O_AB_ensure_AB_newCap, C_AB_newCap, M_AB_newCap, W49_AB_newCap, rx_AB_newCap, O_AB_ensure_Arr_copyOf, C_Arr_copyOf, M_Arr_copyOf, W49_Arr_copyOf, rx_Arr_copyOf, h1, h2, sb_shl0, sb_shr0, e1, e3, A_ri, rx_AB_newCap, rx_Arr_copyOf, hup_nq n1, hup_at]
    try simp (disch := omega) [-Int64.not_lt, -Int64.not_le, -Int32.not_lt, -Int32.not_le, nI_z, nI_ltI, nI_leI, nI_1, nI_clamp, q_vp, nI_pos', rget_k, rset_k, lget_k, hup_hup, h1, h2, sb_shl0, sb_shr0, e1, e3, A_ri, rx_AB_newCap, rx_Arr_copyOf, hup_nq n1, hup_at]
    refine ⟨b, cap, l.length, f, m, ⟨⟨rfl, rfl⟩, h2, rfl, c, hm⟩, z, cap, f, capN cap m, ⟨rfl, ⟨rfl, rfl⟩, hb, rfl, by omega, by have := g1.2.1; omega, h7⟩, ?_⟩
    rw [hup_nq n1, h1]
    exact ⟨rfl, Nat.zero_lt_succ _, q⟩
  · have q := hq b cap f z (Or.inl ⟨rfl, rfl⟩) hB (by omega) (Nat.le_refl _)
    rw [hup_same h2, hup_same h1] at q
    have e3 := sub_np (m := m) (c := cap) (by omega) (by omega)
    refine Runs.of (by decide +kernel) (Nat.le_of_ble_eq_true rfl) (X_AB_ensure_0 (W49_ok G) (genJ (P := fun J => exB _ _ _ _ (J 40) _ _ _ _ _ _ _ _) (fun J hJ => ?_)))
    simp [exB, hJ, exT, stp, lv_args, Value.category, lkL, stL1, stL2, insL, contX, q_ofNat, f4_3, nI_1, -Int32.not_lt, -Int32.not_le, -Int64.not_lt, -Int64.not_le, T_AB_ensure_38, R_AB_ensure, C_AB_ensure, M_AB_ensure, HH_AB_ensure, -Int32.reduceOfInt, -Int8.reduceOfInt, -Int16.reduceOfInt, -Int32.ofInt_neg, TY_12_0, TY_12_0n, O_AB_ensure_AB_newCap, C_AB_newCap, M_AB_newCap, W49_AB_newCap, rx_AB_newCap, O_AB_ensure_Arr_copyOf, C_Arr_copyOf, M_Arr_copyOf, W49_Arr_copyOf, rx_Arr_copyOf, h1, h2, sb_shl0, sb_shr0, e3]
    try simp (disch := omega) [-Int64.not_lt, -Int64.not_le, -Int32.not_lt, -Int32.not_le, nI_z, nI_ltI, nI_leI, nI_1, nI_clamp, q_vp, nI_pos', rget_k, rset_k, lget_k, hup_hup, h1, h2, sb_shl0, sb_shr0, e3]
    exact q
end BL
def W50 (G : GG) : WF := (wcons 152 rx_AB_ensure (W49 G))
theorem W50_ok (G : GG) : WOK G (W50 G) := (wcons_ok (fun _ _ _ _ hx => r_AB_ensure hx) (W49_ok G))
theorem fit_nar {f : Nat → Int32} {p : Nat} {x : Int32} (h : sb_Fit f) : sb_Fit (upd f p (vp_nar .byte x)) := sb_fitU h (by rw [vp_nar_byte]; exact pk_fb x)
theorem BOK_put {cap : Nat} {f g : Nat → Int32} {l t : List Int32} (h : BOK cap f l) (hn : l.length + t.length ≤ cap) (hg : sb_Fit g) (h1 : ∀ i, i < l.length → g i = f i) (h2 : ∀ i, i < t.length → g (l.length + i) = t.getD i 0) : BOK cap g (l ++ t) := by
  obtain ⟨h5, h6, h7, h8⟩ := h
  refine ⟨by rw [List.length_append]; omega, h6, hg, fun i hi => ?_⟩
  rw [List.length_append] at hi
  by_cases c : i < l.length
  · rw [h1 i c, h8 i c, List.getD_eq_getElem?_getD, List.getD_eq_getElem?_getD, List.getElem?_append_left c]
  · rw [List.getD_eq_getElem?_getD, List.getElem?_append_right (by omega), ← List.getD_eq_getElem?_getD]
    have := h2 (i - l.length) (by omega)
    rw [show l.length + (i - l.length) = i by omega] at this
    exact this
/-- behind an append: t at the end of l -/
def APT (Q : XQ) (h : HM) (a z b cap : Nat) (l : List Int32) : Prop := ∀ b' cap' f' z', ((b' = b ∧ z' = z) ∨ (b' = z ∧ z' = z + 1)) → BOK cap' f' l → cap ≤ cap' → Q (.inl (some (.ref a))) (hup (hup h b' (byA cap' f')) a (bld b' l.length)) (some z')
def rx_AB_appendC (as : List Value) (h : HM) (o : Option Nat) (Q : XQ) : Prop := A_ri as fun a x => ∃ z b cap f l c, (o = some z ∧ a < z ∧ b < z ∧ BLD h a b cap f l ∧ x = nI c ∧ c < 128 ∧ l.length ≤ 800) ∧ APT Q h a z b cap (l ++ [nI c])
def rx_AB_appendI (as : List Value) (h : HM) (o : Option Nat) (Q : XQ) : Prop := A_ri as fun a x => ∃ z b cap f l v, (o = some z ∧ a < z ∧ b < z ∧ BLD h a b cap f l ∧ x = nI v ∧ v < 100 ∧ l.length ≤ 800) ∧ APT Q h a z b cap (l ++ decL v)
theorem hup_bab {h : HM} {a b : Nat} {e1 e2 e3 e4 : AE} (n : a ≠ b) : hup (hup (hup (hup h b e1) a e2) a e3) b e4 = hup (hup h b e4) a e3 := by
  funext x
  by_cases c1 : x = b
  · subst c1; rw [hup_at, hup_nq (Ne.symm n), hup_at]
  · rw [hup_nq c1]
    by_cases c2 : x = a
    · subst c2; rw [hup_at, hup_at]
    · rw [hup_nq c2, hup_nq c2, hup_nq c1, hup_nq c2, hup_nq c1]
theorem hup_ba2 {h : HM} {a b : Nat} {e1 e3 e4 : AE} (n : a ≠ b) : hup (hup (hup h b e1) a e3) b e4 = hup (hup h b e4) a e3 := by
  funext x
  by_cases c1 : x = b
  · subst c1; rw [hup_at, hup_nq (Ne.symm n), hup_at]
  · rw [hup_nq c1]
    by_cases c2 : x = a
    · subst c2; rw [hup_at, hup_at]
    · rw [hup_nq c2, hup_nq c2, hup_nq c1]; rw [hup_nq c1]
theorem dch_fit : ∀ d, d < 10 → fits .byte (.int (nI (48 + d))) = true := by decide +kernel
theorem decL_fit {v : Nat} (hv : v < 100) (i : Nat) : fits .byte (.int ((decL v).getD i 0)) = true := by
  have z : fits .byte (.int 0) = true := by decide
  unfold decL
  split
  · match i with
    | 0 => exact dch_fit v (by omega)
    | i + 1 => exact z
  · match i with
    | 0 => exact dch_fit (v / 10) (by omega)
    | 1 => exact dch_fit (v % 10) (by omega)
    | i + 2 => exact z
theorem chr_ok : ∀ c, c < 128 → nI c ≤ 255 ∧ vp_nar .byte (nI c).toInt8.toInt32 = nI c := by decide +kernel
section BL
variable {G : GG} {as : List Value} {h : HM} {o : Option Nat} {Q : XQ}
theorem HH_AB_appendC : mHH 156 = [] := rfl
theorem TY_12_3 {v : Int32} : okw (tyC 12 3) (.int v) = True := rfl
theorem W50_AB_ensure {G : GG} {as : List Value} {h : HM} {o : Option Nat} {Q : XQ} : RX G (W50 G) 152 as h o Q = rx_AB_ensure as h o Q := rfl
theorem W50_AB_isLatin1 {G : GG} {as : List Value} {h : HM} {o : Option Nat} {Q : XQ} : RX G (W50 G) 159 as h o Q = rx_AB_isLatin1 as h o Q := rfl
theorem W50_L1_canEncode {G : GG} {as : List Value} {h : HM} {o : Option Nat} {Q : XQ} : RX G (W50 G) 184 as h o Q = rx_L1_canEncode as h o Q := rfl
theorem apc_t3 {a b cap m : Nat} {f : Nat → Int32} {x p : Int32} (hm : p.toNatClampNeg = m) (h2 : h b = some (byA cap f)) (hv : vp_in p cap) (c2 : vp_nar .byte x.toInt8.toInt32 = x) (q : Q (.inl (some (.ref a))) (hup h b (byA cap (upd f m x))) o) : EX G m_AB_appendC 39 [(0, .ref a), (1, .int x)] [.int p, .ref b] h o 1 4000 Q := by
  have hJ : True := trivial
  obtain ⟨y, ey⟩ : ∃ y : Int32, y = x.toInt8.toInt32 := ⟨_, rfl⟩
  rw [← ey] at c2
  refine exB_ok (t := [(.iload_n 1, 1, 0, 0, 0, 0), (.i2b, 1, 0, 0, 0, 0)]) (W50_ok G) (jj := fun q L st h o k n => EX G m_AB_appendC q L st h o k n Q) (fun q L st h o k n hq => hq) (by decide +kernel) ?_
  simp [exB, hJ, exT, stp, lv_args, Value.category, lkL, stL1, stL2, insL, contX, q_ofNat, f4_3, nI_1, -Int32.not_lt, -Int32.not_le, -Int64.not_lt, -Int64.not_le, T_AB_appendC_45, T_AB_appendC_56, T_AB_appendC_75, R_AB_appendC, C_AB_appendC, M_AB_appendC, HH_AB_appendC, KI_1, -Int32.reduceOfInt, -Int8.reduceOfInt, -Int16.reduceOfInt, -Int32.ofInt_neg, TY_12_3, O_AB_appendC_AB_ensure, C_AB_ensure, M_AB_ensure, W50_AB_ensure, rx_AB_ensure, O_AB_appendC_AB_isLatin1, C_AB_isLatin1, M_AB_isLatin1, W50_AB_isLatin1, rx_AB_isLatin1, O_AB_appendC_L1_canEncode, C_L1_canEncode, M_L1_canEncode, W50_L1_canEncode, rx_L1_canEncode]
  try simp (disch := omega) [-Int64.not_lt, -Int64.not_le, -Int32.not_lt, -Int32.not_le, nI_z, nI_ltI, nI_leI, nI_1, nI_clamp, q_vp, nI_pos', rget_k, rset_k, lget_k, hup_hup]
  rw [← ey]
  clear ey
  refine exB_ok (t := [(.bastore, 1, 0, 0, 0, 0), (.goto 33, 3, 75, 0, 0, 0)]) (W50_ok G) (jj := fun q L st h o k n => EX G m_AB_appendC q L st h o k n Q) (fun q L st h o k n hq => hq) (by decide +kernel) ?_
  simp [exB, hJ, exT, stp, lv_args, Value.category, lkL, stL1, stL2, insL, contX, q_ofNat, f4_3, nI_1, -Int32.not_lt, -Int32.not_le, -Int64.not_lt, -Int64.not_le, T_AB_appendC_45, T_AB_appendC_56, T_AB_appendC_75, R_AB_appendC, C_AB_appendC, M_AB_appendC, HH_AB_appendC, KI_1, -Int32.reduceOfInt, -Int8.reduceOfInt, -Int16.reduceOfInt, -Int32.ofInt_neg, TY_12_3, O_AB_appendC_AB_ensure, C_AB_ensure, M_AB_ensure, W50_AB_ensure, rx_AB_ensure, O_AB_appendC_AB_isLatin1, C_AB_isLatin1, M_AB_isLatin1, W50_AB_isLatin1, rx_AB_isLatin1, O_AB_appendC_L1_canEncode, C_L1_canEncode, M_L1_canEncode, W50_L1_canEncode, rx_L1_canEncode, h2, c2, hv, hm]
  try simp (disch := omega) [-Int64.not_lt, -Int64.not_le, -Int32.not_lt, -Int32.not_le, nI_z, nI_ltI, nI_leI, nI_1, nI_clamp, q_vp, nI_pos', rget_k, rset_k, lget_k, hup_hup, h2, c2, hv, hm]
  refine exB_ok (t := [(.aload_n 0, 1, 0, 0, 0, 0), (.areturn, 1, 0, 0, 0, 0)]) (W50_ok G) (jj := fun q L st h o k n => EX G m_AB_appendC q L st h o k n Q) (fun q L st h o k n hq => hq) (by decide +kernel) ?_
  simp [exB, hJ, exT, stp, lv_args, Value.category, lkL, stL1, stL2, insL, contX, q_ofNat, f4_3, nI_1, -Int32.not_lt, -Int32.not_le, -Int64.not_lt, -Int64.not_le, T_AB_appendC_45, T_AB_appendC_56, T_AB_appendC_75, R_AB_appendC, C_AB_appendC, M_AB_appendC, HH_AB_appendC, KI_1, -Int32.reduceOfInt, -Int8.reduceOfInt, -Int16.reduceOfInt, -Int32.ofInt_neg, TY_12_3, O_AB_appendC_AB_ensure, C_AB_ensure, M_AB_ensure, W50_AB_ensure, rx_AB_ensure, O_AB_appendC_AB_isLatin1, C_AB_isLatin1, M_AB_isLatin1, W50_AB_isLatin1, rx_AB_isLatin1, O_AB_appendC_L1_canEncode, C_L1_canEncode, M_L1_canEncode, W50_L1_canEncode, rx_L1_canEncode]
  try simp (disch := omega) [-Int64.not_lt, -Int64.not_le, -Int32.not_lt, -Int32.not_le, nI_z, nI_ltI, nI_leI, nI_1, nI_clamp, q_vp, nI_pos', rget_k, rset_k, lget_k, hup_hup]
  exact q
theorem apc_tail {a b cap m : Nat} {f : Nat → Int32} {x p p1 : Int32} (hm : p.toNatClampNeg = m) (h1 : h a = some (.inr (12, [.ref b, .int 0, .int 0, .int p]))) (h2 : h b = some (byA cap f)) (n1 : a ≠ b) (hv : vp_in p cap) (e0 : p + 1 = p1) (c2 : vp_nar .byte x.toInt8.toInt32 = x) (q : Q (.inl (some (.ref a))) (hup (hup h a (.inr (12, [.ref b, .int 0, .int 0, .int p1]))) b (byA cap (upd f m x))) o) : EX G m_AB_appendC 24 [(0, .ref a), (1, .int x)] [] h o 1 4000 Q := by
  have hJ : True := trivial
  have n2 := Ne.symm n1
  refine exB_ok (t := [(.aload_n 0, 1, 0, 0, 0, 0), (.getfield 15, 3, 12, 0, 0, 0), (.aload_n 0, 1, 0, 0, 0, 0), (.dup, 1, 0, 0, 0, 0), (.getfield 79, 3, 12, 3, 0, 0), (.dup_x1, 1, 0, 0, 0, 0), (.iconst 1, 1, 0, 0, 0, 0), (.iadd, 1, 0, 0, 0, 0), (.putfield 79, 3, 12, 3, 0, 0)]) (W50_ok G) (jj := fun q L st h o k n => EX G m_AB_appendC q L st h o k n Q) (fun q L st h o k n hq => hq) (by decide +kernel) ?_
  simp [exB, hJ, exT, stp, lv_args, Value.category, lkL, stL1, stL2, insL, contX, q_ofNat, f4_3, nI_1, -Int32.not_lt, -Int32.not_le, -Int64.not_lt, -Int64.not_le, T_AB_appendC_45, T_AB_appendC_56, T_AB_appendC_75, R_AB_appendC, C_AB_appendC, M_AB_appendC, HH_AB_appendC, KI_1, -Int32.reduceOfInt, -Int8.reduceOfInt, -Int16.reduceOfInt, -Int32.ofInt_neg, TY_12_3, O_AB_appendC_AB_ensure, C_AB_ensure, M_AB_ensure, W50_AB_ensure, rx_AB_ensure, O_AB_appendC_AB_isLatin1, C_AB_isLatin1, M_AB_isLatin1, W50_AB_isLatin1, rx_AB_isLatin1, O_AB_appendC_L1_canEncode, C_L1_canEncode, M_L1_canEncode, W50_L1_canEncode, rx_L1_canEncode, h1, e0]
  try simp (disch := omega) [-Int64.not_lt, -Int64.not_le, -Int32.not_lt, -Int32.not_le, nI_z, nI_ltI, nI_leI, nI_1, nI_clamp, q_vp, nI_pos', rget_k, rset_k, lget_k, hup_hup, h1, e0]
  exact apc_t3 hm ((hup_nq n2).trans h2) hv c2 q
set_option maxRecDepth 2000 in
set_option maxHeartbeats 200000 in
theorem r_AB_appendC (hx : rx_AB_appendC as h o Q) : Runs G m_AB_appendC as h o Q := by
  obtain ⟨a, x, rfl, z, b, cap, f, l, c, ⟨rfl, ha, hb, ⟨⟨h1, h2⟩, hab, hB⟩, rfl, hc, hl⟩, hq⟩ := E_ri hx
  change Nat at a
  obtain ⟨c1, c2⟩ := chr_ok c hc
  have e0 : nI l.length + 1 = nI (l.length + 1) := nI_add _ 1
  have r1 : roomOK m_AB_appendC 159 1 4000 = true := by decide +kernel
  have r2 : roomOK m_AB_appendC 184 1 4000 = true := by decide +kernel
  have hJ : True := trivial
  refine Runs.of (by decide +kernel) (Nat.le_of_ble_eq_true rfl) ?_
  refine exB_ok (t := [(.aload_n 0, 1, 0, 0, 0, 0), (.aload_n 0, 1, 0, 0, 0, 0), (.getfield 79, 3, 12, 3, 0, 0), (.iconst 1, 1, 0, 0, 0, 0), (.iadd, 1, 0, 0, 0, 0), (.invokevirtual 100, 3, 152, 2, 1, 12)]) (W50_ok G) (jj := fun q L st h o k n => EX G m_AB_appendC q L st h o k n Q) (fun q L st h o k n hq => hq) (by decide +kernel) ?_
  simp [exB, hJ, exT, stp, lv_args, Value.category, lkL, stL1, stL2, insL, contX, q_ofNat, f4_3, nI_1, -Int32.not_lt, -Int32.not_le, -Int64.not_lt, -Int64.not_le, T_AB_appendC_45, T_AB_appendC_56, T_AB_appendC_75, R_AB_appendC, C_AB_appendC, M_AB_appendC, HH_AB_appendC, KI_1, -Int32.reduceOfInt, -Int8.reduceOfInt, -Int16.reduceOfInt, -Int32.ofInt_neg, TY_12_3, O_AB_appendC_AB_ensure, C_AB_ensure, M_AB_ensure, W50_AB_ensure, rx_AB_ensure, O_AB_appendC_AB_isLatin1, C_AB_isLatin1, M_AB_isLatin1, W50_AB_isLatin1, rx_AB_isLatin1, O_AB_appendC_L1_canEncode, C_L1_canEncode, M_L1_canEncode, W50_L1_canEncode, rx_L1_canEncode, h1, A_ri, rx_AB_ensure, e0]
  try simp (disch := omega) [-Int64.not_lt, -Int64.not_le, -Int32.not_lt, -Int32.not_le, nI_z, nI_ltI, nI_leI, nI_1, nI_clamp, q_vp, nI_pos', rget_k, rset_k, lget_k, hup_hup, h1, A_ri, rx_AB_ensure, e0]
  refine ⟨z, b, cap, f, l, l.length + 1, ⟨rfl, ha, hb, ⟨⟨h1, h2⟩, hab, hB⟩, rfl, by omega⟩, ?_⟩
  intro b' cap' f' z' hz hB' hn hcap
  have n1 : a ≠ b' := by
    rcases hz with ⟨rfl, -⟩ | ⟨rfl, -⟩
    · exact hab
    · exact Nat.ne_of_lt ha
  have hv : vp_in (nI l.length) cap' := vp_in_nI (by omega) (by have := hB'.2.1; omega)
  have q := hq b' cap' (upd f' l.length (nI c)) z' hz (BOK_put hB' (by simp; omega) (by have := fit_nar (p := l.length) (x := (nI c).toInt8.toInt32) hB'.2.2.1; rwa [c2] at this) (fun i hi => if_neg (by omega)) (fun i hi => by simp at hi; subst hi; simp [upd])) hcap
  show EX G m_AB_appendC 10 _ _ _ _ 1 4000 _
  refine exB_ok (t := [(.aload_n 0, 1, 0, 0, 0, 0), (.invokevirtual 83, 3, 159, 2, 0, 12), (.ifCond .eq 31, 3, 45, 0, 0, 0)]) (W50_ok G) (jj := fun q L st h o k n => EX G m_AB_appendC q L st h o k n Q) (fun q L st h o k n hq => hq) (by decide +kernel) ?_
  simp [exB, hJ, exT, stp, lv_args, Value.category, lkL, stL1, stL2, insL, contX, q_ofNat, f4_3, nI_1, -Int32.not_lt, -Int32.not_le, -Int64.not_lt, -Int64.not_le, T_AB_appendC_45, T_AB_appendC_56, T_AB_appendC_75, R_AB_appendC, C_AB_appendC, M_AB_appendC, HH_AB_appendC, KI_1, -Int32.reduceOfInt, -Int8.reduceOfInt, -Int16.reduceOfInt, -Int32.ofInt_neg, TY_12_3, O_AB_appendC_AB_ensure, C_AB_ensure, M_AB_ensure, W50_AB_ensure, rx_AB_ensure, O_AB_appendC_AB_isLatin1, C_AB_isLatin1, M_AB_isLatin1, W50_AB_isLatin1, rx_AB_isLatin1, O_AB_appendC_L1_canEncode, C_L1_canEncode, M_L1_canEncode, W50_L1_canEncode, rx_L1_canEncode, hup_at, A_r, rx_AB_isLatin1, r1]
  try simp (disch := omega) [-Int64.not_lt, -Int64.not_le, -Int32.not_lt, -Int32.not_le, nI_z, nI_ltI, nI_leI, nI_1, nI_clamp, q_vp, nI_pos', rget_k, rset_k, lget_k, hup_hup, hup_at, A_r, rx_AB_isLatin1, r1]
  refine ⟨⟨_, rfl⟩, ?_⟩
  refine exB_ok (t := [(.iload_n 1, 1, 0, 0, 0, 0), (.invokestatic 191, 3, 184, 0, 1, 0), (.ifCond .eq 24, 3, 45, 0, 0, 0)]) (W50_ok G) (jj := fun q L st h o k n => EX G m_AB_appendC q L st h o k n Q) (fun q L st h o k n hq => hq) (by decide +kernel) ?_
  simp [exB, hJ, exT, stp, lv_args, Value.category, lkL, stL1, stL2, insL, contX, q_ofNat, f4_3, nI_1, -Int32.not_lt, -Int32.not_le, -Int64.not_lt, -Int64.not_le, T_AB_appendC_45, T_AB_appendC_56, T_AB_appendC_75, R_AB_appendC, C_AB_appendC, M_AB_appendC, HH_AB_appendC, KI_1, -Int32.reduceOfInt, -Int8.reduceOfInt, -Int16.reduceOfInt, -Int32.ofInt_neg, TY_12_3, O_AB_appendC_AB_ensure, C_AB_ensure, M_AB_ensure, W50_AB_ensure, rx_AB_ensure, O_AB_appendC_AB_isLatin1, C_AB_isLatin1, M_AB_isLatin1, W50_AB_isLatin1, rx_AB_isLatin1, O_AB_appendC_L1_canEncode, C_L1_canEncode, M_L1_canEncode, W50_L1_canEncode, rx_L1_canEncode, A_i, rx_L1_canEncode, c1, r2]
  try simp (disch := omega) [-Int64.not_lt, -Int64.not_le, -Int32.not_lt, -Int32.not_le, nI_z, nI_ltI, nI_leI, nI_1, nI_clamp, q_vp, nI_pos', rget_k, rset_k, lget_k, hup_hup, A_i, rx_L1_canEncode, c1, r2]
  have el : (l ++ [nI c]).length = l.length + 1 := by simp
  rw [el] at q
  refine apc_tail (b := b') (f := f') (p := nI l.length) (p1 := nI (l.length + 1)) (nI_clamp (by omega)) (hup_at _ _ _) ((hup_nq (Ne.symm n1)).trans (hup_at _ _ _)) n1 hv e0 c2 ?_
  rw [hup_bab n1]
  exact q
theorem HH_AB_appendI : mHH 157 = [] := rfl
theorem W50_Integer_getChars {G : GG} {as : List Value} {h : HM} {o : Option Nat} {Q : XQ} : RX G (W50 G) 162 as h o Q = rx_Integer_getChars as h o Q := rfl
theorem W50_Integer_stringSize {G : GG} {as : List Value} {h : HM} {o : Option Nat} {Q : XQ} : RX G (W50 G) 163 as h o Q = rx_Integer_stringSize as h o Q := rfl
set_option maxRecDepth 2000 in
set_option maxHeartbeats 200000 in
theorem r_AB_appendI (hx : rx_AB_appendI as h o Q) : Runs G m_AB_appendI as h o Q := by
  obtain ⟨a, x, rfl, z, b, cap, f, l, v, ⟨rfl, ha, hb, ⟨⟨h1, h2⟩, hab, hB⟩, rfl, hv, hl⟩, hq⟩ := E_ri hx
  change Nat at a
  have dl : (decL v).length ≤ 2 := by rw [dec_len]; split <;> omega
  have r1 : roomOK m_AB_appendI 159 1 4000 = true := by decide +kernel
  have r2 : roomOK m_AB_appendI 162 1 4000 = true := by decide +kernel
  have hJ : True := trivial
  refine Runs.of (by decide +kernel) (Nat.le_of_ble_eq_true rfl) ?_
  refine exB_ok (t := [(.aload_n 0, 1, 0, 0, 0, 0), (.getfield 79, 3, 12, 3, 0, 0), (.istore_n 2, 1, 0, 0, 0, 0), (.iload_n 2, 1, 0, 0, 0, 0), (.iload_n 1, 1, 0, 0, 0, 0), (.invokestatic 245, 3, 163, 0, 1, 0), (.iadd, 1, 0, 0, 0, 0), (.istore_n 3, 1, 0, 0, 0, 0)]) (W50_ok G) (jj := fun q L st h o k n => EX G m_AB_appendI q L st h o k n Q) (fun q L st h o k n hq => hq) (by decide +kernel) ?_
  simp [exB, hJ, exT, stp, lv_args, Value.category, lkL, stL1, stL2, insL, contX, q_ofNat, f4_3, nI_1, -Int32.not_lt, -Int32.not_le, -Int64.not_lt, -Int64.not_le, T_AB_appendI_37, T_AB_appendI_48, R_AB_appendI, C_AB_appendI, M_AB_appendI, HH_AB_appendI, -Int32.reduceOfInt, -Int8.reduceOfInt, -Int16.reduceOfInt, -Int32.ofInt_neg, TY_12_3, O_AB_appendI_AB_ensure, C_AB_ensure, M_AB_ensure, W50_AB_ensure, rx_AB_ensure, O_AB_appendI_AB_isLatin1, C_AB_isLatin1, M_AB_isLatin1, W50_AB_isLatin1, rx_AB_isLatin1, O_AB_appendI_Integer_getChars, C_Integer_getChars, M_Integer_getChars, W50_Integer_getChars, rx_Integer_getChars, O_AB_appendI_Integer_stringSize, C_Integer_stringSize, M_Integer_stringSize, W50_Integer_stringSize, rx_Integer_stringSize, h1, A_i, rx_Integer_stringSize]
  try simp (disch := omega) [-Int64.not_lt, -Int64.not_le, -Int32.not_lt, -Int32.not_le, nI_z, nI_ltI, nI_leI, nI_1, nI_clamp, q_vp, nI_pos', rget_k, rset_k, lget_k, hup_hup, h1, A_i, rx_Integer_stringSize]
  refine ⟨v, ⟨hv, rfl⟩, ?_⟩
  rw [nI_add]
  refine exB_ok (t := [(.aload_n 0, 1, 0, 0, 0, 0), (.iload_n 3, 1, 0, 0, 0, 0), (.invokevirtual 100, 3, 152, 2, 1, 12)]) (W50_ok G) (jj := fun q L st h o k n => EX G m_AB_appendI q L st h o k n Q) (fun q L st h o k n hq => hq) (by decide +kernel) ?_
  simp [exB, hJ, exT, stp, lv_args, Value.category, lkL, stL1, stL2, insL, contX, q_ofNat, f4_3, nI_1, -Int32.not_lt, -Int32.not_le, -Int64.not_lt, -Int64.not_le, T_AB_appendI_37, T_AB_appendI_48, R_AB_appendI, C_AB_appendI, M_AB_appendI, HH_AB_appendI, -Int32.reduceOfInt, -Int8.reduceOfInt, -Int16.reduceOfInt, -Int32.ofInt_neg, TY_12_3, O_AB_appendI_AB_ensure, C_AB_ensure, M_AB_ensure, W50_AB_ensure, rx_AB_ensure, O_AB_appendI_AB_isLatin1, C_AB_isLatin1, M_AB_isLatin1, W50_AB_isLatin1, rx_AB_isLatin1, O_AB_appendI_Integer_getChars, C_Integer_getChars, M_Integer_getChars, W50_Integer_getChars, rx_Integer_getChars, O_AB_appendI_Integer_stringSize, C_Integer_stringSize, M_Integer_stringSize, W50_Integer_stringSize, rx_Integer_stringSize, h1, A_ri, rx_AB_ensure]
  try simp (disch := omega) [-Int64.not_lt, -Int64.not_le, -Int32.not_lt, -Int32.not_le, nI_z, nI_ltI, nI_leI, nI_1, nI_clamp, q_vp, nI_pos', rget_k, rset_k, lget_k, hup_hup, h1, A_ri, rx_AB_ensure]
  refine ⟨z, b, cap, f, l, l.length + (decL v).length, ⟨rfl, ha, hb, ⟨⟨h1, h2⟩, hab, hB⟩, rfl, by omega⟩, ?_⟩
  intro b' cap' f' z' hz hB' hn hcap
  have n1 : a ≠ b' := by
    rcases hz with ⟨rfl, -⟩ | ⟨rfl, -⟩
    · exact hab
    · exact Nat.ne_of_lt ha
  have fitP : sb_Fit (putF f' l.length (decL v)) := by
    intro j
    unfold putF
    split
    · exact decL_fit hv _
    · exact hB'.2.2.1 j
  have q := hq b' cap' (putF f' l.length (decL v)) z' hz (BOK_put hB' (by omega) fitP (fun i hi => if_neg (by omega)) (fun i hi => by
    unfold putF
    rw [if_pos (by omega), Nat.add_sub_cancel_left])) hcap
  show EX G m_AB_appendI 17 _ _ _ _ 1 4000 _
  refine exB_ok (t := [(.aload_n 0, 1, 0, 0, 0, 0), (.invokevirtual 83, 3, 159, 2, 0, 12), (.ifCond .eq 16, 3, 37, 0, 0, 0)]) (W50_ok G) (jj := fun q L st h o k n => EX G m_AB_appendI q L st h o k n Q) (fun q L st h o k n hq => hq) (by decide +kernel) ?_
  simp [exB, hJ, exT, stp, lv_args, Value.category, lkL, stL1, stL2, insL, contX, q_ofNat, f4_3, nI_1, -Int32.not_lt, -Int32.not_le, -Int64.not_lt, -Int64.not_le, T_AB_appendI_37, T_AB_appendI_48, R_AB_appendI, C_AB_appendI, M_AB_appendI, HH_AB_appendI, -Int32.reduceOfInt, -Int8.reduceOfInt, -Int16.reduceOfInt, -Int32.ofInt_neg, TY_12_3, O_AB_appendI_AB_ensure, C_AB_ensure, M_AB_ensure, W50_AB_ensure, rx_AB_ensure, O_AB_appendI_AB_isLatin1, C_AB_isLatin1, M_AB_isLatin1, W50_AB_isLatin1, rx_AB_isLatin1, O_AB_appendI_Integer_getChars, C_Integer_getChars, M_Integer_getChars, W50_Integer_getChars, rx_Integer_getChars, O_AB_appendI_Integer_stringSize, C_Integer_stringSize, M_Integer_stringSize, W50_Integer_stringSize, rx_Integer_stringSize, hup_at, A_r, rx_AB_isLatin1, r1]
  try simp (disch := omega) [-Int64.not_lt, -Int64.not_le, -Int32.not_lt, -Int32.not_le, nI_z, nI_ltI, nI_leI, nI_1, nI_clamp, q_vp, nI_pos', rget_k, rset_k, lget_k, hup_hup, hup_at, A_r, rx_AB_isLatin1, r1]
  refine ⟨⟨_, rfl⟩, ?_⟩
  refine exB_ok (t := [(.iload_n 1, 1, 0, 0, 0, 0), (.iload_n 3, 1, 0, 0, 0, 0), (.aload_n 0, 1, 0, 0, 0, 0), (.getfield 15, 3, 12, 0, 0, 0), (.invokestatic 248, 3, 162, 0, 3, 0), (.pop, 1, 0, 0, 0, 0), (.goto 14, 3, 48, 0, 0, 0)]) (W50_ok G) (jj := fun q L st h o k n => EX G m_AB_appendI q L st h o k n Q) (fun q L st h o k n hq => hq) (by decide +kernel) ?_
  simp [exB, hJ, exT, stp, lv_args, Value.category, lkL, stL1, stL2, insL, contX, q_ofNat, f4_3, nI_1, -Int32.not_lt, -Int32.not_le, -Int64.not_lt, -Int64.not_le, T_AB_appendI_37, T_AB_appendI_48, R_AB_appendI, C_AB_appendI, M_AB_appendI, HH_AB_appendI, -Int32.reduceOfInt, -Int8.reduceOfInt, -Int16.reduceOfInt, -Int32.ofInt_neg, TY_12_3, O_AB_appendI_AB_ensure, C_AB_ensure, M_AB_ensure, W50_AB_ensure, rx_AB_ensure, O_AB_appendI_AB_isLatin1, C_AB_isLatin1, M_AB_isLatin1, W50_AB_isLatin1, rx_AB_isLatin1, O_AB_appendI_Integer_getChars, C_Integer_getChars, M_Integer_getChars, W50_Integer_getChars, rx_Integer_getChars, O_AB_appendI_Integer_stringSize, C_Integer_stringSize, M_Integer_stringSize, W50_Integer_stringSize, rx_Integer_stringSize, hup_at, hup_nq n1, hup_nq (Ne.symm n1), A_iir, rx_Integer_getChars, r2]
  try simp (disch := omega) [-Int64.not_lt, -Int64.not_le, -Int32.not_lt, -Int32.not_le, nI_z, nI_ltI, nI_leI, nI_1, nI_clamp, q_vp, nI_pos', rget_k, rset_k, lget_k, hup_hup, hup_at, hup_nq n1, hup_nq (Ne.symm n1), A_iir, rx_Integer_getChars, r2]
  refine ⟨v, l.length, cap', f', ⟨hv, rfl, rfl, hn, by have := hB'.2.1; omega, rfl, rfl⟩, ?_⟩
  refine exB_ok (t := [(.aload_n 0, 1, 0, 0, 0, 0), (.iload_n 3, 1, 0, 0, 0, 0), (.putfield 79, 3, 12, 3, 0, 0), (.aload_n 0, 1, 0, 0, 0, 0), (.areturn, 1, 0, 0, 0, 0)]) (W50_ok G) (jj := fun q L st h o k n => EX G m_AB_appendI q L st h o k n Q) (fun q L st h o k n hq => hq) (by decide +kernel) ?_
  simp [exB, hJ, exT, stp, lv_args, Value.category, lkL, stL1, stL2, insL, contX, q_ofNat, f4_3, nI_1, -Int32.not_lt, -Int32.not_le, -Int64.not_lt, -Int64.not_le, T_AB_appendI_37, T_AB_appendI_48, R_AB_appendI, C_AB_appendI, M_AB_appendI, HH_AB_appendI, -Int32.reduceOfInt, -Int8.reduceOfInt, -Int16.reduceOfInt, -Int32.ofInt_neg, TY_12_3, O_AB_appendI_AB_ensure, C_AB_ensure, M_AB_ensure, W50_AB_ensure, rx_AB_ensure, O_AB_appendI_AB_isLatin1, C_AB_isLatin1, M_AB_isLatin1, W50_AB_isLatin1, rx_AB_isLatin1, O_AB_appendI_Integer_getChars, C_Integer_getChars, M_Integer_getChars, W50_Integer_getChars, rx_Integer_getChars, O_AB_appendI_Integer_stringSize, C_Integer_stringSize, M_Integer_stringSize, W50_Integer_stringSize, rx_Integer_stringSize, hup_at, hup_nq n1, hup_nq (Ne.symm n1), hup_bab n1, hup_ba2 n1]
  try simp (disch := omega) [-Int64.not_lt, -Int64.not_le, -Int32.not_lt, -Int32.not_le, nI_z, nI_ltI, nI_leI, nI_1, nI_clamp, q_vp, nI_pos', rget_k, rset_k, lget_k, hup_hup, hup_at, hup_nq n1, hup_nq (Ne.symm n1), hup_bab n1, hup_ba2 n1]
  rw [List.length_append] at q
  exact q
end BL
def W51 (G : GG) : WF := (wcons 157 rx_AB_appendI (wcons 156 rx_AB_appendC (W50 G)))
theorem W51_ok (G : GG) : WOK G (W51 G) := (wcons_ok (fun _ _ _ _ hx => r_AB_appendI hx) (wcons_ok (fun _ _ _ _ hx => r_AB_appendC hx) (W50_ok G)))
def rx_AB_inflateIf (G : GG) (as : List Value) (h : HM) (o : Option Nat) (Q : XQ) : Prop := A_rr as fun a t => ∃ b n tk, (h a = some (bld b n) ∧ tk < TEXTS.length ∧ t = gS G tk) ∧ Q (.inl none) h o
def rx_St_getBytes (G : GG) (as : List Value) (h : HM) (o : Option Nat) (Q : XQ) : Prop := A_rrii as fun t b p c => ∃ tk n1 g q, (tk < TEXTS.length ∧ t = gS G tk ∧ h b = some (byA n1 g) ∧ p = nI q ∧ c = 0 ∧ q + (txL tk).length ≤ n1 ∧ n1 ≤ 1802) ∧ Q (.inl none) (hup h b (byA n1 (va_cpy (fun j => (txL tk)[j]?.getD 0) g 0 q (txL tk).length))) o
section BL
variable {G : GG} {as : List Value} {h : HM} {o : Option Nat} {Q : XQ}
theorem HH_AB_inflateIf : mHH 160 = [] := rfl
theorem W51_St_coder {G : GG} {as : List Value} {h : HM} {o : Option Nat} {Q : XQ} : RX G (W51 G) 173 as h o Q = rx_St_coder G as h o Q := rfl
set_option maxRecDepth 2000 in
set_option maxHeartbeats 200000 in
theorem r_AB_inflateIf (hx : rx_AB_inflateIf G as h o Q) : Runs G m_AB_inflateIf as h o Q := by
  obtain ⟨a, t, rfl, b, n, tk, ⟨h1, htk, rfl⟩, hq⟩ := E_rr hx
  have hJ : True := trivial
  refine Runs.of (by decide +kernel) (Nat.le_of_ble_eq_true rfl) ?_
  refine exB_ok (t := [(.getstatic 18, 3, 0, 1, 0, 0), (.ifCond .eq 18, 3, 21, 0, 0, 0), (.aload_n 0, 1, 0, 0, 0, 0), (.getfield 22, 3, 12, 1, 0, 0), (.aload_n 1, 1, 0, 0, 0, 0)]) (W51_ok G) (jj := fun q L st h o k n => EX G m_AB_inflateIf q L st h o k n Q) (fun q L st h o k n hq => hq) (by decide +kernel) ?_
  simp [exB, hJ, exT, stp, lv_args, Value.category, lkL, stL1, stL2, insL, contX, q_ofNat, f4_3, nI_1, -Int32.not_lt, -Int32.not_le, -Int64.not_lt, -Int64.not_le, T_AB_inflateIf_21, R_AB_inflateIf, C_AB_inflateIf, M_AB_inflateIf, HH_AB_inflateIf, -Int32.reduceOfInt, -Int8.reduceOfInt, -Int16.reduceOfInt, -Int32.ofInt_neg, O_AB_inflateIf_St_coder, C_St_coder, M_St_coder, W51_St_coder, rx_St_coder, h1]
  try simp (disch := omega) [-Int64.not_lt, -Int64.not_le, -Int32.not_lt, -Int32.not_le, nI_z, nI_ltI, nI_leI, nI_1, nI_clamp, q_vp, nI_pos', rget_k, rset_k, lget_k, hup_hup, h1]
  refine s_callVC (idx := 40) (j := m_St_coder) (nest := 0) (as := []) htk (by decide +kernel) (mmem_in (by decide +kernel)) rfl (by decide +kernel) rfl rfl (by decide +kernel) (Nat.le_of_ble_eq_true rfl) rfl rfl ?_
  refine RX_ok (W51_ok G) ?_
  show rx_St_coder G _ _ _ _
  refine ⟨_, _, Or.inl ⟨tk, htk, rfl, rfl, rfl⟩, ?_⟩
  show EX G m_AB_inflateIf 14 _ _ _ _ _ _ _
  refine exB_ok (t := [(.if_icmp .eq 7, 3, 21, 0, 0, 0)]) (W51_ok G) (jj := fun q L st h o k n => EX G m_AB_inflateIf q L st h o k n Q) (fun q L st h o k n hq => hq) (by decide +kernel) ?_
  simp [exB, hJ, exT, stp, lv_args, Value.category, lkL, stL1, stL2, insL, contX, q_ofNat, f4_3, nI_1, -Int32.not_lt, -Int32.not_le, -Int64.not_lt, -Int64.not_le, T_AB_inflateIf_21, R_AB_inflateIf, C_AB_inflateIf, M_AB_inflateIf, HH_AB_inflateIf, -Int32.reduceOfInt, -Int8.reduceOfInt, -Int16.reduceOfInt, -Int32.ofInt_neg, O_AB_inflateIf_St_coder, C_St_coder, M_St_coder, W51_St_coder, rx_St_coder]
  try simp (disch := omega) [-Int64.not_lt, -Int64.not_le, -Int32.not_lt, -Int32.not_le, nI_z, nI_ltI, nI_leI, nI_1, nI_clamp, q_vp, nI_pos', rget_k, rset_k, lget_k, hup_hup]
  refine exB_ok (t := [(.return_, 1, 0, 0, 0, 0)]) (W51_ok G) (jj := fun q L st h o k n => EX G m_AB_inflateIf q L st h o k n Q) (fun q L st h o k n hq => hq) (by decide +kernel) ?_
  simp [exB, hJ, exT, stp, lv_args, Value.category, lkL, stL1, stL2, insL, contX, q_ofNat, f4_3, nI_1, -Int32.not_lt, -Int32.not_le, -Int64.not_lt, -Int64.not_le, T_AB_inflateIf_21, R_AB_inflateIf, C_AB_inflateIf, M_AB_inflateIf, HH_AB_inflateIf, -Int32.reduceOfInt, -Int8.reduceOfInt, -Int16.reduceOfInt, -Int32.ofInt_neg, O_AB_inflateIf_St_coder, C_St_coder, M_St_coder, W51_St_coder, rx_St_coder]
  try simp (disch := omega) [-Int64.not_lt, -Int64.not_le, -Int32.not_lt, -Int32.not_le, nI_z, nI_ltI, nI_leI, nI_1, nI_clamp, q_vp, nI_pos', rget_k, rset_k, lget_k, hup_hup]
  exact hq
theorem tx_fit {tk j : Nat} (h : tk < TEXTS.length) : fits .byte (.int ((txL tk)[j]?.getD 0)) = true := by
  by_cases c : j < (txL tk).length
  · have e : (txL tk) = TEXTS[tk] := by unfold txL; rw [List.getElem?_eq_getElem h]; rfl
    have k := List.all_eq_true.mp tx_small (TEXTS[tk]) (List.getElem_mem h)
    simp only [Bool.and_eq_true, decide_eq_true_eq] at k
    rw [← e] at k
    have k2 := List.all_eq_true.mp k.2 _ (List.getElem_mem c)
    simp only [decide_eq_true_eq] at k2
    rw [List.getElem?_eq_getElem c]
    obtain ⟨k3, k4⟩ := k2
    have e2 := q_nI_of k3
    have k5 : ((txL tk)[j]).toNatClampNeg < 128 := by
      rw [← e2] at k4
      exact (nI_ltI (a := _) (b := 128) (by have := q_clamp k3; have := ((txL tk)[j]).toInt_lt; omega) (by omega)).mp k4
    show fits .byte (.int (txL tk)[j]) = true
    rw [← e2]
    revert k5
    generalize ((txL tk)[j]).toNatClampNeg = m
    revert m
    decide +kernel
  · rw [List.getElem?_eq_none (by omega)]
    decide
theorem HH_St_getBytes : mHH 171 = [] := rfl
set_option maxRecDepth 2000 in
set_option maxHeartbeats 200000 in
theorem r_St_getBytes (hx : rx_St_getBytes G as h o Q) : Runs G m_St_getBytes as h o Q := by
  obtain ⟨t, b, p, c, rfl, tk, n1, g, q, ⟨htk, rfl, h1, rfl, rfl, h2, h3⟩, hq⟩ := E_rrii hx
  have hl := tx_len htk
  have hJ : True := trivial
  refine Runs.of (by decide +kernel) (Nat.le_of_ble_eq_true rfl) ?_
  refine exB_ok (t := [(.aload_n 0, 1, 0, 0, 0, 0)]) (W51_ok G) (jj := fun q L st h o k n => EX G m_St_getBytes q L st h o k n Q) (fun q L st h o k n hq => hq) (by decide +kernel) ?_
  simp [exB, hJ, exT, stp, lv_args, Value.category, lkL, stL1, stL2, insL, contX, q_ofNat, f4_3, nI_1, -Int32.not_lt, -Int32.not_le, -Int64.not_lt, -Int64.not_le, T_St_getBytes_28, T_St_getBytes_43, R_St_getBytes, C_St_getBytes, M_St_getBytes, HH_St_getBytes, KI_0, -Int32.reduceOfInt, -Int8.reduceOfInt, -Int16.reduceOfInt, -Int32.ofInt_neg, O_St_getBytes_St_coder, C_St_coder, M_St_coder, W51_St_coder, rx_St_coder]
  try simp (disch := omega) [-Int64.not_lt, -Int64.not_le, -Int32.not_lt, -Int32.not_le, nI_z, nI_ltI, nI_leI, nI_1, nI_clamp, q_vp, nI_pos', rget_k, rset_k, lget_k, hup_hup]
  refine s_callVC (idx := 335) (j := m_St_coder) (nest := 0) (as := []) htk (by decide +kernel) (mmem_in (by decide +kernel)) rfl (by decide +kernel) rfl rfl (by decide +kernel) (Nat.le_of_ble_eq_true rfl) rfl rfl ?_
  refine RX_ok (W51_ok G) ?_
  show rx_St_coder G _ _ _ _
  refine ⟨_, _, Or.inl ⟨tk, htk, rfl, rfl, rfl⟩, ?_⟩
  show EX G m_St_getBytes 4 _ _ _ _ _ _ _
  refine exB_ok (t := [(.iload_n 3, 1, 0, 0, 0, 0), (.if_icmp .ne 23, 3, 28, 0, 0, 0), (.aload_n 0, 1, 0, 0, 0, 0)]) (W51_ok G) (jj := fun q L st h o k n => EX G m_St_getBytes q L st h o k n Q) (fun q L st h o k n hq => hq) (by decide +kernel) ?_
  simp [exB, hJ, exT, stp, lv_args, Value.category, lkL, stL1, stL2, insL, contX, q_ofNat, f4_3, nI_1, -Int32.not_lt, -Int32.not_le, -Int64.not_lt, -Int64.not_le, T_St_getBytes_28, T_St_getBytes_43, R_St_getBytes, C_St_getBytes, M_St_getBytes, HH_St_getBytes, KI_0, -Int32.reduceOfInt, -Int8.reduceOfInt, -Int16.reduceOfInt, -Int32.ofInt_neg, O_St_getBytes_St_coder, C_St_coder, M_St_coder, W51_St_coder, rx_St_coder]
  try simp (disch := omega) [-Int64.not_lt, -Int64.not_le, -Int32.not_lt, -Int32.not_le, nI_z, nI_ltI, nI_leI, nI_1, nI_clamp, q_vp, nI_pos', rget_k, rset_k, lget_k, hup_hup]
  refine s_getfV (idx := 9) htk (by decide +kernel) (by decide +kernel) ?_
  refine exB_ok (t := [(.iconst 0, 1, 0, 0, 0, 0), (.aload_n 1, 1, 0, 0, 0, 0), (.iload_n 2, 1, 0, 0, 0, 0), (.iload_n 3, 1, 0, 0, 0, 0), (.ishl, 1, 0, 0, 0, 0), (.aload_n 0, 1, 0, 0, 0, 0)]) (W51_ok G) (jj := fun q L st h o k n => EX G m_St_getBytes q L st h o k n Q) (fun q L st h o k n hq => hq) (by decide +kernel) ?_
  simp [exB, hJ, exT, stp, lv_args, Value.category, lkL, stL1, stL2, insL, contX, q_ofNat, f4_3, nI_1, -Int32.not_lt, -Int32.not_le, -Int64.not_lt, -Int64.not_le, T_St_getBytes_28, T_St_getBytes_43, R_St_getBytes, C_St_getBytes, M_St_getBytes, HH_St_getBytes, KI_0, -Int32.reduceOfInt, -Int8.reduceOfInt, -Int16.reduceOfInt, -Int32.ofInt_neg, O_St_getBytes_St_coder, C_St_coder, M_St_coder, W51_St_coder, rx_St_coder, sb_shl0]
  try simp (disch := omega) [-Int64.not_lt, -Int64.not_le, -Int32.not_lt, -Int32.not_le, nI_z, nI_ltI, nI_leI, nI_1, nI_clamp, q_vp, nI_pos', rget_k, rset_k, lget_k, hup_hup, sb_shl0]
  refine s_getfV (idx := 9) htk (by decide +kernel) (by decide +kernel) ?_
  refine s_alenX htk (by decide +kernel) ?_
  refine s_copyT (tk := tk) (idx := 212) (f := fun j => (txL tk)[j]?.getD 0) htk rfl rfl (by decide +kernel) (by decide +kernel) h1 (by decide) (nI_pos (by omega)) (nI_pos (by omega)) (by rw [nI_clamp (by omega)]; exact Nat.le_of_eq (Nat.zero_add _)) (by rw [nI_clamp (by omega), nI_clamp (by omega)]; exact h2) (fun j _ => tx_fit htk) (by decide +kernel) (by decide +kernel) ?_
  rw [nI_clamp (by omega), nI_clamp (by omega)]
  refine exB_ok (t := [(.goto 18, 3, 43, 0, 0, 0)]) (W51_ok G) (jj := fun q L st h o k n => EX G m_St_getBytes q L st h o k n Q) (fun q L st h o k n hq => hq) (by decide +kernel) ?_
  simp [exB, hJ, exT, stp, lv_args, Value.category, lkL, stL1, stL2, insL, contX, q_ofNat, f4_3, nI_1, -Int32.not_lt, -Int32.not_le, -Int64.not_lt, -Int64.not_le, T_St_getBytes_28, T_St_getBytes_43, R_St_getBytes, C_St_getBytes, M_St_getBytes, HH_St_getBytes, KI_0, -Int32.reduceOfInt, -Int8.reduceOfInt, -Int16.reduceOfInt, -Int32.ofInt_neg, O_St_getBytes_St_coder, C_St_coder, M_St_coder, W51_St_coder, rx_St_coder]
  try simp (disch := omega) [-Int64.not_lt, -Int64.not_le, -Int32.not_lt, -Int32.not_le, nI_z, nI_ltI, nI_leI, nI_1, nI_clamp, q_vp, nI_pos', rget_k, rset_k, lget_k, hup_hup]
  refine exB_ok (t := [(.return_, 1, 0, 0, 0, 0)]) (W51_ok G) (jj := fun q L st h o k n => EX G m_St_getBytes q L st h o k n Q) (fun q L st h o k n hq => hq) (by decide +kernel) ?_
  simp [exB, hJ, exT, stp, lv_args, Value.category, lkL, stL1, stL2, insL, contX, q_ofNat, f4_3, nI_1, -Int32.not_lt, -Int32.not_le, -Int64.not_lt, -Int64.not_le, T_St_getBytes_28, T_St_getBytes_43, R_St_getBytes, C_St_getBytes, M_St_getBytes, HH_St_getBytes, KI_0, -Int32.reduceOfInt, -Int8.reduceOfInt, -Int16.reduceOfInt, -Int32.ofInt_neg, O_St_getBytes_St_coder, C_St_coder, M_St_coder, W51_St_coder, rx_St_coder]
  try simp (disch := omega) [-Int64.not_lt, -Int64.not_le, -Int32.not_lt, -Int32.not_le, nI_z, nI_ltI, nI_leI, nI_1, nI_clamp, q_vp, nI_pos', rget_k, rset_k, lget_k, hup_hup]
  exact hq
end BL
def W52 (G : GG) : WF := (wcons 171 (rx_St_getBytes G) (wcons 160 (rx_AB_inflateIf G) (W51 G)))
theorem W52_ok (G : GG) : WOK G (W52 G) := (wcons_ok (fun _ _ _ _ hx => r_St_getBytes hx) (wcons_ok (fun _ _ _ _ hx => r_AB_inflateIf hx) (W51_ok G)))
def A_rir (as : List Value) (P : Nat → Int32 → Nat → Prop) : Prop := match as with | [.ref a, .int i, .ref b] => P a i b | _ => False
theorem E_rir {as : List Value} {P : Nat → Int32 → Nat → Prop} (h : A_rir as P) : ∃ a i b, as = [.ref a, .int i, .ref b] ∧ P a i b := by
  unfold A_rir at h; split at h; exact ⟨_, _, _, rfl, h⟩; exact h.elim
def rx_AB_putStr (G : GG) (as : List Value) (h : HM) (o : Option Nat) (Q : XQ) : Prop := A_rir as fun a p t => ∃ tk b n n1 g q, (tk < TEXTS.length ∧ t = gS G tk ∧ h a = some (bld b n) ∧ h b = some (byA n1 g) ∧ p = nI q ∧ q + (txL tk).length ≤ n1 ∧ n1 ≤ 1802) ∧ Q (.inl none) (hup h b (byA n1 (va_cpy (fun j => (txL tk)[j]?.getD 0) g 0 q (txL tk).length))) o
section BL
variable {G : GG} {as : List Value} {h : HM} {o : Option Nat} {Q : XQ}
theorem HH_AB_putStr : mHH 161 = [] := rfl
theorem W52_AB_inflateIf {G : GG} {as : List Value} {h : HM} {o : Option Nat} {Q : XQ} : RX G (W52 G) 160 as h o Q = rx_AB_inflateIf G as h o Q := rfl
theorem W52_St_getBytes {G : GG} {as : List Value} {h : HM} {o : Option Nat} {Q : XQ} : RX G (W52 G) 171 as h o Q = rx_St_getBytes G as h o Q := rfl
set_option maxRecDepth 2000 in
set_option maxHeartbeats 200000 in
theorem r_AB_putStr (hx : rx_AB_putStr G as h o Q) : Runs G m_AB_putStr as h o Q := by
  obtain ⟨a, p, t, rfl, tk, b, n, n1, g, q, ⟨htk, rfl, h1, h2, rfl, h3, h4⟩, hq⟩ := E_rir hx
  have hJ : True := trivial
  refine Runs.of (by decide +kernel) (Nat.le_of_ble_eq_true rfl) ?_
  refine exB_ok (t := [(.aload_n 0, 1, 0, 0, 0, 0), (.aload_n 2, 1, 0, 0, 0, 0), (.invokevirtual 397, 3, 160, 2, 1, 12)]) (W52_ok G) (jj := fun q L st h o k n => EX G m_AB_putStr q L st h o k n Q) (fun q L st h o k n hq => hq) (by decide +kernel) ?_
  simp [exB, hJ, exT, stp, lv_args, Value.category, lkL, stL1, stL2, insL, contX, q_ofNat, f4_3, nI_1, -Int32.not_lt, -Int32.not_le, -Int64.not_lt, -Int64.not_le, R_AB_putStr, C_AB_putStr, M_AB_putStr, HH_AB_putStr, -Int32.reduceOfInt, -Int8.reduceOfInt, -Int16.reduceOfInt, -Int32.ofInt_neg, O_AB_putStr_AB_inflateIf, C_AB_inflateIf, M_AB_inflateIf, W52_AB_inflateIf, rx_AB_inflateIf, O_AB_putStr_St_getBytes, C_St_getBytes, M_St_getBytes, W52_St_getBytes, rx_St_getBytes, h1, A_rr, rx_AB_inflateIf]
  try simp (disch := omega) [-Int64.not_lt, -Int64.not_le, -Int32.not_lt, -Int32.not_le, nI_z, nI_ltI, nI_leI, nI_1, nI_clamp, q_vp, nI_pos', rget_k, rset_k, lget_k, hup_hup, h1, A_rr, rx_AB_inflateIf]
  refine ⟨⟨⟨n, rfl⟩, tk, htk, rfl⟩, ?_⟩
  refine exB_ok (t := [(.aload_n 2, 1, 0, 0, 0, 0), (.aload_n 0, 1, 0, 0, 0, 0), (.getfield 15, 3, 12, 0, 0, 0), (.iload_n 1, 1, 0, 0, 0, 0), (.aload_n 0, 1, 0, 0, 0, 0), (.getfield 22, 3, 12, 1, 0, 0)]) (W52_ok G) (jj := fun q L st h o k n => EX G m_AB_putStr q L st h o k n Q) (fun q L st h o k n hq => hq) (by decide +kernel) ?_
  simp [exB, hJ, exT, stp, lv_args, Value.category, lkL, stL1, stL2, insL, contX, q_ofNat, f4_3, nI_1, -Int32.not_lt, -Int32.not_le, -Int64.not_lt, -Int64.not_le, R_AB_putStr, C_AB_putStr, M_AB_putStr, HH_AB_putStr, -Int32.reduceOfInt, -Int8.reduceOfInt, -Int16.reduceOfInt, -Int32.ofInt_neg, O_AB_putStr_AB_inflateIf, C_AB_inflateIf, M_AB_inflateIf, W52_AB_inflateIf, rx_AB_inflateIf, O_AB_putStr_St_getBytes, C_St_getBytes, M_St_getBytes, W52_St_getBytes, rx_St_getBytes, h1]
  try simp (disch := omega) [-Int64.not_lt, -Int64.not_le, -Int32.not_lt, -Int32.not_le, nI_z, nI_ltI, nI_leI, nI_1, nI_clamp, q_vp, nI_pos', rget_k, rset_k, lget_k, hup_hup, h1]
  refine s_callVC (idx := 399) (j := m_St_getBytes) (nest := 0) (as := [.ref b, .int (nI q), .int 0]) htk (by decide +kernel) (mmem_in (by decide +kernel)) rfl (by decide +kernel) rfl rfl (by decide +kernel) (Nat.le_of_ble_eq_true rfl) rfl rfl ?_
  refine RX_ok (W52_ok G) ?_
  show rx_St_getBytes G _ _ _ _
  refine ⟨tk, n1, g, q, ⟨htk, rfl, h2, rfl, rfl, h3, h4⟩, ?_⟩
  show EX G m_AB_putStr 18 _ _ _ _ _ _ _
  refine exB_ok (t := [(.return_, 1, 0, 0, 0, 0)]) (W52_ok G) (jj := fun q L st h o k n => EX G m_AB_putStr q L st h o k n Q) (fun q L st h o k n hq => hq) (by decide +kernel) ?_
  simp [exB, hJ, exT, stp, lv_args, Value.category, lkL, stL1, stL2, insL, contX, q_ofNat, f4_3, nI_1, -Int32.not_lt, -Int32.not_le, -Int64.not_lt, -Int64.not_le, R_AB_putStr, C_AB_putStr, M_AB_putStr, HH_AB_putStr, -Int32.reduceOfInt, -Int8.reduceOfInt, -Int16.reduceOfInt, -Int32.ofInt_neg, O_AB_putStr_AB_inflateIf, C_AB_inflateIf, M_AB_inflateIf, W52_AB_inflateIf, rx_AB_inflateIf, O_AB_putStr_St_getBytes, C_St_getBytes, M_St_getBytes, W52_St_getBytes, rx_St_getBytes]
  try simp (disch := omega) [-Int64.not_lt, -Int64.not_le, -Int32.not_lt, -Int32.not_le, nI_z, nI_ltI, nI_leI, nI_1, nI_clamp, q_vp, nI_pos', rget_k, rset_k, lget_k, hup_hup]
  exact hq
end BL
def W53 (G : GG) : WF := (wcons 161 (rx_AB_putStr G) (W52 G))
theorem W53_ok (G : GG) : WOK G (W53 G) := (wcons_ok (fun _ _ _ _ hx => r_AB_putStr hx) (W52_ok G))
def rx_AB_appendS (G : GG) (as : List Value) (h : HM) (o : Option Nat) (Q : XQ) : Prop := A_rr as fun a t => ∃ z b cap f l tk, (o = some z ∧ a < z ∧ b < z ∧ BLD h a b cap f l ∧ tk < TEXTS.length ∧ t = gS G tk ∧ l.length + (txL tk).length ≤ 800) ∧ APT Q h a z b cap (l ++ txL tk)
section BL
variable {G : GG} {as : List Value} {h : HM} {o : Option Nat} {Q : XQ}
theorem HH_AB_appendS : mHH 155 = [] := rfl
theorem W53_AB_ensure {G : GG} {as : List Value} {h : HM} {o : Option Nat} {Q : XQ} : RX G (W53 G) 152 as h o Q = rx_AB_ensure as h o Q := rfl
theorem W53_AB_putStr {G : GG} {as : List Value} {h : HM} {o : Option Nat} {Q : XQ} : RX G (W53 G) 161 as h o Q = rx_AB_putStr G as h o Q := rfl
theorem W53_St_length {G : GG} {as : List Value} {h : HM} {o : Option Nat} {Q : XQ} : RX G (W53 G) 169 as h o Q = rx_St_length G as h o Q := rfl
set_option maxRecDepth 2000 in
set_option maxHeartbeats 200000 in
theorem r_AB_appendS (hx : rx_AB_appendS G as h o Q) : Runs G m_AB_appendS as h o Q := by
  obtain ⟨a, t, rfl, z, b, cap, f, l, tk, ⟨rfl, ha, hb, ⟨⟨h1, h2⟩, hab, hB⟩, htk, rfl, hl⟩, hq⟩ := E_rr hx
  change Nat at a
  have r1 : roomOK m_AB_appendS 161 1 4000 = true := by decide +kernel
  have hJ : True := trivial
  refine Runs.of (by decide +kernel) (Nat.le_of_ble_eq_true rfl) ?_
  refine exB_ok (t := [(.aload_n 1, 1, 0, 0, 0, 0), (.ifnonnull 8, 3, 9, 0, 0, 0)]) (W53_ok G) (jj := fun q L st h o k n => EX G m_AB_appendS q L st h o k n Q) (fun q L st h o k n hq => hq) (by decide +kernel) ?_
  simp [exB, hJ, exT, stp, lv_args, Value.category, lkL, stL1, stL2, insL, contX, q_ofNat, f4_3, nI_1, -Int32.not_lt, -Int32.not_le, -Int64.not_lt, -Int64.not_le, T_AB_appendS_9, R_AB_appendS, C_AB_appendS, M_AB_appendS, HH_AB_appendS, -Int32.reduceOfInt, -Int8.reduceOfInt, -Int16.reduceOfInt, -Int32.ofInt_neg, TY_12_3, O_AB_appendS_AB_ensure, C_AB_ensure, M_AB_ensure, W53_AB_ensure, rx_AB_ensure, O_AB_appendS_AB_putStr, C_AB_putStr, M_AB_putStr, W53_AB_putStr, rx_AB_putStr, O_AB_appendS_St_length, C_St_length, M_St_length, W53_St_length, rx_St_length]
  try simp (disch := omega) [-Int64.not_lt, -Int64.not_le, -Int32.not_lt, -Int32.not_le, nI_z, nI_ltI, nI_leI, nI_1, nI_clamp, q_vp, nI_pos', rget_k, rset_k, lget_k, hup_hup]
  refine exB_ok (t := [(.aload_n 1, 1, 0, 0, 0, 0)]) (W53_ok G) (jj := fun q L st h o k n => EX G m_AB_appendS q L st h o k n Q) (fun q L st h o k n hq => hq) (by decide +kernel) ?_
  simp [exB, hJ, exT, stp, lv_args, Value.category, lkL, stL1, stL2, insL, contX, q_ofNat, f4_3, nI_1, -Int32.not_lt, -Int32.not_le, -Int64.not_lt, -Int64.not_le, T_AB_appendS_9, R_AB_appendS, C_AB_appendS, M_AB_appendS, HH_AB_appendS, -Int32.reduceOfInt, -Int8.reduceOfInt, -Int16.reduceOfInt, -Int32.ofInt_neg, TY_12_3, O_AB_appendS_AB_ensure, C_AB_ensure, M_AB_ensure, W53_AB_ensure, rx_AB_ensure, O_AB_appendS_AB_putStr, C_AB_putStr, M_AB_putStr, W53_AB_putStr, rx_AB_putStr, O_AB_appendS_St_length, C_St_length, M_St_length, W53_St_length, rx_St_length]
  try simp (disch := omega) [-Int64.not_lt, -Int64.not_le, -Int32.not_lt, -Int32.not_le, nI_z, nI_ltI, nI_leI, nI_1, nI_clamp, q_vp, nI_pos', rget_k, rset_k, lget_k, hup_hup]
  refine s_callVC (idx := 32) (j := m_St_length) (nest := 0) (as := []) htk (by decide +kernel) (mmem_in (by decide +kernel)) rfl (by decide +kernel) rfl rfl (by decide +kernel) (Nat.le_of_ble_eq_true rfl) rfl rfl ?_
  refine RX_ok (W53_ok G) ?_
  show rx_St_length G _ _ _ _
  refine ⟨_, _, Or.inl ⟨tk, htk, rfl, rfl, rfl⟩, ?_⟩
  show EX G m_AB_appendS 13 _ _ _ _ _ _ _
  refine exB_ok (t := [(.istore_n 2, 1, 0, 0, 0, 0), (.aload_n 0, 1, 0, 0, 0, 0), (.aload_n 0, 1, 0, 0, 0, 0), (.getfield 79, 3, 12, 3, 0, 0), (.iload_n 2, 1, 0, 0, 0, 0), (.iadd, 1, 0, 0, 0, 0), (.invokevirtual 100, 3, 152, 2, 1, 12)]) (W53_ok G) (jj := fun q L st h o k n => EX G m_AB_appendS q L st h o k n Q) (fun q L st h o k n hq => hq) (by decide +kernel) ?_
  simp [exB, hJ, exT, stp, lv_args, Value.category, lkL, stL1, stL2, insL, contX, q_ofNat, f4_3, nI_1, -Int32.not_lt, -Int32.not_le, -Int64.not_lt, -Int64.not_le, T_AB_appendS_9, R_AB_appendS, C_AB_appendS, M_AB_appendS, HH_AB_appendS, -Int32.reduceOfInt, -Int8.reduceOfInt, -Int16.reduceOfInt, -Int32.ofInt_neg, TY_12_3, O_AB_appendS_AB_ensure, C_AB_ensure, M_AB_ensure, W53_AB_ensure, rx_AB_ensure, O_AB_appendS_AB_putStr, C_AB_putStr, M_AB_putStr, W53_AB_putStr, rx_AB_putStr, O_AB_appendS_St_length, C_St_length, M_St_length, W53_St_length, rx_St_length, h1, A_ri, rx_AB_ensure, nI_add]
  try simp (disch := omega) [-Int64.not_lt, -Int64.not_le, -Int32.not_lt, -Int32.not_le, nI_z, nI_ltI, nI_leI, nI_1, nI_clamp, q_vp, nI_pos', rget_k, rset_k, lget_k, hup_hup, h1, A_ri, rx_AB_ensure, nI_add]
  refine ⟨z, b, cap, f, l, l.length + (txL tk).length, ⟨rfl, ha, hb, ⟨⟨h1, h2⟩, hab, hB⟩, rfl, by omega⟩, ?_⟩
  intro b' cap' f' z' hz hB' hn hcap
  have n1 : a ≠ b' := by
    rcases hz with ⟨rfl, -⟩ | ⟨rfl, -⟩
    · exact hab
    · exact Nat.ne_of_lt ha
  have q := hq b' cap' _ z' hz (BOK_put (g := va_cpy (fun j => (txL tk)[j]?.getD 0) f' 0 l.length (txL tk).length) hB' hn (sb_fitC (fun j => tx_fit htk) hB'.2.2.1) (fun i hi => if_neg (by omega)) (fun i hi => by
    unfold va_cpy
    rw [if_pos (by omega), Nat.add_sub_cancel_left, Nat.zero_add, List.getD_eq_getElem?_getD])) hcap
  show EX G m_AB_appendS 24 _ _ _ _ 1 4000 _
  refine exB_ok (t := [(.aload_n 0, 1, 0, 0, 0, 0), (.aload_n 0, 1, 0, 0, 0, 0), (.getfield 79, 3, 12, 3, 0, 0), (.aload_n 1, 1, 0, 0, 0, 0), (.invokevirtual 208, 3, 161, 2, 2, 12)]) (W53_ok G) (jj := fun q L st h o k n => EX G m_AB_appendS q L st h o k n Q) (fun q L st h o k n hq => hq) (by decide +kernel) ?_
  simp [exB, hJ, exT, stp, lv_args, Value.category, lkL, stL1, stL2, insL, contX, q_ofNat, f4_3, nI_1, -Int32.not_lt, -Int32.not_le, -Int64.not_lt, -Int64.not_le, T_AB_appendS_9, R_AB_appendS, C_AB_appendS, M_AB_appendS, HH_AB_appendS, -Int32.reduceOfInt, -Int8.reduceOfInt, -Int16.reduceOfInt, -Int32.ofInt_neg, TY_12_3, O_AB_appendS_AB_ensure, C_AB_ensure, M_AB_ensure, W53_AB_ensure, rx_AB_ensure, O_AB_appendS_AB_putStr, C_AB_putStr, M_AB_putStr, W53_AB_putStr, rx_AB_putStr, O_AB_appendS_St_length, C_St_length, M_St_length, W53_St_length, rx_St_length, hup_at, hup_nq n1, hup_nq (Ne.symm n1), A_rir, rx_AB_putStr, r1]
  try simp (disch := omega) [-Int64.not_lt, -Int64.not_le, -Int32.not_lt, -Int32.not_le, nI_z, nI_ltI, nI_leI, nI_1, nI_clamp, q_vp, nI_pos', rget_k, rset_k, lget_k, hup_hup, hup_at, hup_nq n1, hup_nq (Ne.symm n1), A_rir, rx_AB_putStr, r1]
  refine ⟨tk, b', l.length, cap', f', l.length, ⟨htk, rfl, ⟨rfl, rfl⟩, (hup_nq (Ne.symm n1)).trans (hup_at _ _ _), rfl, hn, hB'.2.1⟩, ?_⟩
  refine exB_ok (t := [(.aload_n 0, 1, 0, 0, 0, 0), (.dup, 1, 0, 0, 0, 0), (.getfield 79, 3, 12, 3, 0, 0), (.iload_n 2, 1, 0, 0, 0, 0), (.iadd, 1, 0, 0, 0, 0), (.putfield 79, 3, 12, 3, 0, 0), (.aload_n 0, 1, 0, 0, 0, 0), (.areturn, 1, 0, 0, 0, 0)]) (W53_ok G) (jj := fun q L st h o k n => EX G m_AB_appendS q L st h o k n Q) (fun q L st h o k n hq => hq) (by decide +kernel) ?_
  simp [exB, hJ, exT, stp, lv_args, Value.category, lkL, stL1, stL2, insL, contX, q_ofNat, f4_3, nI_1, -Int32.not_lt, -Int32.not_le, -Int64.not_lt, -Int64.not_le, T_AB_appendS_9, R_AB_appendS, C_AB_appendS, M_AB_appendS, HH_AB_appendS, -Int32.reduceOfInt, -Int8.reduceOfInt, -Int16.reduceOfInt, -Int32.ofInt_neg, TY_12_3, O_AB_appendS_AB_ensure, C_AB_ensure, M_AB_ensure, W53_AB_ensure, rx_AB_ensure, O_AB_appendS_AB_putStr, C_AB_putStr, M_AB_putStr, W53_AB_putStr, rx_AB_putStr, O_AB_appendS_St_length, C_St_length, M_St_length, W53_St_length, rx_St_length, hup_at, hup_nq n1, hup_nq (Ne.symm n1), hup_bab n1, hup_ba2 n1, nI_add]
  try simp (disch := omega) [-Int64.not_lt, -Int64.not_le, -Int32.not_lt, -Int32.not_le, nI_z, nI_ltI, nI_leI, nI_1, nI_clamp, q_vp, nI_pos', rget_k, rset_k, lget_k, hup_hup, hup_at, hup_nq n1, hup_nq (Ne.symm n1), hup_bab n1, hup_ba2 n1, nI_add]
  rw [List.length_append] at q
  exact q
end BL
def W54 (G : GG) : WF := (wcons 155 (rx_AB_appendS G) (W53 G))
theorem W54_ok (G : GG) : WOK G (W54 G) := (wcons_ok (fun _ _ _ _ hx => r_AB_appendS hx) (W53_ok G))
def rx_SB_appendS (G : GG) (as : List Value) (h : HM) (o : Option Nat) (Q : XQ) : Prop := A_rr as fun a t => ∃ z b cap f l tk, (o = some z ∧ a < z ∧ b < z ∧ BLD h a b cap f l ∧ tk < TEXTS.length ∧ t = gS G tk ∧ l.length + (txL tk).length ≤ 800) ∧ APT Q h a z b cap (l ++ txL tk)
def rx_SB_appendC (as : List Value) (h : HM) (o : Option Nat) (Q : XQ) : Prop := A_ri as fun a x => ∃ z b cap f l c, (o = some z ∧ a < z ∧ b < z ∧ BLD h a b cap f l ∧ x = nI c ∧ c < 128 ∧ l.length ≤ 800) ∧ APT Q h a z b cap (l ++ [nI c])
def rx_SB_appendI (as : List Value) (h : HM) (o : Option Nat) (Q : XQ) : Prop := A_ri as fun a x => ∃ z b cap f l v, (o = some z ∧ a < z ∧ b < z ∧ BLD h a b cap f l ∧ x = nI v ∧ v < 100 ∧ l.length ≤ 800) ∧ APT Q h a z b cap (l ++ decL v)
section BL
variable {G : GG} {as : List Value} {h : HM} {o : Option Nat} {Q : XQ}
theorem HH_SB_appendS : mHH 177 = [] := rfl
theorem W54_AB_appendS {G : GG} {as : List Value} {h : HM} {o : Option Nat} {Q : XQ} : RX G (W54 G) 155 as h o Q = rx_AB_appendS G as h o Q := rfl
set_option maxRecDepth 2000 in
set_option maxHeartbeats 200000 in
theorem r_SB_appendS (hx : rx_SB_appendS G as h o Q) : Runs G m_SB_appendS as h o Q := by
  obtain ⟨a, t, rfl, z, b, cap, f, l, tk, ⟨rfl, ha, hb, ⟨⟨h1, h2⟩, hab, hB⟩, htk, rfl, hl⟩, hq⟩ := E_rr hx
  change Nat at a
  have hJ : True := trivial
  refine Runs.of (by decide +kernel) (Nat.le_of_ble_eq_true rfl) ?_
  refine exB_ok (t := [(.aload_n 0, 1, 0, 0, 0, 0), (.aload_n 1, 1, 0, 0, 0, 0), (.invokespecial 29, 3, 155, 3, 1, 0)]) (W54_ok G) (jj := fun q L st h o k n => EX G m_SB_appendS q L st h o k n Q) (fun q L st h o k n hq => hq) (by decide +kernel) ?_
  simp [exB, hJ, exT, stp, lv_args, Value.category, lkL, stL1, stL2, insL, contX, q_ofNat, f4_3, nI_1, -Int32.not_lt, -Int32.not_le, -Int64.not_lt, -Int64.not_le, R_SB_appendS, C_SB_appendS, M_SB_appendS, HH_SB_appendS, -Int32.reduceOfInt, -Int8.reduceOfInt, -Int16.reduceOfInt, -Int32.ofInt_neg, O_SB_appendS_AB_appendS, C_AB_appendS, M_AB_appendS, W54_AB_appendS, rx_AB_appendS, h1, A_rr, rx_AB_appendS]
  try simp (disch := omega) [-Int64.not_lt, -Int64.not_le, -Int32.not_lt, -Int32.not_le, nI_z, nI_ltI, nI_leI, nI_1, nI_clamp, q_vp, nI_pos', rget_k, rset_k, lget_k, hup_hup, h1, A_rr, rx_AB_appendS]
  refine ⟨z, b, cap, f, l, tk, ⟨rfl, ha, hb, ⟨⟨h1, h2⟩, hab, hB⟩, htk, rfl, hl⟩, ?_⟩
  intro b' cap' f' z' hz hB' hcap
  have q := hq b' cap' f' z' hz hB' hcap
  show EX G m_SB_appendS 5 _ _ _ _ 1 4000 _
  rw [List.length_append] at q
  refine exB_ok (t := [(.pop, 1, 0, 0, 0, 0), (.aload_n 0, 1, 0, 0, 0, 0), (.areturn, 1, 0, 0, 0, 0)]) (W54_ok G) (jj := fun q L st h o k n => EX G m_SB_appendS q L st h o k n Q) (fun q L st h o k n hq => hq) (by decide +kernel) ?_
  simp [exB, hJ, exT, stp, lv_args, Value.category, lkL, stL1, stL2, insL, contX, q_ofNat, f4_3, nI_1, -Int32.not_lt, -Int32.not_le, -Int64.not_lt, -Int64.not_le, R_SB_appendS, C_SB_appendS, M_SB_appendS, HH_SB_appendS, -Int32.reduceOfInt, -Int8.reduceOfInt, -Int16.reduceOfInt, -Int32.ofInt_neg, O_SB_appendS_AB_appendS, C_AB_appendS, M_AB_appendS, W54_AB_appendS, rx_AB_appendS]
  try simp (disch := omega) [-Int64.not_lt, -Int64.not_le, -Int32.not_lt, -Int32.not_le, nI_z, nI_ltI, nI_leI, nI_1, nI_clamp, q_vp, nI_pos', rget_k, rset_k, lget_k, hup_hup]
  exact q
theorem HH_SB_appendC : mHH 178 = [] := rfl
theorem W54_AB_appendC {G : GG} {as : List Value} {h : HM} {o : Option Nat} {Q : XQ} : RX G (W54 G) 156 as h o Q = rx_AB_appendC as h o Q := rfl
set_option maxRecDepth 2000 in
set_option maxHeartbeats 200000 in
theorem r_SB_appendC (hx : rx_SB_appendC as h o Q) : Runs G m_SB_appendC as h o Q := by
  obtain ⟨a, x, rfl, z, b, cap, f, l, c, ⟨rfl, ha, hb, ⟨⟨h1, h2⟩, hab, hB⟩, rfl, hc, hl⟩, hq⟩ := E_ri hx
  change Nat at a
  have hJ : True := trivial
  refine Runs.of (by decide +kernel) (Nat.le_of_ble_eq_true rfl) ?_
  refine exB_ok (t := [(.aload_n 0, 1, 0, 0, 0, 0), (.iload_n 1, 1, 0, 0, 0, 0), (.invokespecial 50, 3, 156, 3, 1, 0)]) (W54_ok G) (jj := fun q L st h o k n => EX G m_SB_appendC q L st h o k n Q) (fun q L st h o k n hq => hq) (by decide +kernel) ?_
  simp [exB, hJ, exT, stp, lv_args, Value.category, lkL, stL1, stL2, insL, contX, q_ofNat, f4_3, nI_1, -Int32.not_lt, -Int32.not_le, -Int64.not_lt, -Int64.not_le, R_SB_appendC, C_SB_appendC, M_SB_appendC, HH_SB_appendC, -Int32.reduceOfInt, -Int8.reduceOfInt, -Int16.reduceOfInt, -Int32.ofInt_neg, O_SB_appendC_AB_appendC, C_AB_appendC, M_AB_appendC, W54_AB_appendC, rx_AB_appendC, h1, A_ri, rx_AB_appendC]
  try simp (disch := omega) [-Int64.not_lt, -Int64.not_le, -Int32.not_lt, -Int32.not_le, nI_z, nI_ltI, nI_leI, nI_1, nI_clamp, q_vp, nI_pos', rget_k, rset_k, lget_k, hup_hup, h1, A_ri, rx_AB_appendC]
  refine ⟨z, b, cap, f, l, c, ⟨rfl, ha, hb, ⟨⟨h1, h2⟩, hab, hB⟩, rfl, hc, hl⟩, ?_⟩
  intro b' cap' f' z' hz hB' hcap
  have q := hq b' cap' f' z' hz hB' hcap
  show EX G m_SB_appendC 5 _ _ _ _ 1 4000 _
  rw [show (l ++ [nI c]).length = l.length + 1 by simp] at q
  refine exB_ok (t := [(.pop, 1, 0, 0, 0, 0), (.aload_n 0, 1, 0, 0, 0, 0), (.areturn, 1, 0, 0, 0, 0)]) (W54_ok G) (jj := fun q L st h o k n => EX G m_SB_appendC q L st h o k n Q) (fun q L st h o k n hq => hq) (by decide +kernel) ?_
  simp [exB, hJ, exT, stp, lv_args, Value.category, lkL, stL1, stL2, insL, contX, q_ofNat, f4_3, nI_1, -Int32.not_lt, -Int32.not_le, -Int64.not_lt, -Int64.not_le, R_SB_appendC, C_SB_appendC, M_SB_appendC, HH_SB_appendC, -Int32.reduceOfInt, -Int8.reduceOfInt, -Int16.reduceOfInt, -Int32.ofInt_neg, O_SB_appendC_AB_appendC, C_AB_appendC, M_AB_appendC, W54_AB_appendC, rx_AB_appendC]
  try simp (disch := omega) [-Int64.not_lt, -Int64.not_le, -Int32.not_lt, -Int32.not_le, nI_z, nI_ltI, nI_leI, nI_1, nI_clamp, q_vp, nI_pos', rget_k, rset_k, lget_k, hup_hup]
  exact q
theorem HH_SB_appendI : mHH 179 = [] := rfl
theorem W54_AB_appendI {G : GG} {as : List Value} {h : HM} {o : Option Nat} {Q : XQ} : RX G (W54 G) 157 as h o Q = rx_AB_appendI as h o Q := rfl
set_option maxRecDepth 2000 in
set_option maxHeartbeats 200000 in
theorem r_SB_appendI (hx : rx_SB_appendI as h o Q) : Runs G m_SB_appendI as h o Q := by
  obtain ⟨a, x, rfl, z, b, cap, f, l, v, ⟨rfl, ha, hb, ⟨⟨h1, h2⟩, hab, hB⟩, rfl, hv, hl⟩, hq⟩ := E_ri hx
  change Nat at a
  have hJ : True := trivial
  refine Runs.of (by decide +kernel) (Nat.le_of_ble_eq_true rfl) ?_
  refine exB_ok (t := [(.aload_n 0, 1, 0, 0, 0, 0), (.iload_n 1, 1, 0, 0, 0, 0), (.invokespecial 53, 3, 157, 3, 1, 0)]) (W54_ok G) (jj := fun q L st h o k n => EX G m_SB_appendI q L st h o k n Q) (fun q L st h o k n hq => hq) (by decide +kernel) ?_
  simp [exB, hJ, exT, stp, lv_args, Value.category, lkL, stL1, stL2, insL, contX, q_ofNat, f4_3, nI_1, -Int32.not_lt, -Int32.not_le, -Int64.not_lt, -Int64.not_le, R_SB_appendI, C_SB_appendI, M_SB_appendI, HH_SB_appendI, -Int32.reduceOfInt, -Int8.reduceOfInt, -Int16.reduceOfInt, -Int32.ofInt_neg, O_SB_appendI_AB_appendI, C_AB_appendI, M_AB_appendI, W54_AB_appendI, rx_AB_appendI, h1, A_ri, rx_AB_appendI]
  try simp (disch := omega) [-Int64.not_lt, -Int64.not_le, -Int32.not_lt, -Int32.not_le, nI_z, nI_ltI, nI_leI, nI_1, nI_clamp, q_vp, nI_pos', rget_k, rset_k, lget_k, hup_hup, h1, A_ri, rx_AB_appendI]
  refine ⟨z, b, cap, f, l, v, ⟨rfl, ha, hb, ⟨⟨h1, h2⟩, hab, hB⟩, rfl, hv, hl⟩, ?_⟩
  intro b' cap' f' z' hz hB' hcap
  have q := hq b' cap' f' z' hz hB' hcap
  show EX G m_SB_appendI 5 _ _ _ _ 1 4000 _
  rw [List.length_append] at q
  refine exB_ok (t := [(.pop, 1, 0, 0, 0, 0), (.aload_n 0, 1, 0, 0, 0, 0), (.areturn, 1, 0, 0, 0, 0)]) (W54_ok G) (jj := fun q L st h o k n => EX G m_SB_appendI q L st h o k n Q) (fun q L st h o k n hq => hq) (by decide +kernel) ?_
  simp [exB, hJ, exT, stp, lv_args, Value.category, lkL, stL1, stL2, insL, contX, q_ofNat, f4_3, nI_1, -Int32.not_lt, -Int32.not_le, -Int64.not_lt, -Int64.not_le, R_SB_appendI, C_SB_appendI, M_SB_appendI, HH_SB_appendI, -Int32.reduceOfInt, -Int8.reduceOfInt, -Int16.reduceOfInt, -Int32.ofInt_neg, O_SB_appendI_AB_appendI, C_AB_appendI, M_AB_appendI, W54_AB_appendI, rx_AB_appendI]
  try simp (disch := omega) [-Int64.not_lt, -Int64.not_le, -Int32.not_lt, -Int32.not_le, nI_z, nI_ltI, nI_leI, nI_1, nI_clamp, q_vp, nI_pos', rget_k, rset_k, lget_k, hup_hup]
  exact q
end BL
def W55 (G : GG) : WF := (wcons 179 rx_SB_appendI (wcons 178 rx_SB_appendC (wcons 177 (rx_SB_appendS G) (W54 G))))
theorem W55_ok (G : GG) : WOK G (W55 G) := (wcons_ok (fun _ _ _ _ hx => r_SB_appendI hx) (wcons_ok (fun _ _ _ _ hx => r_SB_appendC hx) (wcons_ok (fun _ _ _ _ hx => r_SB_appendS hx) (W54_ok G))))
