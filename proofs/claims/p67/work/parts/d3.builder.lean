/-! d3: builders of text: room, appends -/
def W48 (G : GG) : WF := (wcons 164 rx_Integer_trailing (wcons 162 rx_Integer_getChars (wcons 163 rx_Integer_stringSize (wcons 185 rx_Arr_copyOf (wcons 186 rx_Arr_checkLength (wcons 189 rx_AS_newLength (wcons 184 rx_L1_canEncode (wcons 158 rx_AB_getValue (wcons 159 rx_AB_isLatin1 (wcons 151 rx_AB_length (W47 G)))))))))))
theorem W48_ok (G : GG) : WOK G (W48 G) := (wcons_ok (fun _ _ _ _ hx => r_Integer_trailing hx) (wcons_ok (fun _ _ _ _ hx => r_Integer_getChars hx) (wcons_ok (fun _ _ _ _ hx => r_Integer_stringSize hx) (wcons_ok (fun _ _ _ _ hx => r_Arr_copyOf hx) (wcons_ok (fun _ _ _ _ hx => r_Arr_checkLength hx) (wcons_ok (fun _ _ _ _ hx => r_AS_newLength hx) (wcons_ok (fun _ _ _ _ hx => r_L1_canEncode hx) (wcons_ok (fun _ _ _ _ hx => r_AB_getValue hx) (wcons_ok (fun _ _ _ _ hx => r_AB_isLatin1 hx) (wcons_ok (fun _ _ _ _ hx => r_AB_length hx) (W47_ok G)))))))))))
def capN (cap m : Nat) : Nat := cap + (if m - cap < cap + 2 then cap + 2 else m - cap)
def rx_AB_newCap (as : List Value) (h : HM) (o : Option Nat) (Q : XQ) : Prop := A_ri as fun a x => ∃ b cap n f m, (h a = some (bld b n) ∧ h b = some (byA cap f) ∧ x = nI m ∧ cap < m ∧ m ≤ 900) ∧ Q (.inl (some (.int (nI (capN cap m))))) h o
def rx_AB_ensure (as : List Value) (h : HM) (o : Option Nat) (Q : XQ) : Prop := A_ri as fun a x => ∃ z b cap f l m, (o = some z ∧ a < z ∧ b < z ∧ BLD h a b cap f l ∧ x = nI m ∧ m ≤ 900) ∧ APO Q (.inl none) h a z b m l
section BL
variable {G : GG} {as : List Value} {h : HM} {o : Option Nat} {Q : XQ}
theorem HH_AB_newCap : mHH 153 = [] := rfl
theorem W48_AS_newLength {G : GG} {as : List Value} {h : HM} {o : Option Nat} {Q : XQ} : RX G (W48 G) 189 as h o Q = rx_AS_newLength as h o Q := rfl
set_option maxRecDepth 2000 in
set_option maxHeartbeats 200000 in
theorem r_AB_newCap (hx : rx_AB_newCap as h o Q) : Runs G m_AB_newCap as h o Q := by
  obtain ⟨a, x, rfl, b, cap, n, f, m, ⟨h1, h2, rfl, hc, hm⟩, hq⟩ := E_ri hx
  have e1 := nI_subN (a := m) (b := cap) (by omega)
  have e2 : (2 : Int32) <<< (Int32.ofInt 0 &&& 31) = 2 := by decide
  have e3 : nI cap + 2 = nI (cap + 2) := nI_add cap 2
  have e4 : capN cap m ≤ 1802 := by unfold capN; split <;> omega
  have e5 : ¬ nI (capN cap m) = nI 2147483647 := fun e => by
    have := nI_lt (show capN cap m < 2147483647 by omega) (by omega)
    rw [e] at this
    exact Int32.lt_irrefl this
  refine Runs.of (by decide +kernel) (Nat.le_of_ble_eq_true rfl) (X_AB_newCap_0 (W48_ok G) (genJ (P := fun J => exB _ _ _ _ (J 40) _ _ _ _ _ _ _ _) (fun J hJ => ?_)))
  simp [exB, hJ, exT, stp, lv_args, Value.category, lkL, stL1, stL2, insL, contX, q_ofNat, f4_3, nI_1, -Int32.not_lt, -Int32.not_le, -Int64.not_lt, -Int64.not_le, T_AB_newCap_51, R_AB_newCap, C_AB_newCap, M_AB_newCap, HH_AB_newCap, KI_2, -Int32.reduceOfInt, -Int8.reduceOfInt, -Int16.reduceOfInt, -Int32.ofInt_neg, O_AB_newCap_AS_newLength, C_AS_newLength, M_AS_newLength, W48_AS_newLength, rx_AS_newLength, h1, h2, sb_shl0, sb_shr0, e1, e2, e3, A_iii, rx_AS_newLength]
  try simp (disch := omega) [-Int64.not_lt, -Int64.not_le, -Int32.not_lt, -Int32.not_le, nI_z, nI_ltI, nI_leI, nI_1, nI_clamp, q_vp, nI_pos', rget_k, rset_k, lget_k, hup_hup, h1, h2, sb_shl0, sb_shr0, e1, e2, e3, A_iii, rx_AS_newLength]
  exact ⟨cap, m - cap, cap + 2, ⟨rfl, rfl, rfl, by omega, by omega, by omega, by omega⟩, fun _ => hq, fun e => absurd e e5⟩
end BL
def W49 (G : GG) : WF := (wcons 153 rx_AB_newCap (W48 G))
theorem W49_ok (G : GG) : WOK G (W49 G) := (wcons_ok (fun _ _ _ _ hx => r_AB_newCap hx) (W48_ok G))
theorem sub_np {m c : Nat} (h : m ≤ c) (hc : c < 2 ^ 31) : nI m - nI c ≤ 0 := by
  have e : nI m - nI c = -nI (c - m) := by
    rw [← nI_subN h, Int32.neg_sub]
  rw [e, show (0 : Int32) = -nI 0 by decide]
  exact (sb_nle (by omega) (by decide)).mpr (Nat.zero_le _)
theorem BOK_grow {cap m : Nat} {f : Nat → Int32} {l : List Int32} (h : BOK cap f l) (hc : cap < m) (hm : m ≤ 900) : BOK (capN cap m) (va_cpy f (fun _ => 0) 0 0 cap) l ∧ m ≤ capN cap m := by
  obtain ⟨h1, h2, h3, h4⟩ := h
  have e : m ≤ capN cap m ∧ capN cap m ≤ 1802 := by unfold capN; split <;> omega
  exact ⟨⟨by omega, e.2, sb_fitC h3 sb_fit0, fun i hi => (sb_cpy0 (by omega)).trans (h4 i hi)⟩, e.1⟩
section BL
variable {G : GG} {as : List Value} {h : HM} {o : Option Nat} {Q : XQ}
theorem HH_AB_ensure : mHH 152 = [] := rfl
theorem TY_12_0 {v : Nat} : okw (tyC 12 0) (.ref v) = True := rfl
theorem TY_12_0n : okw (tyC 12 0) (.null) = True := rfl
theorem W49_AB_newCap {G : GG} {as : List Value} {h : HM} {o : Option Nat} {Q : XQ} : RX G (W49 G) 153 as h o Q = rx_AB_newCap as h o Q := rfl
theorem W49_Arr_copyOf {G : GG} {as : List Value} {h : HM} {o : Option Nat} {Q : XQ} : RX G (W49 G) 185 as h o Q = rx_Arr_copyOf as h o Q := rfl
set_option maxRecDepth 2000 in
set_option maxHeartbeats 200000 in
theorem r_AB_ensure (hx : rx_AB_ensure as h o Q) : Runs G m_AB_ensure as h o Q := by
  obtain ⟨a, x, rfl, z, b, cap, f, l, m, ⟨rfl, ha, hb, ⟨⟨h1, h2⟩, hab, hB⟩, rfl, hm⟩, hq⟩ := E_ri hx
  obtain ⟨h5, h6, h7, h8⟩ := id hB
  by_cases c : cap < m
  · obtain ⟨g1, g2⟩ := BOK_grow hB c hm
    have q := hq z _ _ _ (Or.inr ⟨rfl, rfl⟩) g1 g2
    have e1 := nI_subN (a := m) (b := cap) (by omega)
    have e2 : 0 < nI (m - cap) := nI_lt (show 0 < m - cap by omega) (by omega)
    have e3 : ¬ nI (m - cap) ≤ 0 := Int32.not_le.mpr e2
    have n1 : a ≠ z := Nat.ne_of_lt ha
    have n2 : b ≠ z := Nat.ne_of_lt hb
    refine Runs.of (by decide +kernel) (Nat.le_of_ble_eq_true rfl) (X_AB_ensure_0 (W49_ok G) (genJ (P := fun J => exB _ _ _ _ (J 40) _ _ _ _ _ _ _ _) (fun J hJ => ?_)))
    simp [exB, hJ, exT, stp, lv_args, Value.category, lkL, stL1, stL2, insL, contX, q_ofNat, f4_3, nI_1, -Int32.not_lt, -Int32.not_le, -Int64.not_lt, -Int64.not_le, T_AB_ensure_38, R_AB_ensure, C_AB_ensure, M_AB_ensure, HH_AB_ensure, -Int32.reduceOfInt, -Int8.reduceOfInt, -Int16.reduceOfInt, -Int32.ofInt_neg, TY_12_0, TY_12_0n, O_AB_ensure_AB_newCap, C_AB_newCap, M_AB_newCap, W49_AB_newCap, rx_AB_newCap, O_AB_ensure_Arr_copyOf, C_Arr_copyOf, M_Arr_copyOf, W49_Arr_copyOf, rx_Arr_copyOf, h1, h2, sb_shl0, sb_shr0, e1, e3, A_ri, rx_AB_newCap, rx_Arr_copyOf, hup_nq n1, hup_at]
    try simp (disch := omega) [-Int64.not_lt, -Int64.not_le, -Int32.not_lt, -Int32.not_le, nI_z, nI_ltI, nI_leI, nI_1, nI_clamp, q_vp, nI_pos', rget_k, rset_k, lget_k, hup_hup, h1, h2, sb_shl0, sb_shr0, e1, e3, A_ri, rx_AB_newCap, rx_Arr_copyOf, hup_nq n1, hup_at]
    refine ⟨b, cap, l.length, f, m, ⟨⟨rfl, rfl⟩, h2, rfl, c, hm⟩, z, cap, f, capN cap m, ⟨rfl, ⟨rfl, rfl⟩, hb, rfl, by omega, by have := g1.2.1; omega, h7⟩, ?_⟩
    rw [hup_nq n1, h1]
    exact ⟨rfl, Nat.zero_lt_succ _, q⟩
  · have q := hq b cap f z (Or.inl ⟨rfl, rfl⟩) hB (by omega)
    rw [hup_same h2, hup_same h1] at q
    have e3 := sub_np (m := m) (c := cap) (by omega) (by omega)
    refine Runs.of (by decide +kernel) (Nat.le_of_ble_eq_true rfl) (X_AB_ensure_0 (W49_ok G) (genJ (P := fun J => exB _ _ _ _ (J 40) _ _ _ _ _ _ _ _) (fun J hJ => ?_)))
    simp [exB, hJ, exT, stp, lv_args, Value.category, lkL, stL1, stL2, insL, contX, q_ofNat, f4_3, nI_1, -Int32.not_lt, -Int32.not_le, -Int64.not_lt, -Int64.not_le, T_AB_ensure_38, R_AB_ensure, C_AB_ensure, M_AB_ensure, HH_AB_ensure, -Int32.reduceOfInt, -Int8.reduceOfInt, -Int16.reduceOfInt, -Int32.ofInt_neg, TY_12_0, TY_12_0n, O_AB_ensure_AB_newCap, C_AB_newCap, M_AB_newCap, W49_AB_newCap, rx_AB_newCap, O_AB_ensure_Arr_copyOf, C_Arr_copyOf, M_Arr_copyOf, W49_Arr_copyOf, rx_Arr_copyOf, h1, h2, sb_shl0, sb_shr0, e3]
    try simp (disch := omega) [-Int64.not_lt, -Int64.not_le, -Int32.not_lt, -Int32.not_le, nI_z, nI_ltI, nI_leI, nI_1, nI_clamp, q_vp, nI_pos', rget_k, rset_k, lget_k, hup_hup, h1, h2, sb_shl0, sb_shr0, e3]
    exact q
end BL
def W50 (G : GG) : WF := (wcons 152 rx_AB_ensure (W49 G))
theorem W50_ok (G : GG) : WOK G (W50 G) := (wcons_ok (fun _ _ _ _ hx => r_AB_ensure hx) (W49_ok G))
theorem fit_nar {f : Nat → Int32} {p : Nat} {x : Int32} (h : sb_Fit f) : sb_Fit (upd f p (vp_nar .byte x)) := sb_fitU h (by rw [vp_nar_byte]; exact pk_fb x)
theorem BOK_put {cap : Nat} {f g : Nat → Int32} {l t : List Int32} (h : BOK cap f l) (hn : l.length + t.length ≤ cap) (hg : sb_Fit g) (h1 : ∀ i, i < l.length → g i = f i) (h2 : ∀ i, i < t.length → g (l.length + i) = t.getD i 0) : BOK cap g (l ++ t) := by
  obtain ⟨h5, h6, h7, h8⟩ := h
  refine ⟨by rw [List.length_append]; omega, h6, hg, fun i hi => ?_⟩
  rw [List.length_append] at hi
  by_cases c : i < l.length
  · rw [h1 i c, h8 i c, List.getD_eq_getElem?_getD, List.getD_eq_getElem?_getD, List.getElem?_append_left c]
  · rw [List.getD_eq_getElem?_getD, List.getElem?_append_right (by omega), ← List.getD_eq_getElem?_getD]
    have := h2 (i - l.length) (by omega)
    rw [show l.length + (i - l.length) = i by omega] at this
    exact this
/-- behind an append: t at the end of l -/
def APT (Q : XQ) (h : HM) (a z b : Nat) (l : List Int32) : Prop := ∀ b' cap' f' z', ((b' = b ∧ z' = z) ∨ (b' = z ∧ z' = z + 1)) → BOK cap' f' l → Q (.inl (some (.ref a))) (hup (hup h b' (byA cap' f')) a (bld b' l.length)) (some z')
def rx_AB_appendC (as : List Value) (h : HM) (o : Option Nat) (Q : XQ) : Prop := A_ri as fun a x => ∃ z b cap f l c, (o = some z ∧ a < z ∧ b < z ∧ BLD h a b cap f l ∧ x = nI c ∧ c < 128 ∧ l.length ≤ 800) ∧ APT Q h a z b (l ++ [nI c])
def rx_AB_appendI (as : List Value) (h : HM) (o : Option Nat) (Q : XQ) : Prop := A_ri as fun a x => ∃ z b cap f l v, (o = some z ∧ a < z ∧ b < z ∧ BLD h a b cap f l ∧ x = nI v ∧ v < 100 ∧ l.length ≤ 800) ∧ APT Q h a z b (l ++ decL v)
theorem hup_bab {h : HM} {a b : Nat} {e1 e2 e3 e4 : AE} (n : a ≠ b) : hup (hup (hup (hup h b e1) a e2) a e3) b e4 = hup (hup h b e4) a e3 := by
  funext x
  by_cases c1 : x = b
  · subst c1; rw [hup_at, hup_nq (Ne.symm n), hup_at]
  · rw [hup_nq c1]
    by_cases c2 : x = a
    · subst c2; rw [hup_at, hup_at]
    · rw [hup_nq c2, hup_nq c2, hup_nq c1, hup_nq c2, hup_nq c1]
theorem hup_ba2 {h : HM} {a b : Nat} {e1 e3 e4 : AE} (n : a ≠ b) : hup (hup (hup h b e1) a e3) b e4 = hup (hup h b e4) a e3 := by
  funext x
  by_cases c1 : x = b
  · subst c1; rw [hup_at, hup_nq (Ne.symm n), hup_at]
  · rw [hup_nq c1]
    by_cases c2 : x = a
    · subst c2; rw [hup_at, hup_at]
    · rw [hup_nq c2, hup_nq c2, hup_nq c1]; rw [hup_nq c1]
theorem chr_ok : ∀ c, c < 128 → nI c ≤ 255 ∧ vp_nar .byte (nI c).toInt8.toInt32 = nI c := by decide +kernel
section BL
variable {G : GG} {as : List Value} {h : HM} {o : Option Nat} {Q : XQ}
theorem HH_AB_appendC : mHH 156 = [] := rfl
theorem TY_12_3 {v : Int32} : okw (tyC 12 3) (.int v) = True := rfl
theorem W50_AB_ensure {G : GG} {as : List Value} {h : HM} {o : Option Nat} {Q : XQ} : RX G (W50 G) 152 as h o Q = rx_AB_ensure as h o Q := rfl
theorem W50_AB_isLatin1 {G : GG} {as : List Value} {h : HM} {o : Option Nat} {Q : XQ} : RX G (W50 G) 159 as h o Q = rx_AB_isLatin1 as h o Q := rfl
theorem W50_L1_canEncode {G : GG} {as : List Value} {h : HM} {o : Option Nat} {Q : XQ} : RX G (W50 G) 184 as h o Q = rx_L1_canEncode as h o Q := rfl
set_option maxRecDepth 2000 in
set_option maxHeartbeats 200000 in
theorem r_AB_appendC (hx : rx_AB_appendC as h o Q) : Runs G m_AB_appendC as h o Q := by
  obtain ⟨a, x, rfl, z, b, cap, f, l, c, ⟨rfl, ha, hb, ⟨⟨h1, h2⟩, hab, hB⟩, rfl, hc, hl⟩, hq⟩ := E_ri hx
  change Nat at a
  obtain ⟨c1, c2⟩ := chr_ok c hc
  have e0 : nI l.length + 1 = nI (l.length + 1) := nI_add _ 1
  have r1 : roomOK m_AB_appendC 159 1 4000 = true := by decide +kernel
  have r2 : roomOK m_AB_appendC 184 1 4000 = true := by decide +kernel
  have hJ : True := trivial
  refine Runs.of (by decide +kernel) (Nat.le_of_ble_eq_true rfl) ?_
  refine exB_ok (t := [(.aload_n 0, 1, 0, 0, 0, 0), (.aload_n 0, 1, 0, 0, 0, 0), (.getfield 79, 3, 12, 3, 0, 0), (.iconst 1, 1, 0, 0, 0, 0), (.iadd, 1, 0, 0, 0, 0), (.invokevirtual 100, 3, 152, 2, 1, 12)]) (W50_ok G) (jj := fun q L st h o k n => EX G m_AB_appendC q L st h o k n Q) (fun q L st h o k n hq => hq) (by decide +kernel) ?_
  simp [exB, hJ, exT, stp, lv_args, Value.category, lkL, stL1, stL2, insL, contX, q_ofNat, f4_3, nI_1, -Int32.not_lt, -Int32.not_le, -Int64.not_lt, -Int64.not_le, T_AB_appendC_45, T_AB_appendC_56, T_AB_appendC_75, R_AB_appendC, C_AB_appendC, M_AB_appendC, HH_AB_appendC, KI_1, -Int32.reduceOfInt, -Int8.reduceOfInt, -Int16.reduceOfInt, -Int32.ofInt_neg, TY_12_3, O_AB_appendC_AB_ensure, C_AB_ensure, M_AB_ensure, W50_AB_ensure, rx_AB_ensure, O_AB_appendC_AB_isLatin1, C_AB_isLatin1, M_AB_isLatin1, W50_AB_isLatin1, rx_AB_isLatin1, O_AB_appendC_L1_canEncode, C_L1_canEncode, M_L1_canEncode, W50_L1_canEncode, rx_L1_canEncode, h1, A_ri, rx_AB_ensure, e0]
  try simp (disch := omega) [-Int64.not_lt, -Int64.not_le, -Int32.not_lt, -Int32.not_le, nI_z, nI_ltI, nI_leI, nI_1, nI_clamp, q_vp, nI_pos', rget_k, rset_k, lget_k, hup_hup, h1, A_ri, rx_AB_ensure, e0]
  refine ⟨z, b, cap, f, l, l.length + 1, ⟨rfl, ha, hb, ⟨⟨h1, h2⟩, hab, hB⟩, rfl, by omega⟩, ?_⟩
  intro b' cap' f' z' hz hB' hn
  have n1 : a ≠ b' := by
    rcases hz with ⟨rfl, -⟩ | ⟨rfl, -⟩
    · exact hab
    · exact Nat.ne_of_lt ha
  have hv : vp_in (nI l.length) cap' := vp_in_nI (by omega) (by have := hB'.2.1; omega)
  have q := hq b' cap' (upd f' l.length (nI c)) z' hz (BOK_put hB' (by simp; omega) (by have := fit_nar (p := l.length) (x := (nI c).toInt8.toInt32) hB'.2.2.1; rwa [c2] at this) (fun i hi => if_neg (by omega)) (fun i hi => by simp at hi; subst hi; simp [upd]))
  show EX G m_AB_appendC 10 _ _ _ _ 1 4000 _
  refine exB_ok (t := [(.aload_n 0, 1, 0, 0, 0, 0), (.invokevirtual 83, 3, 159, 2, 0, 12), (.ifCond .eq 31, 3, 45, 0, 0, 0)]) (W50_ok G) (jj := fun q L st h o k n => EX G m_AB_appendC q L st h o k n Q) (fun q L st h o k n hq => hq) (by decide +kernel) ?_
  simp [exB, hJ, exT, stp, lv_args, Value.category, lkL, stL1, stL2, insL, contX, q_ofNat, f4_3, nI_1, -Int32.not_lt, -Int32.not_le, -Int64.not_lt, -Int64.not_le, T_AB_appendC_45, T_AB_appendC_56, T_AB_appendC_75, R_AB_appendC, C_AB_appendC, M_AB_appendC, HH_AB_appendC, KI_1, -Int32.reduceOfInt, -Int8.reduceOfInt, -Int16.reduceOfInt, -Int32.ofInt_neg, TY_12_3, O_AB_appendC_AB_ensure, C_AB_ensure, M_AB_ensure, W50_AB_ensure, rx_AB_ensure, O_AB_appendC_AB_isLatin1, C_AB_isLatin1, M_AB_isLatin1, W50_AB_isLatin1, rx_AB_isLatin1, O_AB_appendC_L1_canEncode, C_L1_canEncode, M_L1_canEncode, W50_L1_canEncode, rx_L1_canEncode, hup_at, A_r, rx_AB_isLatin1, r1]
  try simp (disch := omega) [-Int64.not_lt, -Int64.not_le, -Int32.not_lt, -Int32.not_le, nI_z, nI_ltI, nI_leI, nI_1, nI_clamp, q_vp, nI_pos', rget_k, rset_k, lget_k, hup_hup, hup_at, A_r, rx_AB_isLatin1, r1]
  refine ⟨⟨_, rfl⟩, ?_⟩
  refine exB_ok (t := [(.iload_n 1, 1, 0, 0, 0, 0), (.invokestatic 191, 3, 184, 0, 1, 0), (.ifCond .eq 24, 3, 45, 0, 0, 0)]) (W50_ok G) (jj := fun q L st h o k n => EX G m_AB_appendC q L st h o k n Q) (fun q L st h o k n hq => hq) (by decide +kernel) ?_
  simp [exB, hJ, exT, stp, lv_args, Value.category, lkL, stL1, stL2, insL, contX, q_ofNat, f4_3, nI_1, -Int32.not_lt, -Int32.not_le, -Int64.not_lt, -Int64.not_le, T_AB_appendC_45, T_AB_appendC_56, T_AB_appendC_75, R_AB_appendC, C_AB_appendC, M_AB_appendC, HH_AB_appendC, KI_1, -Int32.reduceOfInt, -Int8.reduceOfInt, -Int16.reduceOfInt, -Int32.ofInt_neg, TY_12_3, O_AB_appendC_AB_ensure, C_AB_ensure, M_AB_ensure, W50_AB_ensure, rx_AB_ensure, O_AB_appendC_AB_isLatin1, C_AB_isLatin1, M_AB_isLatin1, W50_AB_isLatin1, rx_AB_isLatin1, O_AB_appendC_L1_canEncode, C_L1_canEncode, M_L1_canEncode, W50_L1_canEncode, rx_L1_canEncode, A_i, rx_L1_canEncode, c1, r2]
  try simp (disch := omega) [-Int64.not_lt, -Int64.not_le, -Int32.not_lt, -Int32.not_le, nI_z, nI_ltI, nI_leI, nI_1, nI_clamp, q_vp, nI_pos', rget_k, rset_k, lget_k, hup_hup, A_i, rx_L1_canEncode, c1, r2]
  sorry
end BL
