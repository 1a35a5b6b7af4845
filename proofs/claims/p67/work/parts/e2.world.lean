/-! e2: the world's changes: seances, rooms, doors -/
/-- rows that a world can't tell apart -/
def WEQ (s t : Nat → Int32) : Prop := (∀ i, i < 12 → t i = s i) ∧ (∀ k j, k < 12 → 2 ≤ j → j < 9 → t (12 + 9 * k + j) = s (12 + 9 * k + j)) ∧ ∀ i, 120 ≤ i → i < 216 → t i = s i
theorem cW_WEQ {w : Nat} {s t : Nat → Int32} {c : Int32} {k : Nat} (hk : k < 40) (h0 : k = 0 → ∀ i, 6 ≤ i → i < 12 → t i = s i) (h1 : k = 1 → ∀ i, i < 6 → t i = s i) (h2 : 3 ≤ k → k < 15 → ∀ j, 2 ≤ j → j < 9 → t (12 + 9 * (k - 3) + j) = s (12 + 9 * (k - 3) + j)) (h3 : 16 ≤ k → ∀ j, j < 4 → t (120 + 4 * (k - 16) + j) = s (120 + 4 * (k - 16) + j)) : cW w t c k = cW w s c k := by
  unfold cW
  split
  · rename_i e
    rw [h0 e 9 (by omega) (by omega), h0 e 10 (by omega) (by omega), h0 e 11 (by omega) (by omega), h0 e 7 (by omega) (by omega), h0 e 8 (by omega) (by omega), h0 e 6 (by omega) (by omega)]
  · split
    · rename_i e
      have : wSet t = wSet s := by
        funext x; unfold wSet; split
        · rename_i hx; rw [h1 e x hx]
        · rfl
      rw [this]
    · split
      · rfl
      · split
        · have : wRow t (k - 3) = wRow s (k - 3) := by
            funext x; unfold wRow; split
            · have := h2 (by omega) (by omega) (2 + x) (by omega) (by omega)
              rw [← Nat.add_assoc] at this
              exact this
            · rfl
          rw [this]
        · split
          · rfl
          · have : wDor t (k - 16) = wDor s (k - 16) := by
              funext x; unfold wDor; split
              · rename_i hx; exact h3 (by omega) x hx
              · rfl
            rw [this]
theorem hW_cong {h : HM} {w : Nat} {s t : Nat → Int32} {c : Int32} (hq : WEQ s t) : hW h w t c = hW h w s c := by
  funext x
  unfold hW
  split
  · rw [cW_WEQ (s := s) (t := t) (by omega) (fun _ i _ h2 => hq.1 i h2) (fun _ i h => hq.1 i (by omega)) (fun _ _ j h1 h2 => hq.2.1 _ j (by omega) h1 h2) (fun _ j hj => hq.2.2 _ (by omega) (by omega))]
  · rfl
theorem hW_row {h : HM} {w k : Nat} {s t : Nat → Int32} {c : Int32} (hk : k < 12) (h1 : ∀ i, i < 12 → t i = s i) (h2 : ∀ q j, q < 12 → q ≠ k → 2 ≤ j → j < 9 → t (12 + 9 * q + j) = s (12 + 9 * q + j)) (h3 : ∀ i, 120 ≤ i → i < 216 → t i = s i) : hup (hW h w s c) (w + 3 + k) (ints 7 (wRow t k)) = hW h w t c := by
  rw [Nat.add_assoc]
  refine hW_upg (by omega) ?_ (fun x hx hn => cW_WEQ hx (fun _ i _ g => h1 i g) (fun _ i g => h1 i (by omega)) (fun _ _ j g1 g2 => h2 _ j (by omega) (by omega) g1 g2) (fun _ j hj => h3 _ (by omega) (by omega)))
  unfold cW
  rw [if_neg (by omega), if_neg (by omega), if_neg (by omega), if_pos (by omega), Nat.add_sub_cancel_left]
theorem hW_dor {h : HM} {w k : Nat} {s t : Nat → Int32} {c : Int32} (hk : k < 24) (h1 : ∀ i, i < 120 → t i = s i) (h3 : ∀ q j, q < 24 → q ≠ k → j < 4 → t (120 + 4 * q + j) = s (120 + 4 * q + j)) : hup (hW h w s c) (w + 16 + k) (ints 4 (wDor t k)) = hW h w t c := by
  rw [Nat.add_assoc]
  refine hW_upg (by omega) ?_ (fun x hx hn => cW_WEQ hx (fun _ i _ g => h1 i (by omega)) (fun _ i g => h1 i (by omega)) (fun _ _ j g1 g2 => h1 _ (by omega)) (fun _ j hj => h3 _ j (by omega) (by omega) hj))
  unfold cW
  rw [if_neg (by omega), if_neg (by omega), if_neg (by omega), if_neg (by omega), if_neg (by omega), Nat.add_sub_cancel_left]
theorem xor_m1 (x : Int32) : x ^^^ (-1) = ~~~x := by
  refine b_ext fun i hi => ?_
  have k : ∀ i, i < 32 → bt (-1) i = true := by decide +kernel
  rw [b_xor, b_not hi, k i hi]
  cases bt x i <;> rfl
def rx_World_mayAsk (as : List Value) (h : HM) (o : Option Nat) (Q : XQ) : Prop := A_ri as fun w x => WX h w fun s c => RW s ∧ Q (.inl (some (.int (tI (casB s x))))) h o
def rx_World_ask (as : List Value) (h : HM) (o : Option Nat) (Q : XQ) : Prop := A_ri as fun w x => ∃ h0 s c, h = hW h0 w s c ∧ (RW s ∧ WBI s) ∧ Q (.inl (some (.int (tI (hasF x (s 11)))))) (hW h0 w (asF s x) c) o
def rx_World_addRoom (as : List Value) (h : HM) (o : Option Nat) (Q : XQ) : Prop := A_rii as fun w v b => ∃ h0 s c z y, h = hW h0 w s c ∧ (o = some z ∧ RW s ∧ nR s < 12 ∧ (b = 0 ∨ b = 1)) ∧ Q (.inl (some (.int (nI (nR s))))) (hW h0 w (adR s y v b) c) (some (z + 1))
def rx_World_addDoor (as : List Value) (h : HM) (o : Option Nat) (Q : XQ) : Prop := A_riii as fun w a b v => ∃ h0 s c z, h = hW h0 w s c ∧ (o = some z ∧ RW s ∧ nD s < 24) ∧ Q (.inl (some (.int (nI (nD s))))) (hW h0 w (addD s a b v) c) (some (z + 1))
theorem cl_7 : Int32.toNatClampNeg 7 = 7 := by decide
section WB
variable {G : GG} {as : List Value} {h : HM} {o : Option Nat} {Q : XQ}
theorem HH_World_mayAsk : mHH 148 = [] := rfl
theorem W57_World_possible {G : GG} {as : List Value} {h : HM} {o : Option Nat} {Q : XQ} : RX G (W57 G) 144 as h o Q = rx_World_possible as h o Q := rfl
set_option maxRecDepth 2000 in
set_option maxHeartbeats 200000 in
theorem r_World_mayAsk (hx : rx_World_mayAsk as h o Q) : Runs G m_World_mayAsk as h o Q := by
  obtain ⟨w, x, rfl, h0, s, c, rfl, hR, hq⟩ := E_ri hx
  change Nat at w
  have hJ : True := trivial
  unfold casB at hq
  refine Runs.of (by decide +kernel) (Nat.le_of_ble_eq_true rfl) ?_
  refine exB_ok (t := [(.aload_n 0, 1, 0, 0, 0, 0), (.invokevirtual 139, 3, 144, 0, 0, 11)]) (W57_ok G) (jj := fun q L st h o k n => EX G m_World_mayAsk q L st h o k n Q) (fun q L st h o k n hq => hq) (by decide +kernel) ?_
  simp [exB, hJ, exT, stp, lv_args, Value.category, lkL, stL1, stL2, insL, contX, q_ofNat, f4_3, nI_1, -Int32.not_lt, -Int32.not_le, -Int64.not_lt, -Int64.not_le, T_World_mayAsk_39, T_World_mayAsk_40, R_World_mayAsk, C_World_mayAsk, M_World_mayAsk, HH_World_mayAsk, KI_m1, KI_3, KI_5, KI_1, KI_0, -Int32.reduceOfInt, -Int8.reduceOfInt, -Int16.reduceOfInt, -Int32.ofInt_neg, O_World_mayAsk_World_possible, C_World_possible, M_World_possible, W57_World_possible, rx_World_possible, A_r, A_ri, A_rii, A_riii, A_riiii, A_rr, A_i, A_ii, A_iii, hW_0, hW_1, hW_2, hW_15, hW_hW, rfs_at, wR_0, wR_1, wR_2, wR_3, wR_4, wR_5, wR_6, wD_0, wD_1, wD_2, wD_3, wS_0, wS_1, wS_2, wS_3, wS_4, wS_5, hW_s0, hW_s1, hW_s2, hW_s3, hW_s4, hW_s5, hW_f9, hW_f10, hW_f11, hW_f7, hW_f8, hW_f6, hW_fc, vv4_0, vv4_1, vv4_2, vv4_3, vv6_0, vv6_1, vv6_2, vv6_3, vv6_4, vv6_5, vv7_0, vv7_1, vv7_2, vv7_3, vv7_4, vv7_5, vv7_6, cl_0, cl_1, cl_2, cl_3, cl_4, cl_5, cl_6, tI_0, tI_1, tI_or, rx_World_possible]
  try simp (disch := omega) [-Int64.not_lt, -Int64.not_le, -Int32.not_lt, -Int32.not_le, nI_z, nI_ltI, nI_leI, nI_1, nI_clamp, q_vp, nI_pos', rget_k, rset_k, lget_k, hup_hup, A_r, A_ri, A_rii, A_riii, A_riiii, A_rr, A_i, A_ii, A_iii, hW_0, hW_1, hW_2, hW_15, hW_hW, rfs_at, wR_0, wR_1, wR_2, wR_3, wR_4, wR_5, wR_6, wD_0, wD_1, wD_2, wD_3, wS_0, wS_1, wS_2, wS_3, wS_4, wS_5, hW_s0, hW_s1, hW_s2, hW_s3, hW_s4, hW_s5, hW_f9, hW_f10, hW_f11, hW_f7, hW_f8, hW_f6, hW_fc, vv4_0, vv4_1, vv4_2, vv4_3, vv6_0, vv6_1, vv6_2, vv6_3, vv6_4, vv6_5, vv7_0, vv7_1, vv7_2, vv7_3, vv7_4, vv7_5, vv7_6, cl_0, cl_1, cl_2, cl_3, cl_4, cl_5, cl_6, tI_0, tI_1, tI_or, rx_World_possible]
  refine ⟨_, _, _, rfl, hR, ?_⟩
  generalize ep : orF (poS s) (nR s) = p at hq ⊢
  refine exB_ok (t := [(.iload_n 1, 1, 0, 0, 0, 0), (.iand, 1, 0, 0, 0, 0), (.ifCond .eq 33, 3, 39, 0, 0, 0)]) (W57_ok G) (jj := fun q L st h o k n => EX G m_World_mayAsk q L st h o k n Q) (fun q L st h o k n hq => hq) (by decide +kernel) ?_
  simp [exB, hJ, exT, stp, lv_args, Value.category, lkL, stL1, stL2, insL, contX, q_ofNat, f4_3, nI_1, -Int32.not_lt, -Int32.not_le, -Int64.not_lt, -Int64.not_le, T_World_mayAsk_39, T_World_mayAsk_40, R_World_mayAsk, C_World_mayAsk, M_World_mayAsk, HH_World_mayAsk, KI_m1, KI_3, KI_5, KI_1, KI_0, -Int32.reduceOfInt, -Int8.reduceOfInt, -Int16.reduceOfInt, -Int32.ofInt_neg, O_World_mayAsk_World_possible, C_World_possible, M_World_possible, W57_World_possible, rx_World_possible, A_r, A_ri, A_rii, A_riii, A_riiii, A_rr, A_i, A_ii, A_iii, hW_0, hW_1, hW_2, hW_15, hW_hW, rfs_at, wR_0, wR_1, wR_2, wR_3, wR_4, wR_5, wR_6, wD_0, wD_1, wD_2, wD_3, wS_0, wS_1, wS_2, wS_3, wS_4, wS_5, hW_s0, hW_s1, hW_s2, hW_s3, hW_s4, hW_s5, hW_f9, hW_f10, hW_f11, hW_f7, hW_f8, hW_f6, hW_fc, vv4_0, vv4_1, vv4_2, vv4_3, vv6_0, vv6_1, vv6_2, vv6_3, vv6_4, vv6_5, vv7_0, vv7_1, vv7_2, vv7_3, vv7_4, vv7_5, vv7_6, cl_0, cl_1, cl_2, cl_3, cl_4, cl_5, cl_6, tI_0, tI_1, tI_or]
  try simp (disch := omega) [-Int64.not_lt, -Int64.not_le, -Int32.not_lt, -Int32.not_le, nI_z, nI_ltI, nI_leI, nI_1, nI_clamp, q_vp, nI_pos', rget_k, rset_k, lget_k, hup_hup, A_r, A_ri, A_rii, A_riii, A_riiii, A_rr, A_i, A_ii, A_iii, hW_0, hW_1, hW_2, hW_15, hW_hW, rfs_at, wR_0, wR_1, wR_2, wR_3, wR_4, wR_5, wR_6, wD_0, wD_1, wD_2, wD_3, wS_0, wS_1, wS_2, wS_3, wS_4, wS_5, hW_s0, hW_s1, hW_s2, hW_s3, hW_s4, hW_s5, hW_f9, hW_f10, hW_f11, hW_f7, hW_f8, hW_f6, hW_fc, vv4_0, vv4_1, vv4_2, vv4_3, vv6_0, vv6_1, vv6_2, vv6_3, vv6_4, vv6_5, vv7_0, vv7_1, vv7_2, vv7_3, vv7_4, vv7_5, vv7_6, cl_0, cl_1, cl_2, cl_3, cl_4, cl_5, cl_6, tI_0, tI_1, tI_or]
  refine ⟨fun e => ?_, fun e => ?_⟩
  · rw [if_pos e] at hq
    refine exB_ok (t := [(.iconst 0, 1, 0, 0, 0, 0), (.ireturn, 1, 0, 0, 0, 0)]) (W57_ok G) (jj := fun q L st h o k n => EX G m_World_mayAsk q L st h o k n Q) (fun q L st h o k n hq => hq) (by decide +kernel) ?_
    simp [exB, hJ, exT, stp, lv_args, Value.category, lkL, stL1, stL2, insL, contX, q_ofNat, f4_3, nI_1, -Int32.not_lt, -Int32.not_le, -Int64.not_lt, -Int64.not_le, T_World_mayAsk_39, T_World_mayAsk_40, R_World_mayAsk, C_World_mayAsk, M_World_mayAsk, HH_World_mayAsk, KI_m1, KI_3, KI_5, KI_1, KI_0, -Int32.reduceOfInt, -Int8.reduceOfInt, -Int16.reduceOfInt, -Int32.ofInt_neg, O_World_mayAsk_World_possible, C_World_possible, M_World_possible, W57_World_possible, rx_World_possible]
    try simp (disch := omega) [-Int64.not_lt, -Int64.not_le, -Int32.not_lt, -Int32.not_le, nI_z, nI_ltI, nI_leI, nI_1, nI_clamp, q_vp, nI_pos', rget_k, rset_k, lget_k, hup_hup]
    exact hq
  · rw [if_neg e] at hq
    refine exB_ok (t := [(.aload_n 0, 1, 0, 0, 0, 0), (.invokevirtual 139, 3, 144, 0, 0, 11)]) (W57_ok G) (jj := fun q L st h o k n => EX G m_World_mayAsk q L st h o k n Q) (fun q L st h o k n hq => hq) (by decide +kernel) ?_
    simp [exB, hJ, exT, stp, lv_args, Value.category, lkL, stL1, stL2, insL, contX, q_ofNat, f4_3, nI_1, -Int32.not_lt, -Int32.not_le, -Int64.not_lt, -Int64.not_le, T_World_mayAsk_39, T_World_mayAsk_40, R_World_mayAsk, C_World_mayAsk, M_World_mayAsk, HH_World_mayAsk, KI_m1, KI_3, KI_5, KI_1, KI_0, -Int32.reduceOfInt, -Int8.reduceOfInt, -Int16.reduceOfInt, -Int32.ofInt_neg, O_World_mayAsk_World_possible, C_World_possible, M_World_possible, W57_World_possible, rx_World_possible, A_r, A_ri, A_rii, A_riii, A_riiii, A_rr, A_i, A_ii, A_iii, hW_0, hW_1, hW_2, hW_15, hW_hW, rfs_at, wR_0, wR_1, wR_2, wR_3, wR_4, wR_5, wR_6, wD_0, wD_1, wD_2, wD_3, wS_0, wS_1, wS_2, wS_3, wS_4, wS_5, hW_s0, hW_s1, hW_s2, hW_s3, hW_s4, hW_s5, hW_f9, hW_f10, hW_f11, hW_f7, hW_f8, hW_f6, hW_fc, vv4_0, vv4_1, vv4_2, vv4_3, vv6_0, vv6_1, vv6_2, vv6_3, vv6_4, vv6_5, vv7_0, vv7_1, vv7_2, vv7_3, vv7_4, vv7_5, vv7_6, cl_0, cl_1, cl_2, cl_3, cl_4, cl_5, cl_6, tI_0, tI_1, tI_or, rx_World_possible]
    try simp (disch := omega) [-Int64.not_lt, -Int64.not_le, -Int32.not_lt, -Int32.not_le, nI_z, nI_ltI, nI_leI, nI_1, nI_clamp, q_vp, nI_pos', rget_k, rset_k, lget_k, hup_hup, A_r, A_ri, A_rii, A_riii, A_riiii, A_rr, A_i, A_ii, A_iii, hW_0, hW_1, hW_2, hW_15, hW_hW, rfs_at, wR_0, wR_1, wR_2, wR_3, wR_4, wR_5, wR_6, wD_0, wD_1, wD_2, wD_3, wS_0, wS_1, wS_2, wS_3, wS_4, wS_5, hW_s0, hW_s1, hW_s2, hW_s3, hW_s4, hW_s5, hW_f9, hW_f10, hW_f11, hW_f7, hW_f8, hW_f6, hW_fc, vv4_0, vv4_1, vv4_2, vv4_3, vv6_0, vv6_1, vv6_2, vv6_3, vv6_4, vv6_5, vv7_0, vv7_1, vv7_2, vv7_3, vv7_4, vv7_5, vv7_6, cl_0, cl_1, cl_2, cl_3, cl_4, cl_5, cl_6, tI_0, tI_1, tI_or, rx_World_possible]
    refine ⟨_, _, _, rfl, hR, ?_⟩
    rw [ep]
    refine exB_ok (t := [(.iload_n 1, 1, 0, 0, 0, 0), (.iconst (-1), 1, 0, 0, 0, 0), (.ixor, 1, 0, 0, 0, 0), (.iand, 1, 0, 0, 0, 0), (.ifCond .eq 22, 3, 39, 0, 0, 0)]) (W57_ok G) (jj := fun q L st h o k n => EX G m_World_mayAsk q L st h o k n Q) (fun q L st h o k n hq => hq) (by decide +kernel) ?_
    simp [exB, hJ, exT, stp, lv_args, Value.category, lkL, stL1, stL2, insL, contX, q_ofNat, f4_3, nI_1, -Int32.not_lt, -Int32.not_le, -Int64.not_lt, -Int64.not_le, T_World_mayAsk_39, T_World_mayAsk_40, R_World_mayAsk, C_World_mayAsk, M_World_mayAsk, HH_World_mayAsk, KI_m1, KI_3, KI_5, KI_1, KI_0, -Int32.reduceOfInt, -Int8.reduceOfInt, -Int16.reduceOfInt, -Int32.ofInt_neg, O_World_mayAsk_World_possible, C_World_possible, M_World_possible, W57_World_possible, rx_World_possible, A_r, A_ri, A_rii, A_riii, A_riiii, A_rr, A_i, A_ii, A_iii, hW_0, hW_1, hW_2, hW_15, hW_hW, rfs_at, wR_0, wR_1, wR_2, wR_3, wR_4, wR_5, wR_6, wD_0, wD_1, wD_2, wD_3, wS_0, wS_1, wS_2, wS_3, wS_4, wS_5, hW_s0, hW_s1, hW_s2, hW_s3, hW_s4, hW_s5, hW_f9, hW_f10, hW_f11, hW_f7, hW_f8, hW_f6, hW_fc, vv4_0, vv4_1, vv4_2, vv4_3, vv6_0, vv6_1, vv6_2, vv6_3, vv6_4, vv6_5, vv7_0, vv7_1, vv7_2, vv7_3, vv7_4, vv7_5, vv7_6, cl_0, cl_1, cl_2, cl_3, cl_4, cl_5, cl_6, tI_0, tI_1, tI_or]
    try simp (disch := omega) [-Int64.not_lt, -Int64.not_le, -Int32.not_lt, -Int32.not_le, nI_z, nI_ltI, nI_leI, nI_1, nI_clamp, q_vp, nI_pos', rget_k, rset_k, lget_k, hup_hup, A_r, A_ri, A_rii, A_riii, A_riiii, A_rr, A_i, A_ii, A_iii, hW_0, hW_1, hW_2, hW_15, hW_hW, rfs_at, wR_0, wR_1, wR_2, wR_3, wR_4, wR_5, wR_6, wD_0, wD_1, wD_2, wD_3, wS_0, wS_1, wS_2, wS_3, wS_4, wS_5, hW_s0, hW_s1, hW_s2, hW_s3, hW_s4, hW_s5, hW_f9, hW_f10, hW_f11, hW_f7, hW_f8, hW_f6, hW_fc, vv4_0, vv4_1, vv4_2, vv4_3, vv6_0, vv6_1, vv6_2, vv6_3, vv6_4, vv6_5, vv7_0, vv7_1, vv7_2, vv7_3, vv7_4, vv7_5, vv7_6, cl_0, cl_1, cl_2, cl_3, cl_4, cl_5, cl_6, tI_0, tI_1, tI_or]
    try rw [xor_m1]
    refine ⟨fun e => ?_, fun e => ?_⟩
    · rw [if_pos (and_all.mpr e)] at hq
      refine exB_ok (t := [(.iconst 0, 1, 0, 0, 0, 0), (.ireturn, 1, 0, 0, 0, 0)]) (W57_ok G) (jj := fun q L st h o k n => EX G m_World_mayAsk q L st h o k n Q) (fun q L st h o k n hq => hq) (by decide +kernel) ?_
      simp [exB, hJ, exT, stp, lv_args, Value.category, lkL, stL1, stL2, insL, contX, q_ofNat, f4_3, nI_1, -Int32.not_lt, -Int32.not_le, -Int64.not_lt, -Int64.not_le, T_World_mayAsk_39, T_World_mayAsk_40, R_World_mayAsk, C_World_mayAsk, M_World_mayAsk, HH_World_mayAsk, KI_m1, KI_3, KI_5, KI_1, KI_0, -Int32.reduceOfInt, -Int8.reduceOfInt, -Int16.reduceOfInt, -Int32.ofInt_neg, O_World_mayAsk_World_possible, C_World_possible, M_World_possible, W57_World_possible, rx_World_possible]
      try simp (disch := omega) [-Int64.not_lt, -Int64.not_le, -Int32.not_lt, -Int32.not_le, nI_z, nI_ltI, nI_leI, nI_1, nI_clamp, q_vp, nI_pos', rget_k, rset_k, lget_k, hup_hup]
      exact hq
    · rw [if_neg (fun g => e (and_all.mp g))] at hq
      refine exB_ok (t := [(.aload_n 0, 1, 0, 0, 0, 0), (.getfield 7, 3, 11, 7, 0, 0), (.iconst 3, 1, 0, 0, 0, 0), (.iaload, 1, 0, 0, 0, 0), (.aload_n 0, 1, 0, 0, 0, 0), (.getfield 7, 3, 11, 7, 0, 0), (.iconst 5, 1, 0, 0, 0, 0), (.iaload, 1, 0, 0, 0, 0), (.if_icmp .gt 7, 3, 39, 0, 0, 0)]) (W57_ok G) (jj := fun q L st h o k n => EX G m_World_mayAsk q L st h o k n Q) (fun q L st h o k n hq => hq) (by decide +kernel) ?_
      simp [exB, hJ, exT, stp, lv_args, Value.category, lkL, stL1, stL2, insL, contX, q_ofNat, f4_3, nI_1, -Int32.not_lt, -Int32.not_le, -Int64.not_lt, -Int64.not_le, T_World_mayAsk_39, T_World_mayAsk_40, R_World_mayAsk, C_World_mayAsk, M_World_mayAsk, HH_World_mayAsk, KI_m1, KI_3, KI_5, KI_1, KI_0, -Int32.reduceOfInt, -Int8.reduceOfInt, -Int16.reduceOfInt, -Int32.ofInt_neg, O_World_mayAsk_World_possible, C_World_possible, M_World_possible, W57_World_possible, rx_World_possible, A_r, A_ri, A_rii, A_riii, A_riiii, A_rr, A_i, A_ii, A_iii, hW_0, hW_1, hW_2, hW_15, hW_hW, rfs_at, wR_0, wR_1, wR_2, wR_3, wR_4, wR_5, wR_6, wD_0, wD_1, wD_2, wD_3, wS_0, wS_1, wS_2, wS_3, wS_4, wS_5, hW_s0, hW_s1, hW_s2, hW_s3, hW_s4, hW_s5, hW_f9, hW_f10, hW_f11, hW_f7, hW_f8, hW_f6, hW_fc, vv4_0, vv4_1, vv4_2, vv4_3, vv6_0, vv6_1, vv6_2, vv6_3, vv6_4, vv6_5, vv7_0, vv7_1, vv7_2, vv7_3, vv7_4, vv7_5, vv7_6, cl_0, cl_1, cl_2, cl_3, cl_4, cl_5, cl_6, tI_0, tI_1, tI_or]
      try simp (disch := omega) [-Int64.not_lt, -Int64.not_le, -Int32.not_lt, -Int32.not_le, nI_z, nI_ltI, nI_leI, nI_1, nI_clamp, q_vp, nI_pos', rget_k, rset_k, lget_k, hup_hup, A_r, A_ri, A_rii, A_riii, A_riiii, A_rr, A_i, A_ii, A_iii, hW_0, hW_1, hW_2, hW_15, hW_hW, rfs_at, wR_0, wR_1, wR_2, wR_3, wR_4, wR_5, wR_6, wD_0, wD_1, wD_2, wD_3, wS_0, wS_1, wS_2, wS_3, wS_4, wS_5, hW_s0, hW_s1, hW_s2, hW_s3, hW_s4, hW_s5, hW_f9, hW_f10, hW_f11, hW_f7, hW_f8, hW_f6, hW_fc, vv4_0, vv4_1, vv4_2, vv4_3, vv6_0, vv6_1, vv6_2, vv6_3, vv6_4, vv6_5, vv7_0, vv7_1, vv7_2, vv7_3, vv7_4, vv7_5, vv7_6, cl_0, cl_1, cl_2, cl_3, cl_4, cl_5, cl_6, tI_0, tI_1, tI_or]
      refine ⟨fun e => ?_, fun e => ?_⟩
      · rw [if_pos e] at hq
        refine exB_ok (t := [(.iconst 0, 1, 0, 0, 0, 0), (.ireturn, 1, 0, 0, 0, 0)]) (W57_ok G) (jj := fun q L st h o k n => EX G m_World_mayAsk q L st h o k n Q) (fun q L st h o k n hq => hq) (by decide +kernel) ?_
        simp [exB, hJ, exT, stp, lv_args, Value.category, lkL, stL1, stL2, insL, contX, q_ofNat, f4_3, nI_1, -Int32.not_lt, -Int32.not_le, -Int64.not_lt, -Int64.not_le, T_World_mayAsk_39, T_World_mayAsk_40, R_World_mayAsk, C_World_mayAsk, M_World_mayAsk, HH_World_mayAsk, KI_m1, KI_3, KI_5, KI_1, KI_0, -Int32.reduceOfInt, -Int8.reduceOfInt, -Int16.reduceOfInt, -Int32.ofInt_neg, O_World_mayAsk_World_possible, C_World_possible, M_World_possible, W57_World_possible, rx_World_possible]
        try simp (disch := omega) [-Int64.not_lt, -Int64.not_le, -Int32.not_lt, -Int32.not_le, nI_z, nI_ltI, nI_leI, nI_1, nI_clamp, q_vp, nI_pos', rget_k, rset_k, lget_k, hup_hup]
        exact hq
      · rw [if_neg e] at hq
        refine exB_ok (t := [(.iconst 1, 1, 0, 0, 0, 0), (.goto 4, 3, 40, 0, 0, 0)]) (W57_ok G) (jj := fun q L st h o k n => EX G m_World_mayAsk q L st h o k n Q) (fun q L st h o k n hq => hq) (by decide +kernel) ?_
        simp [exB, hJ, exT, stp, lv_args, Value.category, lkL, stL1, stL2, insL, contX, q_ofNat, f4_3, nI_1, -Int32.not_lt, -Int32.not_le, -Int64.not_lt, -Int64.not_le, T_World_mayAsk_39, T_World_mayAsk_40, R_World_mayAsk, C_World_mayAsk, M_World_mayAsk, HH_World_mayAsk, KI_m1, KI_3, KI_5, KI_1, KI_0, -Int32.reduceOfInt, -Int8.reduceOfInt, -Int16.reduceOfInt, -Int32.ofInt_neg, O_World_mayAsk_World_possible, C_World_possible, M_World_possible, W57_World_possible, rx_World_possible]
        try simp (disch := omega) [-Int64.not_lt, -Int64.not_le, -Int32.not_lt, -Int32.not_le, nI_z, nI_ltI, nI_leI, nI_1, nI_clamp, q_vp, nI_pos', rget_k, rset_k, lget_k, hup_hup]
        refine exB_ok (t := [(.ireturn, 1, 0, 0, 0, 0)]) (W57_ok G) (jj := fun q L st h o k n => EX G m_World_mayAsk q L st h o k n Q) (fun q L st h o k n hq => hq) (by decide +kernel) ?_
        simp [exB, hJ, exT, stp, lv_args, Value.category, lkL, stL1, stL2, insL, contX, q_ofNat, f4_3, nI_1, -Int32.not_lt, -Int32.not_le, -Int64.not_lt, -Int64.not_le, T_World_mayAsk_39, T_World_mayAsk_40, R_World_mayAsk, C_World_mayAsk, M_World_mayAsk, HH_World_mayAsk, KI_m1, KI_3, KI_5, KI_1, KI_0, -Int32.reduceOfInt, -Int8.reduceOfInt, -Int16.reduceOfInt, -Int32.ofInt_neg, O_World_mayAsk_World_possible, C_World_possible, M_World_possible, W57_World_possible, rx_World_possible]
        try simp (disch := omega) [-Int64.not_lt, -Int64.not_le, -Int32.not_lt, -Int32.not_le, nI_z, nI_ltI, nI_leI, nI_1, nI_clamp, q_vp, nI_pos', rget_k, rset_k, lget_k, hup_hup]
        exact hq
end WB
def W58 (G : GG) : WF := (wcons 148 rx_World_mayAsk (W57 G))
theorem W58_ok (G : GG) : WOK G (W58 G) := (wcons_ok (fun _ _ _ _ hx => r_World_mayAsk hx) (W57_ok G))
theorem ask_step {s : Nat → Int32} {x : Int32} {b : Bool} {k : Nat} (h : askS s x b k (12 + 9 * k + 5) = 1) (h2 : ¬ tI (hasF x (nI k)) = tI b) : askS s x b (k + 1) = upd (upd (upd (upd (askS s x b k) (12 + 9 * k + 5) 0) (12 + 9 * k + 6) 1) (12 + 9 * k + 7) (askS s x b k 7)) (12 + 9 * k + 8) (-1) := by
  rw [askS, if_neg (by rw [h]; decide), if_neg h2]
  rfl
theorem ask_same {s : Nat → Int32} {x : Int32} {b : Bool} {k : Nat} (h : askS s x b k (12 + 9 * k + 5) = 0 ∨ tI (hasF x (nI k)) = tI b) : askS s x b (k + 1) = askS s x b k := by
  rw [askS]
  rcases h with h | h
  · rw [if_pos h]
  · by_cases c : askS s x b k (12 + 9 * k + 5) = 0
    · rw [if_pos c]
    · rw [if_neg c, if_pos h]
theorem has_tI (x : Int32) (k : Int32) : (x >>> (k &&& 31)) &&& 1 = tI (hasF x k) := by
  have e : ∀ y : Int32, y &&& 1 = 0 ∨ y &&& 1 = 1 := by
    intro y
    obtain ⟨n, hn, rfl⟩ := wb_of32 y
    have := fa_mask n 1
    rw [show (1 : Int32) = nI (2 ^ 1 - 1) from rfl, this]
    rcases Nat.mod_two_eq_zero_or_one n with h | h
    · left; rw [show n % 2 ^ 1 = 0 from h]; try rfl
    · right; rw [show n % 2 ^ 1 = 1 from h]; try rfl
  unfold hasF
  rcases e (x >>> (k &&& 31)) with h | h
  · rw [h]; rfl
  · rw [h]; rfl
section WB
variable {G : GG} {as : List Value} {h : HM} {o : Option Nat} {Q : XQ}
theorem HH_World_ask : mHH 149 = [] := rfl
theorem TY_11_5 {v : Int32} : okw (tyC 11 5) (.int v) = True := rfl
set_option maxRecDepth 2000 in
set_option maxHeartbeats 200000 in
theorem r_World_ask (hx : rx_World_ask as h o Q) : Runs G m_World_ask as h o Q := by
  obtain ⟨w, x, rfl, h0, s, c, rfl, ⟨⟨r1, r2, r3, r4⟩, hB⟩, hq⟩ := E_ri hx
  change Nat at w
  obtain ⟨b, eb⟩ : ∃ b, b = hasF x (s 11) := ⟨_, rfl⟩
  unfold asF at hq
  rw [← eb] at hq
  have fr : ∀ k, k ≤ 12 → ∀ i, (i < 12 ∨ 120 ≤ i ∨ (i - 12) % 9 < 5) → askS s x b k i = s i := fun k hk i hi => askS_FR s x b k hk i hi
  have hJ : True := trivial
  have loop : ∀ j d : Nat, d + j = nR s → EX G m_World_ask 20 [(0, .ref w), (1, .int x), (2, .int (tI b)), (3, .int (nI d))] [] (hW h0 w (askS s x b d) c) o 0 0 Q := by
    intro j
    induction j with
    | zero =>
      intro d hd2
      obtain rfl : d = nR s := by omega
      have f9 : askS s x b (nR s) 9 = nI (nR s) := (fr _ r2 9 (by omega)).trans r1
      generalize askS s x b (nR s) = t at hq f9 ⊢
      have u3 : upd t 5 (t 5 - t 3) 3 = t 3 := if_neg (by decide)
      have u6 : upd t 5 (t 5 - t 3) 6 = t 6 := if_neg (by decide)
      refine exB_ok (t := [(.iload_n 3, 1, 0, 0, 0, 0), (.aload_n 0, 1, 0, 0, 0, 0), (.getfield 98, 3, 11, 0, 0, 0), (.if_icmp .ge 78, 3, 103, 0, 0, 0)]) (W58_ok G) (jj := fun q L st h o k n => EX G m_World_ask q L st h o k n Q) (fun q L st h o k n hq => hq) (by decide +kernel) ?_
      simp [exB, hJ, exT, stp, lv_args, Value.category, lkL, stL1, stL2, insL, contX, q_ofNat, f4_3, nI_1, -Int32.not_lt, -Int32.not_le, -Int64.not_lt, -Int64.not_le, T_World_ask_16, T_World_ask_17, T_World_ask_20, T_World_ask_53, T_World_ask_54, T_World_ask_97, T_World_ask_103, R_World_ask, C_World_ask, M_World_ask, HH_World_ask, KI_1, KI_0, KI_3, KI_4, KI_5, KB_6, KI_m1, -Int32.reduceOfInt, -Int8.reduceOfInt, -Int16.reduceOfInt, -Int32.ofInt_neg, TY_11_5, A_r, A_ri, A_rii, A_riii, A_riiii, A_rr, A_i, A_ii, A_iii, hW_0, hW_1, hW_2, hW_15, hW_hW, rfs_at, wR_0, wR_1, wR_2, wR_3, wR_4, wR_5, wR_6, wD_0, wD_1, wD_2, wD_3, wS_0, wS_1, wS_2, wS_3, wS_4, wS_5, hW_s0, hW_s1, hW_s2, hW_s3, hW_s4, hW_s5, hW_f9, hW_f10, hW_f11, hW_f7, hW_f8, hW_f6, hW_fc, vv4_0, vv4_1, vv4_2, vv4_3, vv6_0, vv6_1, vv6_2, vv6_3, vv6_4, vv6_5, vv7_0, vv7_1, vv7_2, vv7_3, vv7_4, vv7_5, vv7_6, cl_0, cl_1, cl_2, cl_3, cl_4, cl_5, cl_6, tI_0, tI_1, tI_or, f9]
      try simp (disch := omega) [-Int64.not_lt, -Int64.not_le, -Int32.not_lt, -Int32.not_le, nI_z, nI_ltI, nI_leI, nI_1, nI_clamp, q_vp, nI_pos', rget_k, rset_k, lget_k, hup_hup, A_r, A_ri, A_rii, A_riii, A_riiii, A_rr, A_i, A_ii, A_iii, hW_0, hW_1, hW_2, hW_15, hW_hW, rfs_at, wR_0, wR_1, wR_2, wR_3, wR_4, wR_5, wR_6, wD_0, wD_1, wD_2, wD_3, wS_0, wS_1, wS_2, wS_3, wS_4, wS_5, hW_s0, hW_s1, hW_s2, hW_s3, hW_s4, hW_s5, hW_f9, hW_f10, hW_f11, hW_f7, hW_f8, hW_f6, hW_fc, vv4_0, vv4_1, vv4_2, vv4_3, vv6_0, vv6_1, vv6_2, vv6_3, vv6_4, vv6_5, vv7_0, vv7_1, vv7_2, vv7_3, vv7_4, vv7_5, vv7_6, cl_0, cl_1, cl_2, cl_3, cl_4, cl_5, cl_6, tI_0, tI_1, tI_or, f9]
      refine exB_ok (t := [(.aload_n 0, 1, 0, 0, 0, 0), (.getfield 7, 3, 11, 7, 0, 0), (.iconst 5, 1, 0, 0, 0, 0), (.dup2, 1, 0, 0, 0, 0), (.iaload, 1, 0, 0, 0, 0), (.aload_n 0, 1, 0, 0, 0, 0), (.getfield 7, 3, 11, 7, 0, 0), (.iconst 3, 1, 0, 0, 0, 0), (.iaload, 1, 0, 0, 0, 0), (.isub, 1, 0, 0, 0, 0), (.iastore, 1, 0, 0, 0, 0)]) (W58_ok G) (jj := fun q L st h o k n => EX G m_World_ask q L st h o k n Q) (fun q L st h o k n hq => hq) (by decide +kernel) ?_
      simp [exB, hJ, exT, stp, lv_args, Value.category, lkL, stL1, stL2, insL, contX, q_ofNat, f4_3, nI_1, -Int32.not_lt, -Int32.not_le, -Int64.not_lt, -Int64.not_le, T_World_ask_16, T_World_ask_17, T_World_ask_20, T_World_ask_53, T_World_ask_54, T_World_ask_97, T_World_ask_103, R_World_ask, C_World_ask, M_World_ask, HH_World_ask, KI_1, KI_0, KI_3, KI_4, KI_5, KB_6, KI_m1, -Int32.reduceOfInt, -Int8.reduceOfInt, -Int16.reduceOfInt, -Int32.ofInt_neg, TY_11_5, A_r, A_ri, A_rii, A_riii, A_riiii, A_rr, A_i, A_ii, A_iii, hW_0, hW_1, hW_2, hW_15, hW_hW, rfs_at, wR_0, wR_1, wR_2, wR_3, wR_4, wR_5, wR_6, wD_0, wD_1, wD_2, wD_3, wS_0, wS_1, wS_2, wS_3, wS_4, wS_5, hW_s0, hW_s1, hW_s2, hW_s3, hW_s4, hW_s5, hW_f9, hW_f10, hW_f11, hW_f7, hW_f8, hW_f6, hW_fc, vv4_0, vv4_1, vv4_2, vv4_3, vv6_0, vv6_1, vv6_2, vv6_3, vv6_4, vv6_5, vv7_0, vv7_1, vv7_2, vv7_3, vv7_4, vv7_5, vv7_6, cl_0, cl_1, cl_2, cl_3, cl_4, cl_5, cl_6, tI_0, tI_1, tI_or]
      try simp (disch := omega) [-Int64.not_lt, -Int64.not_le, -Int32.not_lt, -Int32.not_le, nI_z, nI_ltI, nI_leI, nI_1, nI_clamp, q_vp, nI_pos', rget_k, rset_k, lget_k, hup_hup, A_r, A_ri, A_rii, A_riii, A_riiii, A_rr, A_i, A_ii, A_iii, hW_0, hW_1, hW_2, hW_15, hW_hW, rfs_at, wR_0, wR_1, wR_2, wR_3, wR_4, wR_5, wR_6, wD_0, wD_1, wD_2, wD_3, wS_0, wS_1, wS_2, wS_3, wS_4, wS_5, hW_s0, hW_s1, hW_s2, hW_s3, hW_s4, hW_s5, hW_f9, hW_f10, hW_f11, hW_f7, hW_f8, hW_f6, hW_fc, vv4_0, vv4_1, vv4_2, vv4_3, vv6_0, vv6_1, vv6_2, vv6_3, vv6_4, vv6_5, vv7_0, vv7_1, vv7_2, vv7_3, vv7_4, vv7_5, vv7_6, cl_0, cl_1, cl_2, cl_3, cl_4, cl_5, cl_6, tI_0, tI_1, tI_or]
      refine exB_ok (t := [(.aload_n 0, 1, 0, 0, 0, 0), (.dup, 1, 0, 0, 0, 0), (.getfield 107, 3, 11, 5, 0, 0), (.aload_n 0, 1, 0, 0, 0, 0), (.getfield 7, 3, 11, 7, 0, 0), (.iconst 3, 1, 0, 0, 0, 0), (.iaload, 1, 0, 0, 0, 0), (.iadd, 1, 0, 0, 0, 0), (.putfield 107, 3, 11, 5, 0, 0), (.iload_n 2, 1, 0, 0, 0, 0), (.ireturn, 1, 0, 0, 0, 0)]) (W58_ok G) (jj := fun q L st h o k n => EX G m_World_ask q L st h o k n Q) (fun q L st h o k n hq => hq) (by decide +kernel) ?_
      simp [exB, hJ, exT, stp, lv_args, Value.category, lkL, stL1, stL2, insL, contX, q_ofNat, f4_3, nI_1, -Int32.not_lt, -Int32.not_le, -Int64.not_lt, -Int64.not_le, T_World_ask_16, T_World_ask_17, T_World_ask_20, T_World_ask_53, T_World_ask_54, T_World_ask_97, T_World_ask_103, R_World_ask, C_World_ask, M_World_ask, HH_World_ask, KI_1, KI_0, KI_3, KI_4, KI_5, KB_6, KI_m1, -Int32.reduceOfInt, -Int8.reduceOfInt, -Int16.reduceOfInt, -Int32.ofInt_neg, TY_11_5, A_r, A_ri, A_rii, A_riii, A_riiii, A_rr, A_i, A_ii, A_iii, hW_0, hW_1, hW_2, hW_15, hW_hW, rfs_at, wR_0, wR_1, wR_2, wR_3, wR_4, wR_5, wR_6, wD_0, wD_1, wD_2, wD_3, wS_0, wS_1, wS_2, wS_3, wS_4, wS_5, hW_s0, hW_s1, hW_s2, hW_s3, hW_s4, hW_s5, hW_f9, hW_f10, hW_f11, hW_f7, hW_f8, hW_f6, hW_fc, vv4_0, vv4_1, vv4_2, vv4_3, vv6_0, vv6_1, vv6_2, vv6_3, vv6_4, vv6_5, vv7_0, vv7_1, vv7_2, vv7_3, vv7_4, vv7_5, vv7_6, cl_0, cl_1, cl_2, cl_3, cl_4, cl_5, cl_6, tI_0, tI_1, tI_or, u3, u6]
      try simp (disch := omega) [-Int64.not_lt, -Int64.not_le, -Int32.not_lt, -Int32.not_le, nI_z, nI_ltI, nI_leI, nI_1, nI_clamp, q_vp, nI_pos', rget_k, rset_k, lget_k, hup_hup, A_r, A_ri, A_rii, A_riii, A_riiii, A_rr, A_i, A_ii, A_iii, hW_0, hW_1, hW_2, hW_15, hW_hW, rfs_at, wR_0, wR_1, wR_2, wR_3, wR_4, wR_5, wR_6, wD_0, wD_1, wD_2, wD_3, wS_0, wS_1, wS_2, wS_3, wS_4, wS_5, hW_s0, hW_s1, hW_s2, hW_s3, hW_s4, hW_s5, hW_f9, hW_f10, hW_f11, hW_f7, hW_f8, hW_f6, hW_fc, vv4_0, vv4_1, vv4_2, vv4_3, vv6_0, vv6_1, vv6_2, vv6_3, vv6_4, vv6_5, vv7_0, vv7_1, vv7_2, vv7_3, vv7_4, vv7_5, vv7_6, cl_0, cl_1, cl_2, cl_3, cl_4, cl_5, cl_6, tI_0, tI_1, tI_or, u3, u6]
      exact hq
    | succ j ih =>
      intro d hd2
      have hlt : d < nR s := by omega
      have hd12 : d < 12 := by omega
      have hI := ih (d + 1) (by omega)
      have f9 : askS s x b d 9 = nI (nR s) := (fr _ (by omega) 9 (by omega)).trans r1
      obtain ⟨q, f5⟩ : ∃ q, askS s x b d (12 + 9 * d + 5) = tI q := by
        obtain ⟨-, -, q, -, -, e5⟩ := hB d hlt
        have := askS_row (s := s) (x := x) (b := b) d (by omega) d 5 (by omega) (by omega)
        rw [if_neg (by omega)] at this
        exact ⟨q, this.trans e5⟩
      have hS := has_tI x (nI d)
      have sameI : (q = false ∨ hasF x (nI d) = b) → EX G m_World_ask 97 [(0, .ref w), (1, .int x), (2, .int (tI b)), (3, .int (nI d))] [] (hW h0 w (askS s x b d) c) o 0 0 Q := by
        intro hc
        rw [ask_same (k := d) (by rcases hc with rfl | rfl; exact Or.inl f5; exact Or.inr rfl)] at hI
        refine exB_ok (t := [(.iinc 3 1, 3, 0, 0, 0, 0), (.goto (-80), 3, 20, 0, 0, 0)]) (W58_ok G) (jj := fun q L st h o k n => EX G m_World_ask q L st h o k n Q) (fun q L st h o k n hq => hq) (by decide +kernel) ?_
        simp [exB, hJ, exT, stp, lv_args, Value.category, lkL, stL1, stL2, insL, contX, q_ofNat, f4_3, nI_1, -Int32.not_lt, -Int32.not_le, -Int64.not_lt, -Int64.not_le, T_World_ask_16, T_World_ask_17, T_World_ask_20, T_World_ask_53, T_World_ask_54, T_World_ask_97, T_World_ask_103, R_World_ask, C_World_ask, M_World_ask, HH_World_ask, KI_1, KI_0, KI_3, KI_4, KI_5, KB_6, KI_m1, -Int32.reduceOfInt, -Int8.reduceOfInt, -Int16.reduceOfInt, -Int32.ofInt_neg, TY_11_5]
        try simp (disch := omega) [-Int64.not_lt, -Int64.not_le, -Int32.not_lt, -Int32.not_le, nI_z, nI_ltI, nI_leI, nI_1, nI_clamp, q_vp, nI_pos', rget_k, rset_k, lget_k, hup_hup]
        exact hI
      have othI : q = true → ¬ hasF x (nI d) = b → EX G m_World_ask 57 [(0, .ref w), (1, .int x), (2, .int (tI b)), (3, .int (nI d))] [] (hW h0 w (askS s x b d) c) o 0 0 Q := by
        rintro rfl hh
        rw [ask_step f5 (fun e => hh (by revert e; cases hasF x (nI d) <;> cases b <;> decide))] at hI
        generalize askS s x b d = t at hI f9 f5 ⊢
        have u7 : upd (upd t (12 + 9 * d + 5) 0) (12 + 9 * d + 6) 1 7 = t 7 := (if_neg (by omega)).trans (if_neg (by omega))
        refine exB_ok (t := [(.aload_n 0, 1, 0, 0, 0, 0), (.getfield 15, 3, 11, 8, 0, 0), (.iload_n 3, 1, 0, 0, 0, 0), (.aaload, 1, 0, 0, 0, 0), (.iconst 3, 1, 0, 0, 0, 0), (.iconst 0, 1, 0, 0, 0, 0), (.iastore, 1, 0, 0, 0, 0), (.aload_n 0, 1, 0, 0, 0, 0), (.getfield 15, 3, 11, 8, 0, 0), (.iload_n 3, 1, 0, 0, 0, 0), (.aaload, 1, 0, 0, 0, 0), (.iconst 4, 1, 0, 0, 0, 0), (.iconst 1, 1, 0, 0, 0, 0), (.iastore, 1, 0, 0, 0, 0), (.aload_n 0, 1, 0, 0, 0, 0), (.getfield 15, 3, 11, 8, 0, 0), (.iload_n 3, 1, 0, 0, 0, 0), (.aaload, 1, 0, 0, 0, 0), (.iconst 5, 1, 0, 0, 0, 0), (.aload_n 0, 1, 0, 0, 0, 0), (.getfield 101, 3, 11, 3, 0, 0), (.iastore, 1, 0, 0, 0, 0), (.aload_n 0, 1, 0, 0, 0, 0), (.getfield 15, 3, 11, 8, 0, 0), (.iload_n 3, 1, 0, 0, 0, 0), (.aaload, 1, 0, 0, 0, 0), (.bipush 6, 2, 0, 0, 0, 0), (.iconst (-1), 1, 0, 0, 0, 0), (.iastore, 1, 0, 0, 0, 0)]) (W58_ok G) (jj := fun q L st h o k n => EX G m_World_ask q L st h o k n Q) (fun q L st h o k n hq => hq) (by decide +kernel) ?_
        simp [exB, hJ, exT, stp, lv_args, Value.category, lkL, stL1, stL2, insL, contX, q_ofNat, f4_3, nI_1, -Int32.not_lt, -Int32.not_le, -Int64.not_lt, -Int64.not_le, T_World_ask_16, T_World_ask_17, T_World_ask_20, T_World_ask_53, T_World_ask_54, T_World_ask_97, T_World_ask_103, R_World_ask, C_World_ask, M_World_ask, HH_World_ask, KI_1, KI_0, KI_3, KI_4, KI_5, KB_6, KI_m1, -Int32.reduceOfInt, -Int8.reduceOfInt, -Int16.reduceOfInt, -Int32.ofInt_neg, TY_11_5, A_r, A_ri, A_rii, A_riii, A_riiii, A_rr, A_i, A_ii, A_iii, hW_0, hW_1, hW_2, hW_15, hW_hW, rfs_at, wR_0, wR_1, wR_2, wR_3, wR_4, wR_5, wR_6, wD_0, wD_1, wD_2, wD_3, wS_0, wS_1, wS_2, wS_3, wS_4, wS_5, hW_s0, hW_s1, hW_s2, hW_s3, hW_s4, hW_s5, hW_f9, hW_f10, hW_f11, hW_f7, hW_f8, hW_f6, hW_fc, vv4_0, vv4_1, vv4_2, vv4_3, vv6_0, vv6_1, vv6_2, vv6_3, vv6_4, vv6_5, vv7_0, vv7_1, vv7_2, vv7_3, vv7_4, vv7_5, vv7_6, cl_0, cl_1, cl_2, cl_3, cl_4, cl_5, cl_6, tI_0, tI_1, tI_or, hW_r hd12, nI_clamp (show d < 2 ^ 31 by omega), q_vp hd12 (show 12 < 2 ^ 31 by decide), hW_r3 hd12, hW_r4 hd12, hW_r5 hd12, hW_r6 hd12, u7]
        try simp (disch := omega) [-Int64.not_lt, -Int64.not_le, -Int32.not_lt, -Int32.not_le, nI_z, nI_ltI, nI_leI, nI_1, nI_clamp, q_vp, nI_pos', rget_k, rset_k, lget_k, hup_hup, A_r, A_ri, A_rii, A_riii, A_riiii, A_rr, A_i, A_ii, A_iii, hW_0, hW_1, hW_2, hW_15, hW_hW, rfs_at, wR_0, wR_1, wR_2, wR_3, wR_4, wR_5, wR_6, wD_0, wD_1, wD_2, wD_3, wS_0, wS_1, wS_2, wS_3, wS_4, wS_5, hW_s0, hW_s1, hW_s2, hW_s3, hW_s4, hW_s5, hW_f9, hW_f10, hW_f11, hW_f7, hW_f8, hW_f6, hW_fc, vv4_0, vv4_1, vv4_2, vv4_3, vv6_0, vv6_1, vv6_2, vv6_3, vv6_4, vv6_5, vv7_0, vv7_1, vv7_2, vv7_3, vv7_4, vv7_5, vv7_6, cl_0, cl_1, cl_2, cl_3, cl_4, cl_5, cl_6, tI_0, tI_1, tI_or, hW_r hd12, nI_clamp (show d < 2 ^ 31 by omega), q_vp hd12 (show 12 < 2 ^ 31 by decide), hW_r3 hd12, hW_r4 hd12, hW_r5 hd12, hW_r6 hd12, u7]
        refine exB_ok (t := [(.iinc 3 1, 3, 0, 0, 0, 0), (.goto (-80), 3, 20, 0, 0, 0)]) (W58_ok G) (jj := fun q L st h o k n => EX G m_World_ask q L st h o k n Q) (fun q L st h o k n hq => hq) (by decide +kernel) ?_
        simp [exB, hJ, exT, stp, lv_args, Value.category, lkL, stL1, stL2, insL, contX, q_ofNat, f4_3, nI_1, -Int32.not_lt, -Int32.not_le, -Int64.not_lt, -Int64.not_le, T_World_ask_16, T_World_ask_17, T_World_ask_20, T_World_ask_53, T_World_ask_54, T_World_ask_97, T_World_ask_103, R_World_ask, C_World_ask, M_World_ask, HH_World_ask, KI_1, KI_0, KI_3, KI_4, KI_5, KB_6, KI_m1, -Int32.reduceOfInt, -Int8.reduceOfInt, -Int16.reduceOfInt, -Int32.ofInt_neg, TY_11_5]
        try simp (disch := omega) [-Int64.not_lt, -Int64.not_le, -Int32.not_lt, -Int32.not_le, nI_z, nI_ltI, nI_leI, nI_1, nI_clamp, q_vp, nI_pos', rget_k, rset_k, lget_k, hup_hup]
        exact hI
      clear hI
      generalize askS s x b d = t at sameI othI f9 f5 ⊢
      refine exB_ok (t := [(.iload_n 3, 1, 0, 0, 0, 0), (.aload_n 0, 1, 0, 0, 0, 0), (.getfield 98, 3, 11, 0, 0, 0), (.if_icmp .ge 78, 3, 103, 0, 0, 0)]) (W58_ok G) (jj := fun q L st h o k n => EX G m_World_ask q L st h o k n Q) (fun q L st h o k n hq => hq) (by decide +kernel) ?_
      simp [exB, hJ, exT, stp, lv_args, Value.category, lkL, stL1, stL2, insL, contX, q_ofNat, f4_3, nI_1, -Int32.not_lt, -Int32.not_le, -Int64.not_lt, -Int64.not_le, T_World_ask_16, T_World_ask_17, T_World_ask_20, T_World_ask_53, T_World_ask_54, T_World_ask_97, T_World_ask_103, R_World_ask, C_World_ask, M_World_ask, HH_World_ask, KI_1, KI_0, KI_3, KI_4, KI_5, KB_6, KI_m1, -Int32.reduceOfInt, -Int8.reduceOfInt, -Int16.reduceOfInt, -Int32.ofInt_neg, TY_11_5, A_r, A_ri, A_rii, A_riii, A_riiii, A_rr, A_i, A_ii, A_iii, hW_0, hW_1, hW_2, hW_15, hW_hW, rfs_at, wR_0, wR_1, wR_2, wR_3, wR_4, wR_5, wR_6, wD_0, wD_1, wD_2, wD_3, wS_0, wS_1, wS_2, wS_3, wS_4, wS_5, hW_s0, hW_s1, hW_s2, hW_s3, hW_s4, hW_s5, hW_f9, hW_f10, hW_f11, hW_f7, hW_f8, hW_f6, hW_fc, vv4_0, vv4_1, vv4_2, vv4_3, vv6_0, vv6_1, vv6_2, vv6_3, vv6_4, vv6_5, vv7_0, vv7_1, vv7_2, vv7_3, vv7_4, vv7_5, vv7_6, cl_0, cl_1, cl_2, cl_3, cl_4, cl_5, cl_6, tI_0, tI_1, tI_or, f9, hlt, Nat.not_le.mpr hlt]
      try simp (disch := omega) [-Int64.not_lt, -Int64.not_le, -Int32.not_lt, -Int32.not_le, nI_z, nI_ltI, nI_leI, nI_1, nI_clamp, q_vp, nI_pos', rget_k, rset_k, lget_k, hup_hup, A_r, A_ri, A_rii, A_riii, A_riiii, A_rr, A_i, A_ii, A_iii, hW_0, hW_1, hW_2, hW_15, hW_hW, rfs_at, wR_0, wR_1, wR_2, wR_3, wR_4, wR_5, wR_6, wD_0, wD_1, wD_2, wD_3, wS_0, wS_1, wS_2, wS_3, wS_4, wS_5, hW_s0, hW_s1, hW_s2, hW_s3, hW_s4, hW_s5, hW_f9, hW_f10, hW_f11, hW_f7, hW_f8, hW_f6, hW_fc, vv4_0, vv4_1, vv4_2, vv4_3, vv6_0, vv6_1, vv6_2, vv6_3, vv6_4, vv6_5, vv7_0, vv7_1, vv7_2, vv7_3, vv7_4, vv7_5, vv7_6, cl_0, cl_1, cl_2, cl_3, cl_4, cl_5, cl_6, tI_0, tI_1, tI_or, f9, hlt, Nat.not_le.mpr hlt]
      refine exB_ok (t := [(.aload_n 0, 1, 0, 0, 0, 0), (.getfield 15, 3, 11, 8, 0, 0), (.iload_n 3, 1, 0, 0, 0, 0), (.aaload, 1, 0, 0, 0, 0), (.iconst 3, 1, 0, 0, 0, 0), (.iaload, 1, 0, 0, 0, 0), (.iconst 1, 1, 0, 0, 0, 0), (.if_icmp .ne 60, 3, 97, 0, 0, 0)]) (W58_ok G) (jj := fun q L st h o k n => EX G m_World_ask q L st h o k n Q) (fun q L st h o k n hq => hq) (by decide +kernel) ?_
      simp [exB, hJ, exT, stp, lv_args, Value.category, lkL, stL1, stL2, insL, contX, q_ofNat, f4_3, nI_1, -Int32.not_lt, -Int32.not_le, -Int64.not_lt, -Int64.not_le, T_World_ask_16, T_World_ask_17, T_World_ask_20, T_World_ask_53, T_World_ask_54, T_World_ask_97, T_World_ask_103, R_World_ask, C_World_ask, M_World_ask, HH_World_ask, KI_1, KI_0, KI_3, KI_4, KI_5, KB_6, KI_m1, -Int32.reduceOfInt, -Int8.reduceOfInt, -Int16.reduceOfInt, -Int32.ofInt_neg, TY_11_5, A_r, A_ri, A_rii, A_riii, A_riiii, A_rr, A_i, A_ii, A_iii, hW_0, hW_1, hW_2, hW_15, hW_hW, rfs_at, wR_0, wR_1, wR_2, wR_3, wR_4, wR_5, wR_6, wD_0, wD_1, wD_2, wD_3, wS_0, wS_1, wS_2, wS_3, wS_4, wS_5, hW_s0, hW_s1, hW_s2, hW_s3, hW_s4, hW_s5, hW_f9, hW_f10, hW_f11, hW_f7, hW_f8, hW_f6, hW_fc, vv4_0, vv4_1, vv4_2, vv4_3, vv6_0, vv6_1, vv6_2, vv6_3, vv6_4, vv6_5, vv7_0, vv7_1, vv7_2, vv7_3, vv7_4, vv7_5, vv7_6, cl_0, cl_1, cl_2, cl_3, cl_4, cl_5, cl_6, tI_0, tI_1, tI_or, f5, hW_r hd12, nI_clamp (show d < 2 ^ 31 by omega), q_vp hd12 (show 12 < 2 ^ 31 by decide)]
      try simp (disch := omega) [-Int64.not_lt, -Int64.not_le, -Int32.not_lt, -Int32.not_le, nI_z, nI_ltI, nI_leI, nI_1, nI_clamp, q_vp, nI_pos', rget_k, rset_k, lget_k, hup_hup, A_r, A_ri, A_rii, A_riii, A_riiii, A_rr, A_i, A_ii, A_iii, hW_0, hW_1, hW_2, hW_15, hW_hW, rfs_at, wR_0, wR_1, wR_2, wR_3, wR_4, wR_5, wR_6, wD_0, wD_1, wD_2, wD_3, wS_0, wS_1, wS_2, wS_3, wS_4, wS_5, hW_s0, hW_s1, hW_s2, hW_s3, hW_s4, hW_s5, hW_f9, hW_f10, hW_f11, hW_f7, hW_f8, hW_f6, hW_fc, vv4_0, vv4_1, vv4_2, vv4_3, vv6_0, vv6_1, vv6_2, vv6_3, vv6_4, vv6_5, vv7_0, vv7_1, vv7_2, vv7_3, vv7_4, vv7_5, vv7_6, cl_0, cl_1, cl_2, cl_3, cl_4, cl_5, cl_6, tI_0, tI_1, tI_or, f5, hW_r hd12, nI_clamp (show d < 2 ^ 31 by omega), q_vp hd12 (show 12 < 2 ^ 31 by decide)]
      refine ⟨fun e => sameI (Or.inl e), fun e => ?_⟩
      cases b
      · refine exB_ok (t := [(.iload_n 1, 1, 0, 0, 0, 0), (.iload_n 3, 1, 0, 0, 0, 0), (.ishr, 1, 0, 0, 0, 0), (.iconst 1, 1, 0, 0, 0, 0), (.iand, 1, 0, 0, 0, 0), (.iload_n 2, 1, 0, 0, 0, 0), (.ifCond .eq 7, 3, 53, 0, 0, 0)]) (W58_ok G) (jj := fun q L st h o k n => EX G m_World_ask q L st h o k n Q) (fun q L st h o k n hq => hq) (by decide +kernel) ?_
        simp [exB, hJ, exT, stp, lv_args, Value.category, lkL, stL1, stL2, insL, contX, q_ofNat, f4_3, nI_1, -Int32.not_lt, -Int32.not_le, -Int64.not_lt, -Int64.not_le, T_World_ask_16, T_World_ask_17, T_World_ask_20, T_World_ask_53, T_World_ask_54, T_World_ask_97, T_World_ask_103, R_World_ask, C_World_ask, M_World_ask, HH_World_ask, KI_1, KI_0, KI_3, KI_4, KI_5, KB_6, KI_m1, -Int32.reduceOfInt, -Int8.reduceOfInt, -Int16.reduceOfInt, -Int32.ofInt_neg, TY_11_5, hS, tI_f]
        try simp (disch := omega) [-Int64.not_lt, -Int64.not_le, -Int32.not_lt, -Int32.not_le, nI_z, nI_ltI, nI_leI, nI_1, nI_clamp, q_vp, nI_pos', rget_k, rset_k, lget_k, hup_hup, hS, tI_f]
        refine exB_ok (t := [(.iconst 1, 1, 0, 0, 0, 0), (.if_icmp .ne 43, 3, 97, 0, 0, 0)]) (W58_ok G) (jj := fun q L st h o k n => EX G m_World_ask q L st h o k n Q) (fun q L st h o k n hq => hq) (by decide +kernel) ?_
        simp [exB, hJ, exT, stp, lv_args, Value.category, lkL, stL1, stL2, insL, contX, q_ofNat, f4_3, nI_1, -Int32.not_lt, -Int32.not_le, -Int64.not_lt, -Int64.not_le, T_World_ask_16, T_World_ask_17, T_World_ask_20, T_World_ask_53, T_World_ask_54, T_World_ask_97, T_World_ask_103, R_World_ask, C_World_ask, M_World_ask, HH_World_ask, KI_1, KI_0, KI_3, KI_4, KI_5, KB_6, KI_m1, -Int32.reduceOfInt, -Int8.reduceOfInt, -Int16.reduceOfInt, -Int32.ofInt_neg, TY_11_5, tI_1]
        try simp (disch := omega) [-Int64.not_lt, -Int64.not_le, -Int32.not_lt, -Int32.not_le, nI_z, nI_ltI, nI_leI, nI_1, nI_clamp, q_vp, nI_pos', rget_k, rset_k, lget_k, hup_hup, tI_1]
        refine ⟨fun e2 => sameI (Or.inr e2), fun e2 => othI e (by rw [e2]; decide)⟩
      · refine exB_ok (t := [(.iload_n 1, 1, 0, 0, 0, 0), (.iload_n 3, 1, 0, 0, 0, 0), (.ishr, 1, 0, 0, 0, 0), (.iconst 1, 1, 0, 0, 0, 0), (.iand, 1, 0, 0, 0, 0), (.iload_n 2, 1, 0, 0, 0, 0), (.ifCond .eq 7, 3, 53, 0, 0, 0)]) (W58_ok G) (jj := fun q L st h o k n => EX G m_World_ask q L st h o k n Q) (fun q L st h o k n hq => hq) (by decide +kernel) ?_
        simp [exB, hJ, exT, stp, lv_args, Value.category, lkL, stL1, stL2, insL, contX, q_ofNat, f4_3, nI_1, -Int32.not_lt, -Int32.not_le, -Int64.not_lt, -Int64.not_le, T_World_ask_16, T_World_ask_17, T_World_ask_20, T_World_ask_53, T_World_ask_54, T_World_ask_97, T_World_ask_103, R_World_ask, C_World_ask, M_World_ask, HH_World_ask, KI_1, KI_0, KI_3, KI_4, KI_5, KB_6, KI_m1, -Int32.reduceOfInt, -Int8.reduceOfInt, -Int16.reduceOfInt, -Int32.ofInt_neg, TY_11_5, hS, tI_t]
        try simp (disch := omega) [-Int64.not_lt, -Int64.not_le, -Int32.not_lt, -Int32.not_le, nI_z, nI_ltI, nI_leI, nI_1, nI_clamp, q_vp, nI_pos', rget_k, rset_k, lget_k, hup_hup, hS, tI_t]
        refine exB_ok (t := [(.iconst 0, 1, 0, 0, 0, 0), (.goto 4, 3, 54, 0, 0, 0), (.iconst 1, 1, 0, 0, 0, 0)]) (W58_ok G) (jj := fun q L st h o k n => EX G m_World_ask q L st h o k n Q) (fun q L st h o k n hq => hq) (by decide +kernel) ?_
        simp [exB, hJ, exT, stp, lv_args, Value.category, lkL, stL1, stL2, insL, contX, q_ofNat, f4_3, nI_1, -Int32.not_lt, -Int32.not_le, -Int64.not_lt, -Int64.not_le, T_World_ask_16, T_World_ask_17, T_World_ask_20, T_World_ask_53, T_World_ask_54, T_World_ask_97, T_World_ask_103, R_World_ask, C_World_ask, M_World_ask, HH_World_ask, KI_1, KI_0, KI_3, KI_4, KI_5, KB_6, KI_m1, -Int32.reduceOfInt, -Int8.reduceOfInt, -Int16.reduceOfInt, -Int32.ofInt_neg, TY_11_5]
        try simp (disch := omega) [-Int64.not_lt, -Int64.not_le, -Int32.not_lt, -Int32.not_le, nI_z, nI_ltI, nI_leI, nI_1, nI_clamp, q_vp, nI_pos', rget_k, rset_k, lget_k, hup_hup]
        refine exB_ok (t := [(.if_icmp .ne 43, 3, 97, 0, 0, 0)]) (W58_ok G) (jj := fun q L st h o k n => EX G m_World_ask q L st h o k n Q) (fun q L st h o k n hq => hq) (by decide +kernel) ?_
        simp [exB, hJ, exT, stp, lv_args, Value.category, lkL, stL1, stL2, insL, contX, q_ofNat, f4_3, nI_1, -Int32.not_lt, -Int32.not_le, -Int64.not_lt, -Int64.not_le, T_World_ask_16, T_World_ask_17, T_World_ask_20, T_World_ask_53, T_World_ask_54, T_World_ask_97, T_World_ask_103, R_World_ask, C_World_ask, M_World_ask, HH_World_ask, KI_1, KI_0, KI_3, KI_4, KI_5, KB_6, KI_m1, -Int32.reduceOfInt, -Int8.reduceOfInt, -Int16.reduceOfInt, -Int32.ofInt_neg, TY_11_5, tI_0]
        try simp (disch := omega) [-Int64.not_lt, -Int64.not_le, -Int32.not_lt, -Int32.not_le, nI_z, nI_ltI, nI_leI, nI_1, nI_clamp, q_vp, nI_pos', rget_k, rset_k, lget_k, hup_hup, tI_0]
        refine ⟨fun e2 => sameI (Or.inr e2), fun e2 => othI e (by rw [e2]; decide)⟩
  have l0 := loop (nR s) 0 (by omega)
  have hS := has_tI x (s 11)
  rw [← eb] at hS
  refine Runs.of (by decide +kernel) (Nat.le_of_ble_eq_true rfl) ?_
  refine exB_ok (t := [(.iload_n 1, 1, 0, 0, 0, 0), (.aload_n 0, 1, 0, 0, 0, 0), (.getfield 93, 3, 11, 2, 0, 0), (.ishr, 1, 0, 0, 0, 0), (.iconst 1, 1, 0, 0, 0, 0), (.iand, 1, 0, 0, 0, 0), (.iconst 1, 1, 0, 0, 0, 0), (.if_icmp .ne 7, 3, 16, 0, 0, 0)]) (W58_ok G) (jj := fun q L st h o k n => EX G m_World_ask q L st h o k n Q) (fun q L st h o k n hq => hq) (by decide +kernel) ?_
  simp [exB, hJ, exT, stp, lv_args, Value.category, lkL, stL1, stL2, insL, contX, q_ofNat, f4_3, nI_1, -Int32.not_lt, -Int32.not_le, -Int64.not_lt, -Int64.not_le, T_World_ask_16, T_World_ask_17, T_World_ask_20, T_World_ask_53, T_World_ask_54, T_World_ask_97, T_World_ask_103, R_World_ask, C_World_ask, M_World_ask, HH_World_ask, KI_1, KI_0, KI_3, KI_4, KI_5, KB_6, KI_m1, -Int32.reduceOfInt, -Int8.reduceOfInt, -Int16.reduceOfInt, -Int32.ofInt_neg, TY_11_5, A_r, A_ri, A_rii, A_riii, A_riiii, A_rr, A_i, A_ii, A_iii, hW_0, hW_1, hW_2, hW_15, hW_hW, rfs_at, wR_0, wR_1, wR_2, wR_3, wR_4, wR_5, wR_6, wD_0, wD_1, wD_2, wD_3, wS_0, wS_1, wS_2, wS_3, wS_4, wS_5, hW_s0, hW_s1, hW_s2, hW_s3, hW_s4, hW_s5, hW_f9, hW_f10, hW_f11, hW_f7, hW_f8, hW_f6, hW_fc, vv4_0, vv4_1, vv4_2, vv4_3, vv6_0, vv6_1, vv6_2, vv6_3, vv6_4, vv6_5, vv7_0, vv7_1, vv7_2, vv7_3, vv7_4, vv7_5, vv7_6, cl_0, cl_1, cl_2, cl_3, cl_4, cl_5, cl_6, tI_0, tI_1, tI_or, hS]
  try simp (disch := omega) [-Int64.not_lt, -Int64.not_le, -Int32.not_lt, -Int32.not_le, nI_z, nI_ltI, nI_leI, nI_1, nI_clamp, q_vp, nI_pos', rget_k, rset_k, lget_k, hup_hup, A_r, A_ri, A_rii, A_riii, A_riiii, A_rr, A_i, A_ii, A_iii, hW_0, hW_1, hW_2, hW_15, hW_hW, rfs_at, wR_0, wR_1, wR_2, wR_3, wR_4, wR_5, wR_6, wD_0, wD_1, wD_2, wD_3, wS_0, wS_1, wS_2, wS_3, wS_4, wS_5, hW_s0, hW_s1, hW_s2, hW_s3, hW_s4, hW_s5, hW_f9, hW_f10, hW_f11, hW_f7, hW_f8, hW_f6, hW_fc, vv4_0, vv4_1, vv4_2, vv4_3, vv6_0, vv6_1, vv6_2, vv6_3, vv6_4, vv6_5, vv7_0, vv7_1, vv7_2, vv7_3, vv7_4, vv7_5, vv7_6, cl_0, cl_1, cl_2, cl_3, cl_4, cl_5, cl_6, tI_0, tI_1, tI_or, hS]
  cases b
  · refine ⟨fun _ => ?_, fun e => by cases e⟩
    refine exB_ok (t := [(.iconst 0, 1, 0, 0, 0, 0), (.istore_n 2, 1, 0, 0, 0, 0), (.iconst 0, 1, 0, 0, 0, 0), (.istore_n 3, 1, 0, 0, 0, 0)]) (W58_ok G) (jj := fun q L st h o k n => EX G m_World_ask q L st h o k n Q) (fun q L st h o k n hq => hq) (by decide +kernel) ?_
    simp [exB, hJ, exT, stp, lv_args, Value.category, lkL, stL1, stL2, insL, contX, q_ofNat, f4_3, nI_1, -Int32.not_lt, -Int32.not_le, -Int64.not_lt, -Int64.not_le, T_World_ask_16, T_World_ask_17, T_World_ask_20, T_World_ask_53, T_World_ask_54, T_World_ask_97, T_World_ask_103, R_World_ask, C_World_ask, M_World_ask, HH_World_ask, KI_1, KI_0, KI_3, KI_4, KI_5, KB_6, KI_m1, -Int32.reduceOfInt, -Int8.reduceOfInt, -Int16.reduceOfInt, -Int32.ofInt_neg, TY_11_5]
    try simp (disch := omega) [-Int64.not_lt, -Int64.not_le, -Int32.not_lt, -Int32.not_le, nI_z, nI_ltI, nI_leI, nI_1, nI_clamp, q_vp, nI_pos', rget_k, rset_k, lget_k, hup_hup]
    exact l0
  · refine ⟨fun e => (by cases e), fun _ => ?_⟩
    refine exB_ok (t := [(.iconst 1, 1, 0, 0, 0, 0), (.goto 4, 3, 17, 0, 0, 0)]) (W58_ok G) (jj := fun q L st h o k n => EX G m_World_ask q L st h o k n Q) (fun q L st h o k n hq => hq) (by decide +kernel) ?_
    simp [exB, hJ, exT, stp, lv_args, Value.category, lkL, stL1, stL2, insL, contX, q_ofNat, f4_3, nI_1, -Int32.not_lt, -Int32.not_le, -Int64.not_lt, -Int64.not_le, T_World_ask_16, T_World_ask_17, T_World_ask_20, T_World_ask_53, T_World_ask_54, T_World_ask_97, T_World_ask_103, R_World_ask, C_World_ask, M_World_ask, HH_World_ask, KI_1, KI_0, KI_3, KI_4, KI_5, KB_6, KI_m1, -Int32.reduceOfInt, -Int8.reduceOfInt, -Int16.reduceOfInt, -Int32.ofInt_neg, TY_11_5]
    try simp (disch := omega) [-Int64.not_lt, -Int64.not_le, -Int32.not_lt, -Int32.not_le, nI_z, nI_ltI, nI_leI, nI_1, nI_clamp, q_vp, nI_pos', rget_k, rset_k, lget_k, hup_hup]
    refine exB_ok (t := [(.istore_n 2, 1, 0, 0, 0, 0), (.iconst 0, 1, 0, 0, 0, 0), (.istore_n 3, 1, 0, 0, 0, 0)]) (W58_ok G) (jj := fun q L st h o k n => EX G m_World_ask q L st h o k n Q) (fun q L st h o k n hq => hq) (by decide +kernel) ?_
    simp [exB, hJ, exT, stp, lv_args, Value.category, lkL, stL1, stL2, insL, contX, q_ofNat, f4_3, nI_1, -Int32.not_lt, -Int32.not_le, -Int64.not_lt, -Int64.not_le, T_World_ask_16, T_World_ask_17, T_World_ask_20, T_World_ask_53, T_World_ask_54, T_World_ask_97, T_World_ask_103, R_World_ask, C_World_ask, M_World_ask, HH_World_ask, KI_1, KI_0, KI_3, KI_4, KI_5, KB_6, KI_m1, -Int32.reduceOfInt, -Int8.reduceOfInt, -Int16.reduceOfInt, -Int32.ofInt_neg, TY_11_5]
    try simp (disch := omega) [-Int64.not_lt, -Int64.not_le, -Int32.not_lt, -Int32.not_le, nI_z, nI_ltI, nI_leI, nI_1, nI_clamp, q_vp, nI_pos', rget_k, rset_k, lget_k, hup_hup]
    exact l0
end WB
def W59 (G : GG) : WF := (wcons 149 rx_World_ask (W58 G))
theorem W59_ok (G : GG) : WOK G (W59 G) := (wcons_ok (fun _ _ _ _ hx => r_World_ask hx) (W58_ok G))
section WB
variable {G : GG} {as : List Value} {h : HM} {o : Option Nat} {Q : XQ}
theorem HH_World_addRoom : mHH 140 = [] := rfl
theorem TY_11_0 {v : Int32} : okw (tyC 11 0) (.int v) = True := rfl
set_option maxRecDepth 2000 in
set_option maxHeartbeats 200000 in
theorem r_World_addRoom (hx : rx_World_addRoom as h o Q) : Runs G m_World_addRoom as h o Q := by
  obtain ⟨w, v, b, rfl, h0, s, c, z, y, rfl, ⟨rfl, ⟨r1, r2, r3, r4⟩, hlt, hb⟩, hq⟩ := E_rii hx
  change Nat at w
  obtain ⟨a1, a2, -, -, a5, a6, a7, a8, a9, a10, a11⟩ := adR_at (s := s) (x := y) (c := v) (b := b) (k := nR s) rfl
  have hJ : True := trivial
  refine Runs.of (by decide +kernel) (Nat.le_of_ble_eq_true rfl) ?_
  refine EX.below fun hbl => ?_
  have hz : ∀ q, z ≤ q → hW h0 w s c q = none := fun q hq => by
    cases e : hW h0 w s c q with
    | none => rfl
    | some x => exact absurd (hbl q x e) (by omega)
  have hwz : w + 39 < z := hbl (w + 39) _ (hW_at (k := 39) (by decide))
  obtain ⟨t, et⟩ : ∃ t : Nat → Int32, t = upd (adR s y v b) 9 (s 9) := ⟨_, rfl⟩
  have t9 : upd t 9 (nI (nR s + 1)) = adR s y v b := by
    rw [et]; funext i; unfold upd
    by_cases c9 : i = 9
    · rw [if_pos c9, c9, a2]
    · rw [if_neg c9, if_neg c9]
  have tx9 : t 9 = nI (nR s) := by rw [et, ← r1]; exact if_pos rfl
  have to : ∀ i, ¬ (12 + 9 * nR s ≤ i ∧ i < 12 + 9 * nR s + 9) → t i = s i := fun i hi => by
    rw [et]; unfold upd
    by_cases c9 : i = 9
    · rw [if_pos c9, c9]
    · rw [if_neg c9, a1 i c9 hi]
  have ti : ∀ i, 12 ≤ i → t i = adR s y v b i := fun i hi => by rw [et]; exact if_neg (by omega)
  have h0z : h0 z = none := by
    have := hz z (Nat.le_refl _)
    rwa [hW_out (by omega)] at this
  have fin : ∀ e, EX G m_World_addRoom 67 [(0, .ref w), (1, .int v), (2, .int b), (3, .ref z)] [] (hup (hup (hW h0 w s c) z e) (w + 3 + nR s) (ints 7 (wRow t (nR s)))) (some (z + 1)) 1 7 Q := by
    intro e
    rw [hup_swap (show z ≠ w + 3 + nR s by omega), hW_row hlt (fun i hi => to i (by omega)) (fun q j h1 h2 h3 h4 => to _ (by omega)) (fun i h1 h2 => to i (by omega))]
    refine EX.drop (by rw [hW_out (by omega)]; exact h0z) ?_
    have e1 : nI (nR s + 1) - 1 = nI (nR s) := by
      have := nI_subN (a := nR s + 1) (b := 1) (by omega)
      rw [Nat.add_sub_cancel] at this
      exact this
    refine exB_ok (t := [(.aload_n 0, 1, 0, 0, 0, 0), (.dup, 1, 0, 0, 0, 0), (.getfield 98, 3, 11, 0, 0, 0), (.iconst 1, 1, 0, 0, 0, 0), (.iadd, 1, 0, 0, 0, 0), (.putfield 98, 3, 11, 0, 0, 0)]) (W59_ok G) (jj := fun q L st h o k n => EX G m_World_addRoom q L st h o k n Q) (fun q L st h o k n hq => hq) (by decide +kernel) ?_
    simp [exB, hJ, exT, stp, lv_args, Value.category, lkL, stL1, stL2, insL, contX, q_ofNat, f4_3, nI_1, -Int32.not_lt, -Int32.not_le, -Int64.not_lt, -Int64.not_le, T_World_addRoom_26, T_World_addRoom_27, T_World_addRoom_38, T_World_addRoom_39, R_World_addRoom, C_World_addRoom, M_World_addRoom, HH_World_addRoom, KB_7, KI_0, KI_1, KI_2, KI_3, KI_4, KI_5, KI_m1, KB_6, -Int32.reduceOfInt, -Int8.reduceOfInt, -Int16.reduceOfInt, -Int32.ofInt_neg, TY_11_0, A_r, A_ri, A_rii, A_riii, A_riiii, A_rr, A_i, A_ii, A_iii, hW_0, hW_1, hW_2, hW_15, hW_hW, rfs_at, wR_0, wR_1, wR_2, wR_3, wR_4, wR_5, wR_6, wD_0, wD_1, wD_2, wD_3, wS_0, wS_1, wS_2, wS_3, wS_4, wS_5, hW_s0, hW_s1, hW_s2, hW_s3, hW_s4, hW_s5, hW_f9, hW_f10, hW_f11, hW_f7, hW_f8, hW_f6, hW_fc, vv4_0, vv4_1, vv4_2, vv4_3, vv6_0, vv6_1, vv6_2, vv6_3, vv6_4, vv6_5, vv7_0, vv7_1, vv7_2, vv7_3, vv7_4, vv7_5, vv7_6, cl_0, cl_1, cl_2, cl_3, cl_4, cl_5, cl_6, tI_0, tI_1, tI_or, tx9, nI_add]
    try simp (disch := omega) [-Int64.not_lt, -Int64.not_le, -Int32.not_lt, -Int32.not_le, nI_z, nI_ltI, nI_leI, nI_1, nI_clamp, q_vp, nI_pos', rget_k, rset_k, lget_k, hup_hup, A_r, A_ri, A_rii, A_riii, A_riiii, A_rr, A_i, A_ii, A_iii, hW_0, hW_1, hW_2, hW_15, hW_hW, rfs_at, wR_0, wR_1, wR_2, wR_3, wR_4, wR_5, wR_6, wD_0, wD_1, wD_2, wD_3, wS_0, wS_1, wS_2, wS_3, wS_4, wS_5, hW_s0, hW_s1, hW_s2, hW_s3, hW_s4, hW_s5, hW_f9, hW_f10, hW_f11, hW_f7, hW_f8, hW_f6, hW_fc, vv4_0, vv4_1, vv4_2, vv4_3, vv6_0, vv6_1, vv6_2, vv6_3, vv6_4, vv6_5, vv7_0, vv7_1, vv7_2, vv7_3, vv7_4, vv7_5, vv7_6, cl_0, cl_1, cl_2, cl_3, cl_4, cl_5, cl_6, tI_0, tI_1, tI_or, tx9, nI_add]
    rw [t9]
    refine exB_ok (t := [(.aload_n 0, 1, 0, 0, 0, 0), (.getfield 98, 3, 11, 0, 0, 0), (.iconst 1, 1, 0, 0, 0, 0), (.isub, 1, 0, 0, 0, 0), (.ireturn, 1, 0, 0, 0, 0)]) (W59_ok G) (jj := fun q L st h o k n => EX G m_World_addRoom q L st h o k n Q) (fun q L st h o k n hq => hq) (by decide +kernel) ?_
    simp [exB, hJ, exT, stp, lv_args, Value.category, lkL, stL1, stL2, insL, contX, q_ofNat, f4_3, nI_1, -Int32.not_lt, -Int32.not_le, -Int64.not_lt, -Int64.not_le, T_World_addRoom_26, T_World_addRoom_27, T_World_addRoom_38, T_World_addRoom_39, R_World_addRoom, C_World_addRoom, M_World_addRoom, HH_World_addRoom, KB_7, KI_0, KI_1, KI_2, KI_3, KI_4, KI_5, KI_m1, KB_6, -Int32.reduceOfInt, -Int8.reduceOfInt, -Int16.reduceOfInt, -Int32.ofInt_neg, TY_11_0, A_r, A_ri, A_rii, A_riii, A_riiii, A_rr, A_i, A_ii, A_iii, hW_0, hW_1, hW_2, hW_15, hW_hW, rfs_at, wR_0, wR_1, wR_2, wR_3, wR_4, wR_5, wR_6, wD_0, wD_1, wD_2, wD_3, wS_0, wS_1, wS_2, wS_3, wS_4, wS_5, hW_s0, hW_s1, hW_s2, hW_s3, hW_s4, hW_s5, hW_f9, hW_f10, hW_f11, hW_f7, hW_f8, hW_f6, hW_fc, vv4_0, vv4_1, vv4_2, vv4_3, vv6_0, vv6_1, vv6_2, vv6_3, vv6_4, vv6_5, vv7_0, vv7_1, vv7_2, vv7_3, vv7_4, vv7_5, vv7_6, cl_0, cl_1, cl_2, cl_3, cl_4, cl_5, cl_6, tI_0, tI_1, tI_or, a2, e1]
    try simp (disch := omega) [-Int64.not_lt, -Int64.not_le, -Int32.not_lt, -Int32.not_le, nI_z, nI_ltI, nI_leI, nI_1, nI_clamp, q_vp, nI_pos', rget_k, rset_k, lget_k, hup_hup, A_r, A_ri, A_rii, A_riii, A_riiii, A_rr, A_i, A_ii, A_iii, hW_0, hW_1, hW_2, hW_15, hW_hW, rfs_at, wR_0, wR_1, wR_2, wR_3, wR_4, wR_5, wR_6, wD_0, wD_1, wD_2, wD_3, wS_0, wS_1, wS_2, wS_3, wS_4, wS_5, hW_s0, hW_s1, hW_s2, hW_s3, hW_s4, hW_s5, hW_f9, hW_f10, hW_f11, hW_f7, hW_f8, hW_f6, hW_fc, vv4_0, vv4_1, vv4_2, vv4_3, vv6_0, vv6_1, vv6_2, vv6_3, vv6_4, vv6_5, vv7_0, vv7_1, vv7_2, vv7_3, vv7_4, vv7_5, vv7_6, cl_0, cl_1, cl_2, cl_3, cl_4, cl_5, cl_6, tI_0, tI_1, tI_or, a2, e1]
    exact hq
  have n0 : w ≠ z := by omega
  have n2 : w + 2 ≠ z := by omega
  have nr : w + 3 + nR s ≠ z := by omega
  have cz : ∀ F : Nat → Int32, (∀ j, j < 7 → F j = t (12 + 9 * nR s + 2 + j)) → va_cpy F (wRow s (nR s)) 0 0 7 = wRow t (nR s) := by
    intro F hF
    funext j
    unfold va_cpy wRow
    by_cases hj : j < 7
    · rw [if_pos (by omega), if_pos hj, Nat.zero_add, Nat.sub_zero]; exact hF j hj
    · rw [if_neg (by omega), if_neg hj, if_neg hj]
  rcases hb with rfl | rfl
  · have e7 := cz (upd (upd (upd (upd (upd (upd (upd (fun _ => 0) 0 v) 1 0) 2 0) 3 0) 4 5) 5 (-1)) 6 (-1)) (fun j hj => by
      match j, hj with
      | 0, _ => exact a5.symm.trans (ti _ (by omega)).symm
      | 1, _ => exact a6.symm.trans (ti _ (by omega)).symm
      | 2, _ => exact a7.symm.trans (ti _ (by omega)).symm
      | 3, _ => exact a8.symm.trans (ti _ (by omega)).symm
      | 4, _ => exact a9.symm.trans (ti _ (by omega)).symm
      | 5, _ => exact a10.symm.trans (ti _ (by omega)).symm
      | 6, _ => exact a11.symm.trans (ti _ (by omega)).symm)
    refine exB_ok (t := [(.bipush 7, 2, 0, 0, 0, 0), (.newarray .int, 2, 0, 0, 7, 0), (.dup, 1, 0, 0, 0, 0), (.iconst 0, 1, 0, 0, 0, 0), (.iload_n 1, 1, 0, 0, 0, 0), (.iastore, 1, 0, 0, 0, 0), (.dup, 1, 0, 0, 0, 0), (.iconst 1, 1, 0, 0, 0, 0), (.iconst 0, 1, 0, 0, 0, 0), (.iastore, 1, 0, 0, 0, 0), (.dup, 1, 0, 0, 0, 0), (.iconst 2, 1, 0, 0, 0, 0), (.iconst 0, 1, 0, 0, 0, 0), (.iastore, 1, 0, 0, 0, 0), (.dup, 1, 0, 0, 0, 0), (.iconst 3, 1, 0, 0, 0, 0), (.iload_n 2, 1, 0, 0, 0, 0), (.ifCond .eq 7, 3, 26, 0, 0, 0)]) (W59_ok G) (jj := fun q L st h o k n => EX G m_World_addRoom q L st h o k n Q) (fun q L st h o k n hq => hq) (by decide +kernel) ?_
    simp [exB, hJ, exT, stp, lv_args, Value.category, lkL, stL1, stL2, insL, contX, q_ofNat, f4_3, nI_1, -Int32.not_lt, -Int32.not_le, -Int64.not_lt, -Int64.not_le, T_World_addRoom_26, T_World_addRoom_27, T_World_addRoom_38, T_World_addRoom_39, R_World_addRoom, C_World_addRoom, M_World_addRoom, HH_World_addRoom, KB_7, KI_0, KI_1, KI_2, KI_3, KI_4, KI_5, KI_m1, KB_6, -Int32.reduceOfInt, -Int8.reduceOfInt, -Int16.reduceOfInt, -Int32.ofInt_neg, TY_11_0, A_r, A_ri, A_rii, A_riii, A_riiii, A_rr, A_i, A_ii, A_iii, hW_0, hW_1, hW_2, hW_15, hW_hW, rfs_at, wR_0, wR_1, wR_2, wR_3, wR_4, wR_5, wR_6, wD_0, wD_1, wD_2, wD_3, wS_0, wS_1, wS_2, wS_3, wS_4, wS_5, hW_s0, hW_s1, hW_s2, hW_s3, hW_s4, hW_s5, hW_f9, hW_f10, hW_f11, hW_f7, hW_f8, hW_f6, hW_fc, vv4_0, vv4_1, vv4_2, vv4_3, vv6_0, vv6_1, vv6_2, vv6_3, vv6_4, vv6_5, vv7_0, vv7_1, vv7_2, vv7_3, vv7_4, vv7_5, vv7_6, cl_0, cl_1, cl_2, cl_3, cl_4, cl_5, cl_6, tI_0, tI_1, tI_or, cl_7, hup_at, hup_hup]
    try simp (disch := omega) [-Int64.not_lt, -Int64.not_le, -Int32.not_lt, -Int32.not_le, nI_z, nI_ltI, nI_leI, nI_1, nI_clamp, q_vp, nI_pos', rget_k, rset_k, lget_k, hup_hup, A_r, A_ri, A_rii, A_riii, A_riiii, A_rr, A_i, A_ii, A_iii, hW_0, hW_1, hW_2, hW_15, hW_hW, rfs_at, wR_0, wR_1, wR_2, wR_3, wR_4, wR_5, wR_6, wD_0, wD_1, wD_2, wD_3, wS_0, wS_1, wS_2, wS_3, wS_4, wS_5, hW_s0, hW_s1, hW_s2, hW_s3, hW_s4, hW_s5, hW_f9, hW_f10, hW_f11, hW_f7, hW_f8, hW_f6, hW_fc, vv4_0, vv4_1, vv4_2, vv4_3, vv6_0, vv6_1, vv6_2, vv6_3, vv6_4, vv6_5, vv7_0, vv7_1, vv7_2, vv7_3, vv7_4, vv7_5, vv7_6, cl_0, cl_1, cl_2, cl_3, cl_4, cl_5, cl_6, tI_0, tI_1, tI_or, cl_7, hup_at, hup_hup]
    refine exB_ok (t := [(.iconst 0, 1, 0, 0, 0, 0), (.iastore, 1, 0, 0, 0, 0), (.dup, 1, 0, 0, 0, 0), (.iconst 4, 1, 0, 0, 0, 0), (.iload_n 2, 1, 0, 0, 0, 0), (.ifCond .eq 7, 3, 38, 0, 0, 0)]) (W59_ok G) (jj := fun q L st h o k n => EX G m_World_addRoom q L st h o k n Q) (fun q L st h o k n hq => hq) (by decide +kernel) ?_
    simp [exB, hJ, exT, stp, lv_args, Value.category, lkL, stL1, stL2, insL, contX, q_ofNat, f4_3, nI_1, -Int32.not_lt, -Int32.not_le, -Int64.not_lt, -Int64.not_le, T_World_addRoom_26, T_World_addRoom_27, T_World_addRoom_38, T_World_addRoom_39, R_World_addRoom, C_World_addRoom, M_World_addRoom, HH_World_addRoom, KB_7, KI_0, KI_1, KI_2, KI_3, KI_4, KI_5, KI_m1, KB_6, -Int32.reduceOfInt, -Int8.reduceOfInt, -Int16.reduceOfInt, -Int32.ofInt_neg, TY_11_0, A_r, A_ri, A_rii, A_riii, A_riiii, A_rr, A_i, A_ii, A_iii, hW_0, hW_1, hW_2, hW_15, hW_hW, rfs_at, wR_0, wR_1, wR_2, wR_3, wR_4, wR_5, wR_6, wD_0, wD_1, wD_2, wD_3, wS_0, wS_1, wS_2, wS_3, wS_4, wS_5, hW_s0, hW_s1, hW_s2, hW_s3, hW_s4, hW_s5, hW_f9, hW_f10, hW_f11, hW_f7, hW_f8, hW_f6, hW_fc, vv4_0, vv4_1, vv4_2, vv4_3, vv6_0, vv6_1, vv6_2, vv6_3, vv6_4, vv6_5, vv7_0, vv7_1, vv7_2, vv7_3, vv7_4, vv7_5, vv7_6, cl_0, cl_1, cl_2, cl_3, cl_4, cl_5, cl_6, tI_0, tI_1, tI_or, hup_at, hup_hup]
    try simp (disch := omega) [-Int64.not_lt, -Int64.not_le, -Int32.not_lt, -Int32.not_le, nI_z, nI_ltI, nI_leI, nI_1, nI_clamp, q_vp, nI_pos', rget_k, rset_k, lget_k, hup_hup, A_r, A_ri, A_rii, A_riii, A_riiii, A_rr, A_i, A_ii, A_iii, hW_0, hW_1, hW_2, hW_15, hW_hW, rfs_at, wR_0, wR_1, wR_2, wR_3, wR_4, wR_5, wR_6, wD_0, wD_1, wD_2, wD_3, wS_0, wS_1, wS_2, wS_3, wS_4, wS_5, hW_s0, hW_s1, hW_s2, hW_s3, hW_s4, hW_s5, hW_f9, hW_f10, hW_f11, hW_f7, hW_f8, hW_f6, hW_fc, vv4_0, vv4_1, vv4_2, vv4_3, vv6_0, vv6_1, vv6_2, vv6_3, vv6_4, vv6_5, vv7_0, vv7_1, vv7_2, vv7_3, vv7_4, vv7_5, vv7_6, cl_0, cl_1, cl_2, cl_3, cl_4, cl_5, cl_6, tI_0, tI_1, tI_or, hup_at, hup_hup]
    refine exB_ok (t := [(.iconst 5, 1, 0, 0, 0, 0), (.iastore, 1, 0, 0, 0, 0), (.dup, 1, 0, 0, 0, 0), (.iconst 5, 1, 0, 0, 0, 0), (.iconst (-1), 1, 0, 0, 0, 0), (.iastore, 1, 0, 0, 0, 0), (.dup, 1, 0, 0, 0, 0), (.bipush 6, 2, 0, 0, 0, 0), (.iconst (-1), 1, 0, 0, 0, 0), (.iastore, 1, 0, 0, 0, 0), (.astore_n 3, 1, 0, 0, 0, 0)]) (W59_ok G) (jj := fun q L st h o k n => EX G m_World_addRoom q L st h o k n Q) (fun q L st h o k n hq => hq) (by decide +kernel) ?_
    simp [exB, hJ, exT, stp, lv_args, Value.category, lkL, stL1, stL2, insL, contX, q_ofNat, f4_3, nI_1, -Int32.not_lt, -Int32.not_le, -Int64.not_lt, -Int64.not_le, T_World_addRoom_26, T_World_addRoom_27, T_World_addRoom_38, T_World_addRoom_39, R_World_addRoom, C_World_addRoom, M_World_addRoom, HH_World_addRoom, KB_7, KI_0, KI_1, KI_2, KI_3, KI_4, KI_5, KI_m1, KB_6, -Int32.reduceOfInt, -Int8.reduceOfInt, -Int16.reduceOfInt, -Int32.ofInt_neg, TY_11_0, A_r, A_ri, A_rii, A_riii, A_riiii, A_rr, A_i, A_ii, A_iii, hW_0, hW_1, hW_2, hW_15, hW_hW, rfs_at, wR_0, wR_1, wR_2, wR_3, wR_4, wR_5, wR_6, wD_0, wD_1, wD_2, wD_3, wS_0, wS_1, wS_2, wS_3, wS_4, wS_5, hW_s0, hW_s1, hW_s2, hW_s3, hW_s4, hW_s5, hW_f9, hW_f10, hW_f11, hW_f7, hW_f8, hW_f6, hW_fc, vv4_0, vv4_1, vv4_2, vv4_3, vv6_0, vv6_1, vv6_2, vv6_3, vv6_4, vv6_5, vv7_0, vv7_1, vv7_2, vv7_3, vv7_4, vv7_5, vv7_6, cl_0, cl_1, cl_2, cl_3, cl_4, cl_5, cl_6, tI_0, tI_1, tI_or, hup_at, hup_hup]
    try simp (disch := omega) [-Int64.not_lt, -Int64.not_le, -Int32.not_lt, -Int32.not_le, nI_z, nI_ltI, nI_leI, nI_1, nI_clamp, q_vp, nI_pos', rget_k, rset_k, lget_k, hup_hup, A_r, A_ri, A_rii, A_riii, A_riiii, A_rr, A_i, A_ii, A_iii, hW_0, hW_1, hW_2, hW_15, hW_hW, rfs_at, wR_0, wR_1, wR_2, wR_3, wR_4, wR_5, wR_6, wD_0, wD_1, wD_2, wD_3, wS_0, wS_1, wS_2, wS_3, wS_4, wS_5, hW_s0, hW_s1, hW_s2, hW_s3, hW_s4, hW_s5, hW_f9, hW_f10, hW_f11, hW_f7, hW_f8, hW_f6, hW_fc, vv4_0, vv4_1, vv4_2, vv4_3, vv6_0, vv6_1, vv6_2, vv6_3, vv6_4, vv6_5, vv7_0, vv7_1, vv7_2, vv7_3, vv7_4, vv7_5, vv7_6, cl_0, cl_1, cl_2, cl_3, cl_4, cl_5, cl_6, tI_0, tI_1, tI_or, hup_at, hup_hup]
    refine exB_ok (t := [(.aload_n 3, 1, 0, 0, 0, 0), (.iconst 0, 1, 0, 0, 0, 0), (.aload_n 0, 1, 0, 0, 0, 0), (.getfield 15, 3, 11, 8, 0, 0), (.aload_n 0, 1, 0, 0, 0, 0), (.getfield 98, 3, 11, 0, 0, 0), (.aaload, 1, 0, 0, 0, 0), (.iconst 0, 1, 0, 0, 0, 0), (.bipush 7, 2, 0, 0, 0, 0), (.invokestatic 113, 3, 100001, 0, 0, 0)]) (W59_ok G) (jj := fun q L st h o k n => EX G m_World_addRoom q L st h o k n Q) (fun q L st h o k n hq => hq) (by decide +kernel) ?_
    simp [exB, hJ, exT, stp, lv_args, Value.category, lkL, stL1, stL2, insL, contX, q_ofNat, f4_3, nI_1, -Int32.not_lt, -Int32.not_le, -Int64.not_lt, -Int64.not_le, T_World_addRoom_26, T_World_addRoom_27, T_World_addRoom_38, T_World_addRoom_39, R_World_addRoom, C_World_addRoom, M_World_addRoom, HH_World_addRoom, KB_7, KI_0, KI_1, KI_2, KI_3, KI_4, KI_5, KI_m1, KB_6, -Int32.reduceOfInt, -Int8.reduceOfInt, -Int16.reduceOfInt, -Int32.ofInt_neg, TY_11_0, A_r, A_ri, A_rii, A_riii, A_riiii, A_rr, A_i, A_ii, A_iii, hW_0, hW_1, hW_2, hW_15, hW_hW, rfs_at, wR_0, wR_1, wR_2, wR_3, wR_4, wR_5, wR_6, wD_0, wD_1, wD_2, wD_3, wS_0, wS_1, wS_2, wS_3, wS_4, wS_5, hW_s0, hW_s1, hW_s2, hW_s3, hW_s4, hW_s5, hW_f9, hW_f10, hW_f11, hW_f7, hW_f8, hW_f6, hW_fc, vv4_0, vv4_1, vv4_2, vv4_3, vv6_0, vv6_1, vv6_2, vv6_3, vv6_4, vv6_5, vv7_0, vv7_1, vv7_2, vv7_3, vv7_4, vv7_5, vv7_6, cl_0, cl_1, cl_2, cl_3, cl_4, cl_5, cl_6, tI_0, tI_1, tI_or, hup_at, hup_nq n0, hup_nq n2, hup_nq nr, hW_r hlt, r1, nI_clamp (show nR s < 2 ^ 31 by omega), q_vp hlt (show 12 < 2 ^ 31 by decide), cl_7, e7]
    try simp (disch := omega) [-Int64.not_lt, -Int64.not_le, -Int32.not_lt, -Int32.not_le, nI_z, nI_ltI, nI_leI, nI_1, nI_clamp, q_vp, nI_pos', rget_k, rset_k, lget_k, hup_hup, A_r, A_ri, A_rii, A_riii, A_riiii, A_rr, A_i, A_ii, A_iii, hW_0, hW_1, hW_2, hW_15, hW_hW, rfs_at, wR_0, wR_1, wR_2, wR_3, wR_4, wR_5, wR_6, wD_0, wD_1, wD_2, wD_3, wS_0, wS_1, wS_2, wS_3, wS_4, wS_5, hW_s0, hW_s1, hW_s2, hW_s3, hW_s4, hW_s5, hW_f9, hW_f10, hW_f11, hW_f7, hW_f8, hW_f6, hW_fc, vv4_0, vv4_1, vv4_2, vv4_3, vv6_0, vv6_1, vv6_2, vv6_3, vv6_4, vv6_5, vv7_0, vv7_1, vv7_2, vv7_3, vv7_4, vv7_5, vv7_6, cl_0, cl_1, cl_2, cl_3, cl_4, cl_5, cl_6, tI_0, tI_1, tI_or, hup_at, hup_nq n0, hup_nq n2, hup_nq nr, hW_r hlt, r1, nI_clamp (show nR s < 2 ^ 31 by omega), q_vp hlt (show 12 < 2 ^ 31 by decide), cl_7, e7]
    exact fin _
  · have e7 := cz (upd (upd (upd (upd (upd (upd (upd (fun _ => 0) 0 v) 1 0) 2 0) 3 1) 4 0) 5 (-1)) 6 (-1)) (fun j hj => by
      match j, hj with
      | 0, _ => exact a5.symm.trans (ti _ (by omega)).symm
      | 1, _ => exact a6.symm.trans (ti _ (by omega)).symm
      | 2, _ => exact a7.symm.trans (ti _ (by omega)).symm
      | 3, _ => exact a8.symm.trans (ti _ (by omega)).symm
      | 4, _ => exact a9.symm.trans (ti _ (by omega)).symm
      | 5, _ => exact a10.symm.trans (ti _ (by omega)).symm
      | 6, _ => exact a11.symm.trans (ti _ (by omega)).symm)
    refine exB_ok (t := [(.bipush 7, 2, 0, 0, 0, 0), (.newarray .int, 2, 0, 0, 7, 0), (.dup, 1, 0, 0, 0, 0), (.iconst 0, 1, 0, 0, 0, 0), (.iload_n 1, 1, 0, 0, 0, 0), (.iastore, 1, 0, 0, 0, 0), (.dup, 1, 0, 0, 0, 0), (.iconst 1, 1, 0, 0, 0, 0), (.iconst 0, 1, 0, 0, 0, 0), (.iastore, 1, 0, 0, 0, 0), (.dup, 1, 0, 0, 0, 0), (.iconst 2, 1, 0, 0, 0, 0), (.iconst 0, 1, 0, 0, 0, 0), (.iastore, 1, 0, 0, 0, 0), (.dup, 1, 0, 0, 0, 0), (.iconst 3, 1, 0, 0, 0, 0), (.iload_n 2, 1, 0, 0, 0, 0), (.ifCond .eq 7, 3, 26, 0, 0, 0)]) (W59_ok G) (jj := fun q L st h o k n => EX G m_World_addRoom q L st h o k n Q) (fun q L st h o k n hq => hq) (by decide +kernel) ?_
    simp [exB, hJ, exT, stp, lv_args, Value.category, lkL, stL1, stL2, insL, contX, q_ofNat, f4_3, nI_1, -Int32.not_lt, -Int32.not_le, -Int64.not_lt, -Int64.not_le, T_World_addRoom_26, T_World_addRoom_27, T_World_addRoom_38, T_World_addRoom_39, R_World_addRoom, C_World_addRoom, M_World_addRoom, HH_World_addRoom, KB_7, KI_0, KI_1, KI_2, KI_3, KI_4, KI_5, KI_m1, KB_6, -Int32.reduceOfInt, -Int8.reduceOfInt, -Int16.reduceOfInt, -Int32.ofInt_neg, TY_11_0, A_r, A_ri, A_rii, A_riii, A_riiii, A_rr, A_i, A_ii, A_iii, hW_0, hW_1, hW_2, hW_15, hW_hW, rfs_at, wR_0, wR_1, wR_2, wR_3, wR_4, wR_5, wR_6, wD_0, wD_1, wD_2, wD_3, wS_0, wS_1, wS_2, wS_3, wS_4, wS_5, hW_s0, hW_s1, hW_s2, hW_s3, hW_s4, hW_s5, hW_f9, hW_f10, hW_f11, hW_f7, hW_f8, hW_f6, hW_fc, vv4_0, vv4_1, vv4_2, vv4_3, vv6_0, vv6_1, vv6_2, vv6_3, vv6_4, vv6_5, vv7_0, vv7_1, vv7_2, vv7_3, vv7_4, vv7_5, vv7_6, cl_0, cl_1, cl_2, cl_3, cl_4, cl_5, cl_6, tI_0, tI_1, tI_or, cl_7, hup_at, hup_hup]
    try simp (disch := omega) [-Int64.not_lt, -Int64.not_le, -Int32.not_lt, -Int32.not_le, nI_z, nI_ltI, nI_leI, nI_1, nI_clamp, q_vp, nI_pos', rget_k, rset_k, lget_k, hup_hup, A_r, A_ri, A_rii, A_riii, A_riiii, A_rr, A_i, A_ii, A_iii, hW_0, hW_1, hW_2, hW_15, hW_hW, rfs_at, wR_0, wR_1, wR_2, wR_3, wR_4, wR_5, wR_6, wD_0, wD_1, wD_2, wD_3, wS_0, wS_1, wS_2, wS_3, wS_4, wS_5, hW_s0, hW_s1, hW_s2, hW_s3, hW_s4, hW_s5, hW_f9, hW_f10, hW_f11, hW_f7, hW_f8, hW_f6, hW_fc, vv4_0, vv4_1, vv4_2, vv4_3, vv6_0, vv6_1, vv6_2, vv6_3, vv6_4, vv6_5, vv7_0, vv7_1, vv7_2, vv7_3, vv7_4, vv7_5, vv7_6, cl_0, cl_1, cl_2, cl_3, cl_4, cl_5, cl_6, tI_0, tI_1, tI_or, cl_7, hup_at, hup_hup]
    refine exB_ok (t := [(.iconst 1, 1, 0, 0, 0, 0), (.goto 4, 3, 27, 0, 0, 0)]) (W59_ok G) (jj := fun q L st h o k n => EX G m_World_addRoom q L st h o k n Q) (fun q L st h o k n hq => hq) (by decide +kernel) ?_
    simp [exB, hJ, exT, stp, lv_args, Value.category, lkL, stL1, stL2, insL, contX, q_ofNat, f4_3, nI_1, -Int32.not_lt, -Int32.not_le, -Int64.not_lt, -Int64.not_le, T_World_addRoom_26, T_World_addRoom_27, T_World_addRoom_38, T_World_addRoom_39, R_World_addRoom, C_World_addRoom, M_World_addRoom, HH_World_addRoom, KB_7, KI_0, KI_1, KI_2, KI_3, KI_4, KI_5, KI_m1, KB_6, -Int32.reduceOfInt, -Int8.reduceOfInt, -Int16.reduceOfInt, -Int32.ofInt_neg, TY_11_0]
    try simp (disch := omega) [-Int64.not_lt, -Int64.not_le, -Int32.not_lt, -Int32.not_le, nI_z, nI_ltI, nI_leI, nI_1, nI_clamp, q_vp, nI_pos', rget_k, rset_k, lget_k, hup_hup]
    refine exB_ok (t := [(.iastore, 1, 0, 0, 0, 0), (.dup, 1, 0, 0, 0, 0), (.iconst 4, 1, 0, 0, 0, 0), (.iload_n 2, 1, 0, 0, 0, 0), (.ifCond .eq 7, 3, 38, 0, 0, 0)]) (W59_ok G) (jj := fun q L st h o k n => EX G m_World_addRoom q L st h o k n Q) (fun q L st h o k n hq => hq) (by decide +kernel) ?_
    simp [exB, hJ, exT, stp, lv_args, Value.category, lkL, stL1, stL2, insL, contX, q_ofNat, f4_3, nI_1, -Int32.not_lt, -Int32.not_le, -Int64.not_lt, -Int64.not_le, T_World_addRoom_26, T_World_addRoom_27, T_World_addRoom_38, T_World_addRoom_39, R_World_addRoom, C_World_addRoom, M_World_addRoom, HH_World_addRoom, KB_7, KI_0, KI_1, KI_2, KI_3, KI_4, KI_5, KI_m1, KB_6, -Int32.reduceOfInt, -Int8.reduceOfInt, -Int16.reduceOfInt, -Int32.ofInt_neg, TY_11_0, A_r, A_ri, A_rii, A_riii, A_riiii, A_rr, A_i, A_ii, A_iii, hW_0, hW_1, hW_2, hW_15, hW_hW, rfs_at, wR_0, wR_1, wR_2, wR_3, wR_4, wR_5, wR_6, wD_0, wD_1, wD_2, wD_3, wS_0, wS_1, wS_2, wS_3, wS_4, wS_5, hW_s0, hW_s1, hW_s2, hW_s3, hW_s4, hW_s5, hW_f9, hW_f10, hW_f11, hW_f7, hW_f8, hW_f6, hW_fc, vv4_0, vv4_1, vv4_2, vv4_3, vv6_0, vv6_1, vv6_2, vv6_3, vv6_4, vv6_5, vv7_0, vv7_1, vv7_2, vv7_3, vv7_4, vv7_5, vv7_6, cl_0, cl_1, cl_2, cl_3, cl_4, cl_5, cl_6, tI_0, tI_1, tI_or, hup_at, hup_hup]
    try simp (disch := omega) [-Int64.not_lt, -Int64.not_le, -Int32.not_lt, -Int32.not_le, nI_z, nI_ltI, nI_leI, nI_1, nI_clamp, q_vp, nI_pos', rget_k, rset_k, lget_k, hup_hup, A_r, A_ri, A_rii, A_riii, A_riiii, A_rr, A_i, A_ii, A_iii, hW_0, hW_1, hW_2, hW_15, hW_hW, rfs_at, wR_0, wR_1, wR_2, wR_3, wR_4, wR_5, wR_6, wD_0, wD_1, wD_2, wD_3, wS_0, wS_1, wS_2, wS_3, wS_4, wS_5, hW_s0, hW_s1, hW_s2, hW_s3, hW_s4, hW_s5, hW_f9, hW_f10, hW_f11, hW_f7, hW_f8, hW_f6, hW_fc, vv4_0, vv4_1, vv4_2, vv4_3, vv6_0, vv6_1, vv6_2, vv6_3, vv6_4, vv6_5, vv7_0, vv7_1, vv7_2, vv7_3, vv7_4, vv7_5, vv7_6, cl_0, cl_1, cl_2, cl_3, cl_4, cl_5, cl_6, tI_0, tI_1, tI_or, hup_at, hup_hup]
    refine exB_ok (t := [(.iconst 0, 1, 0, 0, 0, 0), (.goto 4, 3, 39, 0, 0, 0)]) (W59_ok G) (jj := fun q L st h o k n => EX G m_World_addRoom q L st h o k n Q) (fun q L st h o k n hq => hq) (by decide +kernel) ?_
    simp [exB, hJ, exT, stp, lv_args, Value.category, lkL, stL1, stL2, insL, contX, q_ofNat, f4_3, nI_1, -Int32.not_lt, -Int32.not_le, -Int64.not_lt, -Int64.not_le, T_World_addRoom_26, T_World_addRoom_27, T_World_addRoom_38, T_World_addRoom_39, R_World_addRoom, C_World_addRoom, M_World_addRoom, HH_World_addRoom, KB_7, KI_0, KI_1, KI_2, KI_3, KI_4, KI_5, KI_m1, KB_6, -Int32.reduceOfInt, -Int8.reduceOfInt, -Int16.reduceOfInt, -Int32.ofInt_neg, TY_11_0]
    try simp (disch := omega) [-Int64.not_lt, -Int64.not_le, -Int32.not_lt, -Int32.not_le, nI_z, nI_ltI, nI_leI, nI_1, nI_clamp, q_vp, nI_pos', rget_k, rset_k, lget_k, hup_hup]
    refine exB_ok (t := [(.iastore, 1, 0, 0, 0, 0), (.dup, 1, 0, 0, 0, 0), (.iconst 5, 1, 0, 0, 0, 0), (.iconst (-1), 1, 0, 0, 0, 0), (.iastore, 1, 0, 0, 0, 0), (.dup, 1, 0, 0, 0, 0), (.bipush 6, 2, 0, 0, 0, 0), (.iconst (-1), 1, 0, 0, 0, 0), (.iastore, 1, 0, 0, 0, 0), (.astore_n 3, 1, 0, 0, 0, 0)]) (W59_ok G) (jj := fun q L st h o k n => EX G m_World_addRoom q L st h o k n Q) (fun q L st h o k n hq => hq) (by decide +kernel) ?_
    simp [exB, hJ, exT, stp, lv_args, Value.category, lkL, stL1, stL2, insL, contX, q_ofNat, f4_3, nI_1, -Int32.not_lt, -Int32.not_le, -Int64.not_lt, -Int64.not_le, T_World_addRoom_26, T_World_addRoom_27, T_World_addRoom_38, T_World_addRoom_39, R_World_addRoom, C_World_addRoom, M_World_addRoom, HH_World_addRoom, KB_7, KI_0, KI_1, KI_2, KI_3, KI_4, KI_5, KI_m1, KB_6, -Int32.reduceOfInt, -Int8.reduceOfInt, -Int16.reduceOfInt, -Int32.ofInt_neg, TY_11_0, A_r, A_ri, A_rii, A_riii, A_riiii, A_rr, A_i, A_ii, A_iii, hW_0, hW_1, hW_2, hW_15, hW_hW, rfs_at, wR_0, wR_1, wR_2, wR_3, wR_4, wR_5, wR_6, wD_0, wD_1, wD_2, wD_3, wS_0, wS_1, wS_2, wS_3, wS_4, wS_5, hW_s0, hW_s1, hW_s2, hW_s3, hW_s4, hW_s5, hW_f9, hW_f10, hW_f11, hW_f7, hW_f8, hW_f6, hW_fc, vv4_0, vv4_1, vv4_2, vv4_3, vv6_0, vv6_1, vv6_2, vv6_3, vv6_4, vv6_5, vv7_0, vv7_1, vv7_2, vv7_3, vv7_4, vv7_5, vv7_6, cl_0, cl_1, cl_2, cl_3, cl_4, cl_5, cl_6, tI_0, tI_1, tI_or, hup_at, hup_hup]
    try simp (disch := omega) [-Int64.not_lt, -Int64.not_le, -Int32.not_lt, -Int32.not_le, nI_z, nI_ltI, nI_leI, nI_1, nI_clamp, q_vp, nI_pos', rget_k, rset_k, lget_k, hup_hup, A_r, A_ri, A_rii, A_riii, A_riiii, A_rr, A_i, A_ii, A_iii, hW_0, hW_1, hW_2, hW_15, hW_hW, rfs_at, wR_0, wR_1, wR_2, wR_3, wR_4, wR_5, wR_6, wD_0, wD_1, wD_2, wD_3, wS_0, wS_1, wS_2, wS_3, wS_4, wS_5, hW_s0, hW_s1, hW_s2, hW_s3, hW_s4, hW_s5, hW_f9, hW_f10, hW_f11, hW_f7, hW_f8, hW_f6, hW_fc, vv4_0, vv4_1, vv4_2, vv4_3, vv6_0, vv6_1, vv6_2, vv6_3, vv6_4, vv6_5, vv7_0, vv7_1, vv7_2, vv7_3, vv7_4, vv7_5, vv7_6, cl_0, cl_1, cl_2, cl_3, cl_4, cl_5, cl_6, tI_0, tI_1, tI_or, hup_at, hup_hup]
    refine exB_ok (t := [(.aload_n 3, 1, 0, 0, 0, 0), (.iconst 0, 1, 0, 0, 0, 0), (.aload_n 0, 1, 0, 0, 0, 0), (.getfield 15, 3, 11, 8, 0, 0), (.aload_n 0, 1, 0, 0, 0, 0), (.getfield 98, 3, 11, 0, 0, 0), (.aaload, 1, 0, 0, 0, 0), (.iconst 0, 1, 0, 0, 0, 0), (.bipush 7, 2, 0, 0, 0, 0), (.invokestatic 113, 3, 100001, 0, 0, 0)]) (W59_ok G) (jj := fun q L st h o k n => EX G m_World_addRoom q L st h o k n Q) (fun q L st h o k n hq => hq) (by decide +kernel) ?_
    simp [exB, hJ, exT, stp, lv_args, Value.category, lkL, stL1, stL2, insL, contX, q_ofNat, f4_3, nI_1, -Int32.not_lt, -Int32.not_le, -Int64.not_lt, -Int64.not_le, T_World_addRoom_26, T_World_addRoom_27, T_World_addRoom_38, T_World_addRoom_39, R_World_addRoom, C_World_addRoom, M_World_addRoom, HH_World_addRoom, KB_7, KI_0, KI_1, KI_2, KI_3, KI_4, KI_5, KI_m1, KB_6, -Int32.reduceOfInt, -Int8.reduceOfInt, -Int16.reduceOfInt, -Int32.ofInt_neg, TY_11_0, A_r, A_ri, A_rii, A_riii, A_riiii, A_rr, A_i, A_ii, A_iii, hW_0, hW_1, hW_2, hW_15, hW_hW, rfs_at, wR_0, wR_1, wR_2, wR_3, wR_4, wR_5, wR_6, wD_0, wD_1, wD_2, wD_3, wS_0, wS_1, wS_2, wS_3, wS_4, wS_5, hW_s0, hW_s1, hW_s2, hW_s3, hW_s4, hW_s5, hW_f9, hW_f10, hW_f11, hW_f7, hW_f8, hW_f6, hW_fc, vv4_0, vv4_1, vv4_2, vv4_3, vv6_0, vv6_1, vv6_2, vv6_3, vv6_4, vv6_5, vv7_0, vv7_1, vv7_2, vv7_3, vv7_4, vv7_5, vv7_6, cl_0, cl_1, cl_2, cl_3, cl_4, cl_5, cl_6, tI_0, tI_1, tI_or, hup_at, hup_nq n0, hup_nq n2, hup_nq nr, hW_r hlt, r1, nI_clamp (show nR s < 2 ^ 31 by omega), q_vp hlt (show 12 < 2 ^ 31 by decide), cl_7, e7]
    try simp (disch := omega) [-Int64.not_lt, -Int64.not_le, -Int32.not_lt, -Int32.not_le, nI_z, nI_ltI, nI_leI, nI_1, nI_clamp, q_vp, nI_pos', rget_k, rset_k, lget_k, hup_hup, A_r, A_ri, A_rii, A_riii, A_riiii, A_rr, A_i, A_ii, A_iii, hW_0, hW_1, hW_2, hW_15, hW_hW, rfs_at, wR_0, wR_1, wR_2, wR_3, wR_4, wR_5, wR_6, wD_0, wD_1, wD_2, wD_3, wS_0, wS_1, wS_2, wS_3, wS_4, wS_5, hW_s0, hW_s1, hW_s2, hW_s3, hW_s4, hW_s5, hW_f9, hW_f10, hW_f11, hW_f7, hW_f8, hW_f6, hW_fc, vv4_0, vv4_1, vv4_2, vv4_3, vv6_0, vv6_1, vv6_2, vv6_3, vv6_4, vv6_5, vv7_0, vv7_1, vv7_2, vv7_3, vv7_4, vv7_5, vv7_6, cl_0, cl_1, cl_2, cl_3, cl_4, cl_5, cl_6, tI_0, tI_1, tI_or, hup_at, hup_nq n0, hup_nq n2, hup_nq nr, hW_r hlt, r1, nI_clamp (show nR s < 2 ^ 31 by omega), q_vp hlt (show 12 < 2 ^ 31 by decide), cl_7, e7]
    exact fin _
theorem mn_le (a b : Int32) : (if b < a then b else a) = (if b ≤ a then b else a) ∧ (if a < b then b else a) = (if b ≤ a then a else b) := by
  have k1 : b < a ↔ b.toInt < a.toInt := Int32.lt_iff_toInt_lt
  have k2 : a < b ↔ a.toInt < b.toInt := Int32.lt_iff_toInt_lt
  have k3 : b ≤ a ↔ b.toInt ≤ a.toInt := Int32.le_iff_toInt_le
  have k4 : a = b ↔ a.toInt = b.toInt := Int32.toInt_inj.symm
  rcases Int.lt_trichotomy a.toInt b.toInt with h | h | h
  · have g1 : ¬ b < a := fun e => by have := k1.mp e; omega
    have g2 : ¬ b ≤ a := fun e => by have := k3.mp e; omega
    rw [if_neg g1, if_neg g2, if_pos (k2.mpr h), if_neg g2]
    exact ⟨rfl, rfl⟩
  · have := k4.mpr h
    subst this
    exact ⟨by simp, by simp⟩
  · have g1 : b < a := k1.mpr h
    have g2 : b ≤ a := k3.mpr (by omega)
    have g3 : ¬ a < b := fun e => by have := k2.mp e; omega
    rw [if_pos g1, if_pos g2, if_neg g3, if_pos g2]
    exact ⟨rfl, rfl⟩
theorem HH_World_addDoor : mHH 141 = [] := rfl
theorem TY_11_1 {v : Int32} : okw (tyC 11 1) (.int v) = True := rfl
set_option maxRecDepth 2000 in
set_option maxHeartbeats 200000 in
theorem r_World_addDoor (hx : rx_World_addDoor as h o Q) : Runs G m_World_addDoor as h o Q := by
  obtain ⟨w, a, b, v, rfl, h0, s, c, z, rfl, ⟨rfl, ⟨r1, r2, r3, r4⟩, hlt⟩, hq⟩ := E_riii hx
  change Nat at w
  obtain ⟨a1, a2, a5, a6, a7, a8⟩ := addD_at (s := s) (a := a) (b := b) (c := v) (k := nD s) rfl hlt
  obtain ⟨q1, q2⟩ := mn_le a b
  have hJ : True := trivial
  refine Runs.of (by decide +kernel) (Nat.le_of_ble_eq_true rfl) ?_
  refine EX.below fun hbl => ?_
  have hwz : w + 39 < z := hbl (w + 39) _ (hW_at (k := 39) (by decide))
  have h0z : h0 z = none := by
    cases e : h0 z with
    | none => rfl
    | some x => exact absurd (hbl z x (by rw [hW_out (by omega)]; exact e)) (by omega)
  obtain ⟨t, et⟩ : ∃ t : Nat → Int32, t = upd (addD s a b v) 10 (s 10) := ⟨_, rfl⟩
  have t9 : upd t 10 (nI (nD s + 1)) = addD s a b v := by
    rw [et]; funext i; unfold upd
    by_cases c9 : i = 10
    · rw [if_pos c9, c9, a2]
    · rw [if_neg c9, if_neg c9]
  have tx9 : t 10 = nI (nD s) := by rw [et, ← r3]; exact if_pos rfl
  have to : ∀ i, ¬ (120 + 4 * nD s ≤ i ∧ i < 120 + 4 * nD s + 4) → t i = s i := fun i hi => by
    rw [et]; unfold upd
    by_cases c9 : i = 10
    · rw [if_pos c9, c9]
    · rw [if_neg c9, a1 i c9 hi]
  have ti : ∀ i, 120 ≤ i → t i = addD s a b v i := fun i hi => by rw [et]; exact if_neg (by omega)
  have fin : ∀ e, EX G m_World_addDoor 46 [(0, .ref w), (1, .int a), (2, .int b), (3, .int v), (4, .ref z)] [] (hup (hup (hW h0 w s c) z e) (w + 16 + nD s) (ints 4 (wDor t (nD s)))) (some (z + 1)) 1 4 Q := by
    intro e
    rw [hup_swap (show z ≠ w + 16 + nD s by omega), hW_dor hlt (fun i hi => to i (by omega)) (fun q j h1 h2 h3 => to _ (by omega))]
    refine EX.drop (by rw [hW_out (by omega)]; exact h0z) ?_
    have e1 : nI (nD s + 1) - 1 = nI (nD s) := by
      have := nI_subN (a := nD s + 1) (b := 1) (by omega)
      rw [Nat.add_sub_cancel] at this
      exact this
    refine exB_ok (t := [(.aload_n 0, 1, 0, 0, 0, 0), (.dup, 1, 0, 0, 0, 0), (.getfield 79, 3, 11, 1, 0, 0), (.iconst 1, 1, 0, 0, 0, 0), (.iadd, 1, 0, 0, 0, 0), (.putfield 79, 3, 11, 1, 0, 0)]) (W59_ok G) (jj := fun q L st h o k n => EX G m_World_addDoor q L st h o k n Q) (fun q L st h o k n hq => hq) (by decide +kernel) ?_
    simp [exB, hJ, exT, stp, lv_args, Value.category, lkL, stL1, stL2, insL, contX, q_ofNat, f4_3, nI_1, -Int32.not_lt, -Int32.not_le, -Int64.not_lt, -Int64.not_le, R_World_addDoor, C_World_addDoor, M_World_addDoor, HH_World_addDoor, KI_4, KI_0, KI_1, KI_2, KI_3, -Int32.reduceOfInt, -Int8.reduceOfInt, -Int16.reduceOfInt, -Int32.ofInt_neg, TY_11_1, A_r, A_ri, A_rii, A_riii, A_riiii, A_rr, A_i, A_ii, A_iii, hW_0, hW_1, hW_2, hW_15, hW_hW, rfs_at, wR_0, wR_1, wR_2, wR_3, wR_4, wR_5, wR_6, wD_0, wD_1, wD_2, wD_3, wS_0, wS_1, wS_2, wS_3, wS_4, wS_5, hW_s0, hW_s1, hW_s2, hW_s3, hW_s4, hW_s5, hW_f9, hW_f10, hW_f11, hW_f7, hW_f8, hW_f6, hW_fc, vv4_0, vv4_1, vv4_2, vv4_3, vv6_0, vv6_1, vv6_2, vv6_3, vv6_4, vv6_5, vv7_0, vv7_1, vv7_2, vv7_3, vv7_4, vv7_5, vv7_6, cl_0, cl_1, cl_2, cl_3, cl_4, cl_5, cl_6, tI_0, tI_1, tI_or, tx9, nI_add]
    try simp (disch := omega) [-Int64.not_lt, -Int64.not_le, -Int32.not_lt, -Int32.not_le, nI_z, nI_ltI, nI_leI, nI_1, nI_clamp, q_vp, nI_pos', rget_k, rset_k, lget_k, hup_hup, A_r, A_ri, A_rii, A_riii, A_riiii, A_rr, A_i, A_ii, A_iii, hW_0, hW_1, hW_2, hW_15, hW_hW, rfs_at, wR_0, wR_1, wR_2, wR_3, wR_4, wR_5, wR_6, wD_0, wD_1, wD_2, wD_3, wS_0, wS_1, wS_2, wS_3, wS_4, wS_5, hW_s0, hW_s1, hW_s2, hW_s3, hW_s4, hW_s5, hW_f9, hW_f10, hW_f11, hW_f7, hW_f8, hW_f6, hW_fc, vv4_0, vv4_1, vv4_2, vv4_3, vv6_0, vv6_1, vv6_2, vv6_3, vv6_4, vv6_5, vv7_0, vv7_1, vv7_2, vv7_3, vv7_4, vv7_5, vv7_6, cl_0, cl_1, cl_2, cl_3, cl_4, cl_5, cl_6, tI_0, tI_1, tI_or, tx9, nI_add]
    rw [t9]
    refine exB_ok (t := [(.aload_n 0, 1, 0, 0, 0, 0), (.getfield 79, 3, 11, 1, 0, 0), (.iconst 1, 1, 0, 0, 0, 0), (.isub, 1, 0, 0, 0, 0), (.ireturn, 1, 0, 0, 0, 0)]) (W59_ok G) (jj := fun q L st h o k n => EX G m_World_addDoor q L st h o k n Q) (fun q L st h o k n hq => hq) (by decide +kernel) ?_
    simp [exB, hJ, exT, stp, lv_args, Value.category, lkL, stL1, stL2, insL, contX, q_ofNat, f4_3, nI_1, -Int32.not_lt, -Int32.not_le, -Int64.not_lt, -Int64.not_le, R_World_addDoor, C_World_addDoor, M_World_addDoor, HH_World_addDoor, KI_4, KI_0, KI_1, KI_2, KI_3, -Int32.reduceOfInt, -Int8.reduceOfInt, -Int16.reduceOfInt, -Int32.ofInt_neg, TY_11_1, A_r, A_ri, A_rii, A_riii, A_riiii, A_rr, A_i, A_ii, A_iii, hW_0, hW_1, hW_2, hW_15, hW_hW, rfs_at, wR_0, wR_1, wR_2, wR_3, wR_4, wR_5, wR_6, wD_0, wD_1, wD_2, wD_3, wS_0, wS_1, wS_2, wS_3, wS_4, wS_5, hW_s0, hW_s1, hW_s2, hW_s3, hW_s4, hW_s5, hW_f9, hW_f10, hW_f11, hW_f7, hW_f8, hW_f6, hW_fc, vv4_0, vv4_1, vv4_2, vv4_3, vv6_0, vv6_1, vv6_2, vv6_3, vv6_4, vv6_5, vv7_0, vv7_1, vv7_2, vv7_3, vv7_4, vv7_5, vv7_6, cl_0, cl_1, cl_2, cl_3, cl_4, cl_5, cl_6, tI_0, tI_1, tI_or, a2, e1]
    try simp (disch := omega) [-Int64.not_lt, -Int64.not_le, -Int32.not_lt, -Int32.not_le, nI_z, nI_ltI, nI_leI, nI_1, nI_clamp, q_vp, nI_pos', rget_k, rset_k, lget_k, hup_hup, A_r, A_ri, A_rii, A_riii, A_riiii, A_rr, A_i, A_ii, A_iii, hW_0, hW_1, hW_2, hW_15, hW_hW, rfs_at, wR_0, wR_1, wR_2, wR_3, wR_4, wR_5, wR_6, wD_0, wD_1, wD_2, wD_3, wS_0, wS_1, wS_2, wS_3, wS_4, wS_5, hW_s0, hW_s1, hW_s2, hW_s3, hW_s4, hW_s5, hW_f9, hW_f10, hW_f11, hW_f7, hW_f8, hW_f6, hW_fc, vv4_0, vv4_1, vv4_2, vv4_3, vv6_0, vv6_1, vv6_2, vv6_3, vv6_4, vv6_5, vv7_0, vv7_1, vv7_2, vv7_3, vv7_4, vv7_5, vv7_6, cl_0, cl_1, cl_2, cl_3, cl_4, cl_5, cl_6, tI_0, tI_1, tI_or, a2, e1]
    exact hq
  have n0 : w ≠ z := by omega
  have n2 : w + 15 ≠ z := by omega
  have nr : w + 16 + nD s ≠ z := by omega
  have c4 : Int32.toNatClampNeg 4 = 4 := by decide
  have e7 : va_cpy (upd (upd (upd (upd (fun _ => 0) 0 (if b < a then b else a)) 1 (if a < b then b else a)) 2 v) 3 1) (wDor s (nD s)) 0 0 4 = wDor t (nD s) := by
    funext j
    unfold va_cpy wDor
    by_cases hj : j < 4
    · rw [if_pos (by omega), if_pos hj, Nat.zero_add, Nat.sub_zero]
      match j, hj with
      | 0, _ => exact q1.trans (a5.symm.trans (ti _ (by omega)).symm)
      | 1, _ => exact q2.trans (a6.symm.trans (ti _ (by omega)).symm)
      | 2, _ => exact a7.symm.trans (ti _ (by omega)).symm
      | 3, _ => exact a8.symm.trans (ti _ (by omega)).symm
    · rw [if_neg (by omega), if_neg hj, if_neg hj]
  obtain ⟨mn, emn⟩ : ∃ mn, mn = (if b < a then b else a) := ⟨_, rfl⟩
  obtain ⟨mx, emx⟩ : ∃ mx, mx = (if a < b then b else a) := ⟨_, rfl⟩
  rw [← emn, ← emx] at e7
  refine exB_ok (t := [(.iconst 4, 1, 0, 0, 0, 0), (.newarray .int, 2, 0, 0, 4, 0), (.dup, 1, 0, 0, 0, 0), (.iconst 0, 1, 0, 0, 0, 0), (.iload_n 1, 1, 0, 0, 0, 0), (.iload_n 2, 1, 0, 0, 0, 0), (.invokestatic 119, 3, 167, 0, 2, 0)]) (W59_ok G) (jj := fun q L st h o k n => EX G m_World_addDoor q L st h o k n Q) (fun q L st h o k n hq => hq) (by decide +kernel) ?_
  simp [exB, hJ, exT, stp, lv_args, Value.category, lkL, stL1, stL2, insL, contX, q_ofNat, f4_3, nI_1, -Int32.not_lt, -Int32.not_le, -Int64.not_lt, -Int64.not_le, R_World_addDoor, C_World_addDoor, M_World_addDoor, HH_World_addDoor, KI_4, KI_0, KI_1, KI_2, KI_3, -Int32.reduceOfInt, -Int8.reduceOfInt, -Int16.reduceOfInt, -Int32.ofInt_neg, TY_11_1, A_r, A_ri, A_rii, A_riii, A_riiii, A_rr, A_i, A_ii, A_iii, hW_0, hW_1, hW_2, hW_15, hW_hW, rfs_at, wR_0, wR_1, wR_2, wR_3, wR_4, wR_5, wR_6, wD_0, wD_1, wD_2, wD_3, wS_0, wS_1, wS_2, wS_3, wS_4, wS_5, hW_s0, hW_s1, hW_s2, hW_s3, hW_s4, hW_s5, hW_f9, hW_f10, hW_f11, hW_f7, hW_f8, hW_f6, hW_fc, vv4_0, vv4_1, vv4_2, vv4_3, vv6_0, vv6_1, vv6_2, vv6_3, vv6_4, vv6_5, vv7_0, vv7_1, vv7_2, vv7_3, vv7_4, vv7_5, vv7_6, cl_0, cl_1, cl_2, cl_3, cl_4, cl_5, cl_6, tI_0, tI_1, tI_or, c4, hup_at, hup_hup, ← emn]
  try simp (disch := omega) [-Int64.not_lt, -Int64.not_le, -Int32.not_lt, -Int32.not_le, nI_z, nI_ltI, nI_leI, nI_1, nI_clamp, q_vp, nI_pos', rget_k, rset_k, lget_k, hup_hup, A_r, A_ri, A_rii, A_riii, A_riiii, A_rr, A_i, A_ii, A_iii, hW_0, hW_1, hW_2, hW_15, hW_hW, rfs_at, wR_0, wR_1, wR_2, wR_3, wR_4, wR_5, wR_6, wD_0, wD_1, wD_2, wD_3, wS_0, wS_1, wS_2, wS_3, wS_4, wS_5, hW_s0, hW_s1, hW_s2, hW_s3, hW_s4, hW_s5, hW_f9, hW_f10, hW_f11, hW_f7, hW_f8, hW_f6, hW_fc, vv4_0, vv4_1, vv4_2, vv4_3, vv6_0, vv6_1, vv6_2, vv6_3, vv6_4, vv6_5, vv7_0, vv7_1, vv7_2, vv7_3, vv7_4, vv7_5, vv7_6, cl_0, cl_1, cl_2, cl_3, cl_4, cl_5, cl_6, tI_0, tI_1, tI_or, c4, hup_at, hup_hup, ← emn]
  refine exB_ok (t := [(.iastore, 1, 0, 0, 0, 0), (.dup, 1, 0, 0, 0, 0), (.iconst 1, 1, 0, 0, 0, 0), (.iload_n 1, 1, 0, 0, 0, 0), (.iload_n 2, 1, 0, 0, 0, 0), (.invokestatic 125, 3, 166, 0, 2, 0)]) (W59_ok G) (jj := fun q L st h o k n => EX G m_World_addDoor q L st h o k n Q) (fun q L st h o k n hq => hq) (by decide +kernel) ?_
  simp [exB, hJ, exT, stp, lv_args, Value.category, lkL, stL1, stL2, insL, contX, q_ofNat, f4_3, nI_1, -Int32.not_lt, -Int32.not_le, -Int64.not_lt, -Int64.not_le, R_World_addDoor, C_World_addDoor, M_World_addDoor, HH_World_addDoor, KI_4, KI_0, KI_1, KI_2, KI_3, -Int32.reduceOfInt, -Int8.reduceOfInt, -Int16.reduceOfInt, -Int32.ofInt_neg, TY_11_1, A_r, A_ri, A_rii, A_riii, A_riiii, A_rr, A_i, A_ii, A_iii, hW_0, hW_1, hW_2, hW_15, hW_hW, rfs_at, wR_0, wR_1, wR_2, wR_3, wR_4, wR_5, wR_6, wD_0, wD_1, wD_2, wD_3, wS_0, wS_1, wS_2, wS_3, wS_4, wS_5, hW_s0, hW_s1, hW_s2, hW_s3, hW_s4, hW_s5, hW_f9, hW_f10, hW_f11, hW_f7, hW_f8, hW_f6, hW_fc, vv4_0, vv4_1, vv4_2, vv4_3, vv6_0, vv6_1, vv6_2, vv6_3, vv6_4, vv6_5, vv7_0, vv7_1, vv7_2, vv7_3, vv7_4, vv7_5, vv7_6, cl_0, cl_1, cl_2, cl_3, cl_4, cl_5, cl_6, tI_0, tI_1, tI_or, hup_at, hup_hup, ← emx]
  try simp (disch := omega) [-Int64.not_lt, -Int64.not_le, -Int32.not_lt, -Int32.not_le, nI_z, nI_ltI, nI_leI, nI_1, nI_clamp, q_vp, nI_pos', rget_k, rset_k, lget_k, hup_hup, A_r, A_ri, A_rii, A_riii, A_riiii, A_rr, A_i, A_ii, A_iii, hW_0, hW_1, hW_2, hW_15, hW_hW, rfs_at, wR_0, wR_1, wR_2, wR_3, wR_4, wR_5, wR_6, wD_0, wD_1, wD_2, wD_3, wS_0, wS_1, wS_2, wS_3, wS_4, wS_5, hW_s0, hW_s1, hW_s2, hW_s3, hW_s4, hW_s5, hW_f9, hW_f10, hW_f11, hW_f7, hW_f8, hW_f6, hW_fc, vv4_0, vv4_1, vv4_2, vv4_3, vv6_0, vv6_1, vv6_2, vv6_3, vv6_4, vv6_5, vv7_0, vv7_1, vv7_2, vv7_3, vv7_4, vv7_5, vv7_6, cl_0, cl_1, cl_2, cl_3, cl_4, cl_5, cl_6, tI_0, tI_1, tI_or, hup_at, hup_hup, ← emx]
  refine exB_ok (t := [(.iastore, 1, 0, 0, 0, 0), (.dup, 1, 0, 0, 0, 0), (.iconst 2, 1, 0, 0, 0, 0), (.iload_n 3, 1, 0, 0, 0, 0), (.iastore, 1, 0, 0, 0, 0), (.dup, 1, 0, 0, 0, 0), (.iconst 3, 1, 0, 0, 0, 0), (.iconst 1, 1, 0, 0, 0, 0), (.iastore, 1, 0, 0, 0, 0), (.astore 4, 2, 0, 0, 0, 0)]) (W59_ok G) (jj := fun q L st h o k n => EX G m_World_addDoor q L st h o k n Q) (fun q L st h o k n hq => hq) (by decide +kernel) ?_
  simp [exB, hJ, exT, stp, lv_args, Value.category, lkL, stL1, stL2, insL, contX, q_ofNat, f4_3, nI_1, -Int32.not_lt, -Int32.not_le, -Int64.not_lt, -Int64.not_le, R_World_addDoor, C_World_addDoor, M_World_addDoor, HH_World_addDoor, KI_4, KI_0, KI_1, KI_2, KI_3, -Int32.reduceOfInt, -Int8.reduceOfInt, -Int16.reduceOfInt, -Int32.ofInt_neg, TY_11_1, A_r, A_ri, A_rii, A_riii, A_riiii, A_rr, A_i, A_ii, A_iii, hW_0, hW_1, hW_2, hW_15, hW_hW, rfs_at, wR_0, wR_1, wR_2, wR_3, wR_4, wR_5, wR_6, wD_0, wD_1, wD_2, wD_3, wS_0, wS_1, wS_2, wS_3, wS_4, wS_5, hW_s0, hW_s1, hW_s2, hW_s3, hW_s4, hW_s5, hW_f9, hW_f10, hW_f11, hW_f7, hW_f8, hW_f6, hW_fc, vv4_0, vv4_1, vv4_2, vv4_3, vv6_0, vv6_1, vv6_2, vv6_3, vv6_4, vv6_5, vv7_0, vv7_1, vv7_2, vv7_3, vv7_4, vv7_5, vv7_6, cl_0, cl_1, cl_2, cl_3, cl_4, cl_5, cl_6, tI_0, tI_1, tI_or, hup_at, hup_hup]
  try simp (disch := omega) [-Int64.not_lt, -Int64.not_le, -Int32.not_lt, -Int32.not_le, nI_z, nI_ltI, nI_leI, nI_1, nI_clamp, q_vp, nI_pos', rget_k, rset_k, lget_k, hup_hup, A_r, A_ri, A_rii, A_riii, A_riiii, A_rr, A_i, A_ii, A_iii, hW_0, hW_1, hW_2, hW_15, hW_hW, rfs_at, wR_0, wR_1, wR_2, wR_3, wR_4, wR_5, wR_6, wD_0, wD_1, wD_2, wD_3, wS_0, wS_1, wS_2, wS_3, wS_4, wS_5, hW_s0, hW_s1, hW_s2, hW_s3, hW_s4, hW_s5, hW_f9, hW_f10, hW_f11, hW_f7, hW_f8, hW_f6, hW_fc, vv4_0, vv4_1, vv4_2, vv4_3, vv6_0, vv6_1, vv6_2, vv6_3, vv6_4, vv6_5, vv7_0, vv7_1, vv7_2, vv7_3, vv7_4, vv7_5, vv7_6, cl_0, cl_1, cl_2, cl_3, cl_4, cl_5, cl_6, tI_0, tI_1, tI_or, hup_at, hup_hup]
  refine exB_ok (t := [(.aload 4, 2, 0, 0, 0, 0), (.iconst 0, 1, 0, 0, 0, 0), (.aload_n 0, 1, 0, 0, 0, 0), (.getfield 18, 3, 11, 9, 0, 0), (.aload_n 0, 1, 0, 0, 0, 0), (.getfield 79, 3, 11, 1, 0, 0), (.aaload, 1, 0, 0, 0, 0), (.iconst 0, 1, 0, 0, 0, 0), (.iconst 4, 1, 0, 0, 0, 0), (.invokestatic 113, 3, 100001, 0, 0, 0)]) (W59_ok G) (jj := fun q L st h o k n => EX G m_World_addDoor q L st h o k n Q) (fun q L st h o k n hq => hq) (by decide +kernel) ?_
  simp [exB, hJ, exT, stp, lv_args, Value.category, lkL, stL1, stL2, insL, contX, q_ofNat, f4_3, nI_1, -Int32.not_lt, -Int32.not_le, -Int64.not_lt, -Int64.not_le, R_World_addDoor, C_World_addDoor, M_World_addDoor, HH_World_addDoor, KI_4, KI_0, KI_1, KI_2, KI_3, -Int32.reduceOfInt, -Int8.reduceOfInt, -Int16.reduceOfInt, -Int32.ofInt_neg, TY_11_1, A_r, A_ri, A_rii, A_riii, A_riiii, A_rr, A_i, A_ii, A_iii, hW_0, hW_1, hW_2, hW_15, hW_hW, rfs_at, wR_0, wR_1, wR_2, wR_3, wR_4, wR_5, wR_6, wD_0, wD_1, wD_2, wD_3, wS_0, wS_1, wS_2, wS_3, wS_4, wS_5, hW_s0, hW_s1, hW_s2, hW_s3, hW_s4, hW_s5, hW_f9, hW_f10, hW_f11, hW_f7, hW_f8, hW_f6, hW_fc, vv4_0, vv4_1, vv4_2, vv4_3, vv6_0, vv6_1, vv6_2, vv6_3, vv6_4, vv6_5, vv7_0, vv7_1, vv7_2, vv7_3, vv7_4, vv7_5, vv7_6, cl_0, cl_1, cl_2, cl_3, cl_4, cl_5, cl_6, tI_0, tI_1, tI_or, hup_at, hup_nq n0, hup_nq n2, hup_nq nr, hW_d hlt, r3, nI_clamp (show nD s < 2 ^ 31 by omega), q_vp hlt (show 24 < 2 ^ 31 by decide), c4, e7]
  try simp (disch := omega) [-Int64.not_lt, -Int64.not_le, -Int32.not_lt, -Int32.not_le, nI_z, nI_ltI, nI_leI, nI_1, nI_clamp, q_vp, nI_pos', rget_k, rset_k, lget_k, hup_hup, A_r, A_ri, A_rii, A_riii, A_riiii, A_rr, A_i, A_ii, A_iii, hW_0, hW_1, hW_2, hW_15, hW_hW, rfs_at, wR_0, wR_1, wR_2, wR_3, wR_4, wR_5, wR_6, wD_0, wD_1, wD_2, wD_3, wS_0, wS_1, wS_2, wS_3, wS_4, wS_5, hW_s0, hW_s1, hW_s2, hW_s3, hW_s4, hW_s5, hW_f9, hW_f10, hW_f11, hW_f7, hW_f8, hW_f6, hW_fc, vv4_0, vv4_1, vv4_2, vv4_3, vv6_0, vv6_1, vv6_2, vv6_3, vv6_4, vv6_5, vv7_0, vv7_1, vv7_2, vv7_3, vv7_4, vv7_5, vv7_6, cl_0, cl_1, cl_2, cl_3, cl_4, cl_5, cl_6, tI_0, tI_1, tI_or, hup_at, hup_nq n0, hup_nq n2, hup_nq nr, hW_d hlt, r3, nI_clamp (show nD s < 2 ^ 31 by omega), q_vp hlt (show 24 < 2 ^ 31 by decide), c4, e7]
  exact fin _
end WB
def W60 (G : GG) : WF := (wcons 141 rx_World_addDoor (wcons 140 rx_World_addRoom (W59 G)))
theorem W60_ok (G : GG) : WOK G (W60 G) := (wcons_ok (fun _ _ _ _ hx => r_World_addDoor hx) (wcons_ok (fun _ _ _ _ hx => r_World_addRoom hx) (W59_ok G)))
