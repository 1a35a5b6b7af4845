/-! h2: a text is fed to the class (by gen/h2.py) -/
def B8 (b : Int32) : Prop := ∀ i, 8 ≤ i → bt b i = false
def sh8 (x b : Int32) : Int32 := (x <<< ((8 : Int32) &&& 31)) ||| b
theorem sh8_b {x b : Int32} (hb : B8 b) {j : Nat} (hj : j < 32) : bt (sh8 x b) j = if j < 8 then bt b j else bt x (j - 8) := by
  unfold sh8
  rw [b_or, b_shl8 x hj]
  by_cases c : j < 8
  · rw [if_pos c, decide_eq_false (show ¬ 8 ≤ j by omega), Bool.false_and, Bool.false_or]
  · rw [if_neg c, decide_eq_true (show 8 ≤ j by omega), hb j (by omega), Bool.true_and, Bool.or_false]
def pk4 (x a b c d : Int32) : Int32 := sh8 (sh8 (sh8 (sh8 x a) b) c) d
theorem byt_at {v b : Int32} {s : Nat} (hs : s ≤ 24) (hb : B8 b) (h : ∀ i, i < 8 → bt v (s + i) = bt b i) : byt v (nI s) = b := by
  unfold byt ush
  refine b_ext fun i hi => ?_
  rw [b_and, b_ushr s (by omega), b_255]
  by_cases c : i < 8
  · rw [decide_eq_true c, Bool.and_true, h i c]
  · rw [decide_eq_false c, Bool.and_false, hb i (by omega)]
theorem byt_pk {x a b c d : Int32} (ha : B8 a) (hb : B8 b) (hc : B8 c) (hd : B8 d) : byt (pk4 x a b c d) 24 = a ∧ byt (pk4 x a b c d) 16 = b ∧ byt (pk4 x a b c d) 8 = c ∧ byt (pk4 x a b c d) 0 = d := by
  unfold pk4
  refine ⟨byt_at (s := 24) (by decide) ha fun i hi => ?_, byt_at (s := 16) (by decide) hb fun i hi => ?_, byt_at (s := 8) (by decide) hc fun i hi => ?_, byt_at (s := 0) (by decide) hd fun i hi => ?_⟩
  · rw [sh8_b hd (by omega), if_neg (by omega), sh8_b hc (by omega), if_neg (by omega), sh8_b hb (by omega), if_neg (by omega), sh8_b ha (by omega), if_pos (by omega)]
    congr 1; omega
  · rw [sh8_b hd (by omega), if_neg (by omega), sh8_b hc (by omega), if_neg (by omega), sh8_b hb (by omega), if_pos (by omega)]
    congr 1; omega
  · rw [sh8_b hd (by omega), if_neg (by omega), sh8_b hc (by omega), if_pos (by omega)]
    congr 1; omega
  · rw [sh8_b hd (by omega), if_pos (by omega)]
    congr 1; omega
/-- five ints, grown by bytes -/
def wk (F : Nat → Int32) (B : Nat → Int32) : Nat → (Nat → Int32)
  | 0 => F
  | i + 1 => upd (wk F B i) (i / 4) (sh8 (wk F B i (i / 4)) (B i))
theorem wk_20 (F B : Nat → Int32) : ∀ k, k < 5 → wk F B 20 k = pk4 (F k) (B (4 * k)) (B (4 * k + 1)) (B (4 * k + 2)) (B (4 * k + 3)) := by
  intro k hk
  match k, hk with
  | 0, _ => rfl
  | 1, _ => rfl
  | 2, _ => rfl
  | 3, _ => rfl
  | 4, _ => rfl
theorem ap4_at {g : Nat → Int32} {f : Nat} {x a b c d : Int32} (ha : B8 a) (hb : B8 b) (hc : B8 c) (hd : B8 d) : ap4 g f (pk4 x a b c d) f = a ∧ ap4 g f (pk4 x a b c d) (f + 1) = b ∧ ap4 g f (pk4 x a b c d) (f + 2) = c ∧ ap4 g f (pk4 x a b c d) (f + 3) = d ∧ ∀ i, (i < f ∨ f + 4 ≤ i) → ap4 g f (pk4 x a b c d) i = g i := by
  obtain ⟨k1, k2, k3, k4⟩ := byt_pk (x := x) ha hb hc hd
  unfold ap4
  rw [k1, k2, k3, k4]
  unfold upd
  refine ⟨?_, ?_, ?_, ?_, fun i hi => ?_⟩
  · rw [if_neg (by omega), if_neg (by omega), if_neg (by omega), if_pos rfl]
  · rw [if_neg (by omega), if_neg (by omega), if_pos rfl]
  · rw [if_neg (by omega), if_pos rfl]
  · rw [if_pos rfl]
  · rw [if_neg (by omega), if_neg (by omega), if_neg (by omega), if_neg (by omega)]
theorem ap20_at {g F B : Nat → Int32} {f : Nat} (hB : ∀ i, i < 20 → B8 (B i)) : (∀ i, i < 20 → ap20 g f (wk F B 20 0) (wk F B 20 1) (wk F B 20 2) (wk F B 20 3) (wk F B 20 4) (f + i) = B i) ∧ ∀ i, i < f → ap20 g f (wk F B 20 0) (wk F B 20 1) (wk F B 20 2) (wk F B 20 3) (wk F B 20 4) i = g i := by
  rw [wk_20 F B 0 (by decide), wk_20 F B 1 (by decide), wk_20 F B 2 (by decide), wk_20 F B 3 (by decide), wk_20 F B 4 (by decide)]
  have H := fun (k : Nat) (hk : k < 5) (g : Nat → Int32) (p : Nat) => ap4_at (g := g) (f := p) (x := F k) (hB (4 * k) (by omega)) (hB (4 * k + 1) (by omega)) (hB (4 * k + 2) (by omega)) (hB (4 * k + 3) (by omega))
  unfold ap20
  generalize e0 : ap4 g f (pk4 (F 0) (B (4 * 0)) (B (4 * 0 + 1)) (B (4 * 0 + 2)) (B (4 * 0 + 3))) = g0
  have H0 := H 0 (by decide) g f; rw [e0] at H0
  generalize e1 : ap4 g0 (f + 4) (pk4 (F 1) (B (4 * 1)) (B (4 * 1 + 1)) (B (4 * 1 + 2)) (B (4 * 1 + 3))) = g1
  have H1 := H 1 (by decide) g0 (f + 4); rw [e1] at H1
  generalize e2 : ap4 g1 (f + 8) (pk4 (F 2) (B (4 * 2)) (B (4 * 2 + 1)) (B (4 * 2 + 2)) (B (4 * 2 + 3))) = g2
  have H2 := H 2 (by decide) g1 (f + 8); rw [e2] at H2
  generalize e3 : ap4 g2 (f + 12) (pk4 (F 3) (B (4 * 3)) (B (4 * 3 + 1)) (B (4 * 3 + 2)) (B (4 * 3 + 3))) = g3
  have H3 := H 3 (by decide) g2 (f + 12); rw [e3] at H3
  generalize e4 : ap4 g3 (f + 16) (pk4 (F 4) (B (4 * 4)) (B (4 * 4 + 1)) (B (4 * 4 + 2)) (B (4 * 4 + 3))) = g4
  have H4 := H 4 (by decide) g3 (f + 16); rw [e4] at H4
  clear H e0 e1 e2 e3 e4
  obtain ⟨a0, a1, a2, a3, a4⟩ := H0
  obtain ⟨b0, b1, b2, b3, b4⟩ := H1
  obtain ⟨c0, c1, c2, c3, c4⟩ := H2
  obtain ⟨d0, d1, d2, d3, d4⟩ := H3
  obtain ⟨f0, f1, f2, f3, f4⟩ := H4
  refine ⟨fun i hi => ?_, fun i hi => ?_⟩
  · rcases (show i < 4 ∨ (4 ≤ i ∧ i < 8) ∨ (8 ≤ i ∧ i < 12) ∨ (12 ≤ i ∧ i < 16) ∨ 16 ≤ i by omega) with h | h | h | h | h
    · rw [f4 _ (by omega), d4 _ (by omega), c4 _ (by omega), b4 _ (by omega)]
      match i, h with
      | 0, _ => exact a0
      | 1, _ => exact a1
      | 2, _ => exact a2
      | 3, _ => exact a3
    · rw [f4 _ (by omega), d4 _ (by omega), c4 _ (by omega)]
      obtain ⟨j, rfl⟩ : ∃ j, i = 4 + j := ⟨i - 4, by omega⟩
      rw [← Nat.add_assoc]
      have hj : j < 4 := by omega
      match j, hj with
      | 0, _ => exact b0
      | 1, _ => exact b1
      | 2, _ => exact b2
      | 3, _ => exact b3
    · rw [f4 _ (by omega), d4 _ (by omega)]
      obtain ⟨j, rfl⟩ : ∃ j, i = 8 + j := ⟨i - 8, by omega⟩
      rw [← Nat.add_assoc]
      have hj : j < 4 := by omega
      match j, hj with
      | 0, _ => exact c0
      | 1, _ => exact c1
      | 2, _ => exact c2
      | 3, _ => exact c3
    · rw [f4 _ (by omega)]
      obtain ⟨j, rfl⟩ : ∃ j, i = 12 + j := ⟨i - 12, by omega⟩
      rw [← Nat.add_assoc]
      have hj : j < 4 := by omega
      match j, hj with
      | 0, _ => exact d0
      | 1, _ => exact d1
      | 2, _ => exact d2
      | 3, _ => exact d3
    · obtain ⟨j, rfl⟩ : ∃ j, i = 16 + j := ⟨i - 16, by omega⟩
      rw [← Nat.add_assoc]
      have hj : j < 4 := by omega
      match j, hj with
      | 0, _ => exact f0
      | 1, _ => exact f1
      | 2, _ => exact f2
      | 3, _ => exact f3
  · rw [f4 _ (by omega), d4 _ (by omega), c4 _ (by omega), b4 _ (by omega), a4 _ (by omega)]
/-- a text at t, its bytes at b -/
def SEQ (h : HM) (t b : Nat) (l : List Int32) : Prop := (∃ cap f, BLD h t b cap f l) ∨ (∃ f, h t = some (strO b) ∧ h b = some (byA l.length f) ∧ (∀ i, i < l.length → f i = l.getD i 0) ∧ l.length ≤ 1802)
theorem SEQ_tr {h h2 : HM} {t b : Nat} {l : List Int32} (hs : SEQ h t b l) (e1 : h2 t = h t) (e2 : h2 b = h b) : SEQ h2 t b l := by
  rcases hs with ⟨cap, f, ⟨k1, k2⟩, k3⟩ | ⟨f, k1, k2, k3⟩
  · exact Or.inl ⟨cap, f, ⟨e1.trans k1, e2.trans k2⟩, k3⟩
  · exact Or.inr ⟨f, e1.trans k1, e2.trans k2, k3⟩
theorem SEQ_len {h : HM} {t b : Nat} {l : List Int32} (hs : SEQ h t b l) : l.length ≤ 1802 := by
  rcases hs with ⟨cap, f, -, -, k1, k2, -⟩ | ⟨f, -, -, -, k⟩
  · omega
  · exact k
section FD
variable {G : GG} {as : List Value} {h : HM} {o : Option Nat} {Q : XQ}
theorem HH_L_feeds : mHH 193 = [] := rfl
theorem W73_G_feed {G : GG} {as : List Value} {h : HM} {o : Option Nat} {Q : XQ} : RX G (W73 G) 84 as h o Q = rx_G_feed as h o Q := rfl
theorem W73_G_truncate {G : GG} {as : List Value} {h : HM} {o : Option Nat} {Q : XQ} : RX G (W73 G) 85 as h o Q = rx_G_truncate as h o Q := rfl
theorem W73_St_length {G : GG} {as : List Value} {h : HM} {o : Option Nat} {Q : XQ} : RX G (W73 G) 169 as h o Q = rx_St_length G as h o Q := rfl
theorem W73_St_charAt {G : GG} {as : List Value} {h : HM} {o : Option Nat} {Q : XQ} : RX G (W73 G) 170 as h o Q = rx_St_charAt G as h o Q := rfl
theorem W73_SB_charAt {G : GG} {as : List Value} {h : HM} {o : Option Nat} {Q : XQ} : RX G (W73 G) 181 as h o Q = rx_SB_charAt as h o Q := rfl
theorem W73_SB_length {G : GG} {as : List Value} {h : HM} {o : Option Nat} {Q : XQ} : RX G (W73 G) 182 as h o Q = rx_SB_length as h o Q := rfl
theorem fd_len {pc t b k n : Nat} {L : List (Nat × Value)} {st : List Value} {l : List Int32} (hc : chkB m_L_feeds pc [(.invokeinterface 16 1, 5, 182, 169, 0, 0)] = true) (hs : SEQ h t b l) (hst : st.length ≤ 4) (h1 : roomOK m_L_feeds m_SB_length k n = true) (h2 : roomOK m_L_feeds m_St_length k n = true) (kk : EX G m_L_feeds (pc + 5) L (.int (nI l.length) :: st) h o k n Q) : EX G m_L_feeds pc L (.ref t :: st) h o k n Q := by
  have hJ : True := trivial
  rcases id hs with ⟨cap, f, ⟨k1, k2⟩, k3⟩ | ⟨f, k1, k2, k3⟩
  · refine exB_ok (t := [(.invokeinterface 16 1, 5, 182, 169, 0, 0)]) (W73_ok G) (jj := fun q L st h o k n => EX G m_L_feeds q L st h o k n Q) (fun q L st h o k n hq => hq) hc ?_
    simp [exB, hJ, exT, stp, lv_args, Value.category, lkL, stL1, stL2, insL, contX, q_ofNat, f4_3, nI_1, -Int32.not_lt, -Int32.not_le, -Int64.not_lt, -Int64.not_le, T_L_feeds_9, T_L_feeds_23, T_L_feeds_72, T_L_feeds_74, T_L_feeds_82, T_L_feeds_108, T_L_feeds_146, T_L_feeds_150, T_L_feeds_151, R_L_feeds, C_L_feeds, M_L_feeds, HH_L_feeds, KI_0, KI_5, KB_20, KI_4, KB_8, KB_32, KI_1, KI_2, KI_3, KI_20, -Int32.reduceOfInt, -Int8.reduceOfInt, -Int16.reduceOfInt, -Int32.ofInt_neg, O_L_feeds_G_feed, C_G_feed, M_G_feed, W73_G_feed, rx_G_feed, O_L_feeds_G_truncate, C_G_truncate, M_G_truncate, W73_G_truncate, rx_G_truncate, O_L_feeds_St_length, C_St_length, M_St_length, W73_St_length, rx_St_length, O_L_feeds_St_charAt, C_St_charAt, M_St_charAt, W73_St_charAt, rx_St_charAt, O_L_feeds_SB_charAt, C_SB_charAt, M_SB_charAt, W73_SB_charAt, rx_SB_charAt, O_L_feeds_SB_length, C_SB_length, M_SB_length, W73_SB_length, rx_SB_length, k1, h1, hst]
    try simp (disch := omega) [-Int64.not_lt, -Int64.not_le, -Int32.not_lt, -Int32.not_le, nI_z, nI_ltI, nI_leI, nI_1, nI_clamp, q_vp, nI_pos', rget_k, rset_k, lget_k, hup_hup, k1, h1, hst]
    exact ⟨b, l.length, k1, kk⟩
  · refine exB_ok (t := [(.invokeinterface 16 1, 5, 182, 169, 0, 0)]) (W73_ok G) (jj := fun q L st h o k n => EX G m_L_feeds q L st h o k n Q) (fun q L st h o k n hq => hq) hc ?_
    simp [exB, hJ, exT, stp, lv_args, Value.category, lkL, stL1, stL2, insL, contX, q_ofNat, f4_3, nI_1, -Int32.not_lt, -Int32.not_le, -Int64.not_lt, -Int64.not_le, T_L_feeds_9, T_L_feeds_23, T_L_feeds_72, T_L_feeds_74, T_L_feeds_82, T_L_feeds_108, T_L_feeds_146, T_L_feeds_150, T_L_feeds_151, R_L_feeds, C_L_feeds, M_L_feeds, HH_L_feeds, KI_0, KI_5, KB_20, KI_4, KB_8, KB_32, KI_1, KI_2, KI_3, KI_20, -Int32.reduceOfInt, -Int8.reduceOfInt, -Int16.reduceOfInt, -Int32.ofInt_neg, O_L_feeds_G_feed, C_G_feed, M_G_feed, W73_G_feed, rx_G_feed, O_L_feeds_G_truncate, C_G_truncate, M_G_truncate, W73_G_truncate, rx_G_truncate, O_L_feeds_St_length, C_St_length, M_St_length, W73_St_length, rx_St_length, O_L_feeds_St_charAt, C_St_charAt, M_St_charAt, W73_St_charAt, rx_St_charAt, O_L_feeds_SB_charAt, C_SB_charAt, M_SB_charAt, W73_SB_charAt, rx_SB_charAt, O_L_feeds_SB_length, C_SB_length, M_SB_length, W73_SB_length, rx_SB_length, k1, h2, hst]
    try simp (disch := omega) [-Int64.not_lt, -Int64.not_le, -Int32.not_lt, -Int32.not_le, nI_z, nI_ltI, nI_leI, nI_1, nI_clamp, q_vp, nI_pos', rget_k, rset_k, lget_k, hup_hup, k1, h2, hst]
    exact ⟨l.length, ⟨f, Or.inr ⟨b, [.int 0, .int 0], k1, k2⟩⟩, kk⟩
theorem fd_chr {pc t b k n i : Nat} {L : List (Nat × Value)} {st : List Value} {l : List Int32} (hc : chkB m_L_feeds pc [(.invokeinterface 22 2, 5, 181, 170, 1, 0)] = true) (hs : SEQ h t b l) (hi : i < l.length) (hst : st.length ≤ 4) (h1 : roomOK m_L_feeds m_SB_charAt k n = true) (h2 : roomOK m_L_feeds m_St_charAt k n = true) (kk : EX G m_L_feeds (pc + 5) L (.int (l.getD i 0 &&& 255) :: st) h o k n Q) : EX G m_L_feeds pc L (.int (nI i) :: .ref t :: st) h o k n Q := by
  have hJ : True := trivial
  have hl := SEQ_len hs
  rcases id hs with ⟨cap, f, hB⟩ | ⟨f, k1, k2, k3, k4⟩
  · have k1 := hB.1.1
    refine exB_ok (t := [(.invokeinterface 22 2, 5, 181, 170, 1, 0)]) (W73_ok G) (jj := fun q L st h o k n => EX G m_L_feeds q L st h o k n Q) (fun q L st h o k n hq => hq) hc ?_
    simp [exB, hJ, exT, stp, lv_args, Value.category, lkL, stL1, stL2, insL, contX, q_ofNat, f4_3, nI_1, -Int32.not_lt, -Int32.not_le, -Int64.not_lt, -Int64.not_le, T_L_feeds_9, T_L_feeds_23, T_L_feeds_72, T_L_feeds_74, T_L_feeds_82, T_L_feeds_108, T_L_feeds_146, T_L_feeds_150, T_L_feeds_151, R_L_feeds, C_L_feeds, M_L_feeds, HH_L_feeds, KI_0, KI_5, KB_20, KI_4, KB_8, KB_32, KI_1, KI_2, KI_3, KI_20, -Int32.reduceOfInt, -Int8.reduceOfInt, -Int16.reduceOfInt, -Int32.ofInt_neg, O_L_feeds_G_feed, C_G_feed, M_G_feed, W73_G_feed, rx_G_feed, O_L_feeds_G_truncate, C_G_truncate, M_G_truncate, W73_G_truncate, rx_G_truncate, O_L_feeds_St_length, C_St_length, M_St_length, W73_St_length, rx_St_length, O_L_feeds_St_charAt, C_St_charAt, M_St_charAt, W73_St_charAt, rx_St_charAt, O_L_feeds_SB_charAt, C_SB_charAt, M_SB_charAt, W73_SB_charAt, rx_SB_charAt, O_L_feeds_SB_length, C_SB_length, M_SB_length, W73_SB_length, rx_SB_length, k1, h1, hst]
    try simp (disch := omega) [-Int64.not_lt, -Int64.not_le, -Int32.not_lt, -Int32.not_le, nI_z, nI_ltI, nI_leI, nI_1, nI_clamp, q_vp, nI_pos', rget_k, rset_k, lget_k, hup_hup, k1, h1, hst]
    exact ⟨b, cap, f, l, i, ⟨hB, rfl, hi⟩, kk⟩
  · refine exB_ok (t := [(.invokeinterface 22 2, 5, 181, 170, 1, 0)]) (W73_ok G) (jj := fun q L st h o k n => EX G m_L_feeds q L st h o k n Q) (fun q L st h o k n hq => hq) hc ?_
    simp [exB, hJ, exT, stp, lv_args, Value.category, lkL, stL1, stL2, insL, contX, q_ofNat, f4_3, nI_1, -Int32.not_lt, -Int32.not_le, -Int64.not_lt, -Int64.not_le, T_L_feeds_9, T_L_feeds_23, T_L_feeds_72, T_L_feeds_74, T_L_feeds_82, T_L_feeds_108, T_L_feeds_146, T_L_feeds_150, T_L_feeds_151, R_L_feeds, C_L_feeds, M_L_feeds, HH_L_feeds, KI_0, KI_5, KB_20, KI_4, KB_8, KB_32, KI_1, KI_2, KI_3, KI_20, -Int32.reduceOfInt, -Int8.reduceOfInt, -Int16.reduceOfInt, -Int32.ofInt_neg, O_L_feeds_G_feed, C_G_feed, M_G_feed, W73_G_feed, rx_G_feed, O_L_feeds_G_truncate, C_G_truncate, M_G_truncate, W73_G_truncate, rx_G_truncate, O_L_feeds_St_length, C_St_length, M_St_length, W73_St_length, rx_St_length, O_L_feeds_St_charAt, C_St_charAt, M_St_charAt, W73_St_charAt, rx_St_charAt, O_L_feeds_SB_charAt, C_SB_charAt, M_SB_charAt, W73_SB_charAt, rx_SB_charAt, O_L_feeds_SB_length, C_SB_length, M_SB_length, W73_SB_length, rx_SB_length, k1, h2, hst]
    try simp (disch := omega) [-Int64.not_lt, -Int64.not_le, -Int32.not_lt, -Int32.not_le, nI_z, nI_ltI, nI_leI, nI_1, nI_clamp, q_vp, nI_pos', rget_k, rset_k, lget_k, hup_hup, k1, h2, hst]
    rw [← k3 i hi] at kk
    refine ⟨l.length, f, ⟨Or.inr ⟨b, [.int 0, .int 0], k1, k2⟩, vp_in_nI hi (by omega), by omega⟩, ?_⟩
    rw [nI_clamp (by omega)]
    exact kk
theorem hG_hup {h0 : HM} {z q : Nat} {K : KT} {e : AE} (hq : ¬ (z ≤ q ∧ q < z + 207)) : hG (hup h0 q e) z K = hup (hG h0 z K) q e := by
  funext x
  by_cases hy : x = q
  · subst hy; rw [hup_at, hG_out hq, hup_at]
  · rw [hup_nq hy]
    by_cases c : z ≤ x ∧ x < z + 207
    · obtain ⟨i, hi, rfl⟩ : ∃ i, i < 207 ∧ x = z + i := ⟨x - z, by omega, by omega⟩
      rw [hG_at hi, hG_at hi]
    · rw [hG_out c, hG_out c, hup_nq hy]
/-- what byte i of the feeding is -/
def fdB (l : List Int32) (i : Nat) : Int32 := if i < l.length then l.getD i 0 &&& 255 else 32
theorem fdB_8 (l : List Int32) (i : Nat) : B8 (fdB l i) := by
  intro j hj
  unfold fdB
  split
  · rw [b_and, b_255, decide_eq_false (by omega), Bool.and_false]
  · by_cases c : j < 32
    · have k : ∀ j, j < 32 → 8 ≤ j → bt 32 j = false := by decide +kernel
      exact k j c hj
    · exact bt_32 (by omega)
theorem fd_in {q : Nat} {az t b z : Nat} {h0 : HM} {K : KT} {l : List Int32} {W0 : Nat → Int32} {got : Int32} (hs : ∀ e, SEQ (hG (hup h0 az e) z K) t b l) (haz : ¬ (z ≤ az ∧ az < z + 207)) (hq : q ≤ 2000)
    (hend : EX G m_L_feeds 82 [(0, .ref z), (1, .ref t), (2, .int got), (3, .ref az), (4, .int (nI q))] [] (hG (hup h0 az (ints 5 (wk W0 (fun i => fdB l (q + i)) 20))) z K) o 1 5 Q) :
    ∀ j i : Nat, i + j = 20 → EX G m_L_feeds 23 [(0, .ref z), (1, .ref t), (2, .int got), (3, .ref az), (4, .int (nI q)), (5, .int (nI i))] [] (hG (hup h0 az (ints 5 (wk W0 (fun i => fdB l (q + i)) i))) z K) o 1 5 Q := by
  have hJ : True := trivial
  have hz2 : ∀ (h1 : HM) e, hup (hG h1 z K) az e = hG (hup h1 az e) z K := fun h1 e => (hG_hup haz).symm
  have hz3 : ∀ (h1 : HM), hG h1 z K az = h1 az := fun h1 => hG_out haz
  intro j
  induction j with
  | zero =>
    intro i hi
    obtain rfl : i = 20 := by omega
    have l20 : (20 : Int32) ≤ nI 20 := by decide
    refine exB_ok (t := [(.iload 5, 2, 0, 0, 0, 0), (.bipush 20, 2, 0, 0, 0, 0), (.if_icmp .ge 55, 3, 82, 0, 0, 0)]) (W73_ok G) (jj := fun q L st h o k n => EX G m_L_feeds q L st h o k n Q) (fun q L st h o k n hq => hq) (by decide +kernel) ?_
    simp [exB, hJ, exT, stp, lv_args, Value.category, lkL, stL1, stL2, insL, contX, q_ofNat, f4_3, nI_1, -Int32.not_lt, -Int32.not_le, -Int64.not_lt, -Int64.not_le, T_L_feeds_9, T_L_feeds_23, T_L_feeds_72, T_L_feeds_74, T_L_feeds_82, T_L_feeds_108, T_L_feeds_146, T_L_feeds_150, T_L_feeds_151, R_L_feeds, C_L_feeds, M_L_feeds, HH_L_feeds, KI_0, KI_5, KB_20, KI_4, KB_8, KB_32, KI_1, KI_2, KI_3, KI_20, -Int32.reduceOfInt, -Int8.reduceOfInt, -Int16.reduceOfInt, -Int32.ofInt_neg, O_L_feeds_G_feed, C_G_feed, M_G_feed, W73_G_feed, rx_G_feed, O_L_feeds_G_truncate, C_G_truncate, M_G_truncate, W73_G_truncate, rx_G_truncate, O_L_feeds_St_length, C_St_length, M_St_length, W73_St_length, rx_St_length, O_L_feeds_St_charAt, C_St_charAt, M_St_charAt, W73_St_charAt, rx_St_charAt, O_L_feeds_SB_charAt, C_SB_charAt, M_SB_charAt, W73_SB_charAt, rx_SB_charAt, O_L_feeds_SB_length, C_SB_length, M_SB_length, W73_SB_length, rx_SB_length, l20]
    try simp (disch := omega) [-Int64.not_lt, -Int64.not_le, -Int32.not_lt, -Int32.not_le, nI_z, nI_ltI, nI_leI, nI_1, nI_clamp, q_vp, nI_pos', rget_k, rset_k, lget_k, hup_hup, l20]
    exact EX.subL (by simp [subL]) hend
  | succ j ih =>
    intro i hi
    have hI := ih (i + 1) (by omega)
    have hi20 : i < 20 := by omega
    have d4 : nI i / 4 = nI (i / 4) := pk_div (d := 4) (by omega) (by decide) (by decide)
    have ea : nI q + nI i = nI (q + i) := nI_add _ _
    have hw : wk W0 (fun i => fdB l (q + i)) (i + 1) = upd (wk W0 (fun i => fdB l (q + i)) i) (i / 4) ((wk W0 (fun i => fdB l (q + i)) i (i / 4) <<< ((8 : Int32) &&& 31)) ||| fdB l (q + i)) := rfl
    have hlt : nI i < 20 := (nI_ltI (b := 20) (by omega) (by decide)).mpr hi20
    rw [hw] at hI
    generalize wk W0 (fun i => fdB l (q + i)) i = F at hI ⊢
    have hs2 := hs (ints 5 F)
    have fin : EX G m_L_feeds 74 [(0, .ref z), (1, .ref t), (2, .int got), (3, .ref az), (4, .int (nI q)), (5, .int (nI i))] [.int (fdB l (q + i)), .int (F (i / 4) <<< ((8 : Int32) &&& 31)), .int (nI (i / 4)), .ref az] (hG (hup h0 az (ints 5 F)) z K) o 1 5 Q := by
      generalize fdB l (q + i) = B at hI ⊢
      generalize F (i / 4) <<< ((8 : Int32) &&& 31) = S at hI ⊢
      refine exB_ok (t := [(.ior, 1, 0, 0, 0, 0), (.iastore, 1, 0, 0, 0, 0)]) (W73_ok G) (jj := fun q L st h o k n => EX G m_L_feeds q L st h o k n Q) (fun q L st h o k n hq => hq) (by decide +kernel) ?_
      simp [exB, hJ, exT, stp, lv_args, Value.category, lkL, stL1, stL2, insL, contX, q_ofNat, f4_3, nI_1, -Int32.not_lt, -Int32.not_le, -Int64.not_lt, -Int64.not_le, T_L_feeds_9, T_L_feeds_23, T_L_feeds_72, T_L_feeds_74, T_L_feeds_82, T_L_feeds_108, T_L_feeds_146, T_L_feeds_150, T_L_feeds_151, R_L_feeds, C_L_feeds, M_L_feeds, HH_L_feeds, KI_0, KI_5, KB_20, KI_4, KB_8, KB_32, KI_1, KI_2, KI_3, KI_20, -Int32.reduceOfInt, -Int8.reduceOfInt, -Int16.reduceOfInt, -Int32.ofInt_neg, O_L_feeds_G_feed, C_G_feed, M_G_feed, W73_G_feed, rx_G_feed, O_L_feeds_G_truncate, C_G_truncate, M_G_truncate, W73_G_truncate, rx_G_truncate, O_L_feeds_St_length, C_St_length, M_St_length, W73_St_length, rx_St_length, O_L_feeds_St_charAt, C_St_charAt, M_St_charAt, W73_St_charAt, rx_St_charAt, O_L_feeds_SB_charAt, C_SB_charAt, M_SB_charAt, W73_SB_charAt, rx_SB_charAt, O_L_feeds_SB_length, C_SB_length, M_SB_length, W73_SB_length, rx_SB_length, hz2, hz3, hup_at, hup_hup, nI_clamp (show i / 4 < 2 ^ 31 by omega), q_vp (show i / 4 < 5 by omega) (show 5 < 2 ^ 31 by decide)]
      try simp (disch := omega) [-Int64.not_lt, -Int64.not_le, -Int32.not_lt, -Int32.not_le, nI_z, nI_ltI, nI_leI, nI_1, nI_clamp, q_vp, nI_pos', rget_k, rset_k, lget_k, hup_hup, hz2, hz3, hup_at, hup_hup, nI_clamp (show i / 4 < 2 ^ 31 by omega), q_vp (show i / 4 < 5 by omega) (show 5 < 2 ^ 31 by decide)]
      refine exB_ok (t := [(.iinc 5 1, 3, 0, 0, 0, 0), (.goto (-56), 3, 23, 0, 0, 0)]) (W73_ok G) (jj := fun q L st h o k n => EX G m_L_feeds q L st h o k n Q) (fun q L st h o k n hq => hq) (by decide +kernel) ?_
      simp [exB, hJ, exT, stp, lv_args, Value.category, lkL, stL1, stL2, insL, contX, q_ofNat, f4_3, nI_1, -Int32.not_lt, -Int32.not_le, -Int64.not_lt, -Int64.not_le, T_L_feeds_9, T_L_feeds_23, T_L_feeds_72, T_L_feeds_74, T_L_feeds_82, T_L_feeds_108, T_L_feeds_146, T_L_feeds_150, T_L_feeds_151, R_L_feeds, C_L_feeds, M_L_feeds, HH_L_feeds, KI_0, KI_5, KB_20, KI_4, KB_8, KB_32, KI_1, KI_2, KI_3, KI_20, -Int32.reduceOfInt, -Int8.reduceOfInt, -Int16.reduceOfInt, -Int32.ofInt_neg, O_L_feeds_G_feed, C_G_feed, M_G_feed, W73_G_feed, rx_G_feed, O_L_feeds_G_truncate, C_G_truncate, M_G_truncate, W73_G_truncate, rx_G_truncate, O_L_feeds_St_length, C_St_length, M_St_length, W73_St_length, rx_St_length, O_L_feeds_St_charAt, C_St_charAt, M_St_charAt, W73_St_charAt, rx_St_charAt, O_L_feeds_SB_charAt, C_SB_charAt, M_SB_charAt, W73_SB_charAt, rx_SB_charAt, O_L_feeds_SB_length, C_SB_length, M_SB_length, W73_SB_length, rx_SB_length]
      try simp (disch := omega) [-Int64.not_lt, -Int64.not_le, -Int32.not_lt, -Int32.not_le, nI_z, nI_ltI, nI_leI, nI_1, nI_clamp, q_vp, nI_pos', rget_k, rset_k, lget_k, hup_hup]
      exact hI
    refine exB_ok (t := [(.iload 5, 2, 0, 0, 0, 0), (.bipush 20, 2, 0, 0, 0, 0), (.if_icmp .ge 55, 3, 82, 0, 0, 0)]) (W73_ok G) (jj := fun q L st h o k n => EX G m_L_feeds q L st h o k n Q) (fun q L st h o k n hq => hq) (by decide +kernel) ?_
    simp [exB, hJ, exT, stp, lv_args, Value.category, lkL, stL1, stL2, insL, contX, q_ofNat, f4_3, nI_1, -Int32.not_lt, -Int32.not_le, -Int64.not_lt, -Int64.not_le, T_L_feeds_9, T_L_feeds_23, T_L_feeds_72, T_L_feeds_74, T_L_feeds_82, T_L_feeds_108, T_L_feeds_146, T_L_feeds_150, T_L_feeds_151, R_L_feeds, C_L_feeds, M_L_feeds, HH_L_feeds, KI_0, KI_5, KB_20, KI_4, KB_8, KB_32, KI_1, KI_2, KI_3, KI_20, -Int32.reduceOfInt, -Int8.reduceOfInt, -Int16.reduceOfInt, -Int32.ofInt_neg, O_L_feeds_G_feed, C_G_feed, M_G_feed, W73_G_feed, rx_G_feed, O_L_feeds_G_truncate, C_G_truncate, M_G_truncate, W73_G_truncate, rx_G_truncate, O_L_feeds_St_length, C_St_length, M_St_length, W73_St_length, rx_St_length, O_L_feeds_St_charAt, C_St_charAt, M_St_charAt, W73_St_charAt, rx_St_charAt, O_L_feeds_SB_charAt, C_SB_charAt, M_SB_charAt, W73_SB_charAt, rx_SB_charAt, O_L_feeds_SB_length, C_SB_length, M_SB_length, W73_SB_length, rx_SB_length, hlt, Int32.not_le.mpr hlt]
    try simp (disch := omega) [-Int64.not_lt, -Int64.not_le, -Int32.not_lt, -Int32.not_le, nI_z, nI_ltI, nI_leI, nI_1, nI_clamp, q_vp, nI_pos', rget_k, rset_k, lget_k, hup_hup, hlt, Int32.not_le.mpr hlt]
    refine exB_ok (t := [(.aload_n 3, 1, 0, 0, 0, 0), (.iload 5, 2, 0, 0, 0, 0), (.iconst 4, 1, 0, 0, 0, 0), (.idiv, 1, 0, 0, 0, 0), (.aload_n 3, 1, 0, 0, 0, 0), (.iload 5, 2, 0, 0, 0, 0), (.iconst 4, 1, 0, 0, 0, 0), (.idiv, 1, 0, 0, 0, 0), (.iaload, 1, 0, 0, 0, 0), (.bipush 8, 2, 0, 0, 0, 0), (.ishl, 1, 0, 0, 0, 0)]) (W73_ok G) (jj := fun q L st h o k n => EX G m_L_feeds q L st h o k n Q) (fun q L st h o k n hq => hq) (by decide +kernel) ?_
    simp [exB, hJ, exT, stp, lv_args, Value.category, lkL, stL1, stL2, insL, contX, q_ofNat, f4_3, nI_1, -Int32.not_lt, -Int32.not_le, -Int64.not_lt, -Int64.not_le, T_L_feeds_9, T_L_feeds_23, T_L_feeds_72, T_L_feeds_74, T_L_feeds_82, T_L_feeds_108, T_L_feeds_146, T_L_feeds_150, T_L_feeds_151, R_L_feeds, C_L_feeds, M_L_feeds, HH_L_feeds, KI_0, KI_5, KB_20, KI_4, KB_8, KB_32, KI_1, KI_2, KI_3, KI_20, -Int32.reduceOfInt, -Int8.reduceOfInt, -Int16.reduceOfInt, -Int32.ofInt_neg, O_L_feeds_G_feed, C_G_feed, M_G_feed, W73_G_feed, rx_G_feed, O_L_feeds_G_truncate, C_G_truncate, M_G_truncate, W73_G_truncate, rx_G_truncate, O_L_feeds_St_length, C_St_length, M_St_length, W73_St_length, rx_St_length, O_L_feeds_St_charAt, C_St_charAt, M_St_charAt, W73_St_charAt, rx_St_charAt, O_L_feeds_SB_charAt, C_SB_charAt, M_SB_charAt, W73_SB_charAt, rx_SB_charAt, O_L_feeds_SB_length, C_SB_length, M_SB_length, W73_SB_length, rx_SB_length, d4, hz3, hup_at, nI_clamp (show i / 4 < 2 ^ 31 by omega), q_vp (show i / 4 < 5 by omega) (show 5 < 2 ^ 31 by decide)]
    try simp (disch := omega) [-Int64.not_lt, -Int64.not_le, -Int32.not_lt, -Int32.not_le, nI_z, nI_ltI, nI_leI, nI_1, nI_clamp, q_vp, nI_pos', rget_k, rset_k, lget_k, hup_hup, d4, hz3, hup_at, nI_clamp (show i / 4 < 2 ^ 31 by omega), q_vp (show i / 4 < 5 by omega) (show 5 < 2 ^ 31 by decide)]
    generalize F (i / 4) <<< ((8 : Int32) &&& 31) = S at fin ⊢
    refine exB_ok (t := [(.iload 4, 2, 0, 0, 0, 0), (.iload 5, 2, 0, 0, 0, 0), (.iadd, 1, 0, 0, 0, 0), (.aload_n 1, 1, 0, 0, 0, 0)]) (W73_ok G) (jj := fun q L st h o k n => EX G m_L_feeds q L st h o k n Q) (fun q L st h o k n hq => hq) (by decide +kernel) ?_
    simp [exB, hJ, exT, stp, lv_args, Value.category, lkL, stL1, stL2, insL, contX, q_ofNat, f4_3, nI_1, -Int32.not_lt, -Int32.not_le, -Int64.not_lt, -Int64.not_le, T_L_feeds_9, T_L_feeds_23, T_L_feeds_72, T_L_feeds_74, T_L_feeds_82, T_L_feeds_108, T_L_feeds_146, T_L_feeds_150, T_L_feeds_151, R_L_feeds, C_L_feeds, M_L_feeds, HH_L_feeds, KI_0, KI_5, KB_20, KI_4, KB_8, KB_32, KI_1, KI_2, KI_3, KI_20, -Int32.reduceOfInt, -Int8.reduceOfInt, -Int16.reduceOfInt, -Int32.ofInt_neg, O_L_feeds_G_feed, C_G_feed, M_G_feed, W73_G_feed, rx_G_feed, O_L_feeds_G_truncate, C_G_truncate, M_G_truncate, W73_G_truncate, rx_G_truncate, O_L_feeds_St_length, C_St_length, M_St_length, W73_St_length, rx_St_length, O_L_feeds_St_charAt, C_St_charAt, M_St_charAt, W73_St_charAt, rx_St_charAt, O_L_feeds_SB_charAt, C_SB_charAt, M_SB_charAt, W73_SB_charAt, rx_SB_charAt, O_L_feeds_SB_length, C_SB_length, M_SB_length, W73_SB_length, rx_SB_length, ea]
    try simp (disch := omega) [-Int64.not_lt, -Int64.not_le, -Int32.not_lt, -Int32.not_le, nI_z, nI_ltI, nI_leI, nI_1, nI_clamp, q_vp, nI_pos', rget_k, rset_k, lget_k, hup_hup, ea]
    refine fd_len (l := l) (b := b) (by decide +kernel) hs2 (Nat.le_of_ble_eq_true rfl) (by decide +kernel) (by decide +kernel) ?_
    have hll := SEQ_len hs2
    by_cases c : q + i < l.length
    · have eB : fdB l (q + i) = l.getD (q + i) 0 &&& 255 := if_pos c
      have c2 : nI (q + i) < nI l.length := nI_lt c (by omega)
      rw [eB] at fin
      refine exB_ok (t := [(.if_icmp .ge 17, 3, 72, 0, 0, 0)]) (W73_ok G) (jj := fun q L st h o k n => EX G m_L_feeds q L st h o k n Q) (fun q L st h o k n hq => hq) (by decide +kernel) ?_
      simp [exB, hJ, exT, stp, lv_args, Value.category, lkL, stL1, stL2, insL, contX, q_ofNat, f4_3, nI_1, -Int32.not_lt, -Int32.not_le, -Int64.not_lt, -Int64.not_le, T_L_feeds_9, T_L_feeds_23, T_L_feeds_72, T_L_feeds_74, T_L_feeds_82, T_L_feeds_108, T_L_feeds_146, T_L_feeds_150, T_L_feeds_151, R_L_feeds, C_L_feeds, M_L_feeds, HH_L_feeds, KI_0, KI_5, KB_20, KI_4, KB_8, KB_32, KI_1, KI_2, KI_3, KI_20, -Int32.reduceOfInt, -Int8.reduceOfInt, -Int16.reduceOfInt, -Int32.ofInt_neg, O_L_feeds_G_feed, C_G_feed, M_G_feed, W73_G_feed, rx_G_feed, O_L_feeds_G_truncate, C_G_truncate, M_G_truncate, W73_G_truncate, rx_G_truncate, O_L_feeds_St_length, C_St_length, M_St_length, W73_St_length, rx_St_length, O_L_feeds_St_charAt, C_St_charAt, M_St_charAt, W73_St_charAt, rx_St_charAt, O_L_feeds_SB_charAt, C_SB_charAt, M_SB_charAt, W73_SB_charAt, rx_SB_charAt, O_L_feeds_SB_length, C_SB_length, M_SB_length, W73_SB_length, rx_SB_length, c2, Int32.not_le.mpr c2]
      try simp (disch := omega) [-Int64.not_lt, -Int64.not_le, -Int32.not_lt, -Int32.not_le, nI_z, nI_ltI, nI_leI, nI_1, nI_clamp, q_vp, nI_pos', rget_k, rset_k, lget_k, hup_hup, c2, Int32.not_le.mpr c2]
      refine exB_ok (t := [(.aload_n 1, 1, 0, 0, 0, 0), (.iload 4, 2, 0, 0, 0, 0), (.iload 5, 2, 0, 0, 0, 0), (.iadd, 1, 0, 0, 0, 0)]) (W73_ok G) (jj := fun q L st h o k n => EX G m_L_feeds q L st h o k n Q) (fun q L st h o k n hq => hq) (by decide +kernel) ?_
      simp [exB, hJ, exT, stp, lv_args, Value.category, lkL, stL1, stL2, insL, contX, q_ofNat, f4_3, nI_1, -Int32.not_lt, -Int32.not_le, -Int64.not_lt, -Int64.not_le, T_L_feeds_9, T_L_feeds_23, T_L_feeds_72, T_L_feeds_74, T_L_feeds_82, T_L_feeds_108, T_L_feeds_146, T_L_feeds_150, T_L_feeds_151, R_L_feeds, C_L_feeds, M_L_feeds, HH_L_feeds, KI_0, KI_5, KB_20, KI_4, KB_8, KB_32, KI_1, KI_2, KI_3, KI_20, -Int32.reduceOfInt, -Int8.reduceOfInt, -Int16.reduceOfInt, -Int32.ofInt_neg, O_L_feeds_G_feed, C_G_feed, M_G_feed, W73_G_feed, rx_G_feed, O_L_feeds_G_truncate, C_G_truncate, M_G_truncate, W73_G_truncate, rx_G_truncate, O_L_feeds_St_length, C_St_length, M_St_length, W73_St_length, rx_St_length, O_L_feeds_St_charAt, C_St_charAt, M_St_charAt, W73_St_charAt, rx_St_charAt, O_L_feeds_SB_charAt, C_SB_charAt, M_SB_charAt, W73_SB_charAt, rx_SB_charAt, O_L_feeds_SB_length, C_SB_length, M_SB_length, W73_SB_length, rx_SB_length, ea]
      try simp (disch := omega) [-Int64.not_lt, -Int64.not_le, -Int32.not_lt, -Int32.not_le, nI_z, nI_ltI, nI_leI, nI_1, nI_clamp, q_vp, nI_pos', rget_k, rset_k, lget_k, hup_hup, ea]
      refine fd_chr (l := l) (b := b) (by decide +kernel) hs2 c (Nat.le_of_ble_eq_true rfl) (by decide +kernel) (by decide +kernel) ?_
      generalize l.getD (q + i) 0 &&& 255 = B at fin ⊢
      refine exB_ok (t := [(.goto 5, 3, 74, 0, 0, 0)]) (W73_ok G) (jj := fun q L st h o k n => EX G m_L_feeds q L st h o k n Q) (fun q L st h o k n hq => hq) (by decide +kernel) ?_
      simp [exB, hJ, exT, stp, lv_args, Value.category, lkL, stL1, stL2, insL, contX, q_ofNat, f4_3, nI_1, -Int32.not_lt, -Int32.not_le, -Int64.not_lt, -Int64.not_le, T_L_feeds_9, T_L_feeds_23, T_L_feeds_72, T_L_feeds_74, T_L_feeds_82, T_L_feeds_108, T_L_feeds_146, T_L_feeds_150, T_L_feeds_151, R_L_feeds, C_L_feeds, M_L_feeds, HH_L_feeds, KI_0, KI_5, KB_20, KI_4, KB_8, KB_32, KI_1, KI_2, KI_3, KI_20, -Int32.reduceOfInt, -Int8.reduceOfInt, -Int16.reduceOfInt, -Int32.ofInt_neg, O_L_feeds_G_feed, C_G_feed, M_G_feed, W73_G_feed, rx_G_feed, O_L_feeds_G_truncate, C_G_truncate, M_G_truncate, W73_G_truncate, rx_G_truncate, O_L_feeds_St_length, C_St_length, M_St_length, W73_St_length, rx_St_length, O_L_feeds_St_charAt, C_St_charAt, M_St_charAt, W73_St_charAt, rx_St_charAt, O_L_feeds_SB_charAt, C_SB_charAt, M_SB_charAt, W73_SB_charAt, rx_SB_charAt, O_L_feeds_SB_length, C_SB_length, M_SB_length, W73_SB_length, rx_SB_length]
      try simp (disch := omega) [-Int64.not_lt, -Int64.not_le, -Int32.not_lt, -Int32.not_le, nI_z, nI_ltI, nI_leI, nI_1, nI_clamp, q_vp, nI_pos', rget_k, rset_k, lget_k, hup_hup]
      exact fin
    · have eB : fdB l (q + i) = 32 := if_neg c
      have c2 : nI l.length ≤ nI (q + i) := (nI_leI (by omega) (by omega)).mpr (by omega)
      rw [eB] at fin
      refine exB_ok (t := [(.if_icmp .ge 17, 3, 72, 0, 0, 0)]) (W73_ok G) (jj := fun q L st h o k n => EX G m_L_feeds q L st h o k n Q) (fun q L st h o k n hq => hq) (by decide +kernel) ?_
      simp [exB, hJ, exT, stp, lv_args, Value.category, lkL, stL1, stL2, insL, contX, q_ofNat, f4_3, nI_1, -Int32.not_lt, -Int32.not_le, -Int64.not_lt, -Int64.not_le, T_L_feeds_9, T_L_feeds_23, T_L_feeds_72, T_L_feeds_74, T_L_feeds_82, T_L_feeds_108, T_L_feeds_146, T_L_feeds_150, T_L_feeds_151, R_L_feeds, C_L_feeds, M_L_feeds, HH_L_feeds, KI_0, KI_5, KB_20, KI_4, KB_8, KB_32, KI_1, KI_2, KI_3, KI_20, -Int32.reduceOfInt, -Int8.reduceOfInt, -Int16.reduceOfInt, -Int32.ofInt_neg, O_L_feeds_G_feed, C_G_feed, M_G_feed, W73_G_feed, rx_G_feed, O_L_feeds_G_truncate, C_G_truncate, M_G_truncate, W73_G_truncate, rx_G_truncate, O_L_feeds_St_length, C_St_length, M_St_length, W73_St_length, rx_St_length, O_L_feeds_St_charAt, C_St_charAt, M_St_charAt, W73_St_charAt, rx_St_charAt, O_L_feeds_SB_charAt, C_SB_charAt, M_SB_charAt, W73_SB_charAt, rx_SB_charAt, O_L_feeds_SB_length, C_SB_length, M_SB_length, W73_SB_length, rx_SB_length, c2]
      try simp (disch := omega) [-Int64.not_lt, -Int64.not_le, -Int32.not_lt, -Int32.not_le, nI_z, nI_ltI, nI_leI, nI_1, nI_clamp, q_vp, nI_pos', rget_k, rset_k, lget_k, hup_hup, c2]
      refine exB_ok (t := [(.bipush 32, 2, 0, 0, 0, 0)]) (W73_ok G) (jj := fun q L st h o k n => EX G m_L_feeds q L st h o k n Q) (fun q L st h o k n hq => hq) (by decide +kernel) ?_
      simp [exB, hJ, exT, stp, lv_args, Value.category, lkL, stL1, stL2, insL, contX, q_ofNat, f4_3, nI_1, -Int32.not_lt, -Int32.not_le, -Int64.not_lt, -Int64.not_le, T_L_feeds_9, T_L_feeds_23, T_L_feeds_72, T_L_feeds_74, T_L_feeds_82, T_L_feeds_108, T_L_feeds_146, T_L_feeds_150, T_L_feeds_151, R_L_feeds, C_L_feeds, M_L_feeds, HH_L_feeds, KI_0, KI_5, KB_20, KI_4, KB_8, KB_32, KI_1, KI_2, KI_3, KI_20, -Int32.reduceOfInt, -Int8.reduceOfInt, -Int16.reduceOfInt, -Int32.ofInt_neg, O_L_feeds_G_feed, C_G_feed, M_G_feed, W73_G_feed, rx_G_feed, O_L_feeds_G_truncate, C_G_truncate, M_G_truncate, W73_G_truncate, rx_G_truncate, O_L_feeds_St_length, C_St_length, M_St_length, W73_St_length, rx_St_length, O_L_feeds_St_charAt, C_St_charAt, M_St_charAt, W73_St_charAt, rx_St_charAt, O_L_feeds_SB_charAt, C_SB_charAt, M_SB_charAt, W73_SB_charAt, rx_SB_charAt, O_L_feeds_SB_length, C_SB_length, M_SB_length, W73_SB_length, rx_SB_length]
      try simp (disch := omega) [-Int64.not_lt, -Int64.not_le, -Int32.not_lt, -Int32.not_le, nI_z, nI_ltI, nI_leI, nI_1, nI_clamp, q_vp, nI_pos', rget_k, rset_k, lget_k, hup_hup]
      exact fin
theorem LIV_f {K : KT} {s : Nat → Int32} {g : Nat → Int32} (hI : LIV K s) : LIV (K.1, K.2.1, K.2.2.1, K.2.2.2.1, K.2.2.2.2.1, K.2.2.2.2.2.1, K.2.2.2.2.2.2.1, K.2.2.2.2.2.2.2.1, K.2.2.2.2.2.2.2.2.1, 0, g, K.2.2.2.2.2.2.2.2.2.2.2.1, K.2.2.2.2.2.2.2.2.2.2.2.2.1, K.2.2.2.2.2.2.2.2.2.2.2.2.2.1, K.2.2.2.2.2.2.2.2.2.2.2.2.2.2.1, K.2.2.2.2.2.2.2.2.2.2.2.2.2.2.2.1, K.2.2.2.2.2.2.2.2.2.2.2.2.2.2.2.2.1, K.2.2.2.2.2.2.2.2.2.2.2.2.2.2.2.2.2.1, K.2.2.2.2.2.2.2.2.2.2.2.2.2.2.2.2.2.2.1, K.2.2.2.2.2.2.2.2.2.2.2.2.2.2.2.2.2.2.2.1, K.2.2.2.2.2.2.2.2.2.2.2.2.2.2.2.2.2.2.2.2.1, K.2.2.2.2.2.2.2.2.2.2.2.2.2.2.2.2.2.2.2.2.2.1, K.2.2.2.2.2.2.2.2.2.2.2.2.2.2.2.2.2.2.2.2.2.2.1, K.2.2.2.2.2.2.2.2.2.2.2.2.2.2.2.2.2.2.2.2.2.2.2.1, K.2.2.2.2.2.2.2.2.2.2.2.2.2.2.2.2.2.2.2.2.2.2.2.2.1, K.2.2.2.2.2.2.2.2.2.2.2.2.2.2.2.2.2.2.2.2.2.2.2.2.2.1, K.2.2.2.2.2.2.2.2.2.2.2.2.2.2.2.2.2.2.2.2.2.2.2.2.2.2.1, K.2.2.2.2.2.2.2.2.2.2.2.2.2.2.2.2.2.2.2.2.2.2.2.2.2.2.2.1, K.2.2.2.2.2.2.2.2.2.2.2.2.2.2.2.2.2.2.2.2.2.2.2.2.2.2.2.2.1, K.2.2.2.2.2.2.2.2.2.2.2.2.2.2.2.2.2.2.2.2.2.2.2.2.2.2.2.2.2.1, K.2.2.2.2.2.2.2.2.2.2.2.2.2.2.2.2.2.2.2.2.2.2.2.2.2.2.2.2.2.2.1, K.2.2.2.2.2.2.2.2.2.2.2.2.2.2.2.2.2.2.2.2.2.2.2.2.2.2.2.2.2.2.2.1, K.2.2.2.2.2.2.2.2.2.2.2.2.2.2.2.2.2.2.2.2.2.2.2.2.2.2.2.2.2.2.2.2.1, K.2.2.2.2.2.2.2.2.2.2.2.2.2.2.2.2.2.2.2.2.2.2.2.2.2.2.2.2.2.2.2.2.2) s := by
  obtain ⟨h1, h2, h3, h4, h5⟩ := hI
  exact ⟨h1, h2, h3, h4, rfl⟩
/-- the class with a text in its buffer -/
abbrev kB (K : KT) (g : Nat → Int32) (f : Nat) : KT := (K.1, K.2.1, K.2.2.1, K.2.2.2.1, K.2.2.2.2.1, K.2.2.2.2.2.1, K.2.2.2.2.2.2.1, K.2.2.2.2.2.2.2.1, K.2.2.2.2.2.2.2.2.1, nI f, g, K.2.2.2.2.2.2.2.2.2.2.2.1, K.2.2.2.2.2.2.2.2.2.2.2.2.1, K.2.2.2.2.2.2.2.2.2.2.2.2.2.1, K.2.2.2.2.2.2.2.2.2.2.2.2.2.2.1, K.2.2.2.2.2.2.2.2.2.2.2.2.2.2.2.1, K.2.2.2.2.2.2.2.2.2.2.2.2.2.2.2.2.1, K.2.2.2.2.2.2.2.2.2.2.2.2.2.2.2.2.2.1, K.2.2.2.2.2.2.2.2.2.2.2.2.2.2.2.2.2.2.1, K.2.2.2.2.2.2.2.2.2.2.2.2.2.2.2.2.2.2.2.1, K.2.2.2.2.2.2.2.2.2.2.2.2.2.2.2.2.2.2.2.2.1, K.2.2.2.2.2.2.2.2.2.2.2.2.2.2.2.2.2.2.2.2.2.1, K.2.2.2.2.2.2.2.2.2.2.2.2.2.2.2.2.2.2.2.2.2.2.1, K.2.2.2.2.2.2.2.2.2.2.2.2.2.2.2.2.2.2.2.2.2.2.2.1, K.2.2.2.2.2.2.2.2.2.2.2.2.2.2.2.2.2.2.2.2.2.2.2.2.1, K.2.2.2.2.2.2.2.2.2.2.2.2.2.2.2.2.2.2.2.2.2.2.2.2.2.1, K.2.2.2.2.2.2.2.2.2.2.2.2.2.2.2.2.2.2.2.2.2.2.2.2.2.2.1, K.2.2.2.2.2.2.2.2.2.2.2.2.2.2.2.2.2.2.2.2.2.2.2.2.2.2.2.1, K.2.2.2.2.2.2.2.2.2.2.2.2.2.2.2.2.2.2.2.2.2.2.2.2.2.2.2.2.1, K.2.2.2.2.2.2.2.2.2.2.2.2.2.2.2.2.2.2.2.2.2.2.2.2.2.2.2.2.2.1, K.2.2.2.2.2.2.2.2.2.2.2.2.2.2.2.2.2.2.2.2.2.2.2.2.2.2.2.2.2.2.1, K.2.2.2.2.2.2.2.2.2.2.2.2.2.2.2.2.2.2.2.2.2.2.2.2.2.2.2.2.2.2.2.1, K.2.2.2.2.2.2.2.2.2.2.2.2.2.2.2.2.2.2.2.2.2.2.2.2.2.2.2.2.2.2.2.2.1, K.2.2.2.2.2.2.2.2.2.2.2.2.2.2.2.2.2.2.2.2.2.2.2.2.2.2.2.2.2.2.2.2.2)
theorem fd_out {az t b z : Nat} {h0 : HM} {K : KT} {l : List Int32} (hs : ∀ (K : KT) e, SEQ (hG (hup h0 az e) z K) t b l) (haz : ¬ (z ≤ az ∧ az < z + 207)) (hok : GOK K) (hl : l.length ≤ 600)
    (hend : ∀ g W q, l.length ≤ 20 * q → 20 * q ≤ 600 → (∀ i, i < l.length → g i = fdB l i) → EX G m_L_feeds 108 [(0, .ref z), (1, .ref t), (2, .int (nI (20 * q)))] [] (hG (hup h0 az (ints 5 W)) z (kB K g (20 * q))) o 1 5 Q) :
    ∀ j q : Nat, q + j = 31 → ∀ g W, (q = 0 ∨ 20 * (q - 1) < l.length) → (∀ i, i < 20 * q → g i = fdB l i) → EX G m_L_feeds 9 [(0, .ref z), (1, .ref t), (2, .int (nI (20 * q))), (3, .ref az), (4, .int (nI (20 * q)))] [] (hG (hup h0 az (ints 5 W)) z (kB K g (20 * q))) o 1 5 Q := by
  have hJ : True := trivial
  intro j
  induction j with
  | zero => intro q hq g W h1 h2; omega
  | succ j ih =>
    intro q hq g W h1 h2
    have hs2 := hs (kB K g (20 * q)) (ints 5 W)
    refine exB_ok (t := [(.iload 4, 2, 0, 0, 0, 0), (.aload_n 1, 1, 0, 0, 0, 0)]) (W73_ok G) (jj := fun q L st h o k n => EX G m_L_feeds q L st h o k n Q) (fun q L st h o k n hq => hq) (by decide +kernel) ?_
    simp [exB, hJ, exT, stp, lv_args, Value.category, lkL, stL1, stL2, insL, contX, q_ofNat, f4_3, nI_1, -Int32.not_lt, -Int32.not_le, -Int64.not_lt, -Int64.not_le, T_L_feeds_9, T_L_feeds_23, T_L_feeds_72, T_L_feeds_74, T_L_feeds_82, T_L_feeds_108, T_L_feeds_146, T_L_feeds_150, T_L_feeds_151, R_L_feeds, C_L_feeds, M_L_feeds, HH_L_feeds, KI_0, KI_5, KB_20, KI_4, KB_8, KB_32, KI_1, KI_2, KI_3, KI_20, -Int32.reduceOfInt, -Int8.reduceOfInt, -Int16.reduceOfInt, -Int32.ofInt_neg, O_L_feeds_G_feed, C_G_feed, M_G_feed, W73_G_feed, rx_G_feed, O_L_feeds_G_truncate, C_G_truncate, M_G_truncate, W73_G_truncate, rx_G_truncate, O_L_feeds_St_length, C_St_length, M_St_length, W73_St_length, rx_St_length, O_L_feeds_St_charAt, C_St_charAt, M_St_charAt, W73_St_charAt, rx_St_charAt, O_L_feeds_SB_charAt, C_SB_charAt, M_SB_charAt, W73_SB_charAt, rx_SB_charAt, O_L_feeds_SB_length, C_SB_length, M_SB_length, W73_SB_length, rx_SB_length]
    try simp (disch := omega) [-Int64.not_lt, -Int64.not_le, -Int32.not_lt, -Int32.not_le, nI_z, nI_ltI, nI_leI, nI_1, nI_clamp, q_vp, nI_pos', rget_k, rset_k, lget_k, hup_hup]
    refine fd_len (l := l) (b := b) (by decide +kernel) hs2 (Nat.le_of_ble_eq_true rfl) (by decide +kernel) (by decide +kernel) ?_
    by_cases c : l.length ≤ 20 * q
    · have c2 : nI l.length ≤ nI (20 * q) := (nI_leI (by omega) (by omega)).mpr c
      have hE := hend g W q c (by omega) (fun i hi => h2 i (by omega))
      refine exB_ok (t := [(.if_icmp .ge 91, 3, 108, 0, 0, 0)]) (W73_ok G) (jj := fun q L st h o k n => EX G m_L_feeds q L st h o k n Q) (fun q L st h o k n hq => hq) (by decide +kernel) ?_
      simp [exB, hJ, exT, stp, lv_args, Value.category, lkL, stL1, stL2, insL, contX, q_ofNat, f4_3, nI_1, -Int32.not_lt, -Int32.not_le, -Int64.not_lt, -Int64.not_le, T_L_feeds_9, T_L_feeds_23, T_L_feeds_72, T_L_feeds_74, T_L_feeds_82, T_L_feeds_108, T_L_feeds_146, T_L_feeds_150, T_L_feeds_151, R_L_feeds, C_L_feeds, M_L_feeds, HH_L_feeds, KI_0, KI_5, KB_20, KI_4, KB_8, KB_32, KI_1, KI_2, KI_3, KI_20, -Int32.reduceOfInt, -Int8.reduceOfInt, -Int16.reduceOfInt, -Int32.ofInt_neg, O_L_feeds_G_feed, C_G_feed, M_G_feed, W73_G_feed, rx_G_feed, O_L_feeds_G_truncate, C_G_truncate, M_G_truncate, W73_G_truncate, rx_G_truncate, O_L_feeds_St_length, C_St_length, M_St_length, W73_St_length, rx_St_length, O_L_feeds_St_charAt, C_St_charAt, M_St_charAt, W73_St_charAt, rx_St_charAt, O_L_feeds_SB_charAt, C_SB_charAt, M_SB_charAt, W73_SB_charAt, rx_SB_charAt, O_L_feeds_SB_length, C_SB_length, M_SB_length, W73_SB_length, rx_SB_length, c2]
      try simp (disch := omega) [-Int64.not_lt, -Int64.not_le, -Int32.not_lt, -Int32.not_le, nI_z, nI_ltI, nI_leI, nI_1, nI_clamp, q_vp, nI_pos', rget_k, rset_k, lget_k, hup_hup, c2]
      exact EX.subL (by simp [subL]) hE
    · have c2 : nI (20 * q) < nI l.length := nI_lt (by omega) (by omega)
      have h20 : 20 * q + 20 ≤ 600 := by omega
      obtain ⟨F, eF⟩ : ∃ F, F = wk W (fun i => fdB l (20 * q + i)) 20 := ⟨_, rfl⟩
      obtain ⟨a1, a2⟩ := ap20_at (g := g) (F := W) (B := fun i => fdB l (20 * q + i)) (f := 20 * q) (fun i _ => fdB_8 l _)
      rw [← eF] at a1 a2
      have hI := ih (q + 1) (by omega) (ap20 g (20 * q) (F 0) (F 1) (F 2) (F 3) (F 4)) F (Or.inr (by omega)) (fun i hi => by
        rcases Nat.lt_or_ge i (20 * q) with h | h
        · rw [a2 i h]; exact h2 i h
        · have := a1 (i - 20 * q) (by omega)
          rw [show 20 * q + (i - 20 * q) = i by omega] at this
          exact this)
      have hin := fd_in (G := G) (o := o) (Q := Q) (q := 20 * q) (got := nI (20 * q)) (W0 := W) (hs (kB K g (20 * q))) haz (by omega) ?_ 20 0 (by omega)
      · refine exB_ok (t := [(.if_icmp .ge 91, 3, 108, 0, 0, 0)]) (W73_ok G) (jj := fun q L st h o k n => EX G m_L_feeds q L st h o k n Q) (fun q L st h o k n hq => hq) (by decide +kernel) ?_
        simp [exB, hJ, exT, stp, lv_args, Value.category, lkL, stL1, stL2, insL, contX, q_ofNat, f4_3, nI_1, -Int32.not_lt, -Int32.not_le, -Int64.not_lt, -Int64.not_le, T_L_feeds_9, T_L_feeds_23, T_L_feeds_72, T_L_feeds_74, T_L_feeds_82, T_L_feeds_108, T_L_feeds_146, T_L_feeds_150, T_L_feeds_151, R_L_feeds, C_L_feeds, M_L_feeds, HH_L_feeds, KI_0, KI_5, KB_20, KI_4, KB_8, KB_32, KI_1, KI_2, KI_3, KI_20, -Int32.reduceOfInt, -Int8.reduceOfInt, -Int16.reduceOfInt, -Int32.ofInt_neg, O_L_feeds_G_feed, C_G_feed, M_G_feed, W73_G_feed, rx_G_feed, O_L_feeds_G_truncate, C_G_truncate, M_G_truncate, W73_G_truncate, rx_G_truncate, O_L_feeds_St_length, C_St_length, M_St_length, W73_St_length, rx_St_length, O_L_feeds_St_charAt, C_St_charAt, M_St_charAt, W73_St_charAt, rx_St_charAt, O_L_feeds_SB_charAt, C_SB_charAt, M_SB_charAt, W73_SB_charAt, rx_SB_charAt, O_L_feeds_SB_length, C_SB_length, M_SB_length, W73_SB_length, rx_SB_length, c2, Int32.not_le.mpr c2]
        try simp (disch := omega) [-Int64.not_lt, -Int64.not_le, -Int32.not_lt, -Int32.not_le, nI_z, nI_ltI, nI_leI, nI_1, nI_clamp, q_vp, nI_pos', rget_k, rset_k, lget_k, hup_hup, c2, Int32.not_le.mpr c2]
        refine exB_ok (t := [(.iconst 0, 1, 0, 0, 0, 0), (.istore 5, 2, 0, 0, 0, 0)]) (W73_ok G) (jj := fun q L st h o k n => EX G m_L_feeds q L st h o k n Q) (fun q L st h o k n hq => hq) (by decide +kernel) ?_
        simp [exB, hJ, exT, stp, lv_args, Value.category, lkL, stL1, stL2, insL, contX, q_ofNat, f4_3, nI_1, -Int32.not_lt, -Int32.not_le, -Int64.not_lt, -Int64.not_le, T_L_feeds_9, T_L_feeds_23, T_L_feeds_72, T_L_feeds_74, T_L_feeds_82, T_L_feeds_108, T_L_feeds_146, T_L_feeds_150, T_L_feeds_151, R_L_feeds, C_L_feeds, M_L_feeds, HH_L_feeds, KI_0, KI_5, KB_20, KI_4, KB_8, KB_32, KI_1, KI_2, KI_3, KI_20, -Int32.reduceOfInt, -Int8.reduceOfInt, -Int16.reduceOfInt, -Int32.ofInt_neg, O_L_feeds_G_feed, C_G_feed, M_G_feed, W73_G_feed, rx_G_feed, O_L_feeds_G_truncate, C_G_truncate, M_G_truncate, W73_G_truncate, rx_G_truncate, O_L_feeds_St_length, C_St_length, M_St_length, W73_St_length, rx_St_length, O_L_feeds_St_charAt, C_St_charAt, M_St_charAt, W73_St_charAt, rx_St_charAt, O_L_feeds_SB_charAt, C_SB_charAt, M_SB_charAt, W73_SB_charAt, rx_SB_charAt, O_L_feeds_SB_length, C_SB_length, M_SB_length, W73_SB_length, rx_SB_length]
        try simp (disch := omega) [-Int64.not_lt, -Int64.not_le, -Int32.not_lt, -Int32.not_le, nI_z, nI_ltI, nI_leI, nI_1, nI_clamp, q_vp, nI_pos', rget_k, rset_k, lget_k, hup_hup]
        exact hin
      · rw [← eF]
        have hz3 : ∀ (h1 : HM) (K : KT), hG h1 z K az = h1 az := fun h1 K => hG_out haz
        obtain ⟨fs, hzz⟩ : ∃ fs, hG (hup h0 az (ints 5 F)) z (kB K g (20 * q)) z = some (.inr (10, fs)) := ⟨_, hG_0⟩
        have room1 : roomOK m_L_feeds m_G_feed 1 5 = true := by decide +kernel
        rw [show 20 * (q + 1) = 20 * q + 20 by omega] at hI
        refine exB_ok (t := [(.aload_n 0, 1, 0, 0, 0, 0), (.aload_n 3, 1, 0, 0, 0, 0), (.iconst 0, 1, 0, 0, 0, 0), (.iaload, 1, 0, 0, 0, 0), (.aload_n 3, 1, 0, 0, 0, 0), (.iconst 1, 1, 0, 0, 0, 0), (.iaload, 1, 0, 0, 0, 0), (.aload_n 3, 1, 0, 0, 0, 0), (.iconst 2, 1, 0, 0, 0, 0), (.iaload, 1, 0, 0, 0, 0), (.aload_n 3, 1, 0, 0, 0, 0), (.iconst 3, 1, 0, 0, 0, 0), (.iaload, 1, 0, 0, 0, 0), (.aload_n 3, 1, 0, 0, 0, 0), (.iconst 4, 1, 0, 0, 0, 0), (.iaload, 1, 0, 0, 0, 0)]) (W73_ok G) (jj := fun q L st h o k n => EX G m_L_feeds q L st h o k n Q) (fun q L st h o k n hq => hq) (by decide +kernel) ?_
        simp [exB, hJ, exT, stp, lv_args, Value.category, lkL, stL1, stL2, insL, contX, q_ofNat, f4_3, nI_1, -Int32.not_lt, -Int32.not_le, -Int64.not_lt, -Int64.not_le, T_L_feeds_9, T_L_feeds_23, T_L_feeds_72, T_L_feeds_74, T_L_feeds_82, T_L_feeds_108, T_L_feeds_146, T_L_feeds_150, T_L_feeds_151, R_L_feeds, C_L_feeds, M_L_feeds, HH_L_feeds, KI_0, KI_5, KB_20, KI_4, KB_8, KB_32, KI_1, KI_2, KI_3, KI_20, -Int32.reduceOfInt, -Int8.reduceOfInt, -Int16.reduceOfInt, -Int32.ofInt_neg, O_L_feeds_G_feed, C_G_feed, M_G_feed, W73_G_feed, rx_G_feed, O_L_feeds_G_truncate, C_G_truncate, M_G_truncate, W73_G_truncate, rx_G_truncate, O_L_feeds_St_length, C_St_length, M_St_length, W73_St_length, rx_St_length, O_L_feeds_St_charAt, C_St_charAt, M_St_charAt, W73_St_charAt, rx_St_charAt, O_L_feeds_SB_charAt, C_SB_charAt, M_SB_charAt, W73_SB_charAt, rx_SB_charAt, O_L_feeds_SB_length, C_SB_length, M_SB_length, W73_SB_length, rx_SB_length, hz3, hup_at, vv5_0, vv5_1, vv5_2, vv5_3, vv5_4, cl_0, cl_1, cl_2, cl_3, cl_4]
        try simp (disch := omega) [-Int64.not_lt, -Int64.not_le, -Int32.not_lt, -Int32.not_le, nI_z, nI_ltI, nI_leI, nI_1, nI_clamp, q_vp, nI_pos', rget_k, rset_k, lget_k, hup_hup, hz3, hup_at, vv5_0, vv5_1, vv5_2, vv5_3, vv5_4, cl_0, cl_1, cl_2, cl_3, cl_4]
        refine exB_ok (t := [(.invokevirtual 26, 3, 84, 0, 5, 10)]) (W73_ok G) (jj := fun q L st h o k n => EX G m_L_feeds q L st h o k n Q) (fun q L st h o k n hq => hq) (by decide +kernel) ?_
        simp [exB, hJ, exT, stp, lv_args, Value.category, lkL, stL1, stL2, insL, contX, q_ofNat, f4_3, nI_1, -Int32.not_lt, -Int32.not_le, -Int64.not_lt, -Int64.not_le, T_L_feeds_9, T_L_feeds_23, T_L_feeds_72, T_L_feeds_74, T_L_feeds_82, T_L_feeds_108, T_L_feeds_146, T_L_feeds_150, T_L_feeds_151, R_L_feeds, C_L_feeds, M_L_feeds, HH_L_feeds, KI_0, KI_5, KB_20, KI_4, KB_8, KB_32, KI_1, KI_2, KI_3, KI_20, -Int32.reduceOfInt, -Int8.reduceOfInt, -Int16.reduceOfInt, -Int32.ofInt_neg, O_L_feeds_G_feed, C_G_feed, M_G_feed, W73_G_feed, rx_G_feed, O_L_feeds_G_truncate, C_G_truncate, M_G_truncate, W73_G_truncate, rx_G_truncate, O_L_feeds_St_length, C_St_length, M_St_length, W73_St_length, rx_St_length, O_L_feeds_St_charAt, C_St_charAt, M_St_charAt, W73_St_charAt, rx_St_charAt, O_L_feeds_SB_charAt, C_SB_charAt, M_SB_charAt, W73_SB_charAt, rx_SB_charAt, O_L_feeds_SB_length, C_SB_length, M_SB_length, W73_SB_length, rx_SB_length, hzz, A_r5, rx_G_feed, room1]
        try simp (disch := omega) [-Int64.not_lt, -Int64.not_le, -Int32.not_lt, -Int32.not_le, nI_z, nI_ltI, nI_leI, nI_1, nI_clamp, q_vp, nI_pos', rget_k, rset_k, lget_k, hup_hup, hzz, A_r5, rx_G_feed, room1]
        refine ⟨_, kB K g (20 * q), rfl, hok, 20 * q, ⟨by omega, rfl⟩, fun c => absurd c (by omega), fun _ => ?_⟩
        rw [hG_hG]
        show EX G m_L_feeds 101 _ _ _ _ 1 5 _
        have e20 : nI (20 * q) + 20 = nI (20 * q + 20) := nI_add _ 20
        refine exB_ok (t := [(.istore_n 2, 1, 0, 0, 0, 0), (.iinc 4 20, 3, 0, 0, 0, 0), (.goto (-96), 3, 9, 0, 0, 0)]) (W73_ok G) (jj := fun q L st h o k n => EX G m_L_feeds q L st h o k n Q) (fun q L st h o k n hq => hq) (by decide +kernel) ?_
        simp [exB, hJ, exT, stp, lv_args, Value.category, lkL, stL1, stL2, insL, contX, q_ofNat, f4_3, nI_1, -Int32.not_lt, -Int32.not_le, -Int64.not_lt, -Int64.not_le, T_L_feeds_9, T_L_feeds_23, T_L_feeds_72, T_L_feeds_74, T_L_feeds_82, T_L_feeds_108, T_L_feeds_146, T_L_feeds_150, T_L_feeds_151, R_L_feeds, C_L_feeds, M_L_feeds, HH_L_feeds, KI_0, KI_5, KB_20, KI_4, KB_8, KB_32, KI_1, KI_2, KI_3, KI_20, -Int32.reduceOfInt, -Int8.reduceOfInt, -Int16.reduceOfInt, -Int32.ofInt_neg, O_L_feeds_G_feed, C_G_feed, M_G_feed, W73_G_feed, rx_G_feed, O_L_feeds_G_truncate, C_G_truncate, M_G_truncate, W73_G_truncate, rx_G_truncate, O_L_feeds_St_length, C_St_length, M_St_length, W73_St_length, rx_St_length, O_L_feeds_St_charAt, C_St_charAt, M_St_charAt, W73_St_charAt, rx_St_charAt, O_L_feeds_SB_charAt, C_SB_charAt, M_SB_charAt, W73_SB_charAt, rx_SB_charAt, O_L_feeds_SB_length, C_SB_length, M_SB_length, W73_SB_length, rx_SB_length, e20]
        try simp (disch := omega) [-Int64.not_lt, -Int64.not_le, -Int32.not_lt, -Int32.not_le, nI_z, nI_ltI, nI_leI, nI_1, nI_clamp, q_vp, nI_pos', rget_k, rset_k, lget_k, hup_hup, e20]
        exact EX.subL (by simp [subL]) hI
theorem kB_self {K : KT} (h : K.2.2.2.2.2.2.2.2.2.1 = 0) : kB K K.2.2.2.2.2.2.2.2.2.2.1 0 = K := by
  obtain ⟨kss, kol, kHs, kDr, kn1, kn2, kn3, kn4, kn5, kil, kib, ktl, ktp, kts, ktk, ktw, ktn, kte, kto, kSa, khO, khC, khs, kpa, kpb, ksz, ksc, ksd, kso, ksk, ksf, ksn, ksr, kou⟩ := K
  have h : kil = 0 := h
  subst h
  rfl
end FD
def gd_feeds (Q : XQ) (h : HM) (z t : Nat) (o : Option Nat) : Prop := ∃ h0 K l b az, h = hG h0 z K ∧ (o = some az ∧ GOK K ∧ K.2.2.2.2.2.2.2.2.2.1 = 0 ∧ 0 < l.length ∧ l.length ≤ 600 ∧ SEQ h0 t b l ∧ (¬ (z ≤ t ∧ t < z + 207)) ∧ ¬ (z ≤ b ∧ b < z + 207)) ∧ ∀ g, (∀ i, i < l.length → g i = fdB l i) → Q (.inl (some (.int 1))) (hG h0 z (kB K g l.length)) (some (az + 1))
def rx_L_feeds (as : List Value) (h : HM) (o : Option Nat) (Q : XQ) : Prop := A_rr as fun z t => gd_feeds Q h z t o
section FD
variable {G : GG} {as : List Value} {h : HM} {o : Option Nat} {Q : XQ}
set_option maxRecDepth 2000 in
set_option maxHeartbeats 200000 in
theorem r_L_feeds (hx : rx_L_feeds as h o Q) : Runs G m_L_feeds as h o Q := by
  obtain ⟨z, t, rfl, h0, K, l, b, az, rfl, ⟨rfl, hok, hkil, hl0, hl, hS, ht, hb⟩, hq⟩ := E_rr hx
  change Nat at z t
  have hJ : True := trivial
  refine Runs.of (by decide +kernel) (Nat.le_of_ble_eq_true rfl) ?_
  refine EX.below fun hbl => ?_
  have hzz := hbl (z + 206) _ (hG_at (k := 206) (by decide))
  have hSb : ∀ x e, h0 x = some e → ¬ (z ≤ x ∧ x < z + 207) → x < az := fun x e he hx => hbl x e (by rw [hG_out hx]; exact he)
  have htb : t < az ∧ b < az := by
    rcases id hS with ⟨cap, f, ⟨k1, k2⟩, -⟩ | ⟨f, k1, k2, -⟩
    · exact ⟨hSb _ _ k1 ht, hSb _ _ k2 hb⟩
    · exact ⟨hSb _ _ k1 ht, hSb _ _ k2 hb⟩
  have haz : ¬ (z ≤ az ∧ az < z + 207) := by omega
  have h0a : h0 az = none := by
    cases e : h0 az with
    | none => rfl
    | some x => exact absurd (hSb _ _ e haz) (by omega)
  have hs : ∀ (K : KT) e, SEQ (hG (hup h0 az e) z K) t b l := fun K e => SEQ_tr hS (by rw [hG_out ht, hup_nq (by omega)]) (by rw [hG_out hb, hup_nq (by omega)])
  have c5 : Int32.toNatClampNeg 5 = 5 := by decide
  have L := fd_out (G := G) (Q := Q) (o := some (az + 1)) (K := K) hs haz hok hl ?_ 31 0 rfl K.2.2.2.2.2.2.2.2.2.2.1 (fun _ => 0) (Or.inl rfl) (fun i hi => by omega)
  · rw [Nat.mul_zero, kB_self hkil, hG_hup haz] at L
    refine exB_ok (t := [(.iconst 0, 1, 0, 0, 0, 0), (.istore_n 2, 1, 0, 0, 0, 0), (.iconst 5, 1, 0, 0, 0, 0), (.newarray .int, 2, 0, 0, 5, 0), (.astore_n 3, 1, 0, 0, 0, 0)]) (W73_ok G) (jj := fun q L st h o k n => EX G m_L_feeds q L st h o k n Q) (fun q L st h o k n hq => hq) (by decide +kernel) ?_
    simp [exB, hJ, exT, stp, lv_args, Value.category, lkL, stL1, stL2, insL, contX, q_ofNat, f4_3, nI_1, -Int32.not_lt, -Int32.not_le, -Int64.not_lt, -Int64.not_le, T_L_feeds_9, T_L_feeds_23, T_L_feeds_72, T_L_feeds_74, T_L_feeds_82, T_L_feeds_108, T_L_feeds_146, T_L_feeds_150, T_L_feeds_151, R_L_feeds, C_L_feeds, M_L_feeds, HH_L_feeds, KI_0, KI_5, KB_20, KI_4, KB_8, KB_32, KI_1, KI_2, KI_3, KI_20, -Int32.reduceOfInt, -Int8.reduceOfInt, -Int16.reduceOfInt, -Int32.ofInt_neg, O_L_feeds_G_feed, C_G_feed, M_G_feed, W73_G_feed, rx_G_feed, O_L_feeds_G_truncate, C_G_truncate, M_G_truncate, W73_G_truncate, rx_G_truncate, O_L_feeds_St_length, C_St_length, M_St_length, W73_St_length, rx_St_length, O_L_feeds_St_charAt, C_St_charAt, M_St_charAt, W73_St_charAt, rx_St_charAt, O_L_feeds_SB_charAt, C_SB_charAt, M_SB_charAt, W73_SB_charAt, rx_SB_charAt, O_L_feeds_SB_length, C_SB_length, M_SB_length, W73_SB_length, rx_SB_length, c5]
    try simp (disch := omega) [-Int64.not_lt, -Int64.not_le, -Int32.not_lt, -Int32.not_le, nI_z, nI_ltI, nI_leI, nI_1, nI_clamp, q_vp, nI_pos', rget_k, rset_k, lget_k, hup_hup, c5]
    refine exB_ok (t := [(.iconst 0, 1, 0, 0, 0, 0), (.istore 4, 2, 0, 0, 0, 0)]) (W73_ok G) (jj := fun q L st h o k n => EX G m_L_feeds q L st h o k n Q) (fun q L st h o k n hq => hq) (by decide +kernel) ?_
    simp [exB, hJ, exT, stp, lv_args, Value.category, lkL, stL1, stL2, insL, contX, q_ofNat, f4_3, nI_1, -Int32.not_lt, -Int32.not_le, -Int64.not_lt, -Int64.not_le, T_L_feeds_9, T_L_feeds_23, T_L_feeds_72, T_L_feeds_74, T_L_feeds_82, T_L_feeds_108, T_L_feeds_146, T_L_feeds_150, T_L_feeds_151, R_L_feeds, C_L_feeds, M_L_feeds, HH_L_feeds, KI_0, KI_5, KB_20, KI_4, KB_8, KB_32, KI_1, KI_2, KI_3, KI_20, -Int32.reduceOfInt, -Int8.reduceOfInt, -Int16.reduceOfInt, -Int32.ofInt_neg, O_L_feeds_G_feed, C_G_feed, M_G_feed, W73_G_feed, rx_G_feed, O_L_feeds_G_truncate, C_G_truncate, M_G_truncate, W73_G_truncate, rx_G_truncate, O_L_feeds_St_length, C_St_length, M_St_length, W73_St_length, rx_St_length, O_L_feeds_St_charAt, C_St_charAt, M_St_charAt, W73_St_charAt, rx_St_charAt, O_L_feeds_SB_charAt, C_SB_charAt, M_SB_charAt, W73_SB_charAt, rx_SB_charAt, O_L_feeds_SB_length, C_SB_length, M_SB_length, W73_SB_length, rx_SB_length]
    try simp (disch := omega) [-Int64.not_lt, -Int64.not_le, -Int32.not_lt, -Int32.not_le, nI_z, nI_ltI, nI_leI, nI_1, nI_clamp, q_vp, nI_pos', rget_k, rset_k, lget_k, hup_hup]
    exact L
  · intro g W q hq1 hq2 hg
    have hs2 := hs (kB K g (20 * q)) (ints 5 W)
    have l1 : ¬ nI l.length = 0 := fun e => by have := (nI_eq (b := 0) (by omega) (by decide)).mp e; omega
    have l2 : ¬ nI (20 * q) < nI l.length := fun e => by have := (nI_ltI (by omega) (by omega)).mp e; omega
    obtain ⟨fs, hz3⟩ : ∃ fs, hG (hup h0 az (ints 5 W)) z (kB K g (20 * q)) z = some (.inr (10, fs)) := ⟨_, hG_0⟩
    have room1 : roomOK m_L_feeds m_G_truncate 1 5 = true := by decide +kernel
    refine exB_ok (t := [(.aload_n 1, 1, 0, 0, 0, 0)]) (W73_ok G) (jj := fun q L st h o k n => EX G m_L_feeds q L st h o k n Q) (fun q L st h o k n hq => hq) (by decide +kernel) ?_
    simp [exB, hJ, exT, stp, lv_args, Value.category, lkL, stL1, stL2, insL, contX, q_ofNat, f4_3, nI_1, -Int32.not_lt, -Int32.not_le, -Int64.not_lt, -Int64.not_le, T_L_feeds_9, T_L_feeds_23, T_L_feeds_72, T_L_feeds_74, T_L_feeds_82, T_L_feeds_108, T_L_feeds_146, T_L_feeds_150, T_L_feeds_151, R_L_feeds, C_L_feeds, M_L_feeds, HH_L_feeds, KI_0, KI_5, KB_20, KI_4, KB_8, KB_32, KI_1, KI_2, KI_3, KI_20, -Int32.reduceOfInt, -Int8.reduceOfInt, -Int16.reduceOfInt, -Int32.ofInt_neg, O_L_feeds_G_feed, C_G_feed, M_G_feed, W73_G_feed, rx_G_feed, O_L_feeds_G_truncate, C_G_truncate, M_G_truncate, W73_G_truncate, rx_G_truncate, O_L_feeds_St_length, C_St_length, M_St_length, W73_St_length, rx_St_length, O_L_feeds_St_charAt, C_St_charAt, M_St_charAt, W73_St_charAt, rx_St_charAt, O_L_feeds_SB_charAt, C_SB_charAt, M_SB_charAt, W73_SB_charAt, rx_SB_charAt, O_L_feeds_SB_length, C_SB_length, M_SB_length, W73_SB_length, rx_SB_length]
    try simp (disch := omega) [-Int64.not_lt, -Int64.not_le, -Int32.not_lt, -Int32.not_le, nI_z, nI_ltI, nI_leI, nI_1, nI_clamp, q_vp, nI_pos', rget_k, rset_k, lget_k, hup_hup]
    refine fd_len (l := l) (b := b) (by decide +kernel) hs2 (Nat.le_of_ble_eq_true rfl) (by decide +kernel) (by decide +kernel) ?_
    refine exB_ok (t := [(.ifCond .eq 32, 3, 146, 0, 0, 0)]) (W73_ok G) (jj := fun q L st h o k n => EX G m_L_feeds q L st h o k n Q) (fun q L st h o k n hq => hq) (by decide +kernel) ?_
    simp [exB, hJ, exT, stp, lv_args, Value.category, lkL, stL1, stL2, insL, contX, q_ofNat, f4_3, nI_1, -Int32.not_lt, -Int32.not_le, -Int64.not_lt, -Int64.not_le, T_L_feeds_9, T_L_feeds_23, T_L_feeds_72, T_L_feeds_74, T_L_feeds_82, T_L_feeds_108, T_L_feeds_146, T_L_feeds_150, T_L_feeds_151, R_L_feeds, C_L_feeds, M_L_feeds, HH_L_feeds, KI_0, KI_5, KB_20, KI_4, KB_8, KB_32, KI_1, KI_2, KI_3, KI_20, -Int32.reduceOfInt, -Int8.reduceOfInt, -Int16.reduceOfInt, -Int32.ofInt_neg, O_L_feeds_G_feed, C_G_feed, M_G_feed, W73_G_feed, rx_G_feed, O_L_feeds_G_truncate, C_G_truncate, M_G_truncate, W73_G_truncate, rx_G_truncate, O_L_feeds_St_length, C_St_length, M_St_length, W73_St_length, rx_St_length, O_L_feeds_St_charAt, C_St_charAt, M_St_charAt, W73_St_charAt, rx_St_charAt, O_L_feeds_SB_charAt, C_SB_charAt, M_SB_charAt, W73_SB_charAt, rx_SB_charAt, O_L_feeds_SB_length, C_SB_length, M_SB_length, W73_SB_length, rx_SB_length, l1]
    try simp (disch := omega) [-Int64.not_lt, -Int64.not_le, -Int32.not_lt, -Int32.not_le, nI_z, nI_ltI, nI_leI, nI_1, nI_clamp, q_vp, nI_pos', rget_k, rset_k, lget_k, hup_hup, l1]
    refine exB_ok (t := [(.iload_n 2, 1, 0, 0, 0, 0), (.aload_n 1, 1, 0, 0, 0, 0)]) (W73_ok G) (jj := fun q L st h o k n => EX G m_L_feeds q L st h o k n Q) (fun q L st h o k n hq => hq) (by decide +kernel) ?_
    simp [exB, hJ, exT, stp, lv_args, Value.category, lkL, stL1, stL2, insL, contX, q_ofNat, f4_3, nI_1, -Int32.not_lt, -Int32.not_le, -Int64.not_lt, -Int64.not_le, T_L_feeds_9, T_L_feeds_23, T_L_feeds_72, T_L_feeds_74, T_L_feeds_82, T_L_feeds_108, T_L_feeds_146, T_L_feeds_150, T_L_feeds_151, R_L_feeds, C_L_feeds, M_L_feeds, HH_L_feeds, KI_0, KI_5, KB_20, KI_4, KB_8, KB_32, KI_1, KI_2, KI_3, KI_20, -Int32.reduceOfInt, -Int8.reduceOfInt, -Int16.reduceOfInt, -Int32.ofInt_neg, O_L_feeds_G_feed, C_G_feed, M_G_feed, W73_G_feed, rx_G_feed, O_L_feeds_G_truncate, C_G_truncate, M_G_truncate, W73_G_truncate, rx_G_truncate, O_L_feeds_St_length, C_St_length, M_St_length, W73_St_length, rx_St_length, O_L_feeds_St_charAt, C_St_charAt, M_St_charAt, W73_St_charAt, rx_St_charAt, O_L_feeds_SB_charAt, C_SB_charAt, M_SB_charAt, W73_SB_charAt, rx_SB_charAt, O_L_feeds_SB_length, C_SB_length, M_SB_length, W73_SB_length, rx_SB_length]
    try simp (disch := omega) [-Int64.not_lt, -Int64.not_le, -Int32.not_lt, -Int32.not_le, nI_z, nI_ltI, nI_leI, nI_1, nI_clamp, q_vp, nI_pos', rget_k, rset_k, lget_k, hup_hup]
    refine fd_len (l := l) (b := b) (by decide +kernel) hs2 (Nat.le_of_ble_eq_true rfl) (by decide +kernel) (by decide +kernel) ?_
    refine exB_ok (t := [(.if_icmp .lt 26, 3, 150, 0, 0, 0)]) (W73_ok G) (jj := fun q L st h o k n => EX G m_L_feeds q L st h o k n Q) (fun q L st h o k n hq => hq) (by decide +kernel) ?_
    simp [exB, hJ, exT, stp, lv_args, Value.category, lkL, stL1, stL2, insL, contX, q_ofNat, f4_3, nI_1, -Int32.not_lt, -Int32.not_le, -Int64.not_lt, -Int64.not_le, T_L_feeds_9, T_L_feeds_23, T_L_feeds_72, T_L_feeds_74, T_L_feeds_82, T_L_feeds_108, T_L_feeds_146, T_L_feeds_150, T_L_feeds_151, R_L_feeds, C_L_feeds, M_L_feeds, HH_L_feeds, KI_0, KI_5, KB_20, KI_4, KB_8, KB_32, KI_1, KI_2, KI_3, KI_20, -Int32.reduceOfInt, -Int8.reduceOfInt, -Int16.reduceOfInt, -Int32.ofInt_neg, O_L_feeds_G_feed, C_G_feed, M_G_feed, W73_G_feed, rx_G_feed, O_L_feeds_G_truncate, C_G_truncate, M_G_truncate, W73_G_truncate, rx_G_truncate, O_L_feeds_St_length, C_St_length, M_St_length, W73_St_length, rx_St_length, O_L_feeds_St_charAt, C_St_charAt, M_St_charAt, W73_St_charAt, rx_St_charAt, O_L_feeds_SB_charAt, C_SB_charAt, M_SB_charAt, W73_SB_charAt, rx_SB_charAt, O_L_feeds_SB_length, C_SB_length, M_SB_length, W73_SB_length, rx_SB_length, l2, Int32.not_lt.mp l2]
    try simp (disch := omega) [-Int64.not_lt, -Int64.not_le, -Int32.not_lt, -Int32.not_le, nI_z, nI_ltI, nI_leI, nI_1, nI_clamp, q_vp, nI_pos', rget_k, rset_k, lget_k, hup_hup, l2, Int32.not_lt.mp l2]
    refine exB_ok (t := [(.aload_n 0, 1, 0, 0, 0, 0), (.aload_n 1, 1, 0, 0, 0, 0)]) (W73_ok G) (jj := fun q L st h o k n => EX G m_L_feeds q L st h o k n Q) (fun q L st h o k n hq => hq) (by decide +kernel) ?_
    simp [exB, hJ, exT, stp, lv_args, Value.category, lkL, stL1, stL2, insL, contX, q_ofNat, f4_3, nI_1, -Int32.not_lt, -Int32.not_le, -Int64.not_lt, -Int64.not_le, T_L_feeds_9, T_L_feeds_23, T_L_feeds_72, T_L_feeds_74, T_L_feeds_82, T_L_feeds_108, T_L_feeds_146, T_L_feeds_150, T_L_feeds_151, R_L_feeds, C_L_feeds, M_L_feeds, HH_L_feeds, KI_0, KI_5, KB_20, KI_4, KB_8, KB_32, KI_1, KI_2, KI_3, KI_20, -Int32.reduceOfInt, -Int8.reduceOfInt, -Int16.reduceOfInt, -Int32.ofInt_neg, O_L_feeds_G_feed, C_G_feed, M_G_feed, W73_G_feed, rx_G_feed, O_L_feeds_G_truncate, C_G_truncate, M_G_truncate, W73_G_truncate, rx_G_truncate, O_L_feeds_St_length, C_St_length, M_St_length, W73_St_length, rx_St_length, O_L_feeds_St_charAt, C_St_charAt, M_St_charAt, W73_St_charAt, rx_St_charAt, O_L_feeds_SB_charAt, C_SB_charAt, M_SB_charAt, W73_SB_charAt, rx_SB_charAt, O_L_feeds_SB_length, C_SB_length, M_SB_length, W73_SB_length, rx_SB_length]
    try simp (disch := omega) [-Int64.not_lt, -Int64.not_le, -Int32.not_lt, -Int32.not_le, nI_z, nI_ltI, nI_leI, nI_1, nI_clamp, q_vp, nI_pos', rget_k, rset_k, lget_k, hup_hup]
    refine fd_len (l := l) (b := b) (by decide +kernel) hs2 (Nat.le_of_ble_eq_true rfl) (by decide +kernel) (by decide +kernel) ?_
    refine exB_ok (t := [(.invokevirtual 32, 3, 85, 0, 1, 10)]) (W73_ok G) (jj := fun q L st h o k n => EX G m_L_feeds q L st h o k n Q) (fun q L st h o k n hq => hq) (by decide +kernel) ?_
    simp [exB, hJ, exT, stp, lv_args, Value.category, lkL, stL1, stL2, insL, contX, q_ofNat, f4_3, nI_1, -Int32.not_lt, -Int32.not_le, -Int64.not_lt, -Int64.not_le, T_L_feeds_9, T_L_feeds_23, T_L_feeds_72, T_L_feeds_74, T_L_feeds_82, T_L_feeds_108, T_L_feeds_146, T_L_feeds_150, T_L_feeds_151, R_L_feeds, C_L_feeds, M_L_feeds, HH_L_feeds, KI_0, KI_5, KB_20, KI_4, KB_8, KB_32, KI_1, KI_2, KI_3, KI_20, -Int32.reduceOfInt, -Int8.reduceOfInt, -Int16.reduceOfInt, -Int32.ofInt_neg, O_L_feeds_G_feed, C_G_feed, M_G_feed, W73_G_feed, rx_G_feed, O_L_feeds_G_truncate, C_G_truncate, M_G_truncate, W73_G_truncate, rx_G_truncate, O_L_feeds_St_length, C_St_length, M_St_length, W73_St_length, rx_St_length, O_L_feeds_St_charAt, C_St_charAt, M_St_charAt, W73_St_charAt, rx_St_charAt, O_L_feeds_SB_charAt, C_SB_charAt, M_SB_charAt, W73_SB_charAt, rx_SB_charAt, O_L_feeds_SB_length, C_SB_length, M_SB_length, W73_SB_length, rx_SB_length, hz3, A_ri, rx_G_truncate, room1]
    try simp (disch := omega) [-Int64.not_lt, -Int64.not_le, -Int32.not_lt, -Int32.not_le, nI_z, nI_ltI, nI_leI, nI_1, nI_clamp, q_vp, nI_pos', rget_k, rset_k, lget_k, hup_hup, hz3, A_ri, rx_G_truncate, room1]
    refine ⟨_, kB K g (20 * q), rfl, hok, 20 * q, ⟨by omega, rfl⟩, fun c => ?_, fun k hk e => ?_⟩
    · exact (c.elim (fun y => nI_pos (by omega) y) (fun y => y ((nI_leI (by omega) (by omega)).mpr hq1))).elim
    · have ek : l.length = k := (nI_eq (by omega) (by omega)).mp e
      rw [← ek, hG_hG]
      show EX G m_L_feeds 137 _ _ (hG (hup h0 az (ints 5 W)) z (kB K g l.length)) _ 1 5 _
      have hs3 := hs (kB K g l.length) (ints 5 W)
      refine exB_ok (t := [(.aload_n 1, 1, 0, 0, 0, 0)]) (W73_ok G) (jj := fun q L st h o k n => EX G m_L_feeds q L st h o k n Q) (fun q L st h o k n hq => hq) (by decide +kernel) ?_
      simp [exB, hJ, exT, stp, lv_args, Value.category, lkL, stL1, stL2, insL, contX, q_ofNat, f4_3, nI_1, -Int32.not_lt, -Int32.not_le, -Int64.not_lt, -Int64.not_le, T_L_feeds_9, T_L_feeds_23, T_L_feeds_72, T_L_feeds_74, T_L_feeds_82, T_L_feeds_108, T_L_feeds_146, T_L_feeds_150, T_L_feeds_151, R_L_feeds, C_L_feeds, M_L_feeds, HH_L_feeds, KI_0, KI_5, KB_20, KI_4, KB_8, KB_32, KI_1, KI_2, KI_3, KI_20, -Int32.reduceOfInt, -Int8.reduceOfInt, -Int16.reduceOfInt, -Int32.ofInt_neg, O_L_feeds_G_feed, C_G_feed, M_G_feed, W73_G_feed, rx_G_feed, O_L_feeds_G_truncate, C_G_truncate, M_G_truncate, W73_G_truncate, rx_G_truncate, O_L_feeds_St_length, C_St_length, M_St_length, W73_St_length, rx_St_length, O_L_feeds_St_charAt, C_St_charAt, M_St_charAt, W73_St_charAt, rx_St_charAt, O_L_feeds_SB_charAt, C_SB_charAt, M_SB_charAt, W73_SB_charAt, rx_SB_charAt, O_L_feeds_SB_length, C_SB_length, M_SB_length, W73_SB_length, rx_SB_length]
      try simp (disch := omega) [-Int64.not_lt, -Int64.not_le, -Int32.not_lt, -Int32.not_le, nI_z, nI_ltI, nI_leI, nI_1, nI_clamp, q_vp, nI_pos', rget_k, rset_k, lget_k, hup_hup]
      refine fd_len (l := l) (b := b) (by decide +kernel) hs3 (Nat.le_of_ble_eq_true rfl) (by decide +kernel) (by decide +kernel) ?_
      refine exB_ok (t := [(.if_icmp .ne 7, 3, 150, 0, 0, 0)]) (W73_ok G) (jj := fun q L st h o k n => EX G m_L_feeds q L st h o k n Q) (fun q L st h o k n hq => hq) (by decide +kernel) ?_
      simp [exB, hJ, exT, stp, lv_args, Value.category, lkL, stL1, stL2, insL, contX, q_ofNat, f4_3, nI_1, -Int32.not_lt, -Int32.not_le, -Int64.not_lt, -Int64.not_le, T_L_feeds_9, T_L_feeds_23, T_L_feeds_72, T_L_feeds_74, T_L_feeds_82, T_L_feeds_108, T_L_feeds_146, T_L_feeds_150, T_L_feeds_151, R_L_feeds, C_L_feeds, M_L_feeds, HH_L_feeds, KI_0, KI_5, KB_20, KI_4, KB_8, KB_32, KI_1, KI_2, KI_3, KI_20, -Int32.reduceOfInt, -Int8.reduceOfInt, -Int16.reduceOfInt, -Int32.ofInt_neg, O_L_feeds_G_feed, C_G_feed, M_G_feed, W73_G_feed, rx_G_feed, O_L_feeds_G_truncate, C_G_truncate, M_G_truncate, W73_G_truncate, rx_G_truncate, O_L_feeds_St_length, C_St_length, M_St_length, W73_St_length, rx_St_length, O_L_feeds_St_charAt, C_St_charAt, M_St_charAt, W73_St_charAt, rx_St_charAt, O_L_feeds_SB_charAt, C_SB_charAt, M_SB_charAt, W73_SB_charAt, rx_SB_charAt, O_L_feeds_SB_length, C_SB_length, M_SB_length, W73_SB_length, rx_SB_length]
      try simp (disch := omega) [-Int64.not_lt, -Int64.not_le, -Int32.not_lt, -Int32.not_le, nI_z, nI_ltI, nI_leI, nI_1, nI_clamp, q_vp, nI_pos', rget_k, rset_k, lget_k, hup_hup]
      refine exB_ok (t := [(.iconst 1, 1, 0, 0, 0, 0), (.goto 4, 3, 151, 0, 0, 0)]) (W73_ok G) (jj := fun q L st h o k n => EX G m_L_feeds q L st h o k n Q) (fun q L st h o k n hq => hq) (by decide +kernel) ?_
      simp [exB, hJ, exT, stp, lv_args, Value.category, lkL, stL1, stL2, insL, contX, q_ofNat, f4_3, nI_1, -Int32.not_lt, -Int32.not_le, -Int64.not_lt, -Int64.not_le, T_L_feeds_9, T_L_feeds_23, T_L_feeds_72, T_L_feeds_74, T_L_feeds_82, T_L_feeds_108, T_L_feeds_146, T_L_feeds_150, T_L_feeds_151, R_L_feeds, C_L_feeds, M_L_feeds, HH_L_feeds, KI_0, KI_5, KB_20, KI_4, KB_8, KB_32, KI_1, KI_2, KI_3, KI_20, -Int32.reduceOfInt, -Int8.reduceOfInt, -Int16.reduceOfInt, -Int32.ofInt_neg, O_L_feeds_G_feed, C_G_feed, M_G_feed, W73_G_feed, rx_G_feed, O_L_feeds_G_truncate, C_G_truncate, M_G_truncate, W73_G_truncate, rx_G_truncate, O_L_feeds_St_length, C_St_length, M_St_length, W73_St_length, rx_St_length, O_L_feeds_St_charAt, C_St_charAt, M_St_charAt, W73_St_charAt, rx_St_charAt, O_L_feeds_SB_charAt, C_SB_charAt, M_SB_charAt, W73_SB_charAt, rx_SB_charAt, O_L_feeds_SB_length, C_SB_length, M_SB_length, W73_SB_length, rx_SB_length]
      try simp (disch := omega) [-Int64.not_lt, -Int64.not_le, -Int32.not_lt, -Int32.not_le, nI_z, nI_ltI, nI_leI, nI_1, nI_clamp, q_vp, nI_pos', rget_k, rset_k, lget_k, hup_hup]
      refine EX.less (h2 := hG h0 z (kB K g l.length)) (fun a e ha => ?_) ?_
      · rw [hG_hup haz]
        by_cases ca : a = az
        · rw [ca, hG_out haz, h0a] at ha; cases ha
        · rw [hup_nq ca]; exact ha
      · have hq := hq g hg
        refine exB_ok (t := [(.ireturn, 1, 0, 0, 0, 0)]) (W73_ok G) (jj := fun q L st h o k n => EX G m_L_feeds q L st h o k n Q) (fun q L st h o k n hq => hq) (by decide +kernel) ?_
        simp [exB, hJ, exT, stp, lv_args, Value.category, lkL, stL1, stL2, insL, contX, q_ofNat, f4_3, nI_1, -Int32.not_lt, -Int32.not_le, -Int64.not_lt, -Int64.not_le, T_L_feeds_9, T_L_feeds_23, T_L_feeds_72, T_L_feeds_74, T_L_feeds_82, T_L_feeds_108, T_L_feeds_146, T_L_feeds_150, T_L_feeds_151, R_L_feeds, C_L_feeds, M_L_feeds, HH_L_feeds, KI_0, KI_5, KB_20, KI_4, KB_8, KB_32, KI_1, KI_2, KI_3, KI_20, -Int32.reduceOfInt, -Int8.reduceOfInt, -Int16.reduceOfInt, -Int32.ofInt_neg, O_L_feeds_G_feed, C_G_feed, M_G_feed, W73_G_feed, rx_G_feed, O_L_feeds_G_truncate, C_G_truncate, M_G_truncate, W73_G_truncate, rx_G_truncate, O_L_feeds_St_length, C_St_length, M_St_length, W73_St_length, rx_St_length, O_L_feeds_St_charAt, C_St_charAt, M_St_charAt, W73_St_charAt, rx_St_charAt, O_L_feeds_SB_charAt, C_SB_charAt, M_SB_charAt, W73_SB_charAt, rx_SB_charAt, O_L_feeds_SB_length, C_SB_length, M_SB_length, W73_SB_length, rx_SB_length]
        try simp (disch := omega) [-Int64.not_lt, -Int64.not_le, -Int32.not_lt, -Int32.not_le, nI_z, nI_ltI, nI_leI, nI_1, nI_clamp, q_vp, nI_pos', rget_k, rset_k, lget_k, hup_hup]
        exact hq
end FD
def W74 (G : GG) : WF := (wcons 193 rx_L_feeds (W73 G))
theorem W74_ok (G : GG) : WOK G (W74 G) := (wcons_ok (fun _ _ _ _ hx => r_L_feeds hx) (W73_ok G))
