/-! c5: a game is made -/
set_option maxRecDepth 8000
def cI (a k : Nat) : AE := match k with
  | 0 => .inr (4, [.ref (a + 1), .int 0])
  | 1 => .inr (7, [.ref (a + 2)])
  | _ => ints 600 fun _ => 0
def cP (a k : Nat) : AE := match k with
  | 0 => .inr (6, [.ref (a + 1)])
  | 1 => .inr (7, [.ref (a + 2)])
  | _ => ints 144 fun _ => 0
theorem blk_3 {h : HM} {a N : Nat} {e e0 : AE} {f : Nat → AE} (f0 : f 0 = e) (f1 : f 1 = .inr (7, [.ref (a + 2)])) (f2 : f 2 = ints N fun _ => 0) : hup (rowN (hup h a e0) (a + 1) N) a e = blk h a 3 f := by
  funext x
  unfold blk rowN
  by_cases c0 : x = a
  · subst c0
    rw [hup_at, if_pos (by omega), Nat.sub_self, f0]
  · rw [hup_nq c0]
    by_cases c1 : x = a + 1
    · subst c1
      rw [hup_at, if_pos (by omega), Nat.add_sub_cancel_left, f1]
    · rw [hup_nq c1]
      by_cases c2 : x = a + 1 + 1
      · subst c2
        rw [hup_at, if_pos (by omega), show a + 1 + 1 - a = 2 by omega, f2]
      · rw [hup_nq c2, hup_nq c1, hup_nq c0, if_neg (by omega)]
theorem blk_own {h : HM} {a n : Nat} {e : AE} {f : Nat → AE} (hn : 0 < n) : blk (hup h a e) a n f = blk h a n f := by
  funext x
  unfold blk
  split
  · rfl
  · rw [hup_nq (by omega)]
theorem hS_own {h : HM} {a j : Nat} {e : AE} : hS (hup h a e) a j = hS h a j := by
  funext x
  unfold hS
  by_cases c : x = a
  · rw [if_pos c, if_pos c]
  · rw [if_neg c, if_neg c, hup_nq c]
theorem rowN_own {h : HM} {a N : Nat} {e : AE} : rowN (hup h a e) a N = rowN h a N := by
  unfold rowN
  rw [hup_hup]
def K0 : KT := (0, 0, HN, HN, 0, 0, 0, 0, 0, 0, (fun _ => 0), 0, 0, 0, 0, 0, 0, 0, -1, HN, 0, 0, (fun i => if i < 7 then HN else H0), (fun _ => 0), (fun _ => 0), 0, 0, 0, 0, (fun _ => 0), (fun _ => 0), (fun _ => 0), (fun _ => 0), (fun _ => 0))
def rx_G_init (as : List Value) (h : HM) (o : Option Nat) (Q : XQ) : Prop := A_r as fun z => (o = some (z + 1) ∧ h z = some (.inr (10, [.null, .null, .null, .int 0, .null, .null, .null, .null, .null, .null, .null, .null, .null, .null, .int 0]))) ∧ Q (.inl none) (hG h z K0) (some (z + 207))
theorem hG_made (h : HM) (z : Nat) : hup (rowN (hup (blk (hup (hup (hup (blk (hup (blk (hup (hS (hup (hH (hup (hup (blk (hup (hup (hH (hH (h) (z + 1) HN) (z + 19) HN) (z + 37) (.inr (5, [.int 0, .int 0, .int 0, .int 0, .int 0]))) (z + 38) (.inr (0, [.ref (z + 1), .ref (z + 37)]))) (z + 39) 3 (cI (z + 39))) (z + 42) (.inr (9, [.ref (z + 39), .int 0, .int 0, .int 0, .int 0, .long 0, .int 0, .int 0, .int (-1)]))) z (.inr (10, [.ref (z + 1), .ref (z + 19), .null, .int 0, .null, .null, .null, .null, .null, .null, .null, .null, .null, .null, .int 0]))) (z + 43) HN) z (.inr (10, [.ref (z + 1), .ref (z + 19), .ref (z + 43), .int 0, .ref (z + 37), .ref (z + 38), .null, .null, .null, .null, .null, .null, .null, .null, .int 0]))) (z + 61) 7) z (.inr (10, [.ref (z + 1), .ref (z + 19), .ref (z + 43), .int 0, .ref (z + 37), .ref (z + 38), .ref (z + 61), .null, .null, .null, .null, .null, .null, .null, .int 0]))) (z + 189) 3 (cP (z + 189))) z (.inr (10, [.ref (z + 1), .ref (z + 19), .ref (z + 43), .int 0, .ref (z + 37), .ref (z + 38), .ref (z + 61), .ref (z + 189), .null, .null, .null, .null, .null, .null, .int 0]))) (z + 192) 3 (cP (z + 192))) z (.inr (10, [.ref (z + 1), .ref (z + 19), .ref (z + 43), .int 0, .ref (z + 37), .ref (z + 38), .ref (z + 61), .ref (z + 189), .ref (z + 192), .ref (z + 39), .ref (z + 42), .null, .null, .null, .int 0]))) (z + 195) (.inr (1, [.ref (z + 42), .ref (z + 19), .ref (z + 37)]))) z (.inr (10, [.ref (z + 1), .ref (z + 19), .ref (z + 43), .int 0, .ref (z + 37), .ref (z + 38), .ref (z + 61), .ref (z + 189), .ref (z + 192), .ref (z + 39), .ref (z + 42), .ref (z + 195), .null, .null, .int 0]))) (z + 196) 9 (cS (z + 196) (z + 42) (z + 1) (z + 38))) z (.inr (10, [.ref (z + 1), .ref (z + 19), .ref (z + 43), .int 0, .ref (z + 37), .ref (z + 38), .ref (z + 61), .ref (z + 189), .ref (z + 192), .ref (z + 39), .ref (z + 42), .ref (z + 195), .ref (z + 196), .null, .int 0]))) (z + 205) 192) z (.inr (10, [.ref (z + 1), .ref (z + 19), .ref (z + 43), .int 0, .ref (z + 37), .ref (z + 38), .ref (z + 61), .ref (z + 189), .ref (z + 192), .ref (z + 39), .ref (z + 42), .ref (z + 195), .ref (z + 196), .ref (z + 205), .int 0])) = hG h z K0 := by
  funext x
  by_cases c : z ≤ x ∧ x < z + 207
  · obtain ⟨i, hi, rfl⟩ : ∃ i, i < 207 ∧ x = z + i := ⟨x - z, by omega, by omega⟩
    rw [hG_at hi]
    have hc : i = 0 ∨ (1 ≤ i ∧ i < 19) ∨ (19 ≤ i ∧ i < 37) ∨ i = 37 ∨ i = 38 ∨ i = 39 ∨ i = 40 ∨ i = 41 ∨ i = 42 ∨ (43 ≤ i ∧ i < 61) ∨ i = 61 ∨ i = 62 ∨ (63 ≤ i ∧ i < 189) ∨ i = 189 ∨ i = 190 ∨ i = 191 ∨ i = 192 ∨ i = 193 ∨ i = 194 ∨ i = 195 ∨ i = 196 ∨ i = 197 ∨ i = 198 ∨ i = 199 ∨ i = 200 ∨ i = 201 ∨ i = 202 ∨ i = 203 ∨ i = 204 ∨ i = 205 ∨ i = 206 := by omega
    rcases hc with rfl | ⟨b1, b2⟩ | ⟨b1, b2⟩ | rfl | rfl | rfl | rfl | rfl | rfl | ⟨b1, b2⟩ | rfl | rfl | ⟨b1, b2⟩ | rfl | rfl | rfl | rfl | rfl | rfl | rfl | rfl | rfl | rfl | rfl | rfl | rfl | rfl | rfl | rfl | rfl | rfl
    · unfold hup blk hH hS rowN cG
      dsimp only
      try simp only [hup]
      repeat (first | rw [if_pos (by omega)] | rw [if_neg (by omega)])
      rfl
    · unfold hup blk hH hS rowN cG
      dsimp only
      try simp only [hup]
      repeat (first | rw [if_pos (by omega)] | rw [if_neg (by omega)])
      rw [show z + i - (z + 1) = i - 1 by omega]
      rfl
    · unfold hup blk hH hS rowN cG
      dsimp only
      try simp only [hup]
      repeat (first | rw [if_pos (by omega)] | rw [if_neg (by omega)])
      rw [show z + i - (z + 19) = i - 19 by omega]
      rfl
    · unfold hup blk hH hS rowN cG
      dsimp only
      try simp only [hup]
      repeat (first | rw [if_pos (by omega)] | rw [if_neg (by omega)])
      rfl
    · unfold hup blk hH hS rowN cG
      dsimp only
      try simp only [hup]
      repeat (first | rw [if_pos (by omega)] | rw [if_neg (by omega)])
      rfl
    · unfold hup blk hH hS rowN cG
      dsimp only
      try simp only [hup]
      repeat (first | rw [if_pos (by omega)] | rw [if_neg (by omega)])
      rw [show z + 39 - (z + 39) = 0 by omega]
      rfl
    · unfold hup blk hH hS rowN cG
      dsimp only
      try simp only [hup]
      repeat (first | rw [if_pos (by omega)] | rw [if_neg (by omega)])
      rw [show z + 40 - (z + 39) = 1 by omega]
      rfl
    · unfold hup blk hH hS rowN cG
      dsimp only
      try simp only [hup]
      repeat (first | rw [if_pos (by omega)] | rw [if_neg (by omega)])
      rw [show z + 41 - (z + 39) = 2 by omega]
      rfl
    · unfold hup blk hH hS rowN cG
      dsimp only
      try simp only [hup]
      repeat (first | rw [if_pos (by omega)] | rw [if_neg (by omega)])
      rfl
    · unfold hup blk hH hS rowN cG
      dsimp only
      try simp only [hup]
      repeat (first | rw [if_pos (by omega)] | rw [if_neg (by omega)])
      rw [show z + i - (z + 43) = i - 43 by omega]
      rfl
    · unfold hup blk hH hS rowN cG
      dsimp only
      try simp only [hup]
      repeat (first | rw [if_pos (by omega)] | rw [if_neg (by omega)])
      rfl
    · unfold hup blk hH hS rowN cG
      dsimp only
      try simp only [hup]
      repeat (first | rw [if_pos (by omega)] | rw [if_neg (by omega)])
      rfl
    · unfold hup blk hH hS rowN cG
      dsimp only
      try simp only [hup]
      repeat (first | rw [if_pos (by omega)] | rw [if_neg (by omega)])
      rw [show z + i - (z + 61 + 2) = i - 63 by omega]
      have e : K0.2.2.2.2.2.2.2.2.2.2.2.2.2.2.2.2.2.2.2.2.2.2.1 ((i - 63) / 18) = HN := if_pos (by omega)
      rw [e]
    · unfold hup blk hH hS rowN cG
      dsimp only
      try simp only [hup]
      repeat (first | rw [if_pos (by omega)] | rw [if_neg (by omega)])
      rw [show z + 189 - (z + 189) = 0 by omega]
      rfl
    · unfold hup blk hH hS rowN cG
      dsimp only
      try simp only [hup]
      repeat (first | rw [if_pos (by omega)] | rw [if_neg (by omega)])
      rw [show z + 190 - (z + 189) = 1 by omega]
      rfl
    · unfold hup blk hH hS rowN cG
      dsimp only
      try simp only [hup]
      repeat (first | rw [if_pos (by omega)] | rw [if_neg (by omega)])
      rw [show z + 191 - (z + 189) = 2 by omega]
      rfl
    · unfold hup blk hH hS rowN cG
      dsimp only
      try simp only [hup]
      repeat (first | rw [if_pos (by omega)] | rw [if_neg (by omega)])
      rw [show z + 192 - (z + 192) = 0 by omega]
      rfl
    · unfold hup blk hH hS rowN cG
      dsimp only
      try simp only [hup]
      repeat (first | rw [if_pos (by omega)] | rw [if_neg (by omega)])
      rw [show z + 193 - (z + 192) = 1 by omega]
      rfl
    · unfold hup blk hH hS rowN cG
      dsimp only
      try simp only [hup]
      repeat (first | rw [if_pos (by omega)] | rw [if_neg (by omega)])
      rw [show z + 194 - (z + 192) = 2 by omega]
      rfl
    · unfold hup blk hH hS rowN cG
      dsimp only
      try simp only [hup]
      repeat (first | rw [if_pos (by omega)] | rw [if_neg (by omega)])
      rfl
    · unfold hup blk hH hS rowN cG
      dsimp only
      try simp only [hup]
      repeat (first | rw [if_pos (by omega)] | rw [if_neg (by omega)])
      rw [show z + 196 - (z + 196) = 0 by omega]
      rfl
    · unfold hup blk hH hS rowN cG
      dsimp only
      try simp only [hup]
      repeat (first | rw [if_pos (by omega)] | rw [if_neg (by omega)])
      rw [show z + 197 - (z + 196) = 1 by omega]
      rfl
    · unfold hup blk hH hS rowN cG
      dsimp only
      try simp only [hup]
      repeat (first | rw [if_pos (by omega)] | rw [if_neg (by omega)])
      rw [show z + 198 - (z + 196) = 2 by omega]
      rfl
    · unfold hup blk hH hS rowN cG
      dsimp only
      try simp only [hup]
      repeat (first | rw [if_pos (by omega)] | rw [if_neg (by omega)])
      rw [show z + 199 - (z + 196) = 3 by omega]
      rfl
    · unfold hup blk hH hS rowN cG
      dsimp only
      try simp only [hup]
      repeat (first | rw [if_pos (by omega)] | rw [if_neg (by omega)])
      rw [show z + 200 - (z + 196) = 4 by omega]
      rfl
    · unfold hup blk hH hS rowN cG
      dsimp only
      try simp only [hup]
      repeat (first | rw [if_pos (by omega)] | rw [if_neg (by omega)])
      rw [show z + 201 - (z + 196) = 5 by omega]
      rfl
    · unfold hup blk hH hS rowN cG
      dsimp only
      try simp only [hup]
      repeat (first | rw [if_pos (by omega)] | rw [if_neg (by omega)])
      rw [show z + 202 - (z + 196) = 6 by omega]
      rfl
    · unfold hup blk hH hS rowN cG
      dsimp only
      try simp only [hup]
      repeat (first | rw [if_pos (by omega)] | rw [if_neg (by omega)])
      rw [show z + 203 - (z + 196) = 7 by omega]
      rfl
    · unfold hup blk hH hS rowN cG
      dsimp only
      try simp only [hup]
      repeat (first | rw [if_pos (by omega)] | rw [if_neg (by omega)])
      rw [show z + 204 - (z + 196) = 8 by omega]
      rfl
    · unfold hup blk hH hS rowN cG
      dsimp only
      try simp only [hup]
      repeat (first | rw [if_pos (by omega)] | rw [if_neg (by omega)])
      rfl
    · unfold hup blk hH hS rowN cG
      dsimp only
      try simp only [hup]
      repeat (first | rw [if_pos (by omega)] | rw [if_neg (by omega)])
      rfl
  · rw [hG_out c]
    unfold hup blk hH hS rowN
    dsimp only
    simp only [hup]
    repeat rw [if_neg (by omega)]
section CI
variable {G : GG} {as : List Value} {h : HM} {o : Option Nat} {Q : XQ}
theorem HH_G_init : mHH 83 = [] := rfl
theorem TY_10_0 {v : Nat} : okw (tyC 10 0) (.ref v) = True := rfl
theorem TY_10_0n : okw (tyC 10 0) (.null) = True := rfl
theorem TY_10_1 {v : Nat} : okw (tyC 10 1) (.ref v) = True := rfl
theorem TY_10_1n : okw (tyC 10 1) (.null) = True := rfl
theorem TY_10_2 {v : Nat} : okw (tyC 10 2) (.ref v) = True := rfl
theorem TY_10_2n : okw (tyC 10 2) (.null) = True := rfl
theorem TY_10_4 {v : Nat} : okw (tyC 10 4) (.ref v) = True := rfl
theorem TY_10_4n : okw (tyC 10 4) (.null) = True := rfl
theorem TY_10_5 {v : Nat} : okw (tyC 10 5) (.ref v) = True := rfl
theorem TY_10_5n : okw (tyC 10 5) (.null) = True := rfl
theorem TY_10_6 {v : Nat} : okw (tyC 10 6) (.ref v) = True := rfl
theorem TY_10_6n : okw (tyC 10 6) (.null) = True := rfl
theorem TY_10_7 {v : Nat} : okw (tyC 10 7) (.ref v) = True := rfl
theorem TY_10_7n : okw (tyC 10 7) (.null) = True := rfl
theorem TY_10_8 {v : Nat} : okw (tyC 10 8) (.ref v) = True := rfl
theorem TY_10_8n : okw (tyC 10 8) (.null) = True := rfl
theorem TY_10_9 {v : Nat} : okw (tyC 10 9) (.ref v) = True := rfl
theorem TY_10_9n : okw (tyC 10 9) (.null) = True := rfl
theorem TY_10_10 {v : Nat} : okw (tyC 10 10) (.ref v) = True := rfl
theorem TY_10_10n : okw (tyC 10 10) (.null) = True := rfl
theorem TY_10_11 {v : Nat} : okw (tyC 10 11) (.ref v) = True := rfl
theorem TY_10_11n : okw (tyC 10 11) (.null) = True := rfl
theorem TY_10_12 {v : Nat} : okw (tyC 10 12) (.ref v) = True := rfl
theorem TY_10_12n : okw (tyC 10 12) (.null) = True := rfl
theorem TY_10_13 {v : Nat} : okw (tyC 10 13) (.ref v) = True := rfl
theorem TY_10_13n : okw (tyC 10 13) (.null) = True := rfl
theorem W46_Actions_init {G : GG} {as : List Value} {h : HM} {o : Option Nat} {Q : XQ} : RX G (W46 G) 0 as h o Q = rx_Actions_init as h o Q := rfl
theorem W46_Description_init {G : GG} {as : List Value} {h : HM} {o : Option Nat} {Q : XQ} : RX G (W46 G) 12 as h o Q = rx_Description_init as h o Q := rfl
theorem W46_History_init {G : GG} {as : List Value} {h : HM} {o : Option Nat} {Q : XQ} : RX G (W46 G) 20 as h o Q = rx_History_init as h o Q := rfl
theorem W46_House_init {G : GG} {as : List Value} {h : HM} {o : Option Nat} {Q : XQ} : RX G (W46 G) 25 as h o Q = rx_House_init as h o Q := rfl
theorem W46_Input_init {G : GG} {as : List Value} {h : HM} {o : Option Nat} {Q : XQ} : RX G (W46 G) 41 as h o Q = rx_Input_init as h o Q := rfl
theorem W46_Night_init {G : GG} {as : List Value} {h : HM} {o : Option Nat} {Q : XQ} : RX G (W46 G) 44 as h o Q = rx_Night_init as h o Q := rfl
theorem W46_Paths_init {G : GG} {as : List Value} {h : HM} {o : Option Nat} {Q : XQ} : RX G (W46 G) 55 as h o Q = rx_Paths_init as h o Q := rfl
theorem W46_Row_init {G : GG} {as : List Value} {h : HM} {o : Option Nat} {Q : XQ} : RX G (W46 G) 60 as h o Q = rx_Row_init as h o Q := rfl
theorem W46_Script_init {G : GG} {as : List Value} {h : HM} {o : Option Nat} {Q : XQ} : RX G (W46 G) 65 as h o Q = rx_Script_init as h o Q := rfl
theorem W46_Tokens_init {G : GG} {as : List Value} {h : HM} {o : Option Nat} {Q : XQ} : RX G (W46 G) 70 as h o Q = rx_Tokens_init as h o Q := rfl
set_option maxRecDepth 2000 in
set_option maxHeartbeats 200000 in
theorem r_G_init (hx : rx_G_init as h o Q) : Runs G m_G_init as h o Q := by
  obtain ⟨z, rfl, ⟨rfl, g0⟩, hq⟩ := E_r hx
  change Nat at z
  have hJ : True := trivial
  have F1 : 1 ≤ (mF m_G_init).1 := by decide
  have F2 : 12 ≤ (mF m_G_init).2 := by decide
  have l1 : (0 : Int32) < 192 := by decide
  have l2 : (192 : Int32) ≤ 600 := by decide
  refine Runs.of (by decide +kernel) (Nat.le_of_ble_eq_true rfl) ?_
  have hro : roomOK m_G_init 25 1 19 = true := by decide +kernel
  have n1 : z + 1 ≠ z + 1 + 1 := by omega
  have n2 : z + 1 < z + 1 + 1 := by omega
  refine exB_ok (t := [(.aload_n 0, 1, 0, 0, 0, 0), (.invokespecial 3, 3, 100000, 0, 0, 0), (.new 9, 3, 3, 0, 0, 0), (.dup, 1, 0, 0, 0, 0), (.invokespecial 11, 3, 25, 0, 0, 0)]) (W46_ok G) (jj := fun q L st h o k n => EX G m_G_init q L st h o k n Q) (fun q L st h o k n hq => hq) (by decide +kernel) ?_
  simp [exB, hJ, exT, stp, lv_args, Value.category, lkL, stL1, stL2, insL, contX, q_ofNat, f4_3, nI_1, -Int32.not_lt, -Int32.not_le, -Int64.not_lt, -Int64.not_le, R_G_init, C_G_init, M_G_init, HH_G_init, KS_192, -Int32.reduceOfInt, -Int8.reduceOfInt, -Int16.reduceOfInt, -Int32.ofInt_neg, TY_10_0, TY_10_0n, TY_10_1, TY_10_1n, TY_10_2, TY_10_2n, TY_10_4, TY_10_4n, TY_10_5, TY_10_5n, TY_10_6, TY_10_6n, TY_10_7, TY_10_7n, TY_10_8, TY_10_8n, TY_10_9, TY_10_9n, TY_10_10, TY_10_10n, TY_10_11, TY_10_11n, TY_10_12, TY_10_12n, TY_10_13, TY_10_13n, O_G_init_Actions_init, C_Actions_init, M_Actions_init, W46_Actions_init, rx_Actions_init, O_G_init_Description_init, C_Description_init, M_Description_init, W46_Description_init, rx_Description_init, O_G_init_History_init, C_History_init, M_History_init, W46_History_init, rx_History_init, O_G_init_House_init, C_House_init, M_House_init, W46_House_init, rx_House_init, O_G_init_Input_init, C_Input_init, M_Input_init, W46_Input_init, rx_Input_init, O_G_init_Night_init, C_Night_init, M_Night_init, W46_Night_init, rx_Night_init, O_G_init_Paths_init, C_Paths_init, M_Paths_init, W46_Paths_init, rx_Paths_init, O_G_init_Row_init, C_Row_init, M_Row_init, W46_Row_init, rx_Row_init, O_G_init_Script_init, C_Script_init, M_Script_init, W46_Script_init, rx_Script_init, O_G_init_Tokens_init, C_Tokens_init, M_Tokens_init, W46_Tokens_init, rx_Tokens_init, F1, F2, hup_at, hup_hup, dfl, nFl, A_r, A_rr, A_rrr, A_rrrr, A_ri, hro, c192, n1, n2, l1, l2]
  try simp (disch := omega) [-Int64.not_lt, -Int64.not_le, -Int32.not_lt, -Int32.not_le, nI_z, nI_ltI, nI_leI, nI_1, nI_clamp, q_vp, nI_pos', rget_k, rset_k, lget_k, hup_hup, F1, F2, hup_at, hup_hup, dfl, nFl, A_r, A_rr, A_rrr, A_rrrr, A_ri, hro, c192, n1, n2, l1, l2]
  try rw [hH_own]
  obtain ⟨Y1, e1⟩ : ∃ H, H = hH h (z + 1) HN := ⟨_, rfl⟩
  have g1 : Y1 z = some (.inr (10, [.null, .null, .null, .int 0, .null, .null, .null, .null, .null, .null, .null, .null, .null, .null, .int 0])) := by
    rw [e1]
    exact (hH_out (by omega)).trans g0
  change EX G _ _ _ _ (hH h (z + 1) HN) (some (z + 19)) 18 4839 Q
  rw [← e1]
  have hro : roomOK m_G_init 25 19 4858 = true := by decide +kernel
  have n1 : z + 19 ≠ z + 19 + 1 := by omega
  have n2 : z + 19 < z + 19 + 1 := by omega
  refine exB_ok (t := [(.astore_n 1, 1, 0, 0, 0, 0), (.new 9, 3, 3, 0, 0, 0), (.dup, 1, 0, 0, 0, 0), (.invokespecial 11, 3, 25, 0, 0, 0)]) (W46_ok G) (jj := fun q L st h o k n => EX G m_G_init q L st h o k n Q) (fun q L st h o k n hq => hq) (by decide +kernel) ?_
  simp [exB, hJ, exT, stp, lv_args, Value.category, lkL, stL1, stL2, insL, contX, q_ofNat, f4_3, nI_1, -Int32.not_lt, -Int32.not_le, -Int64.not_lt, -Int64.not_le, R_G_init, C_G_init, M_G_init, HH_G_init, KS_192, -Int32.reduceOfInt, -Int8.reduceOfInt, -Int16.reduceOfInt, -Int32.ofInt_neg, TY_10_0, TY_10_0n, TY_10_1, TY_10_1n, TY_10_2, TY_10_2n, TY_10_4, TY_10_4n, TY_10_5, TY_10_5n, TY_10_6, TY_10_6n, TY_10_7, TY_10_7n, TY_10_8, TY_10_8n, TY_10_9, TY_10_9n, TY_10_10, TY_10_10n, TY_10_11, TY_10_11n, TY_10_12, TY_10_12n, TY_10_13, TY_10_13n, O_G_init_Actions_init, C_Actions_init, M_Actions_init, W46_Actions_init, rx_Actions_init, O_G_init_Description_init, C_Description_init, M_Description_init, W46_Description_init, rx_Description_init, O_G_init_History_init, C_History_init, M_History_init, W46_History_init, rx_History_init, O_G_init_House_init, C_House_init, M_House_init, W46_House_init, rx_House_init, O_G_init_Input_init, C_Input_init, M_Input_init, W46_Input_init, rx_Input_init, O_G_init_Night_init, C_Night_init, M_Night_init, W46_Night_init, rx_Night_init, O_G_init_Paths_init, C_Paths_init, M_Paths_init, W46_Paths_init, rx_Paths_init, O_G_init_Row_init, C_Row_init, M_Row_init, W46_Row_init, rx_Row_init, O_G_init_Script_init, C_Script_init, M_Script_init, W46_Script_init, rx_Script_init, O_G_init_Tokens_init, C_Tokens_init, M_Tokens_init, W46_Tokens_init, rx_Tokens_init, F1, F2, hup_at, hup_hup, dfl, nFl, A_r, A_rr, A_rrr, A_rrrr, A_ri, hro, c192, n1, n2, l1, l2]
  try simp (disch := omega) [-Int64.not_lt, -Int64.not_le, -Int32.not_lt, -Int32.not_le, nI_z, nI_ltI, nI_leI, nI_1, nI_clamp, q_vp, nI_pos', rget_k, rset_k, lget_k, hup_hup, F1, F2, hup_at, hup_hup, dfl, nFl, A_r, A_rr, A_rrr, A_rrrr, A_ri, hro, c192, n1, n2, l1, l2]
  try rw [hH_own]
  obtain ⟨Y2, e2⟩ : ∃ H, H = hH Y1 (z + 19) HN := ⟨_, rfl⟩
  have g2 : Y2 z = some (.inr (10, [.null, .null, .null, .int 0, .null, .null, .null, .null, .null, .null, .null, .null, .null, .null, .int 0])) := by
    rw [e2]
    exact (hH_out (by omega)).trans g1
  change EX G _ _ _ _ (hH Y1 (z + 19) HN) (some (z + 37)) 36 9678 Q
  rw [← e2]
  have hro : roomOK m_G_init 44 37 9683 = true := by decide +kernel
  have n1 : z + 37 ≠ z + 37 + 1 := by omega
  have n2 : z + 37 < z + 37 + 1 := by omega
  refine exB_ok (t := [(.astore_n 2, 1, 0, 0, 0, 0), (.new 12, 3, 5, 0, 0, 0), (.dup, 1, 0, 0, 0, 0), (.invokespecial 14, 3, 44, 1, 0, 0)]) (W46_ok G) (jj := fun q L st h o k n => EX G m_G_init q L st h o k n Q) (fun q L st h o k n hq => hq) (by decide +kernel) ?_
  simp [exB, hJ, exT, stp, lv_args, Value.category, lkL, stL1, stL2, insL, contX, q_ofNat, f4_3, nI_1, -Int32.not_lt, -Int32.not_le, -Int64.not_lt, -Int64.not_le, R_G_init, C_G_init, M_G_init, HH_G_init, KS_192, -Int32.reduceOfInt, -Int8.reduceOfInt, -Int16.reduceOfInt, -Int32.ofInt_neg, TY_10_0, TY_10_0n, TY_10_1, TY_10_1n, TY_10_2, TY_10_2n, TY_10_4, TY_10_4n, TY_10_5, TY_10_5n, TY_10_6, TY_10_6n, TY_10_7, TY_10_7n, TY_10_8, TY_10_8n, TY_10_9, TY_10_9n, TY_10_10, TY_10_10n, TY_10_11, TY_10_11n, TY_10_12, TY_10_12n, TY_10_13, TY_10_13n, O_G_init_Actions_init, C_Actions_init, M_Actions_init, W46_Actions_init, rx_Actions_init, O_G_init_Description_init, C_Description_init, M_Description_init, W46_Description_init, rx_Description_init, O_G_init_History_init, C_History_init, M_History_init, W46_History_init, rx_History_init, O_G_init_House_init, C_House_init, M_House_init, W46_House_init, rx_House_init, O_G_init_Input_init, C_Input_init, M_Input_init, W46_Input_init, rx_Input_init, O_G_init_Night_init, C_Night_init, M_Night_init, W46_Night_init, rx_Night_init, O_G_init_Paths_init, C_Paths_init, M_Paths_init, W46_Paths_init, rx_Paths_init, O_G_init_Row_init, C_Row_init, M_Row_init, W46_Row_init, rx_Row_init, O_G_init_Script_init, C_Script_init, M_Script_init, W46_Script_init, rx_Script_init, O_G_init_Tokens_init, C_Tokens_init, M_Tokens_init, W46_Tokens_init, rx_Tokens_init, F1, F2, hup_at, hup_hup, dfl, nFl, A_r, A_rr, A_rrr, A_rrrr, A_ri, hro, c192, n1, n2, l1, l2]
  try simp (disch := omega) [-Int64.not_lt, -Int64.not_le, -Int32.not_lt, -Int32.not_le, nI_z, nI_ltI, nI_leI, nI_1, nI_clamp, q_vp, nI_pos', rget_k, rset_k, lget_k, hup_hup, F1, F2, hup_at, hup_hup, dfl, nFl, A_r, A_rr, A_rrr, A_rrrr, A_ri, hro, c192, n1, n2, l1, l2]
  obtain ⟨Y3, e3⟩ : ∃ H, H = hup Y2 (z + 37) (.inr (5, [.int 0, .int 0, .int 0, .int 0, .int 0])) := ⟨_, rfl⟩
  have g3 : Y3 z = some (.inr (10, [.null, .null, .null, .int 0, .null, .null, .null, .null, .null, .null, .null, .null, .null, .null, .int 0])) := by
    rw [e3]
    exact (hup_nq (by omega)).trans g2
  change EX G _ _ _ _ (hup Y2 (z + 37) (.inr (5, [.int 0, .int 0, .int 0, .int 0, .int 0]))) (some (z + 38)) 37 9683 Q
  rw [← e3]
  have hro : roomOK m_G_init 0 38 9685 = true := by decide +kernel
  have n1 : z + 38 ≠ z + 38 + 1 := by omega
  have n2 : z + 38 < z + 38 + 1 := by omega
  refine exB_ok (t := [(.astore_n 3, 1, 0, 0, 0, 0), (.new 15, 3, 0, 0, 0, 0), (.dup, 1, 0, 0, 0, 0), (.aload_n 1, 1, 0, 0, 0, 0), (.aload_n 3, 1, 0, 0, 0, 0), (.invokespecial 17, 3, 0, 0, 2, 0)]) (W46_ok G) (jj := fun q L st h o k n => EX G m_G_init q L st h o k n Q) (fun q L st h o k n hq => hq) (by decide +kernel) ?_
  simp [exB, hJ, exT, stp, lv_args, Value.category, lkL, stL1, stL2, insL, contX, q_ofNat, f4_3, nI_1, -Int32.not_lt, -Int32.not_le, -Int64.not_lt, -Int64.not_le, R_G_init, C_G_init, M_G_init, HH_G_init, KS_192, -Int32.reduceOfInt, -Int8.reduceOfInt, -Int16.reduceOfInt, -Int32.ofInt_neg, TY_10_0, TY_10_0n, TY_10_1, TY_10_1n, TY_10_2, TY_10_2n, TY_10_4, TY_10_4n, TY_10_5, TY_10_5n, TY_10_6, TY_10_6n, TY_10_7, TY_10_7n, TY_10_8, TY_10_8n, TY_10_9, TY_10_9n, TY_10_10, TY_10_10n, TY_10_11, TY_10_11n, TY_10_12, TY_10_12n, TY_10_13, TY_10_13n, O_G_init_Actions_init, C_Actions_init, M_Actions_init, W46_Actions_init, rx_Actions_init, O_G_init_Description_init, C_Description_init, M_Description_init, W46_Description_init, rx_Description_init, O_G_init_History_init, C_History_init, M_History_init, W46_History_init, rx_History_init, O_G_init_House_init, C_House_init, M_House_init, W46_House_init, rx_House_init, O_G_init_Input_init, C_Input_init, M_Input_init, W46_Input_init, rx_Input_init, O_G_init_Night_init, C_Night_init, M_Night_init, W46_Night_init, rx_Night_init, O_G_init_Paths_init, C_Paths_init, M_Paths_init, W46_Paths_init, rx_Paths_init, O_G_init_Row_init, C_Row_init, M_Row_init, W46_Row_init, rx_Row_init, O_G_init_Script_init, C_Script_init, M_Script_init, W46_Script_init, rx_Script_init, O_G_init_Tokens_init, C_Tokens_init, M_Tokens_init, W46_Tokens_init, rx_Tokens_init, F1, F2, hup_at, hup_hup, dfl, nFl, A_r, A_rr, A_rrr, A_rrrr, A_ri, hro, c192, n1, n2, l1, l2]
  try simp (disch := omega) [-Int64.not_lt, -Int64.not_le, -Int32.not_lt, -Int32.not_le, nI_z, nI_ltI, nI_leI, nI_1, nI_clamp, q_vp, nI_pos', rget_k, rset_k, lget_k, hup_hup, F1, F2, hup_at, hup_hup, dfl, nFl, A_r, A_rr, A_rrr, A_rrrr, A_ri, hro, c192, n1, n2, l1, l2]
  obtain ⟨Y4, e4⟩ : ∃ H, H = hup Y3 (z + 38) (.inr (0, [.ref (z + 1), .ref (z + 37)])) := ⟨_, rfl⟩
  have g4 : Y4 z = some (.inr (10, [.null, .null, .null, .int 0, .null, .null, .null, .null, .null, .null, .null, .null, .null, .null, .int 0])) := by
    rw [e4]
    exact (hup_nq (by omega)).trans g3
  change EX G _ _ _ _ (hup Y3 (z + 38) (.inr (0, [.ref (z + 1), .ref (z + 37)]))) (some (z + 39)) 38 9685 Q
  rw [← e4]
  have hro : roomOK m_G_init 41 39 9687 = true := by decide +kernel
  have n1 : z + 39 ≠ z + 39 + 1 := by omega
  have n2 : z + 39 < z + 39 + 1 := by omega
  refine exB_ok (t := [(.astore 4, 2, 0, 0, 0, 0), (.new 20, 3, 4, 0, 0, 0), (.dup, 1, 0, 0, 0, 0), (.invokespecial 22, 3, 41, 1, 0, 0)]) (W46_ok G) (jj := fun q L st h o k n => EX G m_G_init q L st h o k n Q) (fun q L st h o k n hq => hq) (by decide +kernel) ?_
  simp [exB, hJ, exT, stp, lv_args, Value.category, lkL, stL1, stL2, insL, contX, q_ofNat, f4_3, nI_1, -Int32.not_lt, -Int32.not_le, -Int64.not_lt, -Int64.not_le, R_G_init, C_G_init, M_G_init, HH_G_init, KS_192, -Int32.reduceOfInt, -Int8.reduceOfInt, -Int16.reduceOfInt, -Int32.ofInt_neg, TY_10_0, TY_10_0n, TY_10_1, TY_10_1n, TY_10_2, TY_10_2n, TY_10_4, TY_10_4n, TY_10_5, TY_10_5n, TY_10_6, TY_10_6n, TY_10_7, TY_10_7n, TY_10_8, TY_10_8n, TY_10_9, TY_10_9n, TY_10_10, TY_10_10n, TY_10_11, TY_10_11n, TY_10_12, TY_10_12n, TY_10_13, TY_10_13n, O_G_init_Actions_init, C_Actions_init, M_Actions_init, W46_Actions_init, rx_Actions_init, O_G_init_Description_init, C_Description_init, M_Description_init, W46_Description_init, rx_Description_init, O_G_init_History_init, C_History_init, M_History_init, W46_History_init, rx_History_init, O_G_init_House_init, C_House_init, M_House_init, W46_House_init, rx_House_init, O_G_init_Input_init, C_Input_init, M_Input_init, W46_Input_init, rx_Input_init, O_G_init_Night_init, C_Night_init, M_Night_init, W46_Night_init, rx_Night_init, O_G_init_Paths_init, C_Paths_init, M_Paths_init, W46_Paths_init, rx_Paths_init, O_G_init_Row_init, C_Row_init, M_Row_init, W46_Row_init, rx_Row_init, O_G_init_Script_init, C_Script_init, M_Script_init, W46_Script_init, rx_Script_init, O_G_init_Tokens_init, C_Tokens_init, M_Tokens_init, W46_Tokens_init, rx_Tokens_init, F1, F2, hup_at, hup_hup, dfl, nFl, A_r, A_rr, A_rrr, A_rrrr, A_ri, hro, c192, n1, n2, l1, l2]
  try simp (disch := omega) [-Int64.not_lt, -Int64.not_le, -Int32.not_lt, -Int32.not_le, nI_z, nI_ltI, nI_leI, nI_1, nI_clamp, q_vp, nI_pos', rget_k, rset_k, lget_k, hup_hup, F1, F2, hup_at, hup_hup, dfl, nFl, A_r, A_rr, A_rrr, A_rrrr, A_ri, hro, c192, n1, n2, l1, l2]
  refine ⟨_, ⟨rfl, n2⟩, ?_⟩
  rw [blk_3 (f := cI (z + 39)) (e := .inr (4, [.ref (z + 39 + 1), .int 0])) rfl rfl rfl]
  obtain ⟨Y5, e5⟩ : ∃ H, H = blk Y4 (z + 39) 3 (cI (z + 39)) := ⟨_, rfl⟩
  have g5 : Y5 z = some (.inr (10, [.null, .null, .null, .int 0, .null, .null, .null, .null, .null, .null, .null, .null, .null, .null, .int 0])) := by
    rw [e5]
    exact (if_neg (by omega)).trans g4
  change EX G _ _ _ _ (blk Y4 (z + 39) 3 (cI (z + 39))) (some (z + 42)) 41 10288 Q
  rw [← e5]
  have hro : roomOK m_G_init 70 42 10297 = true := by decide +kernel
  have n1 : z + 42 ≠ z + 42 + 1 := by omega
  have n2 : z + 42 < z + 42 + 1 := by omega
  refine exB_ok (t := [(.astore 5, 2, 0, 0, 0, 0), (.new 23, 3, 9, 0, 0, 0), (.dup, 1, 0, 0, 0, 0), (.aload 5, 2, 0, 0, 0, 0), (.invokespecial 25, 3, 70, 0, 1, 0)]) (W46_ok G) (jj := fun q L st h o k n => EX G m_G_init q L st h o k n Q) (fun q L st h o k n hq => hq) (by decide +kernel) ?_
  simp [exB, hJ, exT, stp, lv_args, Value.category, lkL, stL1, stL2, insL, contX, q_ofNat, f4_3, nI_1, -Int32.not_lt, -Int32.not_le, -Int64.not_lt, -Int64.not_le, R_G_init, C_G_init, M_G_init, HH_G_init, KS_192, -Int32.reduceOfInt, -Int8.reduceOfInt, -Int16.reduceOfInt, -Int32.ofInt_neg, TY_10_0, TY_10_0n, TY_10_1, TY_10_1n, TY_10_2, TY_10_2n, TY_10_4, TY_10_4n, TY_10_5, TY_10_5n, TY_10_6, TY_10_6n, TY_10_7, TY_10_7n, TY_10_8, TY_10_8n, TY_10_9, TY_10_9n, TY_10_10, TY_10_10n, TY_10_11, TY_10_11n, TY_10_12, TY_10_12n, TY_10_13, TY_10_13n, O_G_init_Actions_init, C_Actions_init, M_Actions_init, W46_Actions_init, rx_Actions_init, O_G_init_Description_init, C_Description_init, M_Description_init, W46_Description_init, rx_Description_init, O_G_init_History_init, C_History_init, M_History_init, W46_History_init, rx_History_init, O_G_init_House_init, C_House_init, M_House_init, W46_House_init, rx_House_init, O_G_init_Input_init, C_Input_init, M_Input_init, W46_Input_init, rx_Input_init, O_G_init_Night_init, C_Night_init, M_Night_init, W46_Night_init, rx_Night_init, O_G_init_Paths_init, C_Paths_init, M_Paths_init, W46_Paths_init, rx_Paths_init, O_G_init_Row_init, C_Row_init, M_Row_init, W46_Row_init, rx_Row_init, O_G_init_Script_init, C_Script_init, M_Script_init, W46_Script_init, rx_Script_init, O_G_init_Tokens_init, C_Tokens_init, M_Tokens_init, W46_Tokens_init, rx_Tokens_init, F1, F2, hup_at, hup_hup, dfl, nFl, A_r, A_rr, A_rrr, A_rrrr, A_ri, hro, c192, n1, n2, l1, l2]
  try simp (disch := omega) [-Int64.not_lt, -Int64.not_le, -Int32.not_lt, -Int32.not_le, nI_z, nI_ltI, nI_leI, nI_1, nI_clamp, q_vp, nI_pos', rget_k, rset_k, lget_k, hup_hup, F1, F2, hup_at, hup_hup, dfl, nFl, A_r, A_rr, A_rrr, A_rrrr, A_ri, hro, c192, n1, n2, l1, l2]
  obtain ⟨Y6, e6⟩ : ∃ H, H = hup Y5 (z + 42) (.inr (9, [.ref (z + 39), .int 0, .int 0, .int 0, .int 0, .long 0, .int 0, .int 0, .int (-1)])) := ⟨_, rfl⟩
  have g6 : Y6 z = some (.inr (10, [.null, .null, .null, .int 0, .null, .null, .null, .null, .null, .null, .null, .null, .null, .null, .int 0])) := by
    rw [e6]
    exact (hup_nq (by omega)).trans g5
  change EX G _ _ _ _ (hup Y5 (z + 42) (.inr (9, [.ref (z + 39), .int 0, .int 0, .int 0, .int 0, .long 0, .int 0, .int 0, .int (-1)]))) (some (z + 43)) 42 10297 Q
  rw [← e6]
  refine exB_ok (t := [(.astore 6, 2, 0, 0, 0, 0), (.aload_n 0, 1, 0, 0, 0, 0), (.aload_n 1, 1, 0, 0, 0, 0), (.putfield 28, 3, 10, 0, 0, 0), (.aload_n 0, 1, 0, 0, 0, 0), (.aload_n 2, 1, 0, 0, 0, 0), (.putfield 32, 3, 10, 1, 0, 0)]) (W46_ok G) (jj := fun q L st h o k n => EX G m_G_init q L st h o k n Q) (fun q L st h o k n hq => hq) (by decide +kernel) ?_
  simp [exB, hJ, exT, stp, lv_args, Value.category, lkL, stL1, stL2, insL, contX, q_ofNat, f4_3, nI_1, -Int32.not_lt, -Int32.not_le, -Int64.not_lt, -Int64.not_le, R_G_init, C_G_init, M_G_init, HH_G_init, KS_192, -Int32.reduceOfInt, -Int8.reduceOfInt, -Int16.reduceOfInt, -Int32.ofInt_neg, TY_10_0, TY_10_0n, TY_10_1, TY_10_1n, TY_10_2, TY_10_2n, TY_10_4, TY_10_4n, TY_10_5, TY_10_5n, TY_10_6, TY_10_6n, TY_10_7, TY_10_7n, TY_10_8, TY_10_8n, TY_10_9, TY_10_9n, TY_10_10, TY_10_10n, TY_10_11, TY_10_11n, TY_10_12, TY_10_12n, TY_10_13, TY_10_13n, O_G_init_Actions_init, C_Actions_init, M_Actions_init, W46_Actions_init, rx_Actions_init, O_G_init_Description_init, C_Description_init, M_Description_init, W46_Description_init, rx_Description_init, O_G_init_History_init, C_History_init, M_History_init, W46_History_init, rx_History_init, O_G_init_House_init, C_House_init, M_House_init, W46_House_init, rx_House_init, O_G_init_Input_init, C_Input_init, M_Input_init, W46_Input_init, rx_Input_init, O_G_init_Night_init, C_Night_init, M_Night_init, W46_Night_init, rx_Night_init, O_G_init_Paths_init, C_Paths_init, M_Paths_init, W46_Paths_init, rx_Paths_init, O_G_init_Row_init, C_Row_init, M_Row_init, W46_Row_init, rx_Row_init, O_G_init_Script_init, C_Script_init, M_Script_init, W46_Script_init, rx_Script_init, O_G_init_Tokens_init, C_Tokens_init, M_Tokens_init, W46_Tokens_init, rx_Tokens_init, g6, hup_at, hup_hup]
  try simp (disch := omega) [-Int64.not_lt, -Int64.not_le, -Int32.not_lt, -Int32.not_le, nI_z, nI_ltI, nI_leI, nI_1, nI_clamp, q_vp, nI_pos', rget_k, rset_k, lget_k, hup_hup, g6, hup_at, hup_hup]
  obtain ⟨Y7, e7⟩ : ∃ H, H = hup Y6 z (.inr (10, [.ref (z + 1), .ref (z + 19), .null, .int 0, .null, .null, .null, .null, .null, .null, .null, .null, .null, .null, .int 0])) := ⟨_, rfl⟩
  have g7 : Y7 z = some (.inr (10, [.ref (z + 1), .ref (z + 19), .null, .int 0, .null, .null, .null, .null, .null, .null, .null, .null, .null, .null, .int 0])) := by
    rw [e7]
    exact hup_at _ _ _
  change EX G _ _ _ _ (hup Y6 z (.inr (10, [.ref (z + 1), .ref (z + 19), .null, .int 0, .null, .null, .null, .null, .null, .null, .null, .null, .null, .null, .int 0]))) (some (z + 43)) 42 10297 Q
  rw [← e7]
  have hro : roomOK m_G_init 25 43 10316 = true := by decide +kernel
  have n1 : z + 43 ≠ z + 43 + 1 := by omega
  have n2 : z + 43 < z + 43 + 1 := by omega
  refine exB_ok (t := [(.aload_n 0, 1, 0, 0, 0, 0), (.new 9, 3, 3, 0, 0, 0), (.dup, 1, 0, 0, 0, 0), (.invokespecial 11, 3, 25, 0, 0, 0)]) (W46_ok G) (jj := fun q L st h o k n => EX G m_G_init q L st h o k n Q) (fun q L st h o k n hq => hq) (by decide +kernel) ?_
  simp [exB, hJ, exT, stp, lv_args, Value.category, lkL, stL1, stL2, insL, contX, q_ofNat, f4_3, nI_1, -Int32.not_lt, -Int32.not_le, -Int64.not_lt, -Int64.not_le, R_G_init, C_G_init, M_G_init, HH_G_init, KS_192, -Int32.reduceOfInt, -Int8.reduceOfInt, -Int16.reduceOfInt, -Int32.ofInt_neg, TY_10_0, TY_10_0n, TY_10_1, TY_10_1n, TY_10_2, TY_10_2n, TY_10_4, TY_10_4n, TY_10_5, TY_10_5n, TY_10_6, TY_10_6n, TY_10_7, TY_10_7n, TY_10_8, TY_10_8n, TY_10_9, TY_10_9n, TY_10_10, TY_10_10n, TY_10_11, TY_10_11n, TY_10_12, TY_10_12n, TY_10_13, TY_10_13n, O_G_init_Actions_init, C_Actions_init, M_Actions_init, W46_Actions_init, rx_Actions_init, O_G_init_Description_init, C_Description_init, M_Description_init, W46_Description_init, rx_Description_init, O_G_init_History_init, C_History_init, M_History_init, W46_History_init, rx_History_init, O_G_init_House_init, C_House_init, M_House_init, W46_House_init, rx_House_init, O_G_init_Input_init, C_Input_init, M_Input_init, W46_Input_init, rx_Input_init, O_G_init_Night_init, C_Night_init, M_Night_init, W46_Night_init, rx_Night_init, O_G_init_Paths_init, C_Paths_init, M_Paths_init, W46_Paths_init, rx_Paths_init, O_G_init_Row_init, C_Row_init, M_Row_init, W46_Row_init, rx_Row_init, O_G_init_Script_init, C_Script_init, M_Script_init, W46_Script_init, rx_Script_init, O_G_init_Tokens_init, C_Tokens_init, M_Tokens_init, W46_Tokens_init, rx_Tokens_init, F1, F2, hup_at, hup_hup, dfl, nFl, A_r, A_rr, A_rrr, A_rrrr, A_ri, hro, c192, n1, n2, l1, l2]
  try simp (disch := omega) [-Int64.not_lt, -Int64.not_le, -Int32.not_lt, -Int32.not_le, nI_z, nI_ltI, nI_leI, nI_1, nI_clamp, q_vp, nI_pos', rget_k, rset_k, lget_k, hup_hup, F1, F2, hup_at, hup_hup, dfl, nFl, A_r, A_rr, A_rrr, A_rrrr, A_ri, hro, c192, n1, n2, l1, l2]
  try rw [hH_own]
  obtain ⟨Y8, e8⟩ : ∃ H, H = hH Y7 (z + 43) HN := ⟨_, rfl⟩
  have g8 : Y8 z = some (.inr (10, [.ref (z + 1), .ref (z + 19), .null, .int 0, .null, .null, .null, .null, .null, .null, .null, .null, .null, .null, .int 0])) := by
    rw [e8]
    exact (hH_out (by omega)).trans g7
  change EX G _ _ _ _ (hH Y7 (z + 43) HN) (some (z + 61)) 60 15136 Q
  rw [← e8]
  refine exB_ok (t := [(.putfield 35, 3, 10, 2, 0, 0), (.aload_n 0, 1, 0, 0, 0, 0), (.aload_n 3, 1, 0, 0, 0, 0), (.putfield 38, 3, 10, 4, 0, 0), (.aload_n 0, 1, 0, 0, 0, 0), (.aload 4, 2, 0, 0, 0, 0), (.putfield 42, 3, 10, 5, 0, 0)]) (W46_ok G) (jj := fun q L st h o k n => EX G m_G_init q L st h o k n Q) (fun q L st h o k n hq => hq) (by decide +kernel) ?_
  simp [exB, hJ, exT, stp, lv_args, Value.category, lkL, stL1, stL2, insL, contX, q_ofNat, f4_3, nI_1, -Int32.not_lt, -Int32.not_le, -Int64.not_lt, -Int64.not_le, R_G_init, C_G_init, M_G_init, HH_G_init, KS_192, -Int32.reduceOfInt, -Int8.reduceOfInt, -Int16.reduceOfInt, -Int32.ofInt_neg, TY_10_0, TY_10_0n, TY_10_1, TY_10_1n, TY_10_2, TY_10_2n, TY_10_4, TY_10_4n, TY_10_5, TY_10_5n, TY_10_6, TY_10_6n, TY_10_7, TY_10_7n, TY_10_8, TY_10_8n, TY_10_9, TY_10_9n, TY_10_10, TY_10_10n, TY_10_11, TY_10_11n, TY_10_12, TY_10_12n, TY_10_13, TY_10_13n, O_G_init_Actions_init, C_Actions_init, M_Actions_init, W46_Actions_init, rx_Actions_init, O_G_init_Description_init, C_Description_init, M_Description_init, W46_Description_init, rx_Description_init, O_G_init_History_init, C_History_init, M_History_init, W46_History_init, rx_History_init, O_G_init_House_init, C_House_init, M_House_init, W46_House_init, rx_House_init, O_G_init_Input_init, C_Input_init, M_Input_init, W46_Input_init, rx_Input_init, O_G_init_Night_init, C_Night_init, M_Night_init, W46_Night_init, rx_Night_init, O_G_init_Paths_init, C_Paths_init, M_Paths_init, W46_Paths_init, rx_Paths_init, O_G_init_Row_init, C_Row_init, M_Row_init, W46_Row_init, rx_Row_init, O_G_init_Script_init, C_Script_init, M_Script_init, W46_Script_init, rx_Script_init, O_G_init_Tokens_init, C_Tokens_init, M_Tokens_init, W46_Tokens_init, rx_Tokens_init, g8, hup_at, hup_hup]
  try simp (disch := omega) [-Int64.not_lt, -Int64.not_le, -Int32.not_lt, -Int32.not_le, nI_z, nI_ltI, nI_leI, nI_1, nI_clamp, q_vp, nI_pos', rget_k, rset_k, lget_k, hup_hup, g8, hup_at, hup_hup]
  obtain ⟨Y9, e9⟩ : ∃ H, H = hup Y8 z (.inr (10, [.ref (z + 1), .ref (z + 19), .ref (z + 43), .int 0, .ref (z + 37), .ref (z + 38), .null, .null, .null, .null, .null, .null, .null, .null, .int 0])) := ⟨_, rfl⟩
  have g9 : Y9 z = some (.inr (10, [.ref (z + 1), .ref (z + 19), .ref (z + 43), .int 0, .ref (z + 37), .ref (z + 38), .null, .null, .null, .null, .null, .null, .null, .null, .int 0])) := by
    rw [e9]
    exact hup_at _ _ _
  change EX G _ _ _ _ (hup Y8 z (.inr (10, [.ref (z + 1), .ref (z + 19), .ref (z + 43), .int 0, .ref (z + 37), .ref (z + 38), .null, .null, .null, .null, .null, .null, .null, .null, .int 0]))) (some (z + 61)) 60 15136 Q
  rw [← e9]
  have hro : roomOK m_G_init 20 61 15139 = true := by decide +kernel
  have n1 : z + 61 ≠ z + 61 + 1 := by omega
  have n2 : z + 61 < z + 61 + 1 := by omega
  refine exB_ok (t := [(.aload_n 0, 1, 0, 0, 0, 0), (.new 46, 3, 2, 0, 0, 0), (.dup, 1, 0, 0, 0, 0), (.invokespecial 48, 3, 20, 0, 0, 0)]) (W46_ok G) (jj := fun q L st h o k n => EX G m_G_init q L st h o k n Q) (fun q L st h o k n hq => hq) (by decide +kernel) ?_
  simp [exB, hJ, exT, stp, lv_args, Value.category, lkL, stL1, stL2, insL, contX, q_ofNat, f4_3, nI_1, -Int32.not_lt, -Int32.not_le, -Int64.not_lt, -Int64.not_le, R_G_init, C_G_init, M_G_init, HH_G_init, KS_192, -Int32.reduceOfInt, -Int8.reduceOfInt, -Int16.reduceOfInt, -Int32.ofInt_neg, TY_10_0, TY_10_0n, TY_10_1, TY_10_1n, TY_10_2, TY_10_2n, TY_10_4, TY_10_4n, TY_10_5, TY_10_5n, TY_10_6, TY_10_6n, TY_10_7, TY_10_7n, TY_10_8, TY_10_8n, TY_10_9, TY_10_9n, TY_10_10, TY_10_10n, TY_10_11, TY_10_11n, TY_10_12, TY_10_12n, TY_10_13, TY_10_13n, O_G_init_Actions_init, C_Actions_init, M_Actions_init, W46_Actions_init, rx_Actions_init, O_G_init_Description_init, C_Description_init, M_Description_init, W46_Description_init, rx_Description_init, O_G_init_History_init, C_History_init, M_History_init, W46_History_init, rx_History_init, O_G_init_House_init, C_House_init, M_House_init, W46_House_init, rx_House_init, O_G_init_Input_init, C_Input_init, M_Input_init, W46_Input_init, rx_Input_init, O_G_init_Night_init, C_Night_init, M_Night_init, W46_Night_init, rx_Night_init, O_G_init_Paths_init, C_Paths_init, M_Paths_init, W46_Paths_init, rx_Paths_init, O_G_init_Row_init, C_Row_init, M_Row_init, W46_Row_init, rx_Row_init, O_G_init_Script_init, C_Script_init, M_Script_init, W46_Script_init, rx_Script_init, O_G_init_Tokens_init, C_Tokens_init, M_Tokens_init, W46_Tokens_init, rx_Tokens_init, F1, F2, hup_at, hup_hup, dfl, nFl, A_r, A_rr, A_rrr, A_rrrr, A_ri, hro, c192, n1, n2, l1, l2]
  try simp (disch := omega) [-Int64.not_lt, -Int64.not_le, -Int32.not_lt, -Int32.not_le, nI_z, nI_ltI, nI_leI, nI_1, nI_clamp, q_vp, nI_pos', rget_k, rset_k, lget_k, hup_hup, F1, F2, hup_at, hup_hup, dfl, nFl, A_r, A_rr, A_rrr, A_rrrr, A_ri, hro, c192, n1, n2, l1, l2]
  try rw [hS_own]
  obtain ⟨Y10, e10⟩ : ∃ H, H = hS Y9 (z + 61) 7 := ⟨_, rfl⟩
  have g10 : Y10 z = some (.inr (10, [.ref (z + 1), .ref (z + 19), .ref (z + 43), .int 0, .ref (z + 37), .ref (z + 38), .null, .null, .null, .null, .null, .null, .null, .null, .int 0])) := by
    rw [e10]
    exact (show hS Y9 (z + 61) 7 z = Y9 z by unfold hS; rw [if_neg (by omega), if_neg (by omega), if_neg (by omega)]).trans g9
  change EX G _ _ _ _ (hS Y9 (z + 61) 7) (some (z + 189)) 188 49019 Q
  rw [← e10]
  refine exB_ok (t := [(.putfield 49, 3, 10, 6, 0, 0)]) (W46_ok G) (jj := fun q L st h o k n => EX G m_G_init q L st h o k n Q) (fun q L st h o k n hq => hq) (by decide +kernel) ?_
  simp [exB, hJ, exT, stp, lv_args, Value.category, lkL, stL1, stL2, insL, contX, q_ofNat, f4_3, nI_1, -Int32.not_lt, -Int32.not_le, -Int64.not_lt, -Int64.not_le, R_G_init, C_G_init, M_G_init, HH_G_init, KS_192, -Int32.reduceOfInt, -Int8.reduceOfInt, -Int16.reduceOfInt, -Int32.ofInt_neg, TY_10_0, TY_10_0n, TY_10_1, TY_10_1n, TY_10_2, TY_10_2n, TY_10_4, TY_10_4n, TY_10_5, TY_10_5n, TY_10_6, TY_10_6n, TY_10_7, TY_10_7n, TY_10_8, TY_10_8n, TY_10_9, TY_10_9n, TY_10_10, TY_10_10n, TY_10_11, TY_10_11n, TY_10_12, TY_10_12n, TY_10_13, TY_10_13n, O_G_init_Actions_init, C_Actions_init, M_Actions_init, W46_Actions_init, rx_Actions_init, O_G_init_Description_init, C_Description_init, M_Description_init, W46_Description_init, rx_Description_init, O_G_init_History_init, C_History_init, M_History_init, W46_History_init, rx_History_init, O_G_init_House_init, C_House_init, M_House_init, W46_House_init, rx_House_init, O_G_init_Input_init, C_Input_init, M_Input_init, W46_Input_init, rx_Input_init, O_G_init_Night_init, C_Night_init, M_Night_init, W46_Night_init, rx_Night_init, O_G_init_Paths_init, C_Paths_init, M_Paths_init, W46_Paths_init, rx_Paths_init, O_G_init_Row_init, C_Row_init, M_Row_init, W46_Row_init, rx_Row_init, O_G_init_Script_init, C_Script_init, M_Script_init, W46_Script_init, rx_Script_init, O_G_init_Tokens_init, C_Tokens_init, M_Tokens_init, W46_Tokens_init, rx_Tokens_init, g10, hup_at, hup_hup]
  try simp (disch := omega) [-Int64.not_lt, -Int64.not_le, -Int32.not_lt, -Int32.not_le, nI_z, nI_ltI, nI_leI, nI_1, nI_clamp, q_vp, nI_pos', rget_k, rset_k, lget_k, hup_hup, g10, hup_at, hup_hup]
  obtain ⟨Y11, e11⟩ : ∃ H, H = hup Y10 z (.inr (10, [.ref (z + 1), .ref (z + 19), .ref (z + 43), .int 0, .ref (z + 37), .ref (z + 38), .ref (z + 61), .null, .null, .null, .null, .null, .null, .null, .int 0])) := ⟨_, rfl⟩
  have g11 : Y11 z = some (.inr (10, [.ref (z + 1), .ref (z + 19), .ref (z + 43), .int 0, .ref (z + 37), .ref (z + 38), .ref (z + 61), .null, .null, .null, .null, .null, .null, .null, .int 0])) := by
    rw [e11]
    exact hup_at _ _ _
  change EX G _ _ _ _ (hup Y10 z (.inr (10, [.ref (z + 1), .ref (z + 19), .ref (z + 43), .int 0, .ref (z + 37), .ref (z + 38), .ref (z + 61), .null, .null, .null, .null, .null, .null, .null, .int 0]))) (some (z + 189)) 188 49019 Q
  rw [← e11]
  have hro : roomOK m_G_init 55 189 49020 = true := by decide +kernel
  have n1 : z + 189 ≠ z + 189 + 1 := by omega
  have n2 : z + 189 < z + 189 + 1 := by omega
  refine exB_ok (t := [(.aload_n 0, 1, 0, 0, 0, 0), (.new 53, 3, 6, 0, 0, 0), (.dup, 1, 0, 0, 0, 0), (.invokespecial 55, 3, 55, 1, 0, 0)]) (W46_ok G) (jj := fun q L st h o k n => EX G m_G_init q L st h o k n Q) (fun q L st h o k n hq => hq) (by decide +kernel) ?_
  simp [exB, hJ, exT, stp, lv_args, Value.category, lkL, stL1, stL2, insL, contX, q_ofNat, f4_3, nI_1, -Int32.not_lt, -Int32.not_le, -Int64.not_lt, -Int64.not_le, R_G_init, C_G_init, M_G_init, HH_G_init, KS_192, -Int32.reduceOfInt, -Int8.reduceOfInt, -Int16.reduceOfInt, -Int32.ofInt_neg, TY_10_0, TY_10_0n, TY_10_1, TY_10_1n, TY_10_2, TY_10_2n, TY_10_4, TY_10_4n, TY_10_5, TY_10_5n, TY_10_6, TY_10_6n, TY_10_7, TY_10_7n, TY_10_8, TY_10_8n, TY_10_9, TY_10_9n, TY_10_10, TY_10_10n, TY_10_11, TY_10_11n, TY_10_12, TY_10_12n, TY_10_13, TY_10_13n, O_G_init_Actions_init, C_Actions_init, M_Actions_init, W46_Actions_init, rx_Actions_init, O_G_init_Description_init, C_Description_init, M_Description_init, W46_Description_init, rx_Description_init, O_G_init_History_init, C_History_init, M_History_init, W46_History_init, rx_History_init, O_G_init_House_init, C_House_init, M_House_init, W46_House_init, rx_House_init, O_G_init_Input_init, C_Input_init, M_Input_init, W46_Input_init, rx_Input_init, O_G_init_Night_init, C_Night_init, M_Night_init, W46_Night_init, rx_Night_init, O_G_init_Paths_init, C_Paths_init, M_Paths_init, W46_Paths_init, rx_Paths_init, O_G_init_Row_init, C_Row_init, M_Row_init, W46_Row_init, rx_Row_init, O_G_init_Script_init, C_Script_init, M_Script_init, W46_Script_init, rx_Script_init, O_G_init_Tokens_init, C_Tokens_init, M_Tokens_init, W46_Tokens_init, rx_Tokens_init, F1, F2, hup_at, hup_hup, dfl, nFl, A_r, A_rr, A_rrr, A_rrrr, A_ri, hro, c192, n1, n2, l1, l2]
  try simp (disch := omega) [-Int64.not_lt, -Int64.not_le, -Int32.not_lt, -Int32.not_le, nI_z, nI_ltI, nI_leI, nI_1, nI_clamp, q_vp, nI_pos', rget_k, rset_k, lget_k, hup_hup, F1, F2, hup_at, hup_hup, dfl, nFl, A_r, A_rr, A_rrr, A_rrrr, A_ri, hro, c192, n1, n2, l1, l2]
  refine ⟨_, ⟨rfl, n2⟩, ?_⟩
  rw [blk_3 (f := cP (z + 189)) (e := .inr (6, [.ref (z + 189 + 1)])) rfl rfl rfl]
  obtain ⟨Y12, e12⟩ : ∃ H, H = blk Y11 (z + 189) 3 (cP (z + 189)) := ⟨_, rfl⟩
  have g12 : Y12 z = some (.inr (10, [.ref (z + 1), .ref (z + 19), .ref (z + 43), .int 0, .ref (z + 37), .ref (z + 38), .ref (z + 61), .null, .null, .null, .null, .null, .null, .null, .int 0])) := by
    rw [e12]
    exact (if_neg (by omega)).trans g11
  change EX G _ _ _ _ (blk Y11 (z + 189) 3 (cP (z + 189))) (some (z + 192)) 191 49621 Q
  rw [← e12]
  refine exB_ok (t := [(.putfield 56, 3, 10, 7, 0, 0)]) (W46_ok G) (jj := fun q L st h o k n => EX G m_G_init q L st h o k n Q) (fun q L st h o k n hq => hq) (by decide +kernel) ?_
  simp [exB, hJ, exT, stp, lv_args, Value.category, lkL, stL1, stL2, insL, contX, q_ofNat, f4_3, nI_1, -Int32.not_lt, -Int32.not_le, -Int64.not_lt, -Int64.not_le, R_G_init, C_G_init, M_G_init, HH_G_init, KS_192, -Int32.reduceOfInt, -Int8.reduceOfInt, -Int16.reduceOfInt, -Int32.ofInt_neg, TY_10_0, TY_10_0n, TY_10_1, TY_10_1n, TY_10_2, TY_10_2n, TY_10_4, TY_10_4n, TY_10_5, TY_10_5n, TY_10_6, TY_10_6n, TY_10_7, TY_10_7n, TY_10_8, TY_10_8n, TY_10_9, TY_10_9n, TY_10_10, TY_10_10n, TY_10_11, TY_10_11n, TY_10_12, TY_10_12n, TY_10_13, TY_10_13n, O_G_init_Actions_init, C_Actions_init, M_Actions_init, W46_Actions_init, rx_Actions_init, O_G_init_Description_init, C_Description_init, M_Description_init, W46_Description_init, rx_Description_init, O_G_init_History_init, C_History_init, M_History_init, W46_History_init, rx_History_init, O_G_init_House_init, C_House_init, M_House_init, W46_House_init, rx_House_init, O_G_init_Input_init, C_Input_init, M_Input_init, W46_Input_init, rx_Input_init, O_G_init_Night_init, C_Night_init, M_Night_init, W46_Night_init, rx_Night_init, O_G_init_Paths_init, C_Paths_init, M_Paths_init, W46_Paths_init, rx_Paths_init, O_G_init_Row_init, C_Row_init, M_Row_init, W46_Row_init, rx_Row_init, O_G_init_Script_init, C_Script_init, M_Script_init, W46_Script_init, rx_Script_init, O_G_init_Tokens_init, C_Tokens_init, M_Tokens_init, W46_Tokens_init, rx_Tokens_init, g12, hup_at, hup_hup]
  try simp (disch := omega) [-Int64.not_lt, -Int64.not_le, -Int32.not_lt, -Int32.not_le, nI_z, nI_ltI, nI_leI, nI_1, nI_clamp, q_vp, nI_pos', rget_k, rset_k, lget_k, hup_hup, g12, hup_at, hup_hup]
  obtain ⟨Y13, e13⟩ : ∃ H, H = hup Y12 z (.inr (10, [.ref (z + 1), .ref (z + 19), .ref (z + 43), .int 0, .ref (z + 37), .ref (z + 38), .ref (z + 61), .ref (z + 189), .null, .null, .null, .null, .null, .null, .int 0])) := ⟨_, rfl⟩
  have g13 : Y13 z = some (.inr (10, [.ref (z + 1), .ref (z + 19), .ref (z + 43), .int 0, .ref (z + 37), .ref (z + 38), .ref (z + 61), .ref (z + 189), .null, .null, .null, .null, .null, .null, .int 0])) := by
    rw [e13]
    exact hup_at _ _ _
  change EX G _ _ _ _ (hup Y12 z (.inr (10, [.ref (z + 1), .ref (z + 19), .ref (z + 43), .int 0, .ref (z + 37), .ref (z + 38), .ref (z + 61), .ref (z + 189), .null, .null, .null, .null, .null, .null, .int 0]))) (some (z + 192)) 191 49621 Q
  rw [← e13]
  have hro : roomOK m_G_init 55 192 49622 = true := by decide +kernel
  have n1 : z + 192 ≠ z + 192 + 1 := by omega
  have n2 : z + 192 < z + 192 + 1 := by omega
  refine exB_ok (t := [(.aload_n 0, 1, 0, 0, 0, 0), (.new 53, 3, 6, 0, 0, 0), (.dup, 1, 0, 0, 0, 0), (.invokespecial 55, 3, 55, 1, 0, 0)]) (W46_ok G) (jj := fun q L st h o k n => EX G m_G_init q L st h o k n Q) (fun q L st h o k n hq => hq) (by decide +kernel) ?_
  simp [exB, hJ, exT, stp, lv_args, Value.category, lkL, stL1, stL2, insL, contX, q_ofNat, f4_3, nI_1, -Int32.not_lt, -Int32.not_le, -Int64.not_lt, -Int64.not_le, R_G_init, C_G_init, M_G_init, HH_G_init, KS_192, -Int32.reduceOfInt, -Int8.reduceOfInt, -Int16.reduceOfInt, -Int32.ofInt_neg, TY_10_0, TY_10_0n, TY_10_1, TY_10_1n, TY_10_2, TY_10_2n, TY_10_4, TY_10_4n, TY_10_5, TY_10_5n, TY_10_6, TY_10_6n, TY_10_7, TY_10_7n, TY_10_8, TY_10_8n, TY_10_9, TY_10_9n, TY_10_10, TY_10_10n, TY_10_11, TY_10_11n, TY_10_12, TY_10_12n, TY_10_13, TY_10_13n, O_G_init_Actions_init, C_Actions_init, M_Actions_init, W46_Actions_init, rx_Actions_init, O_G_init_Description_init, C_Description_init, M_Description_init, W46_Description_init, rx_Description_init, O_G_init_History_init, C_History_init, M_History_init, W46_History_init, rx_History_init, O_G_init_House_init, C_House_init, M_House_init, W46_House_init, rx_House_init, O_G_init_Input_init, C_Input_init, M_Input_init, W46_Input_init, rx_Input_init, O_G_init_Night_init, C_Night_init, M_Night_init, W46_Night_init, rx_Night_init, O_G_init_Paths_init, C_Paths_init, M_Paths_init, W46_Paths_init, rx_Paths_init, O_G_init_Row_init, C_Row_init, M_Row_init, W46_Row_init, rx_Row_init, O_G_init_Script_init, C_Script_init, M_Script_init, W46_Script_init, rx_Script_init, O_G_init_Tokens_init, C_Tokens_init, M_Tokens_init, W46_Tokens_init, rx_Tokens_init, F1, F2, hup_at, hup_hup, dfl, nFl, A_r, A_rr, A_rrr, A_rrrr, A_ri, hro, c192, n1, n2, l1, l2]
  try simp (disch := omega) [-Int64.not_lt, -Int64.not_le, -Int32.not_lt, -Int32.not_le, nI_z, nI_ltI, nI_leI, nI_1, nI_clamp, q_vp, nI_pos', rget_k, rset_k, lget_k, hup_hup, F1, F2, hup_at, hup_hup, dfl, nFl, A_r, A_rr, A_rrr, A_rrrr, A_ri, hro, c192, n1, n2, l1, l2]
  refine ⟨_, ⟨rfl, n2⟩, ?_⟩
  rw [blk_3 (f := cP (z + 192)) (e := .inr (6, [.ref (z + 192 + 1)])) rfl rfl rfl]
  obtain ⟨Y14, e14⟩ : ∃ H, H = blk Y13 (z + 192) 3 (cP (z + 192)) := ⟨_, rfl⟩
  have g14 : Y14 z = some (.inr (10, [.ref (z + 1), .ref (z + 19), .ref (z + 43), .int 0, .ref (z + 37), .ref (z + 38), .ref (z + 61), .ref (z + 189), .null, .null, .null, .null, .null, .null, .int 0])) := by
    rw [e14]
    exact (if_neg (by omega)).trans g13
  change EX G _ _ _ _ (blk Y13 (z + 192) 3 (cP (z + 192))) (some (z + 195)) 194 50223 Q
  rw [← e14]
  refine exB_ok (t := [(.putfield 60, 3, 10, 8, 0, 0), (.aload_n 0, 1, 0, 0, 0, 0), (.aload 5, 2, 0, 0, 0, 0), (.putfield 63, 3, 10, 9, 0, 0), (.aload_n 0, 1, 0, 0, 0, 0), (.aload 6, 2, 0, 0, 0, 0), (.putfield 67, 3, 10, 10, 0, 0)]) (W46_ok G) (jj := fun q L st h o k n => EX G m_G_init q L st h o k n Q) (fun q L st h o k n hq => hq) (by decide +kernel) ?_
  simp [exB, hJ, exT, stp, lv_args, Value.category, lkL, stL1, stL2, insL, contX, q_ofNat, f4_3, nI_1, -Int32.not_lt, -Int32.not_le, -Int64.not_lt, -Int64.not_le, R_G_init, C_G_init, M_G_init, HH_G_init, KS_192, -Int32.reduceOfInt, -Int8.reduceOfInt, -Int16.reduceOfInt, -Int32.ofInt_neg, TY_10_0, TY_10_0n, TY_10_1, TY_10_1n, TY_10_2, TY_10_2n, TY_10_4, TY_10_4n, TY_10_5, TY_10_5n, TY_10_6, TY_10_6n, TY_10_7, TY_10_7n, TY_10_8, TY_10_8n, TY_10_9, TY_10_9n, TY_10_10, TY_10_10n, TY_10_11, TY_10_11n, TY_10_12, TY_10_12n, TY_10_13, TY_10_13n, O_G_init_Actions_init, C_Actions_init, M_Actions_init, W46_Actions_init, rx_Actions_init, O_G_init_Description_init, C_Description_init, M_Description_init, W46_Description_init, rx_Description_init, O_G_init_History_init, C_History_init, M_History_init, W46_History_init, rx_History_init, O_G_init_House_init, C_House_init, M_House_init, W46_House_init, rx_House_init, O_G_init_Input_init, C_Input_init, M_Input_init, W46_Input_init, rx_Input_init, O_G_init_Night_init, C_Night_init, M_Night_init, W46_Night_init, rx_Night_init, O_G_init_Paths_init, C_Paths_init, M_Paths_init, W46_Paths_init, rx_Paths_init, O_G_init_Row_init, C_Row_init, M_Row_init, W46_Row_init, rx_Row_init, O_G_init_Script_init, C_Script_init, M_Script_init, W46_Script_init, rx_Script_init, O_G_init_Tokens_init, C_Tokens_init, M_Tokens_init, W46_Tokens_init, rx_Tokens_init, g14, hup_at, hup_hup]
  try simp (disch := omega) [-Int64.not_lt, -Int64.not_le, -Int32.not_lt, -Int32.not_le, nI_z, nI_ltI, nI_leI, nI_1, nI_clamp, q_vp, nI_pos', rget_k, rset_k, lget_k, hup_hup, g14, hup_at, hup_hup]
  obtain ⟨Y15, e15⟩ : ∃ H, H = hup Y14 z (.inr (10, [.ref (z + 1), .ref (z + 19), .ref (z + 43), .int 0, .ref (z + 37), .ref (z + 38), .ref (z + 61), .ref (z + 189), .ref (z + 192), .ref (z + 39), .ref (z + 42), .null, .null, .null, .int 0])) := ⟨_, rfl⟩
  have g15 : Y15 z = some (.inr (10, [.ref (z + 1), .ref (z + 19), .ref (z + 43), .int 0, .ref (z + 37), .ref (z + 38), .ref (z + 61), .ref (z + 189), .ref (z + 192), .ref (z + 39), .ref (z + 42), .null, .null, .null, .int 0])) := by
    rw [e15]
    exact hup_at _ _ _
  change EX G _ _ _ _ (hup Y14 z (.inr (10, [.ref (z + 1), .ref (z + 19), .ref (z + 43), .int 0, .ref (z + 37), .ref (z + 38), .ref (z + 61), .ref (z + 189), .ref (z + 192), .ref (z + 39), .ref (z + 42), .null, .null, .null, .int 0]))) (some (z + 195)) 194 50223 Q
  rw [← e15]
  have hro : roomOK m_G_init 12 195 50226 = true := by decide +kernel
  have n1 : z + 195 ≠ z + 195 + 1 := by omega
  have n2 : z + 195 < z + 195 + 1 := by omega
  refine exB_ok (t := [(.aload_n 0, 1, 0, 0, 0, 0), (.new 71, 3, 1, 0, 0, 0), (.dup, 1, 0, 0, 0, 0), (.aload 6, 2, 0, 0, 0, 0), (.aload_n 2, 1, 0, 0, 0, 0), (.aload_n 3, 1, 0, 0, 0, 0), (.invokespecial 73, 3, 12, 0, 3, 0)]) (W46_ok G) (jj := fun q L st h o k n => EX G m_G_init q L st h o k n Q) (fun q L st h o k n hq => hq) (by decide +kernel) ?_
  simp [exB, hJ, exT, stp, lv_args, Value.category, lkL, stL1, stL2, insL, contX, q_ofNat, f4_3, nI_1, -Int32.not_lt, -Int32.not_le, -Int64.not_lt, -Int64.not_le, R_G_init, C_G_init, M_G_init, HH_G_init, KS_192, -Int32.reduceOfInt, -Int8.reduceOfInt, -Int16.reduceOfInt, -Int32.ofInt_neg, TY_10_0, TY_10_0n, TY_10_1, TY_10_1n, TY_10_2, TY_10_2n, TY_10_4, TY_10_4n, TY_10_5, TY_10_5n, TY_10_6, TY_10_6n, TY_10_7, TY_10_7n, TY_10_8, TY_10_8n, TY_10_9, TY_10_9n, TY_10_10, TY_10_10n, TY_10_11, TY_10_11n, TY_10_12, TY_10_12n, TY_10_13, TY_10_13n, O_G_init_Actions_init, C_Actions_init, M_Actions_init, W46_Actions_init, rx_Actions_init, O_G_init_Description_init, C_Description_init, M_Description_init, W46_Description_init, rx_Description_init, O_G_init_History_init, C_History_init, M_History_init, W46_History_init, rx_History_init, O_G_init_House_init, C_House_init, M_House_init, W46_House_init, rx_House_init, O_G_init_Input_init, C_Input_init, M_Input_init, W46_Input_init, rx_Input_init, O_G_init_Night_init, C_Night_init, M_Night_init, W46_Night_init, rx_Night_init, O_G_init_Paths_init, C_Paths_init, M_Paths_init, W46_Paths_init, rx_Paths_init, O_G_init_Row_init, C_Row_init, M_Row_init, W46_Row_init, rx_Row_init, O_G_init_Script_init, C_Script_init, M_Script_init, W46_Script_init, rx_Script_init, O_G_init_Tokens_init, C_Tokens_init, M_Tokens_init, W46_Tokens_init, rx_Tokens_init, F1, F2, hup_at, hup_hup, dfl, nFl, A_r, A_rr, A_rrr, A_rrrr, A_ri, hro, c192, n1, n2, l1, l2]
  try simp (disch := omega) [-Int64.not_lt, -Int64.not_le, -Int32.not_lt, -Int32.not_le, nI_z, nI_ltI, nI_leI, nI_1, nI_clamp, q_vp, nI_pos', rget_k, rset_k, lget_k, hup_hup, F1, F2, hup_at, hup_hup, dfl, nFl, A_r, A_rr, A_rrr, A_rrrr, A_ri, hro, c192, n1, n2, l1, l2]
  obtain ⟨Y16, e16⟩ : ∃ H, H = hup Y15 (z + 195) (.inr (1, [.ref (z + 42), .ref (z + 19), .ref (z + 37)])) := ⟨_, rfl⟩
  have g16 : Y16 z = some (.inr (10, [.ref (z + 1), .ref (z + 19), .ref (z + 43), .int 0, .ref (z + 37), .ref (z + 38), .ref (z + 61), .ref (z + 189), .ref (z + 192), .ref (z + 39), .ref (z + 42), .null, .null, .null, .int 0])) := by
    rw [e16]
    exact (hup_nq (by omega)).trans g15
  change EX G _ _ _ _ (hup Y15 (z + 195) (.inr (1, [.ref (z + 42), .ref (z + 19), .ref (z + 37)]))) (some (z + 196)) 195 50226 Q
  rw [← e16]
  refine exB_ok (t := [(.putfield 76, 3, 10, 11, 0, 0)]) (W46_ok G) (jj := fun q L st h o k n => EX G m_G_init q L st h o k n Q) (fun q L st h o k n hq => hq) (by decide +kernel) ?_
  simp [exB, hJ, exT, stp, lv_args, Value.category, lkL, stL1, stL2, insL, contX, q_ofNat, f4_3, nI_1, -Int32.not_lt, -Int32.not_le, -Int64.not_lt, -Int64.not_le, R_G_init, C_G_init, M_G_init, HH_G_init, KS_192, -Int32.reduceOfInt, -Int8.reduceOfInt, -Int16.reduceOfInt, -Int32.ofInt_neg, TY_10_0, TY_10_0n, TY_10_1, TY_10_1n, TY_10_2, TY_10_2n, TY_10_4, TY_10_4n, TY_10_5, TY_10_5n, TY_10_6, TY_10_6n, TY_10_7, TY_10_7n, TY_10_8, TY_10_8n, TY_10_9, TY_10_9n, TY_10_10, TY_10_10n, TY_10_11, TY_10_11n, TY_10_12, TY_10_12n, TY_10_13, TY_10_13n, O_G_init_Actions_init, C_Actions_init, M_Actions_init, W46_Actions_init, rx_Actions_init, O_G_init_Description_init, C_Description_init, M_Description_init, W46_Description_init, rx_Description_init, O_G_init_History_init, C_History_init, M_History_init, W46_History_init, rx_History_init, O_G_init_House_init, C_House_init, M_House_init, W46_House_init, rx_House_init, O_G_init_Input_init, C_Input_init, M_Input_init, W46_Input_init, rx_Input_init, O_G_init_Night_init, C_Night_init, M_Night_init, W46_Night_init, rx_Night_init, O_G_init_Paths_init, C_Paths_init, M_Paths_init, W46_Paths_init, rx_Paths_init, O_G_init_Row_init, C_Row_init, M_Row_init, W46_Row_init, rx_Row_init, O_G_init_Script_init, C_Script_init, M_Script_init, W46_Script_init, rx_Script_init, O_G_init_Tokens_init, C_Tokens_init, M_Tokens_init, W46_Tokens_init, rx_Tokens_init, g16, hup_at, hup_hup]
  try simp (disch := omega) [-Int64.not_lt, -Int64.not_le, -Int32.not_lt, -Int32.not_le, nI_z, nI_ltI, nI_leI, nI_1, nI_clamp, q_vp, nI_pos', rget_k, rset_k, lget_k, hup_hup, g16, hup_at, hup_hup]
  obtain ⟨Y17, e17⟩ : ∃ H, H = hup Y16 z (.inr (10, [.ref (z + 1), .ref (z + 19), .ref (z + 43), .int 0, .ref (z + 37), .ref (z + 38), .ref (z + 61), .ref (z + 189), .ref (z + 192), .ref (z + 39), .ref (z + 42), .ref (z + 195), .null, .null, .int 0])) := ⟨_, rfl⟩
  have g17 : Y17 z = some (.inr (10, [.ref (z + 1), .ref (z + 19), .ref (z + 43), .int 0, .ref (z + 37), .ref (z + 38), .ref (z + 61), .ref (z + 189), .ref (z + 192), .ref (z + 39), .ref (z + 42), .ref (z + 195), .null, .null, .int 0])) := by
    rw [e17]
    exact hup_at _ _ _
  change EX G _ _ _ _ (hup Y16 z (.inr (10, [.ref (z + 1), .ref (z + 19), .ref (z + 43), .int 0, .ref (z + 37), .ref (z + 38), .ref (z + 61), .ref (z + 189), .ref (z + 192), .ref (z + 39), .ref (z + 42), .ref (z + 195), .null, .null, .int 0]))) (some (z + 196)) 195 50226 Q
  rw [← e17]
  have hro : roomOK m_G_init 65 196 50237 = true := by decide +kernel
  have n1 : z + 196 ≠ z + 196 + 1 := by omega
  have n2 : z + 196 < z + 196 + 1 := by omega
  refine exB_ok (t := [(.aload_n 0, 1, 0, 0, 0, 0), (.new 80, 3, 8, 0, 0, 0), (.dup, 1, 0, 0, 0, 0), (.aload 6, 2, 0, 0, 0, 0), (.aload_n 1, 1, 0, 0, 0, 0), (.aload 4, 2, 0, 0, 0, 0), (.invokespecial 82, 3, 65, 0, 3, 0)]) (W46_ok G) (jj := fun q L st h o k n => EX G m_G_init q L st h o k n Q) (fun q L st h o k n hq => hq) (by decide +kernel) ?_
  simp [exB, hJ, exT, stp, lv_args, Value.category, lkL, stL1, stL2, insL, contX, q_ofNat, f4_3, nI_1, -Int32.not_lt, -Int32.not_le, -Int64.not_lt, -Int64.not_le, R_G_init, C_G_init, M_G_init, HH_G_init, KS_192, -Int32.reduceOfInt, -Int8.reduceOfInt, -Int16.reduceOfInt, -Int32.ofInt_neg, TY_10_0, TY_10_0n, TY_10_1, TY_10_1n, TY_10_2, TY_10_2n, TY_10_4, TY_10_4n, TY_10_5, TY_10_5n, TY_10_6, TY_10_6n, TY_10_7, TY_10_7n, TY_10_8, TY_10_8n, TY_10_9, TY_10_9n, TY_10_10, TY_10_10n, TY_10_11, TY_10_11n, TY_10_12, TY_10_12n, TY_10_13, TY_10_13n, O_G_init_Actions_init, C_Actions_init, M_Actions_init, W46_Actions_init, rx_Actions_init, O_G_init_Description_init, C_Description_init, M_Description_init, W46_Description_init, rx_Description_init, O_G_init_History_init, C_History_init, M_History_init, W46_History_init, rx_History_init, O_G_init_House_init, C_House_init, M_House_init, W46_House_init, rx_House_init, O_G_init_Input_init, C_Input_init, M_Input_init, W46_Input_init, rx_Input_init, O_G_init_Night_init, C_Night_init, M_Night_init, W46_Night_init, rx_Night_init, O_G_init_Paths_init, C_Paths_init, M_Paths_init, W46_Paths_init, rx_Paths_init, O_G_init_Row_init, C_Row_init, M_Row_init, W46_Row_init, rx_Row_init, O_G_init_Script_init, C_Script_init, M_Script_init, W46_Script_init, rx_Script_init, O_G_init_Tokens_init, C_Tokens_init, M_Tokens_init, W46_Tokens_init, rx_Tokens_init, F1, F2, hup_at, hup_hup, dfl, nFl, A_r, A_rr, A_rrr, A_rrrr, A_ri, hro, c192, n1, n2, l1, l2]
  try simp (disch := omega) [-Int64.not_lt, -Int64.not_le, -Int32.not_lt, -Int32.not_le, nI_z, nI_ltI, nI_leI, nI_1, nI_clamp, q_vp, nI_pos', rget_k, rset_k, lget_k, hup_hup, F1, F2, hup_at, hup_hup, dfl, nFl, A_r, A_rr, A_rrr, A_rrrr, A_ri, hro, c192, n1, n2, l1, l2]
  rw [blk_own (by decide)]
  obtain ⟨Y18, e18⟩ : ∃ H, H = blk Y17 (z + 196) 9 (cS (z + 196) (z + 42) (z + 1) (z + 38)) := ⟨_, rfl⟩
  have g18 : Y18 z = some (.inr (10, [.ref (z + 1), .ref (z + 19), .ref (z + 43), .int 0, .ref (z + 37), .ref (z + 38), .ref (z + 61), .ref (z + 189), .ref (z + 192), .ref (z + 39), .ref (z + 42), .ref (z + 195), .null, .null, .int 0])) := by
    rw [e18]
    exact (if_neg (by omega)).trans g17
  change EX G _ _ _ _ (blk Y17 (z + 196) 9 (cS (z + 196) (z + 42) (z + 1) (z + 38))) (some (z + 205)) 204 52641 Q
  rw [← e18]
  refine exB_ok (t := [(.putfield 85, 3, 10, 12, 0, 0)]) (W46_ok G) (jj := fun q L st h o k n => EX G m_G_init q L st h o k n Q) (fun q L st h o k n hq => hq) (by decide +kernel) ?_
  simp [exB, hJ, exT, stp, lv_args, Value.category, lkL, stL1, stL2, insL, contX, q_ofNat, f4_3, nI_1, -Int32.not_lt, -Int32.not_le, -Int64.not_lt, -Int64.not_le, R_G_init, C_G_init, M_G_init, HH_G_init, KS_192, -Int32.reduceOfInt, -Int8.reduceOfInt, -Int16.reduceOfInt, -Int32.ofInt_neg, TY_10_0, TY_10_0n, TY_10_1, TY_10_1n, TY_10_2, TY_10_2n, TY_10_4, TY_10_4n, TY_10_5, TY_10_5n, TY_10_6, TY_10_6n, TY_10_7, TY_10_7n, TY_10_8, TY_10_8n, TY_10_9, TY_10_9n, TY_10_10, TY_10_10n, TY_10_11, TY_10_11n, TY_10_12, TY_10_12n, TY_10_13, TY_10_13n, O_G_init_Actions_init, C_Actions_init, M_Actions_init, W46_Actions_init, rx_Actions_init, O_G_init_Description_init, C_Description_init, M_Description_init, W46_Description_init, rx_Description_init, O_G_init_History_init, C_History_init, M_History_init, W46_History_init, rx_History_init, O_G_init_House_init, C_House_init, M_House_init, W46_House_init, rx_House_init, O_G_init_Input_init, C_Input_init, M_Input_init, W46_Input_init, rx_Input_init, O_G_init_Night_init, C_Night_init, M_Night_init, W46_Night_init, rx_Night_init, O_G_init_Paths_init, C_Paths_init, M_Paths_init, W46_Paths_init, rx_Paths_init, O_G_init_Row_init, C_Row_init, M_Row_init, W46_Row_init, rx_Row_init, O_G_init_Script_init, C_Script_init, M_Script_init, W46_Script_init, rx_Script_init, O_G_init_Tokens_init, C_Tokens_init, M_Tokens_init, W46_Tokens_init, rx_Tokens_init, g18, hup_at, hup_hup]
  try simp (disch := omega) [-Int64.not_lt, -Int64.not_le, -Int32.not_lt, -Int32.not_le, nI_z, nI_ltI, nI_leI, nI_1, nI_clamp, q_vp, nI_pos', rget_k, rset_k, lget_k, hup_hup, g18, hup_at, hup_hup]
  obtain ⟨Y19, e19⟩ : ∃ H, H = hup Y18 z (.inr (10, [.ref (z + 1), .ref (z + 19), .ref (z + 43), .int 0, .ref (z + 37), .ref (z + 38), .ref (z + 61), .ref (z + 189), .ref (z + 192), .ref (z + 39), .ref (z + 42), .ref (z + 195), .ref (z + 196), .null, .int 0])) := ⟨_, rfl⟩
  have g19 : Y19 z = some (.inr (10, [.ref (z + 1), .ref (z + 19), .ref (z + 43), .int 0, .ref (z + 37), .ref (z + 38), .ref (z + 61), .ref (z + 189), .ref (z + 192), .ref (z + 39), .ref (z + 42), .ref (z + 195), .ref (z + 196), .null, .int 0])) := by
    rw [e19]
    exact hup_at _ _ _
  change EX G _ _ _ _ (hup Y18 z (.inr (10, [.ref (z + 1), .ref (z + 19), .ref (z + 43), .int 0, .ref (z + 37), .ref (z + 38), .ref (z + 61), .ref (z + 189), .ref (z + 192), .ref (z + 39), .ref (z + 42), .ref (z + 195), .ref (z + 196), .null, .int 0]))) (some (z + 205)) 204 52641 Q
  rw [← e19]
  have hro : roomOK m_G_init 60 205 52642 = true := by decide +kernel
  have n1 : z + 205 ≠ z + 205 + 1 := by omega
  have n2 : z + 205 < z + 205 + 1 := by omega
  refine exB_ok (t := [(.aload_n 0, 1, 0, 0, 0, 0), (.new 89, 3, 7, 0, 0, 0), (.dup, 1, 0, 0, 0, 0), (.sipush 192, 3, 0, 0, 0, 0), (.invokespecial 91, 3, 60, 0, 1, 0)]) (W46_ok G) (jj := fun q L st h o k n => EX G m_G_init q L st h o k n Q) (fun q L st h o k n hq => hq) (by decide +kernel) ?_
  simp [exB, hJ, exT, stp, lv_args, Value.category, lkL, stL1, stL2, insL, contX, q_ofNat, f4_3, nI_1, -Int32.not_lt, -Int32.not_le, -Int64.not_lt, -Int64.not_le, R_G_init, C_G_init, M_G_init, HH_G_init, KS_192, -Int32.reduceOfInt, -Int8.reduceOfInt, -Int16.reduceOfInt, -Int32.ofInt_neg, TY_10_0, TY_10_0n, TY_10_1, TY_10_1n, TY_10_2, TY_10_2n, TY_10_4, TY_10_4n, TY_10_5, TY_10_5n, TY_10_6, TY_10_6n, TY_10_7, TY_10_7n, TY_10_8, TY_10_8n, TY_10_9, TY_10_9n, TY_10_10, TY_10_10n, TY_10_11, TY_10_11n, TY_10_12, TY_10_12n, TY_10_13, TY_10_13n, O_G_init_Actions_init, C_Actions_init, M_Actions_init, W46_Actions_init, rx_Actions_init, O_G_init_Description_init, C_Description_init, M_Description_init, W46_Description_init, rx_Description_init, O_G_init_History_init, C_History_init, M_History_init, W46_History_init, rx_History_init, O_G_init_House_init, C_House_init, M_House_init, W46_House_init, rx_House_init, O_G_init_Input_init, C_Input_init, M_Input_init, W46_Input_init, rx_Input_init, O_G_init_Night_init, C_Night_init, M_Night_init, W46_Night_init, rx_Night_init, O_G_init_Paths_init, C_Paths_init, M_Paths_init, W46_Paths_init, rx_Paths_init, O_G_init_Row_init, C_Row_init, M_Row_init, W46_Row_init, rx_Row_init, O_G_init_Script_init, C_Script_init, M_Script_init, W46_Script_init, rx_Script_init, O_G_init_Tokens_init, C_Tokens_init, M_Tokens_init, W46_Tokens_init, rx_Tokens_init, F1, F2, hup_at, hup_hup, dfl, nFl, A_r, A_rr, A_rrr, A_rrrr, A_ri, hro, c192, n1, n2, l1, l2]
  try simp (disch := omega) [-Int64.not_lt, -Int64.not_le, -Int32.not_lt, -Int32.not_le, nI_z, nI_ltI, nI_leI, nI_1, nI_clamp, q_vp, nI_pos', rget_k, rset_k, lget_k, hup_hup, F1, F2, hup_at, hup_hup, dfl, nFl, A_r, A_rr, A_rrr, A_rrrr, A_ri, hro, c192, n1, n2, l1, l2]
  try rw [show ∀ H : HM, hup (hup (hup (hup H (z + 205) (.inr (7, [.null]))) (z + 205) (.inr (7, [.null]))) (z + 205 + 1) (ints 192 fun _ => 0)) (z + 205) (.inr (7, [.ref (z + 205 + 1)])) = rowN H (z + 205) 192 from fun H => rowN_own]
  obtain ⟨Y20, e20⟩ : ∃ H, H = rowN Y19 (z + 205) 192 := ⟨_, rfl⟩
  have g20 : Y20 z = some (.inr (10, [.ref (z + 1), .ref (z + 19), .ref (z + 43), .int 0, .ref (z + 37), .ref (z + 38), .ref (z + 61), .ref (z + 189), .ref (z + 192), .ref (z + 39), .ref (z + 42), .ref (z + 195), .ref (z + 196), .null, .int 0])) := by
    rw [e20]
    exact (show rowN Y19 (z + 205) 192 z = Y19 z by unfold rowN; rw [hup_nq (by omega), hup_nq (by omega), hup_nq (by omega)]).trans g19
  change EX G _ _ _ _ (rowN Y19 (z + 205) 192) (some (z + 207)) 206 53242 Q
  rw [← e20]
  refine exB_ok (t := [(.putfield 94, 3, 10, 13, 0, 0), (.return_, 1, 0, 0, 0, 0)]) (W46_ok G) (jj := fun q L st h o k n => EX G m_G_init q L st h o k n Q) (fun q L st h o k n hq => hq) (by decide +kernel) ?_
  simp [exB, hJ, exT, stp, lv_args, Value.category, lkL, stL1, stL2, insL, contX, q_ofNat, f4_3, nI_1, -Int32.not_lt, -Int32.not_le, -Int64.not_lt, -Int64.not_le, R_G_init, C_G_init, M_G_init, HH_G_init, KS_192, -Int32.reduceOfInt, -Int8.reduceOfInt, -Int16.reduceOfInt, -Int32.ofInt_neg, TY_10_0, TY_10_0n, TY_10_1, TY_10_1n, TY_10_2, TY_10_2n, TY_10_4, TY_10_4n, TY_10_5, TY_10_5n, TY_10_6, TY_10_6n, TY_10_7, TY_10_7n, TY_10_8, TY_10_8n, TY_10_9, TY_10_9n, TY_10_10, TY_10_10n, TY_10_11, TY_10_11n, TY_10_12, TY_10_12n, TY_10_13, TY_10_13n, O_G_init_Actions_init, C_Actions_init, M_Actions_init, W46_Actions_init, rx_Actions_init, O_G_init_Description_init, C_Description_init, M_Description_init, W46_Description_init, rx_Description_init, O_G_init_History_init, C_History_init, M_History_init, W46_History_init, rx_History_init, O_G_init_House_init, C_House_init, M_House_init, W46_House_init, rx_House_init, O_G_init_Input_init, C_Input_init, M_Input_init, W46_Input_init, rx_Input_init, O_G_init_Night_init, C_Night_init, M_Night_init, W46_Night_init, rx_Night_init, O_G_init_Paths_init, C_Paths_init, M_Paths_init, W46_Paths_init, rx_Paths_init, O_G_init_Row_init, C_Row_init, M_Row_init, W46_Row_init, rx_Row_init, O_G_init_Script_init, C_Script_init, M_Script_init, W46_Script_init, rx_Script_init, O_G_init_Tokens_init, C_Tokens_init, M_Tokens_init, W46_Tokens_init, rx_Tokens_init, g20, hup_at, hup_hup]
  try simp (disch := omega) [-Int64.not_lt, -Int64.not_le, -Int32.not_lt, -Int32.not_le, nI_z, nI_ltI, nI_leI, nI_1, nI_clamp, q_vp, nI_pos', rget_k, rset_k, lget_k, hup_hup, g20, hup_at, hup_hup]
  have eZ : hup Y20 z (.inr (10, [.ref (z + 1), .ref (z + 19), .ref (z + 43), .int 0, .ref (z + 37), .ref (z + 38), .ref (z + 61), .ref (z + 189), .ref (z + 192), .ref (z + 39), .ref (z + 42), .ref (z + 195), .ref (z + 196), .ref (z + 205), .int 0])) = hG h z K0 := by
    rw [e20, e19, e18, e17, e16, e15, e14, e13, e12, e11, e10, e9, e8, e7, e6, e5, e4, e3, e2, e1]
    exact hG_made h z
  rw [eZ]
  exact hq
end CI
def W47 (G : GG) : WF := (wcons 83 rx_G_init (W46 G))
theorem W47_ok (G : GG) : WOK G (W47 G) := (wcons_ok (fun _ _ _ _ hx => r_G_init hx) (W46_ok G))
