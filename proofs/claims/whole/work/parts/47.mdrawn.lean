/-! 47: the reference's drawn room -/
def drB (x : Int32) (k : Nat) : Int32 := (x >>> (nI k &&& 31)) &&& 1
def drG (x : Int32) : Nat → Nat → Int32 → Int32
  | 0, _, _ => 0
  | j + 1, k, left => if left - drB x k ≤ 0 then nI k else drG x j (k + 1) (left - drB x k)
def DR (x : Int32) : Nat → Nat → Int32 → Prop
  | 0, _, _ => False
  | j + 1, k, left => left - drB x k ≤ 0 ∨ DR x j (k + 1) (left - drB x k)
def drV (s : Nat → Int32) : Int32 := (5 * s 4 + 3) - (5 * s 4 + 3) / 16 * 16
def drS (s : Nat → Int32) : Nat → Int32 := upd s 4 (drV s)
def drN (s : Nat → Int32) (g : Int32) : Int32 := orF (nbS (drS s) g) (nR (drS s))
def drL (s : Nat → Int32) (g : Int32) : Int32 := drV s - drV s / (sizF (drN s g) 12 + 1) * (sizF (drN s g) 12 + 1)
theorem RW_upd {s : Nat → Int32} {i : Nat} {v : Int32} (h9 : i ≠ 9) (h10 : i ≠ 10) (hw : RW s) : RW (upd s i v) := by
  have e9 : upd s i v 9 = s 9 := if_neg (fun e => h9 e.symm)
  have e10 : upd s i v 10 = s 10 := if_neg (fun e => h10 e.symm)
  unfold RW nR nD
  rw [e9, e10]
  exact hw
def rx_M_drawn (as : List Value) (h : HM) (o : Option Nat) (Q : XQ) : Prop := A_ri as fun p g => MX h p fun T => (RW T.2.2.2.2.2.2.2.2.2.2.2.2.2.1 ∧ ¬ sizF (drN T.2.2.2.2.2.2.2.2.2.2.2.2.2.1 g) 12 + 1 = 0 ∧ (¬ drL T.2.2.2.2.2.2.2.2.2.2.2.2.2.1 g = 0 → ¬ drL T.2.2.2.2.2.2.2.2.2.2.2.2.2.1 g ≤ 0 ∧ DR (drN T.2.2.2.2.2.2.2.2.2.2.2.2.2.1 g) 12 0 (drL T.2.2.2.2.2.2.2.2.2.2.2.2.2.1 g))) ∧ Q (.inl (some (.int (if drL T.2.2.2.2.2.2.2.2.2.2.2.2.2.1 g = 0 then g else drG (drN T.2.2.2.2.2.2.2.2.2.2.2.2.2.1 g) 12 0 (drL T.2.2.2.2.2.2.2.2.2.2.2.2.2.1 g))))) (hM h p (T.1, T.2.1, T.2.2.1, T.2.2.2.1, T.2.2.2.2.1, T.2.2.2.2.2.1, T.2.2.2.2.2.2.1, T.2.2.2.2.2.2.2.1, T.2.2.2.2.2.2.2.2.1, T.2.2.2.2.2.2.2.2.2.1, T.2.2.2.2.2.2.2.2.2.2.1, T.2.2.2.2.2.2.2.2.2.2.2.1, T.2.2.2.2.2.2.2.2.2.2.2.2.1, drS T.2.2.2.2.2.2.2.2.2.2.2.2.2.1, T.2.2.2.2.2.2.2.2.2.2.2.2.2.2.1, T.2.2.2.2.2.2.2.2.2.2.2.2.2.2.2.1, T.2.2.2.2.2.2.2.2.2.2.2.2.2.2.2.2.1, T.2.2.2.2.2.2.2.2.2.2.2.2.2.2.2.2.2.1, T.2.2.2.2.2.2.2.2.2.2.2.2.2.2.2.2.2.2.1, T.2.2.2.2.2.2.2.2.2.2.2.2.2.2.2.2.2.2.2.1, T.2.2.2.2.2.2.2.2.2.2.2.2.2.2.2.2.2.2.2.2.1, T.2.2.2.2.2.2.2.2.2.2.2.2.2.2.2.2.2.2.2.2.2.1, T.2.2.2.2.2.2.2.2.2.2.2.2.2.2.2.2.2.2.2.2.2.2.1, T.2.2.2.2.2.2.2.2.2.2.2.2.2.2.2.2.2.2.2.2.2.2.2.1, T.2.2.2.2.2.2.2.2.2.2.2.2.2.2.2.2.2.2.2.2.2.2.2.2.1, T.2.2.2.2.2.2.2.2.2.2.2.2.2.2.2.2.2.2.2.2.2.2.2.2.2.1, T.2.2.2.2.2.2.2.2.2.2.2.2.2.2.2.2.2.2.2.2.2.2.2.2.2.2.1, T.2.2.2.2.2.2.2.2.2.2.2.2.2.2.2.2.2.2.2.2.2.2.2.2.2.2.2.1, T.2.2.2.2.2.2.2.2.2.2.2.2.2.2.2.2.2.2.2.2.2.2.2.2.2.2.2.2.1, T.2.2.2.2.2.2.2.2.2.2.2.2.2.2.2.2.2.2.2.2.2.2.2.2.2.2.2.2.2.1, T.2.2.2.2.2.2.2.2.2.2.2.2.2.2.2.2.2.2.2.2.2.2.2.2.2.2.2.2.2.2.1, T.2.2.2.2.2.2.2.2.2.2.2.2.2.2.2.2.2.2.2.2.2.2.2.2.2.2.2.2.2.2.2.1, T.2.2.2.2.2.2.2.2.2.2.2.2.2.2.2.2.2.2.2.2.2.2.2.2.2.2.2.2.2.2.2.2.1, T.2.2.2.2.2.2.2.2.2.2.2.2.2.2.2.2.2.2.2.2.2.2.2.2.2.2.2.2.2.2.2.2.2.1, T.2.2.2.2.2.2.2.2.2.2.2.2.2.2.2.2.2.2.2.2.2.2.2.2.2.2.2.2.2.2.2.2.2.2)) o
section MD
variable {G : GG} {as : List Value} {h : HM} {o : Option Nat} {Q : XQ}
theorem HH_M_drawn : mHH 230 = [] := rfl
theorem W26_M_neighborsOf {G : GG} {as : List Value} {h : HM} {o : Option Nat} {Q : XQ} : RX G (W26 G) 224 as h o Q = rx_M_neighborsOf as h o Q := rfl
theorem W26_M_size {G : GG} {as : List Value} {h : HM} {o : Option Nat} {Q : XQ} : RX G (W26 G) 225 as h o Q = rx_M_size as h o Q := rfl
theorem drE {p : Nat} {h : HM} {g x left kv : Int32} (hl : left ≤ 0) (hq : Q (.inl (some (.int kv))) h o) : EX G m_M_drawn 48 [(0, .ref p), (1, .int g), (2, .int x), (3, .int left), (4, .int kv)] [] h o 0 0 Q := by
  refine exB_ok (t := [(.iload_n 3, 1, 0, 0, 0, 0), (.ifCond .le 18, 3, 67, 0, 0, 0)]) (W26_ok G) (fun q L st h o k n hq => exF_ok (W26_ok G) T_M_drawn_ok (f := 40) hq) (by decide +kernel) ?_
  refine genJ (P := fun J => exB _ _ _ _ (J 40) _ _ _ _ _ _ _ _) (fun J hJ => ?_)
  simp [exB, hJ, exT, stp, lv_args, Value.category, lkL, stL1, stL2, insL, contX, q_ofNat, f4_3, nI_1, -Int32.not_lt, -Int32.not_le, -Int64.not_lt, -Int64.not_le, T_M_drawn_45, T_M_drawn_48, T_M_drawn_67, R_M_drawn, C_M_drawn, M_M_drawn, HH_M_drawn, KI_4, KI_5, KI_3, KB_16, KI_1, KI_m1, -Int32.reduceOfInt, -Int8.reduceOfInt, -Int16.reduceOfInt, -Int32.ofInt_neg, O_M_drawn_M_neighborsOf, C_M_neighborsOf, M_M_neighborsOf, W26_M_neighborsOf, rx_M_neighborsOf, O_M_drawn_M_size, C_M_size, M_M_size, W26_M_size, rx_M_size, hl]
  try simp (disch := omega) [-Int64.not_lt, -Int64.not_le, -Int32.not_lt, -Int32.not_le, nI_z, nI_ltI, nI_leI, nI_1, nI_clamp, q_vp, nI_pos', rget_k, rset_k, lget_k, hup_hup, hl]
  exact hq
theorem drL1 {p : Nat} {h : HM} {g x : Int32} : ∀ j k : Nat, k + j ≤ 31 → ∀ left kv : Int32, kv + 1 = nI k → ¬ left ≤ 0 → DR x j k left → Q (.inl (some (.int (drG x j k left)))) h o → EX G m_M_drawn 48 [(0, .ref p), (1, .int g), (2, .int x), (3, .int left), (4, .int kv)] [] h o 0 0 Q := by
  intro j
  induction j with
  | zero => intro k hk left kv hkv hl hdr hq; exact hdr.elim
  | succ j ih =>
    intro k hk left kv hkv hl hdr hq
    have hnx : EX G m_M_drawn 48 [(0, .ref p), (1, .int g), (2, .int x), (3, .int (left - drB x k)), (4, .int (nI k))] [] h o 0 0 Q := by
      rw [drG] at hq
      rw [DR] at hdr
      by_cases c : left - drB x k ≤ 0
      · rw [if_pos c] at hq
        exact drE c hq
      · rw [if_neg c] at hq
        exact ih (k + 1) (by omega) _ _ (nI_1 k) c (hdr.resolve_left c) hq
    have hJ : True := trivial
    refine exB_ok (t := [(.iload_n 3, 1, 0, 0, 0, 0), (.ifCond .le 18, 3, 67, 0, 0, 0)]) (W26_ok G) (jj := fun q L st h o k n => EX G m_M_drawn q L st h o k n Q) (fun q L st h o k n hq => hq) (by decide +kernel) ?_
    simp [exB, hJ, exT, stp, lv_args, Value.category, lkL, stL1, stL2, insL, contX, q_ofNat, f4_3, nI_1, -Int32.not_lt, -Int32.not_le, -Int64.not_lt, -Int64.not_le, T_M_drawn_45, T_M_drawn_48, T_M_drawn_67, R_M_drawn, C_M_drawn, M_M_drawn, HH_M_drawn, KI_4, KI_5, KI_3, KB_16, KI_1, KI_m1, -Int32.reduceOfInt, -Int8.reduceOfInt, -Int16.reduceOfInt, -Int32.ofInt_neg, O_M_drawn_M_neighborsOf, C_M_neighborsOf, M_M_neighborsOf, W26_M_neighborsOf, rx_M_neighborsOf, O_M_drawn_M_size, C_M_size, M_M_size, W26_M_size, rx_M_size, hl]
    try simp (disch := omega) [-Int64.not_lt, -Int64.not_le, -Int32.not_lt, -Int32.not_le, nI_z, nI_ltI, nI_leI, nI_1, nI_clamp, q_vp, nI_pos', rget_k, rset_k, lget_k, hup_hup, hl]
    refine exB_ok (t := [(.iinc 4 1, 3, 0, 0, 0, 0)]) (W26_ok G) (jj := fun q L st h o k n => EX G m_M_drawn q L st h o k n Q) (fun q L st h o k n hq => hq) (by decide +kernel) ?_
    simp [exB, hJ, exT, stp, lv_args, Value.category, lkL, stL1, stL2, insL, contX, q_ofNat, f4_3, nI_1, -Int32.not_lt, -Int32.not_le, -Int64.not_lt, -Int64.not_le, T_M_drawn_45, T_M_drawn_48, T_M_drawn_67, R_M_drawn, C_M_drawn, M_M_drawn, HH_M_drawn, KI_4, KI_5, KI_3, KB_16, KI_1, KI_m1, -Int32.reduceOfInt, -Int8.reduceOfInt, -Int16.reduceOfInt, -Int32.ofInt_neg, O_M_drawn_M_neighborsOf, C_M_neighborsOf, M_M_neighborsOf, W26_M_neighborsOf, rx_M_neighborsOf, O_M_drawn_M_size, C_M_size, M_M_size, W26_M_size, rx_M_size, hkv]
    try simp (disch := omega) [-Int64.not_lt, -Int64.not_le, -Int32.not_lt, -Int32.not_le, nI_z, nI_ltI, nI_leI, nI_1, nI_clamp, q_vp, nI_pos', rget_k, rset_k, lget_k, hup_hup, hkv]
    refine exB_ok (t := [(.iload_n 3, 1, 0, 0, 0, 0), (.iload_n 2, 1, 0, 0, 0, 0), (.iload 4, 2, 0, 0, 0, 0), (.ishr, 1, 0, 0, 0, 0), (.iconst 1, 1, 0, 0, 0, 0), (.iand, 1, 0, 0, 0, 0), (.isub, 1, 0, 0, 0, 0), (.istore_n 3, 1, 0, 0, 0, 0), (.goto (-16), 3, 48, 0, 0, 0)]) (W26_ok G) (jj := fun q L st h o k n => EX G m_M_drawn q L st h o k n Q) (fun q L st h o k n hq => hq) (by decide +kernel) ?_
    simp [exB, hJ, exT, stp, lv_args, Value.category, lkL, stL1, stL2, insL, contX, q_ofNat, f4_3, nI_1, -Int32.not_lt, -Int32.not_le, -Int64.not_lt, -Int64.not_le, T_M_drawn_45, T_M_drawn_48, T_M_drawn_67, R_M_drawn, C_M_drawn, M_M_drawn, HH_M_drawn, KI_4, KI_5, KI_3, KB_16, KI_1, KI_m1, -Int32.reduceOfInt, -Int8.reduceOfInt, -Int16.reduceOfInt, -Int32.ofInt_neg, O_M_drawn_M_neighborsOf, C_M_neighborsOf, M_M_neighborsOf, W26_M_neighborsOf, rx_M_neighborsOf, O_M_drawn_M_size, C_M_size, M_M_size, W26_M_size, rx_M_size]
    try simp (disch := omega) [-Int64.not_lt, -Int64.not_le, -Int32.not_lt, -Int32.not_le, nI_z, nI_ltI, nI_leI, nI_1, nI_clamp, q_vp, nI_pos', rget_k, rset_k, lget_k, hup_hup]
    exact hnx
end MD
