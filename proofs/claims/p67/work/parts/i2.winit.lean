/-! i2: the world is made -/
theorem hmz_o {h : HM} {z N M i a : Nat} (ha : a < z) : hmz h z N M i a = h a := (if_neg (by omega)).trans (if_neg (by omega))
def S00 : Nat → Int32 := fun i => if i = 1 then 1 else if i = 2 then 5 else if i = 3 then 2 else if i = 4 then 7 else if i = 5 then 50 else 0
def rx_World_init (as : List Value) (h : HM) (o : Option Nat) (Q : XQ) : Prop := A_r as fun w => (o = some (w + 1) ∧ h w = some (.inr (11, [.int 0, .int 0, .int 0, .int 0, .int 0, .int 0, .int 0, .null, .null, .null, .null]))) ∧ Q (.inl none) (hW (hup (hup h (w + 41) (byA 16 (fun _ => 0))) (w + 40) (bld (w + 41) 0)) w S00 0) (some (w + 42))
theorem EX.eqh {G : GG} {i pc : Nat} {L : List (Nat × Value)} {st : List Value} {h h2 : HM} {o : Option Nat} {k n : Nat} {Q : XQ} (e : h2 = h) (x : EX G i pc L st h2 o k n Q) : EX G i pc L st h o k n Q := e ▸ x
theorem EX.rep {G : GG} {i pc : Nat} {L : List (Nat × Value)} {st : List Value} {h h2 : HM} {o : Option Nat} {k n : Nat} {Q : XQ} (e : ∀ H, Rep G h o H → Rep G h2 o H) (x : EX G i pc L st h2 o k n Q) : EX G i pc L st h o k n Q := fun p l ee s m args below meth c H locs ls C hl hR hS => x p l ee s m args below meth c H locs ls C hl (e H hR) hS
theorem arrV_cg (cI : ClassId) (N : Nat) {f g : Nat → Value} (h : ∀ j, j < N → f j = g j) : arrV cI N f = arrV cI N g := by
  unfold arrV
  congr 1
  apply Array.ext
  · simp
  · intro j h1 h2
    simp only [Array.getElem_ofFn]
    exact h j (by simpa using h1)
/-- the same with the outer array's function total -/
def hmy (h : HM) (z N M : Nat) : HM := fun a => if a = z then some (rows4 N (z + 1)) else if z < a ∧ a < z + 1 + N then some (ints M (fun _ => 0)) else h a
theorem hmy_o {h : HM} {z N M a : Nat} (ha : a < z) : hmy h z N M a = h a := (if_neg (by omega)).trans (if_neg (by omega))
theorem hmy_u {h : HM} {z N M a : Nat} (ha : z + 1 + N ≤ a) : hmy h z N M a = h a := (if_neg (by omega)).trans (if_neg (by omega))
theorem hmy_z {h : HM} {z N M : Nat} : hmy h z N M z = some (rows4 N (z + 1)) := if_pos rfl
theorem hmy_r {h : HM} {z N M j : Nat} (hj : j < N) : hmy h z N M (z + 1 + j) = some (ints M (fun _ => 0)) := (if_neg (by omega)).trans (if_pos (by omega))
theorem hmz_y {G : GG} {h : HM} {z N M : Nat} {o : Option Nat} {H : Heap} (hR : Rep G (hmz h z N M N) o H) : Rep G (hmy h z N M) o H := by
  refine ⟨hR.1, hR.2.1, fun a e he => ?_⟩
  by_cases c : a = z
  · subst c
    rw [hmy_z] at he
    cases he
    obtain ⟨g1, g2⟩ := hR.2.2 a _ hmz_z
    refine ⟨g1, ?_⟩
    have g2 : H[a]? = some (vp_cell (gA G 4) (N, .inr (.inr (.inr (.inr (fun j => if j < N then some (a + 1 + j) else none)))))) := g2
    show H[a]? = some (vp_cell (gA G 4) (N, .inr (.inr (.inr (.inr (rfs (a + 1)))))))
    rw [g2, vp_cell_q, vp_cell_q]
    congr 1
    exact arrV_cg _ _ fun j hj => by rw [if_pos hj]; rfl
  · refine hR.2.2 a e ?_
    rw [← he]
    unfold hmz hmy
    rw [if_neg c, if_neg c]
theorem s00_6 : (upd (upd (upd (upd (upd (upd (fun _ => 0) 0 0) 1 1) 2 5) 3 2) 4 7) 5 50 : Nat → Int32) = wSet S00 := by
  funext j
  unfold wSet
  by_cases c : j < 6
  · rw [if_pos c]
    have : j = 0 ∨ j = 1 ∨ j = 2 ∨ j = 3 ∨ j = 4 ∨ j = 5 := by omega
    rcases this with rfl | rfl | rfl | rfl | rfl | rfl <;> rfl
  · rw [if_neg c]
    unfold upd
    rw [if_neg (by omega), if_neg (by omega), if_neg (by omega), if_neg (by omega), if_neg (by omega), if_neg (by omega)]
theorem s00_o {i : Nat} (h : 6 ≤ i) : S00 i = 0 := by
  unfold S00
  rw [if_neg (by omega), if_neg (by omega), if_neg (by omega), if_neg (by omega), if_neg (by omega)]
theorem s00_r (k : Nat) : wRow S00 k = fun _ => 0 := by
  funext j
  unfold wRow
  split
  · exact s00_o (by omega)
  · rfl
theorem s00_d (k : Nat) : wDor S00 k = fun _ => 0 := by
  funext j
  unfold wDor
  split
  · exact s00_o (by omega)
  · rfl
theorem winit_h {h H1 H3 H5 : HM} {w : Nat} {f1 f2 f3 : List Value} (e1 : H1 = hup (hup h (w + 1) (ints 6 (wSet S00))) w (.inr (11, f1))) (e3 : H3 = hup (hmy H1 (w + 2) 12 7) w (.inr (11, f2))) (e5 : H5 = hup (hmy H3 (w + 15) 24 4) w (.inr (11, f3))) (b0 : AE) :
    hup (hup (hup (hup H5 (w + 40) b0) (w + 41) (byA 16 (fun _ => 0))) (w + 40) (bld (w + 41) 0)) w (.inr (11, [.int 0, .int 0, .int 0, .int 0, .int 0, .int 0, .int 0, .ref (w + 1), .ref (w + 2), .ref (w + 15), .ref (w + 40)])) = hW (hup (hup h (w + 41) (byA 16 (fun _ => 0))) (w + 40) (bld (w + 41) 0)) w S00 0 := by
  funext x
  by_cases c0 : x = w
  · subst c0
    rw [hup_at, hW_0]
    rfl
  rw [hup_nq c0]
  by_cases c40 : x = w + 40
  · subst c40
    rw [hup_at, hW_out (by omega), hup_at]
  rw [hup_nq c40]
  by_cases c41 : x = w + 41
  · subst c41
    rw [hup_at, hW_out (by omega), hup_nq c40, hup_at]
  rw [hup_nq c41, hup_nq c40, e5, hup_nq c0]
  by_cases o : ¬ (w ≤ x ∧ x < w + 40)
  · rw [hW_out o, hup_nq c40, hup_nq c41]
    have o3 : H3 x = h x := by
      rw [e3, hup_nq c0]
      by_cases l : x < w
      · rw [hmy_o (by omega), e1, hup_nq c0, hup_nq (by omega)]
      · rw [hmy_u (by omega), e1, hup_nq c0, hup_nq (by omega)]
    by_cases l : x < w
    · rw [hmy_o (by omega), o3]
    · rw [hmy_u (by omega), o3]
  by_cases c1 : x = w + 1
  · subst c1
    rw [hmy_o (by omega), e3, hup_nq (by omega), hmy_o (by omega), e1, hup_nq (by omega), hup_at, hW_1]
  by_cases c2 : x = w + 2
  · subst c2
    rw [hmy_o (by omega), e3, hup_nq (by omega), hmy_z, hW_2]
  by_cases c3 : x < w + 15
  · obtain ⟨j, hj, rfl⟩ : ∃ j, j < 12 ∧ x = w + 2 + 1 + j := ⟨x - (w + 3), by omega, by omega⟩
    rw [hmy_o (by omega), e3, hup_nq (by omega), hmy_r hj, hW_r (k := j) hj, s00_r]
  by_cases c4 : x = w + 15
  · subst c4
    rw [hmy_z, hW_15]
  obtain ⟨j, hj, rfl⟩ : ∃ j, j < 24 ∧ x = w + 15 + 1 + j := ⟨x - (w + 16), by omega, by omega⟩
  rw [hmy_r hj, hW_d (k := j) hj, s00_d]
section WI
variable {G : GG} {as : List Value} {h : HM} {o : Option Nat} {Q : XQ}
theorem HH_World_init : mHH 138 = [] := rfl
theorem TY_11_7 {v : Nat} : okw (tyC 11 7) (.ref v) = True := rfl
theorem TY_11_7n : okw (tyC 11 7) (.null) = True := rfl
theorem TY_11_8 {v : Nat} : okw (tyC 11 8) (.ref v) = True := rfl
theorem TY_11_8n : okw (tyC 11 8) (.null) = True := rfl
theorem TY_11_9 {v : Nat} : okw (tyC 11 9) (.ref v) = True := rfl
theorem TY_11_9n : okw (tyC 11 9) (.null) = True := rfl
theorem TY_11_10 {v : Nat} : okw (tyC 11 10) (.ref v) = True := rfl
theorem TY_11_10n : okw (tyC 11 10) (.null) = True := rfl
theorem W80_SB_init {G : GG} {as : List Value} {h : HM} {o : Option Nat} {Q : XQ} : RX G (W80 G) 176 as h o Q = rx_SB_init as h o Q := rfl
set_option maxRecDepth 2000 in
set_option maxHeartbeats 200000 in
theorem r_World_init (hx : rx_World_init as h o Q) : Runs G m_World_init as h o Q := by
  obtain ⟨w, rfl, ⟨rfl, h1⟩, hq⟩ := E_r hx
  change Nat at w
  have hJ : True := trivial
  have n1 : w ≠ w + 1 := by omega
  have F2 : 12 ≤ (mF m_World_init).2 := by decide
  have v0 : vp_in 0 6 := by unfold vp_in; decide +kernel
  have v1 : vp_in 1 6 := by unfold vp_in; decide +kernel
  have v2 : vp_in 2 6 := by unfold vp_in; decide +kernel
  have v3 : vp_in 3 6 := by unfold vp_in; decide +kernel
  have v4 : vp_in 4 6 := by unfold vp_in; decide +kernel
  have v5 : vp_in 5 6 := by unfold vp_in; decide +kernel
  refine Runs.of (by decide +kernel) (Nat.le_of_ble_eq_true rfl) ?_
  refine exB_ok (t := [(.aload_n 0, 1, 0, 0, 0, 0), (.invokespecial 1, 3, 100000, 0, 0, 0), (.aload_n 0, 1, 0, 0, 0, 0), (.bipush 6, 2, 0, 0, 0, 0), (.newarray .int, 2, 0, 0, 6, 0), (.dup, 1, 0, 0, 0, 0), (.iconst 0, 1, 0, 0, 0, 0), (.iconst 0, 1, 0, 0, 0, 0), (.iastore, 1, 0, 0, 0, 0), (.dup, 1, 0, 0, 0, 0), (.iconst 1, 1, 0, 0, 0, 0), (.iconst 1, 1, 0, 0, 0, 0), (.iastore, 1, 0, 0, 0, 0), (.dup, 1, 0, 0, 0, 0), (.iconst 2, 1, 0, 0, 0, 0), (.iconst 5, 1, 0, 0, 0, 0), (.iastore, 1, 0, 0, 0, 0), (.dup, 1, 0, 0, 0, 0), (.iconst 3, 1, 0, 0, 0, 0), (.iconst 2, 1, 0, 0, 0, 0), (.iastore, 1, 0, 0, 0, 0), (.dup, 1, 0, 0, 0, 0), (.iconst 4, 1, 0, 0, 0, 0), (.bipush 7, 2, 0, 0, 0, 0), (.iastore, 1, 0, 0, 0, 0), (.dup, 1, 0, 0, 0, 0), (.iconst 5, 1, 0, 0, 0, 0), (.bipush 50, 2, 0, 0, 0, 0), (.iastore, 1, 0, 0, 0, 0), (.putfield 7, 3, 11, 7, 0, 0)]) (W80_ok G) (jj := fun q L st h o k n => EX G m_World_init q L st h o k n Q) (fun q L st h o k n hq => hq) (by decide +kernel) ?_
  simp [exB, hJ, exT, stp, lv_args, Value.category, lkL, stL1, stL2, insL, contX, q_ofNat, f4_3, nI_1, -Int32.not_lt, -Int32.not_le, -Int64.not_lt, -Int64.not_le, R_World_init, C_World_init, M_World_init, HH_World_init, KB_6, KI_0, KI_1, KI_2, KI_5, KI_3, KI_4, KB_7, KB_50, KB_12, KB_24, -Int32.reduceOfInt, -Int8.reduceOfInt, -Int16.reduceOfInt, -Int32.ofInt_neg, TY_11_7, TY_11_7n, TY_11_8, TY_11_8n, TY_11_9, TY_11_9n, TY_11_10, TY_11_10n, O_World_init_SB_init, C_SB_init, M_SB_init, W80_SB_init, rx_SB_init, h1, hup_nq n1, hup_at, F2, v0, v1, v2, v3, v4, v5]
  try simp (disch := omega) [-Int64.not_lt, -Int64.not_le, -Int32.not_lt, -Int32.not_le, nI_z, nI_ltI, nI_leI, nI_1, nI_clamp, q_vp, nI_pos', rget_k, rset_k, lget_k, hup_hup, h1, hup_nq n1, hup_at, F2, v0, v1, v2, v3, v4, v5]
  refine exB_ok (t := [(.aload_n 0, 1, 0, 0, 0, 0), (.bipush 12, 2, 0, 0, 0, 0), (.bipush 7, 2, 0, 0, 0, 0)]) (W80_ok G) (jj := fun q L st h o k n => EX G m_World_init q L st h o k n Q) (fun q L st h o k n hq => hq) (by decide +kernel) ?_
  simp [exB, hJ, exT, stp, lv_args, Value.category, lkL, stL1, stL2, insL, contX, q_ofNat, f4_3, nI_1, -Int32.not_lt, -Int32.not_le, -Int64.not_lt, -Int64.not_le, R_World_init, C_World_init, M_World_init, HH_World_init, KB_6, KI_0, KI_1, KI_2, KI_5, KI_3, KI_4, KB_7, KB_50, KB_12, KB_24, -Int32.reduceOfInt, -Int8.reduceOfInt, -Int16.reduceOfInt, -Int32.ofInt_neg, TY_11_7, TY_11_7n, TY_11_8, TY_11_8n, TY_11_9, TY_11_9n, TY_11_10, TY_11_10n, O_World_init_SB_init, C_SB_init, M_SB_init, W80_SB_init, rx_SB_init]
  try simp (disch := omega) [-Int64.not_lt, -Int64.not_le, -Int32.not_lt, -Int32.not_le, nI_z, nI_ltI, nI_leI, nI_1, nI_clamp, q_vp, nI_pos', rget_k, rset_k, lget_k, hup_hup]
  obtain ⟨f6, ef⟩ : ∃ f6, f6 = (upd (upd (upd (upd (upd (upd (fun _ => 0) 0 0) 1 1) 2 5) 3 2) 4 7) 5 50 : Nat → Int32) := ⟨_, rfl⟩
  rw [← ef]
  rw [s00_6] at ef
  obtain ⟨H1, e1⟩ : ∃ H1, H1 = hup (hup h (w + 1) (ints 6 (wSet S00))) w (.inr (11, [.int 0, .int 0, .int 0, .int 0, .int 0, .int 0, .int 0, .ref (w + 1), .null, .null, .null])) := ⟨_, rfl⟩
  have g1 : H1 w = some (.inr (11, [.int 0, .int 0, .int 0, .int 0, .int 0, .int 0, .int 0, .ref (w + 1), .null, .null, .null])) := by rw [e1, hup_at]
  refine EX.eqh (h2 := H1) (by rw [e1, ef]) ?_
  refine s_manew (z := w + 2) (N := 12) (M := 7) (by decide +kernel) (by decide +kernel) (by decide) (by decide) (by decide) (by decide) ⟨by decide, by decide⟩ (by decide) (by decide) ?_
  refine EX.rep (fun H hR => hmz_y hR) ?_
  obtain ⟨H2, e2⟩ : ∃ H2, H2 = hmy H1 (w + 2) 12 7 := ⟨_, rfl⟩
  have g2 : H2 w = some (.inr (11, [.int 0, .int 0, .int 0, .int 0, .int 0, .int 0, .int 0, .ref (w + 1), .null, .null, .null])) := by rw [e2, hmy_o (by omega), g1]
  rw [← e2]
  show EX G m_World_init 47 [(0, .ref w)] [.ref (w + 2), .ref w] H2 (some (w + 15)) 14 102 Q
  refine exB_ok (t := [(.putfield 15, 3, 11, 8, 0, 0), (.aload_n 0, 1, 0, 0, 0, 0), (.bipush 24, 2, 0, 0, 0, 0), (.iconst 4, 1, 0, 0, 0, 0)]) (W80_ok G) (jj := fun q L st h o k n => EX G m_World_init q L st h o k n Q) (fun q L st h o k n hq => hq) (by decide +kernel) ?_
  simp [exB, hJ, exT, stp, lv_args, Value.category, lkL, stL1, stL2, insL, contX, q_ofNat, f4_3, nI_1, -Int32.not_lt, -Int32.not_le, -Int64.not_lt, -Int64.not_le, R_World_init, C_World_init, M_World_init, HH_World_init, KB_6, KI_0, KI_1, KI_2, KI_5, KI_3, KI_4, KB_7, KB_50, KB_12, KB_24, -Int32.reduceOfInt, -Int8.reduceOfInt, -Int16.reduceOfInt, -Int32.ofInt_neg, TY_11_7, TY_11_7n, TY_11_8, TY_11_8n, TY_11_9, TY_11_9n, TY_11_10, TY_11_10n, O_World_init_SB_init, C_SB_init, M_SB_init, W80_SB_init, rx_SB_init, g2]
  try simp (disch := omega) [-Int64.not_lt, -Int64.not_le, -Int32.not_lt, -Int32.not_le, nI_z, nI_ltI, nI_leI, nI_1, nI_clamp, q_vp, nI_pos', rget_k, rset_k, lget_k, hup_hup, g2]
  obtain ⟨H3, e3⟩ : ∃ H3, H3 = hup H2 w (.inr (11, [.int 0, .int 0, .int 0, .int 0, .int 0, .int 0, .int 0, .ref (w + 1), .ref (w + 2), .null, .null])) := ⟨_, rfl⟩
  have g3 : H3 w = some (.inr (11, [.int 0, .int 0, .int 0, .int 0, .int 0, .int 0, .int 0, .ref (w + 1), .ref (w + 2), .null, .null])) := by rw [e3, hup_at]
  rw [← e3]
  refine s_manew (z := w + 15) (N := 24) (M := 4) (by decide +kernel) (by decide +kernel) (by decide) (by decide) (by decide) (by decide) ⟨by decide, by decide⟩ (by decide) (by decide) ?_
  refine EX.rep (fun H hR => hmz_y hR) ?_
  obtain ⟨H4, e4⟩ : ∃ H4, H4 = hmy H3 (w + 15) 24 4 := ⟨_, rfl⟩
  have g4 : H4 w = some (.inr (11, [.int 0, .int 0, .int 0, .int 0, .int 0, .int 0, .int 0, .ref (w + 1), .ref (w + 2), .null, .null])) := by rw [e4, hmy_o (by omega), g3]
  rw [← e4]
  show EX G m_World_init 58 [(0, .ref w)] [.ref (w + 15), .ref w] H4 (some (w + 40)) 39 222 Q
  have room1 : roomOK m_World_init m_SB_init 40 226 = true := by decide +kernel
  have n40 : w ≠ w + 40 := by omega
  have n41 : w ≠ w + 41 := by omega
  refine exB_ok (t := [(.putfield 18, 3, 11, 9, 0, 0), (.aload_n 0, 1, 0, 0, 0, 0)]) (W80_ok G) (jj := fun q L st h o k n => EX G m_World_init q L st h o k n Q) (fun q L st h o k n hq => hq) (by decide +kernel) ?_
  simp [exB, hJ, exT, stp, lv_args, Value.category, lkL, stL1, stL2, insL, contX, q_ofNat, f4_3, nI_1, -Int32.not_lt, -Int32.not_le, -Int64.not_lt, -Int64.not_le, R_World_init, C_World_init, M_World_init, HH_World_init, KB_6, KI_0, KI_1, KI_2, KI_5, KI_3, KI_4, KB_7, KB_50, KB_12, KB_24, -Int32.reduceOfInt, -Int8.reduceOfInt, -Int16.reduceOfInt, -Int32.ofInt_neg, TY_11_7, TY_11_7n, TY_11_8, TY_11_8n, TY_11_9, TY_11_9n, TY_11_10, TY_11_10n, O_World_init_SB_init, C_SB_init, M_SB_init, W80_SB_init, rx_SB_init, g4]
  try simp (disch := omega) [-Int64.not_lt, -Int64.not_le, -Int32.not_lt, -Int32.not_le, nI_z, nI_ltI, nI_leI, nI_1, nI_clamp, q_vp, nI_pos', rget_k, rset_k, lget_k, hup_hup, g4]
  obtain ⟨H5, e5⟩ : ∃ H5, H5 = hup H4 w (.inr (11, [.int 0, .int 0, .int 0, .int 0, .int 0, .int 0, .int 0, .ref (w + 1), .ref (w + 2), .ref (w + 15), .null])) := ⟨_, rfl⟩
  have g5 : H5 w = some (.inr (11, [.int 0, .int 0, .int 0, .int 0, .int 0, .int 0, .int 0, .ref (w + 1), .ref (w + 2), .ref (w + 15), .null])) := by rw [e5, hup_at]
  rw [← e5]
  refine exB_ok (t := [(.new 21, 3, 12, 0, 0, 0)]) (W80_ok G) (jj := fun q L st h o k n => EX G m_World_init q L st h o k n Q) (fun q L st h o k n hq => hq) (by decide +kernel) ?_
  simp [exB, hJ, exT, stp, lv_args, Value.category, lkL, stL1, stL2, insL, contX, q_ofNat, f4_3, nI_1, -Int32.not_lt, -Int32.not_le, -Int64.not_lt, -Int64.not_le, R_World_init, C_World_init, M_World_init, HH_World_init, KB_6, KI_0, KI_1, KI_2, KI_5, KI_3, KI_4, KB_7, KB_50, KB_12, KB_24, -Int32.reduceOfInt, -Int8.reduceOfInt, -Int16.reduceOfInt, -Int32.ofInt_neg, TY_11_7, TY_11_7n, TY_11_8, TY_11_8n, TY_11_9, TY_11_9n, TY_11_10, TY_11_10n, O_World_init_SB_init, C_SB_init, M_SB_init, W80_SB_init, rx_SB_init, dfl, nFl]
  try simp (disch := omega) [-Int64.not_lt, -Int64.not_le, -Int32.not_lt, -Int32.not_le, nI_z, nI_ltI, nI_leI, nI_1, nI_clamp, q_vp, nI_pos', rget_k, rset_k, lget_k, hup_hup, dfl, nFl]
  refine exB_ok (t := [(.dup, 1, 0, 0, 0, 0), (.invokespecial 23, 3, 176, 0, 0, 0)]) (W80_ok G) (jj := fun q L st h o k n => EX G m_World_init q L st h o k n Q) (fun q L st h o k n hq => hq) (by decide +kernel) ?_
  simp [exB, hJ, exT, stp, lv_args, Value.category, lkL, stL1, stL2, insL, contX, q_ofNat, f4_3, nI_1, -Int32.not_lt, -Int32.not_le, -Int64.not_lt, -Int64.not_le, R_World_init, C_World_init, M_World_init, HH_World_init, KB_6, KI_0, KI_1, KI_2, KI_5, KI_3, KI_4, KB_7, KB_50, KB_12, KB_24, -Int32.reduceOfInt, -Int8.reduceOfInt, -Int16.reduceOfInt, -Int32.ofInt_neg, TY_11_7, TY_11_7n, TY_11_8, TY_11_8n, TY_11_9, TY_11_9n, TY_11_10, TY_11_10n, O_World_init_SB_init, C_SB_init, M_SB_init, W80_SB_init, rx_SB_init, A_r, rx_SB_init, room1]
  try simp (disch := omega) [-Int64.not_lt, -Int64.not_le, -Int32.not_lt, -Int32.not_le, nI_z, nI_ltI, nI_leI, nI_1, nI_clamp, q_vp, nI_pos', rget_k, rset_k, lget_k, hup_hup, A_r, rx_SB_init, room1]
  refine ⟨w + 41, ⟨rfl, hup_at _ _ _, by omega⟩, ?_⟩
  show EX G m_World_init 69 _ _ _ _ _ _ _
  refine exB_ok (t := [(.putfield 24, 3, 11, 10, 0, 0), (.return_, 1, 0, 0, 0, 0)]) (W80_ok G) (jj := fun q L st h o k n => EX G m_World_init q L st h o k n Q) (fun q L st h o k n hq => hq) (by decide +kernel) ?_
  simp [exB, hJ, exT, stp, lv_args, Value.category, lkL, stL1, stL2, insL, contX, q_ofNat, f4_3, nI_1, -Int32.not_lt, -Int32.not_le, -Int64.not_lt, -Int64.not_le, R_World_init, C_World_init, M_World_init, HH_World_init, KB_6, KI_0, KI_1, KI_2, KI_5, KI_3, KI_4, KB_7, KB_50, KB_12, KB_24, -Int32.reduceOfInt, -Int8.reduceOfInt, -Int16.reduceOfInt, -Int32.ofInt_neg, TY_11_7, TY_11_7n, TY_11_8, TY_11_8n, TY_11_9, TY_11_9n, TY_11_10, TY_11_10n, O_World_init_SB_init, C_SB_init, M_SB_init, W80_SB_init, rx_SB_init, hup_nq n40, hup_nq n41, g5]
  try simp (disch := omega) [-Int64.not_lt, -Int64.not_le, -Int32.not_lt, -Int32.not_le, nI_z, nI_ltI, nI_leI, nI_1, nI_clamp, q_vp, nI_pos', rget_k, rset_k, lget_k, hup_hup, hup_nq n40, hup_nq n41, g5]
  subst e2
  subst e4
  rw [winit_h e1 e3 e5]
  exact hq
end WI
def W81 (G : GG) : WF := (wcons 138 rx_World_init (W80 G))
theorem W81_ok (G : GG) : WOK G (W81 G) := (wcons_ok (fun _ _ _ _ hx => r_World_init hx) (W80_ok G))
