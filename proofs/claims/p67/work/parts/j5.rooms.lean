/-! j5: World.grown: the rooms (by gen/j5.py) -/
/-- every room possible, night 0 -/
def WGP (s : Nat → Int32) : Prop := s 7 = 0 ∧ ∀ k, k < nR s → s (12 + 9 * k + 5) = 1 ∧ s (12 + 9 * k + 6) = 0 ∧ s (12 + 9 * k + 7) = -1 ∧ s (12 + 9 * k + 8) = -1
theorem roomS_at {s : Nat → Int32} {k v : Nat} {q1 q2 : Bool} (hk : nR s = k) (h12 : k < 12) : nR (roomS s k v q1 q2) = k + 1 ∧ nD (roomS s k v q1 q2) = nD s ∧ (∀ i, i ≠ 9 → ¬ (12 + 9 * k ≤ i ∧ i < 12 + 9 * k + 9) → roomS s k v q1 q2 i = s i) ∧ roomS s k v q1 q2 (12 + 9 * k + 2) = nI v ∧ roomS s k v q1 q2 (12 + 9 * k + 3) = tI q1 ∧ roomS s k v q1 q2 (12 + 9 * k + 4) = tI q2 ∧ roomS s k v q1 q2 (12 + 9 * k + 5) = 1 ∧ roomS s k v q1 q2 (12 + 9 * k + 6) = 0 ∧ roomS s k v q1 q2 (12 + 9 * k + 7) = -1 ∧ roomS s k v q1 q2 (12 + 9 * k + 8) = -1 := by
  obtain ⟨a1, a2, -, -, a5, a6, a7, a8, a9, a10, a11⟩ := adR_at (s := s) (x := lN (576 + (1 + k))) (c := nI v) (b := 1) hk
  have u : ∀ i, i ≠ 12 + 9 * k + 3 → i ≠ 12 + 9 * k + 4 → roomS s k v q1 q2 i = adR s (lN (576 + (1 + k))) (nI v) 1 i := fun i h1 h2 => (if_neg h2).trans (if_neg h1)
  refine ⟨?_, ?_, fun i h1 h2 => (u i (by omega) (by omega)).trans (a1 i h1 h2), (u _ (by omega) (by omega)).trans a5, (if_neg (by omega)).trans (if_pos rfl), if_pos rfl, (u _ (by omega) (by omega)).trans (a8.trans (by decide)), (u _ (by omega) (by omega)).trans (a9.trans (by decide)), (u _ (by omega) (by omega)).trans a10, (u _ (by omega) (by omega)).trans a11⟩
  · unfold nR
    rw [u 9 (by omega) (by omega), a2]
    exact nI_clamp (by omega)
  · unfold nD
    rw [u 10 (by omega) (by omega), a1 10 (by omega) (by omega)]
theorem WGP_room {s : Nat → Int32} {k v : Nat} {q1 q2 : Bool} (h : WGP s) (hk : nR s = k) (h12 : k < 12) : WGP (roomS s k v q1 q2) := by
  obtain ⟨r1, r2, r3, -, -, -, r5, r6, r7, r8⟩ := roomS_at (v := v) (q1 := q1) (q2 := q2) hk h12
  refine ⟨(r3 7 (by omega) (by omega)).trans h.1, fun j hj => ?_⟩
  rw [r1] at hj
  by_cases c : j = k
  · subst c; exact ⟨r5, r6, r7, r8⟩
  · obtain ⟨b1, b2, b3, b4⟩ := h.2 j (by omega)
    exact ⟨(r3 _ (by omega) (by omega)).trans b1, (r3 _ (by omega) (by omega)).trans b2, (r3 _ (by omega) (by omega)).trans b3, (r3 _ (by omega) (by omega)).trans b4⟩
theorem roomX_l {te k v : Nat} {q1 q2 : Bool} (ht : te = 22 ∨ te = 25) : (roomX te k v q1 q2).length ≤ 26 := by
  have h3 := endT_l ht
  have hd := decL_l v
  obtain ⟨t32, t42, t43, t45, t46, t47, t48, t49, t50⟩ := tx_rm
  unfold roomX
  simp only [List.length_append, List.length_cons, List.length_nil]
  have e1 : (txL (if q1 then 43 else 45)).length ≤ 7 := by cases q1 <;> simp only [if_true, if_false, Bool.false_eq_true] <;> omega
  have e2 : (txL (if q2 then 46 else 45)).length ≤ 6 := by cases q2 <;> simp only [if_true, if_false, Bool.false_eq_true] <;> omega
  omega
section GR
variable {G : GG} {as : List Value} {h : HM} {o : Option Nat} {Q : XQ}
theorem gr_rooms {a te w zm N : Nat} (ha : a = (gX G).1) (hS : SCR G) (ht : te = 22 ∨ te = 25) (hN : N < 9)
    (hq : ∀ l s b cap f az, GC (SGR G zm) w b cap f l az → PINV (6 + N) l s → l.length ≤ 72 + 26 * N → WGP s → s 11 = 0 → nR s = N → nD s = 0 → EX G m_World_grown 395 [(0, .ref a), (1, .ref w), (2, .ref (gS G te)), (3, .ref (w + 40)), (4, .ref zm), (5, .ref (zm + 1)), (6, .int (nI N)), (7, .int (nI N))] [] (hW (hGr (SGR G zm) w b cap f (l).length) w (s) 0) (some az) (64 + 10 * N) (80265 + 30000 * N) Q) :
    ∀ j k l s b cap f az, k + j = N → GC (SGR G zm) w b cap f l az → PINV (6 + k) l s → l.length ≤ 72 + 26 * k → WGP s → s 11 = 0 → nR s = k → nD s = 0 → EX G m_World_grown 204 [(0, .ref a), (1, .ref w), (2, .ref (gS G te)), (3, .ref (w + 40)), (4, .ref zm), (5, .ref (zm + 1)), (6, .int (nI N)), (7, .int (nI k))] [] (hW (hGr (SGR G zm) w b cap f (l).length) w (s) 0) (some az) (64 + 10 * k) (80265 + 30000 * k) Q := by
  have hJ : True := trivial
  intro j
  induction j with
  | zero =>
    intro k l s b cap f az hk hC hP hl hWg h11 hn hd
    obtain rfl : k = N := by omega
    have hq := hq l s b cap f az hC hP hl hWg h11 hn hd
    have g1 : nI k ≤ nI k := (nI_leI (by omega) (by omega)).mpr (Nat.le_refl _)
    obtain ⟨ln, eln⟩ : ∃ ln, ln = l.length := ⟨_, rfl⟩
    rw [← eln] at hq ⊢
    refine exB_ok (t := [(.iload 7, 2, 0, 0, 0, 0), (.iload 6, 2, 0, 0, 0, 0), (.if_icmp .ge 187, 3, 395, 0, 0, 0)]) (W81_ok G) (jj := fun q L st h o k n => EX G m_World_grown q L st h o k n Q) (fun q L st h o k n hq => hq) (by decide +kernel) ?_
    simp [exB, hJ, exT, stp, lv_args, Value.category, lkL, stL1, stL2, insL, contX, q_ofNat, f4_3, nI_1, -Int32.not_lt, -Int32.not_le, -Int64.not_lt, -Int64.not_le, T_World_grown_22, T_World_grown_24, T_World_grown_116, T_World_grown_154, T_World_grown_158, T_World_grown_159, T_World_grown_191, T_World_grown_204, T_World_grown_236, T_World_grown_247, T_World_grown_277, T_World_grown_278, T_World_grown_304, T_World_grown_305, T_World_grown_356, T_World_grown_358, T_World_grown_379, T_World_grown_381, T_World_grown_395, T_World_grown_398, T_World_grown_408, T_World_grown_450, T_World_grown_462, T_World_grown_516, T_World_grown_517, T_World_grown_581, T_World_grown_583, T_World_grown_591, T_World_grown_597, T_World_grown_603, T_World_grown_643, R_World_grown, C_World_grown, M_World_grown, HH_World_grown, KI_1, KI_2, KB_6, KI_0, KI_3, KB_9, KB_10, KI_4, KB_16, KI_5, KB_100, KB_8, KB_30, KB_40, KB_97, KB_50, KB_60, KB_12, KB_13, KS_200, KS_340, KS_370, -Int32.reduceOfInt, -Int8.reduceOfInt, -Int16.reduceOfInt, -Int32.ofInt_neg, TY_11_2, O_World_grown_World_init, C_World_init, M_World_init, W81_World_init, rx_World_init, O_World_grown_World_addRoom, C_World_addRoom, M_World_addRoom, W81_World_addRoom, rx_World_addRoom, O_World_grown_World_addDoor, C_World_addDoor, M_World_addDoor, W81_World_addDoor, rx_World_addDoor, O_World_grown_SB_appendS, C_SB_appendS, M_SB_appendS, W81_SB_appendS, rx_SB_appendS, O_World_grown_SB_appendC, C_SB_appendC, M_SB_appendC, W81_SB_appendC, rx_SB_appendC, O_World_grown_SB_appendI, C_SB_appendI, M_SB_appendI, W81_SB_appendI, rx_SB_appendI, O_World_grown_L_pick, C_L_pick, M_L_pick, W81_L_pick, rx_L_pick, g1]
    try simp (disch := omega) [-Int64.not_lt, -Int64.not_le, -Int32.not_lt, -Int32.not_le, nI_z, nI_ltI, nI_leI, nI_1, nI_clamp, q_vp, nI_pos', rget_k, rset_k, lget_k, hup_hup, g1]
    exact hq
  | succ j ih =>
    intro k l s b cap f az hk hC hP hl hWg h11 hn hd
    have hR : RW s := by obtain ⟨-, ⟨U, hU⟩, -⟩ := hP; exact geo_RW hU.1.1
    have hk12 : k < 12 := by omega
    have g1 : ¬ nI N ≤ nI k := fun e => by have := (nI_leI (by omega) (by omega)).mp e; omega
    have go : EX G m_World_grown 211 [(0, .ref a), (1, .ref w), (2, .ref (gS G te)), (3, .ref (w + 40)), (4, .ref zm), (5, .ref (zm + 1)), (6, .int (nI N)), (7, .int (nI k))] [] (hW (hGr (SGR G zm) w b cap f (l).length) w (s) 0) (some az) (64 + 10 * k) (80265 + 30000 * k) Q := by
      refine gr_a ha hS (by omega) (by omega) hk12 hR hn (fun v hv => ?_)
      obtain ⟨a1, a2, -, -, a5, a6, a7, a8, a9, a10, a11⟩ := adR_at (s := s) (x := lN (576 + (1 + k))) (c := nI v) (b := 1) hn
      refine gr_b ha hS (by omega) (by omega) hk12 (fun q1 => ?_)
      refine gr_c ha hS (by omega) (by omega) hk12 (fun q2 => ?_)
      obtain ⟨r1, r2, r3, r4, r5, r6, -⟩ := roomS_at (v := v) (q1 := q1) (q2 := q2) hn hk12
      have hP2 := PINV_room (te := te) (v := v) (q1 := q1) (q2 := q2) hP (by omega) ht hn.symm hk12 hv
      have hW2 := WGP_room (v := v) (q1 := q1) (q2 := q2) hWg hn hk12
      have hlx := roomX_l (te := te) (k := k) (v := v) (q1 := q1) (q2 := q2) ht
      show EX G m_World_grown 306 _ _ (hW (hGr (SGR G zm) w b cap f l.length) w (roomS s k v q1 q2) 0) _ _ _ _
      obtain ⟨S, eS⟩ : ∃ S, S = roomS s k v q1 q2 := ⟨_, rfl⟩
      rw [← eS] at r1 r2 r3 r4 r5 r6 hP2 hW2 ⊢
      refine gr_room (te := te) (v := v) (q1 := q1) (q2 := q2) (hC.lt (show az ≤ az + 1 by omega)) (by omega) (by omega) (by omega) ht hk12 r4 hv r5 r6 (fun b cap f az hC => ?_)
      have ex : l ++ txL 32 ++ [nI (97 + k)] ++ txL 42 ++ decL v ++ txL (if q1 then 43 else 45) ++ txL (if q2 then 46 else 45) ++ txL te = l ++ roomX te k v q1 q2 := by
        unfold roomX
        simp only [List.append_assoc]
      rw [ex] at hC ⊢
      have hI := ih (k + 1) (l ++ roomX te k v q1 q2) S b cap f az (by omega) hC (by rw [show 6 + (k + 1) = 6 + k + 1 by omega]; exact hP2) (by rw [List.length_append]; omega) hW2 (by rw [r3 11 (by omega) (by omega)]; exact h11) r1 (r2.trans hd)
      obtain ⟨ln, eln⟩ : ∃ ln, ln = (l ++ roomX te k v q1 q2).length := ⟨_, rfl⟩
      rw [← eln] at hI ⊢
      refine EX.widen (k' := 64 + 10 * (k + 1)) (n' := 80265 + 30000 * (k + 1)) (by omega) (by omega) ?_
      refine exB_ok (t := [(.iinc 7 1, 3, 0, 0, 0, 0), (.goto (-188), 3, 204, 0, 0, 0)]) (W81_ok G) (jj := fun q L st h o k n => EX G m_World_grown q L st h o k n Q) (fun q L st h o k n hq => hq) (by decide +kernel) ?_
      simp [exB, hJ, exT, stp, lv_args, Value.category, lkL, stL1, stL2, insL, contX, q_ofNat, f4_3, nI_1, -Int32.not_lt, -Int32.not_le, -Int64.not_lt, -Int64.not_le, T_World_grown_22, T_World_grown_24, T_World_grown_116, T_World_grown_154, T_World_grown_158, T_World_grown_159, T_World_grown_191, T_World_grown_204, T_World_grown_236, T_World_grown_247, T_World_grown_277, T_World_grown_278, T_World_grown_304, T_World_grown_305, T_World_grown_356, T_World_grown_358, T_World_grown_379, T_World_grown_381, T_World_grown_395, T_World_grown_398, T_World_grown_408, T_World_grown_450, T_World_grown_462, T_World_grown_516, T_World_grown_517, T_World_grown_581, T_World_grown_583, T_World_grown_591, T_World_grown_597, T_World_grown_603, T_World_grown_643, R_World_grown, C_World_grown, M_World_grown, HH_World_grown, KI_1, KI_2, KB_6, KI_0, KI_3, KB_9, KB_10, KI_4, KB_16, KI_5, KB_100, KB_8, KB_30, KB_40, KB_97, KB_50, KB_60, KB_12, KB_13, KS_200, KS_340, KS_370, -Int32.reduceOfInt, -Int8.reduceOfInt, -Int16.reduceOfInt, -Int32.ofInt_neg, TY_11_2, O_World_grown_World_init, C_World_init, M_World_init, W81_World_init, rx_World_init, O_World_grown_World_addRoom, C_World_addRoom, M_World_addRoom, W81_World_addRoom, rx_World_addRoom, O_World_grown_World_addDoor, C_World_addDoor, M_World_addDoor, W81_World_addDoor, rx_World_addDoor, O_World_grown_SB_appendS, C_SB_appendS, M_SB_appendS, W81_SB_appendS, rx_SB_appendS, O_World_grown_SB_appendC, C_SB_appendC, M_SB_appendC, W81_SB_appendC, rx_SB_appendC, O_World_grown_SB_appendI, C_SB_appendI, M_SB_appendI, W81_SB_appendI, rx_SB_appendI, O_World_grown_L_pick, C_L_pick, M_L_pick, W81_L_pick, rx_L_pick]
      try simp (disch := omega) [-Int64.not_lt, -Int64.not_le, -Int32.not_lt, -Int32.not_le, nI_z, nI_ltI, nI_leI, nI_1, nI_clamp, q_vp, nI_pos', rget_k, rset_k, lget_k, hup_hup]
      exact hI
    obtain ⟨ln, eln⟩ : ∃ ln, ln = l.length := ⟨_, rfl⟩
    rw [← eln] at go ⊢
    refine exB_ok (t := [(.iload 7, 2, 0, 0, 0, 0), (.iload 6, 2, 0, 0, 0, 0), (.if_icmp .ge 187, 3, 395, 0, 0, 0)]) (W81_ok G) (jj := fun q L st h o k n => EX G m_World_grown q L st h o k n Q) (fun q L st h o k n hq => hq) (by decide +kernel) ?_
    simp [exB, hJ, exT, stp, lv_args, Value.category, lkL, stL1, stL2, insL, contX, q_ofNat, f4_3, nI_1, -Int32.not_lt, -Int32.not_le, -Int64.not_lt, -Int64.not_le, T_World_grown_22, T_World_grown_24, T_World_grown_116, T_World_grown_154, T_World_grown_158, T_World_grown_159, T_World_grown_191, T_World_grown_204, T_World_grown_236, T_World_grown_247, T_World_grown_277, T_World_grown_278, T_World_grown_304, T_World_grown_305, T_World_grown_356, T_World_grown_358, T_World_grown_379, T_World_grown_381, T_World_grown_395, T_World_grown_398, T_World_grown_408, T_World_grown_450, T_World_grown_462, T_World_grown_516, T_World_grown_517, T_World_grown_581, T_World_grown_583, T_World_grown_591, T_World_grown_597, T_World_grown_603, T_World_grown_643, R_World_grown, C_World_grown, M_World_grown, HH_World_grown, KI_1, KI_2, KB_6, KI_0, KI_3, KB_9, KB_10, KI_4, KB_16, KI_5, KB_100, KB_8, KB_30, KB_40, KB_97, KB_50, KB_60, KB_12, KB_13, KS_200, KS_340, KS_370, -Int32.reduceOfInt, -Int8.reduceOfInt, -Int16.reduceOfInt, -Int32.ofInt_neg, TY_11_2, O_World_grown_World_init, C_World_init, M_World_init, W81_World_init, rx_World_init, O_World_grown_World_addRoom, C_World_addRoom, M_World_addRoom, W81_World_addRoom, rx_World_addRoom, O_World_grown_World_addDoor, C_World_addDoor, M_World_addDoor, W81_World_addDoor, rx_World_addDoor, O_World_grown_SB_appendS, C_SB_appendS, M_SB_appendS, W81_SB_appendS, rx_SB_appendS, O_World_grown_SB_appendC, C_SB_appendC, M_SB_appendC, W81_SB_appendC, rx_SB_appendC, O_World_grown_SB_appendI, C_SB_appendI, M_SB_appendI, W81_SB_appendI, rx_SB_appendI, O_World_grown_L_pick, C_L_pick, M_L_pick, W81_L_pick, rx_L_pick, g1]
    try simp (disch := omega) [-Int64.not_lt, -Int64.not_le, -Int32.not_lt, -Int32.not_le, nI_z, nI_ltI, nI_leI, nI_1, nI_clamp, q_vp, nI_pos', rget_k, rset_k, lget_k, hup_hup, g1]
    exact go
end GR
