/-! j7: World.grown, whole (by gen/j7.py) -/
def gdG (Q : XQ) (S : Nat → HM) : Prop := ∀ w l s b cap f az zm c, GC (S zm) w b cap f l az → PINV c l s → c < 600 → l.length ≤ 600 → EXW s → s 7 = 0 → Q (.inl (some (.ref w))) (hW (hGr (S zm) w b cap f l.length) w s 0) (some az)
def rx_World_grown (G : GG) (as : List Value) (h : HM) (o : Option Nat) (Q : XQ) : Prop := A_r as fun a => ∃ z, (o = some z ∧ a = (gX G).1 ∧ SCR G) ∧ gdG Q (SGR G)
theorem set_oks : (∀ v, v < 3 → ¬ nI v < stG 0 (nI 0) ∧ nI v ≤ stG 1 (nI 0)) ∧ (∀ v, v < 10 → 1 ≤ v → ¬ nI v < stG 0 (nI 1) ∧ nI v ≤ stG 1 (nI 1)) ∧ (∀ v, v < 10 → ¬ nI v < stG 0 (nI 2) ∧ nI v ≤ stG 1 (nI 2)) ∧ (∀ v, v < 10 → 1 ≤ v → ¬ nI v < stG 0 (nI 3) ∧ nI v ≤ stG 1 (nI 3)) ∧ (∀ v, v < 16 → ¬ nI v < stG 0 (nI 4) ∧ nI v ≤ stG 1 (nI 4)) ∧ (∀ v, v < 100 → ¬ nI v < stG 0 (nI 5) ∧ nI v ≤ stG 1 (nI 5)) := by decide +kernel
theorem tx_ls : (txL 14).length = 5 ∧ (txL 26).length = 5 ∧ (txL 27).length = 6 ∧ (txL 28).length = 8 ∧ (txL 29).length = 6 ∧ (txL 30).length = 7 ∧ (txL 31).length = 6 := by decide +kernel
theorem decL_1 {v : Nat} (hv : v < 10) : (decL v).length = 1 := by unfold decL; rw [if_pos hv]; rfl
theorem EXW_gh {s : Nat → Int32} {g : Nat} (hR : RW s) (h : WGP s) (hg : g < nR s) : EXW (upd s 11 (nI g)) ∧ upd s 11 (nI g) 7 = 0 := by
  have h12 := hR.2.1
  have er : nR (upd s 11 (nI g)) = nR s := by unfold nR; rw [show upd s 11 (nI g) 9 = s 9 from if_neg (by decide)]
  have u : ∀ i, i ≠ 11 → upd s 11 (nI g) i = s i := fun i hi => if_neg hi
  refine ⟨⟨fun _ => ⟨g, by rw [er]; exact hg, if_pos rfl, (u _ (by omega)).trans (h.2 g hg).1⟩, fun k hk => ?_⟩, (u 7 (by decide)).trans h.1⟩
  rw [er] at hk
  obtain ⟨a1, a2, a3, a4⟩ := h.2 k hk
  exact Or.inl ⟨(u _ (by omega)).trans a1, (u _ (by omega)).trans a2, (u _ (by omega)).trans a3, (u _ (by omega)).trans a4⟩
theorem EXW_no {s : Nat → Int32} (h : WGP s) (h0 : nR s = 0) : EXW s := ⟨fun h => absurd h (by omega), fun k hk => absurd hk (by omega)⟩
theorem ghostX_l {te g : Nat} (ht : te = 22 ∨ te = 25) : (ghostX te g).length ≤ 11 := by
  have h3 := endT_l ht
  obtain ⟨t32, t42, t43, t45, t46, t47, t48, t49, t50⟩ := tx_rm
  unfold ghostX
  simp only [List.length_append, List.length_cons, List.length_nil]
  omega
section GR
variable {G : GG} {as : List Value} {h : HM} {o : Option Nat} {Q : XQ}
theorem gr_end {a te w zm N d kk nn b cap az : Nat} {f : Nat → Int32} {l : List Int32} {s : Nat → Int32} (ha : a = (gX G).1) (hS : SCR G) (ht : te = 22 ∨ te = 25) (hN : N < 9) (hkk : kk ≤ 700) (hnn : nn ≤ 3600000) (hq : gdG Q (SGR G)) (hC : GC (SGR G zm) w b cap f l az) (hP : PINV (6 + N + d) l s) (hl : l.length ≤ 589) (hd : d ≤ 14) (hWg : WGP s) (h11 : s 11 = 0) (hn : nR s = N) : EX G m_World_grown 603 [(0, .ref a), (1, .ref w), (2, .ref (gS G te)), (3, .ref (w + 40)), (4, .ref zm), (5, .ref (zm + 1)), (6, .int (nI N))] [] (hW (hGr (SGR G zm) w b cap f (l).length) w (s) 0) (some az) (kk) (nn) Q := by
  have hJ : True := trivial
  have hR : RW s := by obtain ⟨-, ⟨U, hU⟩, -⟩ := hP; exact geo_RW hU.1.1
  have fin : ∀ {kk nn : Nat} {l : List Int32} {s : Nat → Int32} {b cap az : Nat} {f : Nat → Int32} {c : Nat}, kk ≤ 1000 → nn ≤ 4000000 → GC (SGR G zm) w b cap f l az → PINV c l s → c < 600 → l.length ≤ 600 → EXW s → s 7 = 0 → EX G m_World_grown 643 [(0, .ref a), (1, .ref w), (2, .ref (gS G te)), (3, .ref (w + 40)), (4, .ref zm), (5, .ref (zm + 1)), (6, .int (nI N))] [] (hW (hGr (SGR G zm) w b cap f (l).length) w (s) 0) (some az) (kk) (nn) Q := by
    intro kk nn l s b cap az f c hk9 hn9 hC hP hc hl hE h7
    have hq := hq w l s b cap f az zm c hC hP hc hl hE h7
    obtain ⟨ln, eln⟩ : ∃ ln, ln = l.length := ⟨_, rfl⟩
    rw [← eln] at hq ⊢
    refine exB_ok (t := [(.aload_n 1, 1, 0, 0, 0, 0), (.areturn, 1, 0, 0, 0, 0)]) (W81_ok G) (jj := fun q L st h o k n => EX G m_World_grown q L st h o k n Q) (fun q L st h o k n hq => hq) (by decide +kernel) ?_
    simp [exB, hJ, exT, stp, lv_args, Value.category, lkL, stL1, stL2, insL, contX, q_ofNat, f4_3, nI_1, -Int32.not_lt, -Int32.not_le, -Int64.not_lt, -Int64.not_le, T_World_grown_22, T_World_grown_24, T_World_grown_116, T_World_grown_154, T_World_grown_158, T_World_grown_159, T_World_grown_191, T_World_grown_204, T_World_grown_236, T_World_grown_247, T_World_grown_277, T_World_grown_278, T_World_grown_304, T_World_grown_305, T_World_grown_356, T_World_grown_358, T_World_grown_379, T_World_grown_381, T_World_grown_395, T_World_grown_398, T_World_grown_408, T_World_grown_450, T_World_grown_462, T_World_grown_516, T_World_grown_517, T_World_grown_581, T_World_grown_583, T_World_grown_591, T_World_grown_597, T_World_grown_603, T_World_grown_643, R_World_grown, C_World_grown, M_World_grown, HH_World_grown, KI_1, KI_2, KB_6, KI_0, KI_3, KB_9, KB_10, KI_4, KB_16, KI_5, KB_100, KB_8, KB_30, KB_40, KB_97, KB_50, KB_60, KB_12, KB_13, KS_200, KS_340, KS_370, -Int32.reduceOfInt, -Int8.reduceOfInt, -Int16.reduceOfInt, -Int32.ofInt_neg, TY_11_2, O_World_grown_World_init, C_World_init, M_World_init, W81_World_init, rx_World_init, O_World_grown_World_addRoom, C_World_addRoom, M_World_addRoom, W81_World_addRoom, rx_World_addRoom, O_World_grown_World_addDoor, C_World_addDoor, M_World_addDoor, W81_World_addDoor, rx_World_addDoor, O_World_grown_SB_appendS, C_SB_appendS, M_SB_appendS, W81_SB_appendS, rx_SB_appendS, O_World_grown_SB_appendC, C_SB_appendC, M_SB_appendC, W81_SB_appendC, rx_SB_appendC, O_World_grown_SB_appendI, C_SB_appendI, M_SB_appendI, W81_SB_appendI, rx_SB_appendI, O_World_grown_L_pick, C_L_pick, M_L_pick, W81_L_pick, rx_L_pick]
    try simp (disch := omega) [-Int64.not_lt, -Int64.not_le, -Int32.not_lt, -Int32.not_le, nI_z, nI_ltI, nI_leI, nI_1, nI_clamp, q_vp, nI_pos', rget_k, rset_k, lget_k, hup_hup]
    exact ⟨⟨hk9, hn9⟩, hq⟩
  by_cases c0 : N = 0
  · have F := @fin kk nn l s b cap az f _ (by omega) (by omega) hC hP (by omega) (by omega) (EXW_no hWg (by omega)) hWg.1
    have g1 : nI N ≤ 0 := by rw [c0]; decide
    obtain ⟨ln, eln⟩ : ∃ ln, ln = l.length := ⟨_, rfl⟩
    rw [← eln] at F ⊢
    refine exB_ok (t := [(.iload 6, 2, 0, 0, 0, 0), (.ifCond .le 38, 3, 643, 0, 0, 0)]) (W81_ok G) (jj := fun q L st h o k n => EX G m_World_grown q L st h o k n Q) (fun q L st h o k n hq => hq) (by decide +kernel) ?_
    simp [exB, hJ, exT, stp, lv_args, Value.category, lkL, stL1, stL2, insL, contX, q_ofNat, f4_3, nI_1, -Int32.not_lt, -Int32.not_le, -Int64.not_lt, -Int64.not_le, T_World_grown_22, T_World_grown_24, T_World_grown_116, T_World_grown_154, T_World_grown_158, T_World_grown_159, T_World_grown_191, T_World_grown_204, T_World_grown_236, T_World_grown_247, T_World_grown_277, T_World_grown_278, T_World_grown_304, T_World_grown_305, T_World_grown_356, T_World_grown_358, T_World_grown_379, T_World_grown_381, T_World_grown_395, T_World_grown_398, T_World_grown_408, T_World_grown_450, T_World_grown_462, T_World_grown_516, T_World_grown_517, T_World_grown_581, T_World_grown_583, T_World_grown_591, T_World_grown_597, T_World_grown_603, T_World_grown_643, R_World_grown, C_World_grown, M_World_grown, HH_World_grown, KI_1, KI_2, KB_6, KI_0, KI_3, KB_9, KB_10, KI_4, KB_16, KI_5, KB_100, KB_8, KB_30, KB_40, KB_97, KB_50, KB_60, KB_12, KB_13, KS_200, KS_340, KS_370, -Int32.reduceOfInt, -Int8.reduceOfInt, -Int16.reduceOfInt, -Int32.ofInt_neg, TY_11_2, O_World_grown_World_init, C_World_init, M_World_init, W81_World_init, rx_World_init, O_World_grown_World_addRoom, C_World_addRoom, M_World_addRoom, W81_World_addRoom, rx_World_addRoom, O_World_grown_World_addDoor, C_World_addDoor, M_World_addDoor, W81_World_addDoor, rx_World_addDoor, O_World_grown_SB_appendS, C_SB_appendS, M_SB_appendS, W81_SB_appendS, rx_SB_appendS, O_World_grown_SB_appendC, C_SB_appendC, M_SB_appendC, W81_SB_appendC, rx_SB_appendC, O_World_grown_SB_appendI, C_SB_appendI, M_SB_appendI, W81_SB_appendI, rx_SB_appendI, O_World_grown_L_pick, C_L_pick, M_L_pick, W81_L_pick, rx_L_pick, g1]
    try simp (disch := omega) [-Int64.not_lt, -Int64.not_le, -Int32.not_lt, -Int32.not_le, nI_z, nI_ltI, nI_leI, nI_1, nI_clamp, q_vp, nI_pos', rget_k, rset_k, lget_k, hup_hup, g1]
    exact F
  · have g0 : 0 < nI N := (nI_ltI (a := 0) (by decide) (by omega)).mpr (by omega)
    have g1 : ¬ nI N ≤ 0 := Int32.not_le.mpr g0
    have r0 := groom (k := kk) (n := nn) rm_pick (by omega) (by omega)
    have go : ∀ g, g < N → EX G m_World_grown 621 [(0, .ref a), (1, .ref w), (2, .ref (gS G te)), (3, .ref (w + 40)), (4, .ref zm), (5, .ref (zm + 1)), (6, .int (nI N))] [] (hW (hGr (SGR G zm) w b cap f (l).length) w (upd s 11 (nI g)) 0) (some az) (kk) (nn) Q := by
      intro g hg
      have hP2 := PINV_ghost (te := te) (g := g) hP (by omega) ht (by omega) (hWg.2 g (by omega)).1
      have hlx := ghostX_l (te := te) (g := g) ht
      obtain ⟨e1, e2⟩ := EXW_gh hR hWg (show g < nR s by omega)
      refine gr_gh (te := te) (x := g) hC (by omega) (by omega) (by omega) (by omega) ht (if_pos rfl) (fun b cap f az hC => ?_)
      have ex : l ++ txL 50 ++ [nI (97 + g)] ++ txL te = l ++ ghostX te g := by
        unfold ghostX
        simp only [List.append_assoc]
      rw [ex] at hC ⊢
      exact fin (by omega) (by omega) hC hP2 (by omega) (by rw [List.length_append]; omega) e1 e2
    obtain ⟨ln, eln⟩ : ∃ ln, ln = l.length := ⟨_, rfl⟩
    rw [← eln] at go ⊢
    refine exB_ok (t := [(.iload 6, 2, 0, 0, 0, 0), (.ifCond .le 38, 3, 643, 0, 0, 0)]) (W81_ok G) (jj := fun q L st h o k n => EX G m_World_grown q L st h o k n Q) (fun q L st h o k n hq => hq) (by decide +kernel) ?_
    simp [exB, hJ, exT, stp, lv_args, Value.category, lkL, stL1, stL2, insL, contX, q_ofNat, f4_3, nI_1, -Int32.not_lt, -Int32.not_le, -Int64.not_lt, -Int64.not_le, T_World_grown_22, T_World_grown_24, T_World_grown_116, T_World_grown_154, T_World_grown_158, T_World_grown_159, T_World_grown_191, T_World_grown_204, T_World_grown_236, T_World_grown_247, T_World_grown_277, T_World_grown_278, T_World_grown_304, T_World_grown_305, T_World_grown_356, T_World_grown_358, T_World_grown_379, T_World_grown_381, T_World_grown_395, T_World_grown_398, T_World_grown_408, T_World_grown_450, T_World_grown_462, T_World_grown_516, T_World_grown_517, T_World_grown_581, T_World_grown_583, T_World_grown_591, T_World_grown_597, T_World_grown_603, T_World_grown_643, R_World_grown, C_World_grown, M_World_grown, HH_World_grown, KI_1, KI_2, KB_6, KI_0, KI_3, KB_9, KB_10, KI_4, KB_16, KI_5, KB_100, KB_8, KB_30, KB_40, KB_97, KB_50, KB_60, KB_12, KB_13, KS_200, KS_340, KS_370, -Int32.reduceOfInt, -Int8.reduceOfInt, -Int16.reduceOfInt, -Int32.ofInt_neg, TY_11_2, O_World_grown_World_init, C_World_init, M_World_init, W81_World_init, rx_World_init, O_World_grown_World_addRoom, C_World_addRoom, M_World_addRoom, W81_World_addRoom, rx_World_addRoom, O_World_grown_World_addDoor, C_World_addDoor, M_World_addDoor, W81_World_addDoor, rx_World_addDoor, O_World_grown_SB_appendS, C_SB_appendS, M_SB_appendS, W81_SB_appendS, rx_SB_appendS, O_World_grown_SB_appendC, C_SB_appendC, M_SB_appendC, W81_SB_appendC, rx_SB_appendC, O_World_grown_SB_appendI, C_SB_appendI, M_SB_appendI, W81_SB_appendI, rx_SB_appendI, O_World_grown_L_pick, C_L_pick, M_L_pick, W81_L_pick, rx_L_pick, g1]
    try simp (disch := omega) [-Int64.not_lt, -Int64.not_le, -Int32.not_lt, -Int32.not_le, nI_z, nI_ltI, nI_leI, nI_1, nI_clamp, q_vp, nI_pos', rget_k, rset_k, lget_k, hup_hup, g1]
    refine exB_ok (t := [(.aload_n 1, 1, 0, 0, 0, 0), (.aload_n 0, 1, 0, 0, 0, 0), (.sipush 370, 3, 0, 0, 0, 0), (.iload 6, 2, 0, 0, 0, 0), (.invokestatic 29, 3, 192, 1, 3, 0)]) (W81_ok G) (jj := fun q L st h o k n => EX G m_World_grown q L st h o k n Q) (fun q L st h o k n hq => hq) (by decide +kernel) ?_
    simp [exB, hJ, exT, stp, lv_args, Value.category, lkL, stL1, stL2, insL, contX, q_ofNat, f4_3, nI_1, -Int32.not_lt, -Int32.not_le, -Int64.not_lt, -Int64.not_le, T_World_grown_22, T_World_grown_24, T_World_grown_116, T_World_grown_154, T_World_grown_158, T_World_grown_159, T_World_grown_191, T_World_grown_204, T_World_grown_236, T_World_grown_247, T_World_grown_277, T_World_grown_278, T_World_grown_304, T_World_grown_305, T_World_grown_356, T_World_grown_358, T_World_grown_379, T_World_grown_381, T_World_grown_395, T_World_grown_398, T_World_grown_408, T_World_grown_450, T_World_grown_462, T_World_grown_516, T_World_grown_517, T_World_grown_581, T_World_grown_583, T_World_grown_591, T_World_grown_597, T_World_grown_603, T_World_grown_643, R_World_grown, C_World_grown, M_World_grown, HH_World_grown, KI_1, KI_2, KB_6, KI_0, KI_3, KB_9, KB_10, KI_4, KB_16, KI_5, KB_100, KB_8, KB_30, KB_40, KB_97, KB_50, KB_60, KB_12, KB_13, KS_200, KS_340, KS_370, -Int32.reduceOfInt, -Int8.reduceOfInt, -Int16.reduceOfInt, -Int32.ofInt_neg, TY_11_2, O_World_grown_World_init, C_World_init, M_World_init, W81_World_init, rx_World_init, O_World_grown_World_addRoom, C_World_addRoom, M_World_addRoom, W81_World_addRoom, rx_World_addRoom, O_World_grown_World_addDoor, C_World_addDoor, M_World_addDoor, W81_World_addDoor, rx_World_addDoor, O_World_grown_SB_appendS, C_SB_appendS, M_SB_appendS, W81_SB_appendS, rx_SB_appendS, O_World_grown_SB_appendC, C_SB_appendC, M_SB_appendC, W81_SB_appendC, rx_SB_appendC, O_World_grown_SB_appendI, C_SB_appendI, M_SB_appendI, W81_SB_appendI, rx_SB_appendI, O_World_grown_L_pick, C_L_pick, M_L_pick, W81_L_pick, rx_L_pick, A_rii, rx_L_pick, r0]
    try simp (disch := omega) [-Int64.not_lt, -Int64.not_le, -Int32.not_lt, -Int32.not_le, nI_z, nI_ltI, nI_leI, nI_1, nI_clamp, q_vp, nI_pos', rget_k, rset_k, lget_k, hup_hup, A_rii, rx_L_pick, r0]
    refine ⟨370, N, ⟨ha, hS, rfl, by decide, rfl, by omega, by omega⟩, fun g hg => ?_⟩
    show EX G m_World_grown 618 _ _ _ _ kk nn _
    have go := go g hg
    refine exB_ok (t := [(.putfield 93, 3, 11, 2, 0, 0)]) (W81_ok G) (jj := fun q L st h o k n => EX G m_World_grown q L st h o k n Q) (fun q L st h o k n hq => hq) (by decide +kernel) ?_
    simp [exB, hJ, exT, stp, lv_args, Value.category, lkL, stL1, stL2, insL, contX, q_ofNat, f4_3, nI_1, -Int32.not_lt, -Int32.not_le, -Int64.not_lt, -Int64.not_le, T_World_grown_22, T_World_grown_24, T_World_grown_116, T_World_grown_154, T_World_grown_158, T_World_grown_159, T_World_grown_191, T_World_grown_204, T_World_grown_236, T_World_grown_247, T_World_grown_277, T_World_grown_278, T_World_grown_304, T_World_grown_305, T_World_grown_356, T_World_grown_358, T_World_grown_379, T_World_grown_381, T_World_grown_395, T_World_grown_398, T_World_grown_408, T_World_grown_450, T_World_grown_462, T_World_grown_516, T_World_grown_517, T_World_grown_581, T_World_grown_583, T_World_grown_591, T_World_grown_597, T_World_grown_603, T_World_grown_643, R_World_grown, C_World_grown, M_World_grown, HH_World_grown, KI_1, KI_2, KB_6, KI_0, KI_3, KB_9, KB_10, KI_4, KB_16, KI_5, KB_100, KB_8, KB_30, KB_40, KB_97, KB_50, KB_60, KB_12, KB_13, KS_200, KS_340, KS_370, -Int32.reduceOfInt, -Int8.reduceOfInt, -Int16.reduceOfInt, -Int32.ofInt_neg, TY_11_2, O_World_grown_World_init, C_World_init, M_World_init, W81_World_init, rx_World_init, O_World_grown_World_addRoom, C_World_addRoom, M_World_addRoom, W81_World_addRoom, rx_World_addRoom, O_World_grown_World_addDoor, C_World_addDoor, M_World_addDoor, W81_World_addDoor, rx_World_addDoor, O_World_grown_SB_appendS, C_SB_appendS, M_SB_appendS, W81_SB_appendS, rx_SB_appendS, O_World_grown_SB_appendC, C_SB_appendC, M_SB_appendC, W81_SB_appendC, rx_SB_appendC, O_World_grown_SB_appendI, C_SB_appendI, M_SB_appendI, W81_SB_appendI, rx_SB_appendI, O_World_grown_L_pick, C_L_pick, M_L_pick, W81_L_pick, rx_L_pick, A_r, A_ri, A_rii, A_riii, A_riiii, A_rr, A_i, A_ii, A_iii, hW_0, hW_1, hW_2, hW_15, hW_hW, rfs_at, wR_0, wR_1, wR_2, wR_3, wR_4, wR_5, wR_6, wD_0, wD_1, wD_2, wD_3, wS_0, wS_1, wS_2, wS_3, wS_4, wS_5, hW_s0, hW_s1, hW_s2, hW_s3, hW_s4, hW_s5, hW_f9, hW_f10, hW_f11, hW_f7, hW_f8, hW_f6, hW_fc, vv4_0, vv4_1, vv4_2, vv4_3, vv6_0, vv6_1, vv6_2, vv6_3, vv6_4, vv6_5, vv7_0, vv7_1, vv7_2, vv7_3, vv7_4, vv7_5, vv7_6, cl_0, cl_1, cl_2, cl_3, cl_4, cl_5, cl_6, tI_0, tI_1, tI_or]
    try simp (disch := omega) [-Int64.not_lt, -Int64.not_le, -Int32.not_lt, -Int32.not_le, nI_z, nI_ltI, nI_leI, nI_1, nI_clamp, q_vp, nI_pos', rget_k, rset_k, lget_k, hup_hup, A_r, A_ri, A_rii, A_riii, A_riiii, A_rr, A_i, A_ii, A_iii, hW_0, hW_1, hW_2, hW_15, hW_hW, rfs_at, wR_0, wR_1, wR_2, wR_3, wR_4, wR_5, wR_6, wD_0, wD_1, wD_2, wD_3, wS_0, wS_1, wS_2, wS_3, wS_4, wS_5, hW_s0, hW_s1, hW_s2, hW_s3, hW_s4, hW_s5, hW_f9, hW_f10, hW_f11, hW_f7, hW_f8, hW_f6, hW_fc, vv4_0, vv4_1, vv4_2, vv4_3, vv6_0, vv6_1, vv6_2, vv6_3, vv6_4, vv6_5, vv7_0, vv7_1, vv7_2, vv7_3, vv7_4, vv7_5, vv7_6, cl_0, cl_1, cl_2, cl_3, cl_4, cl_5, cl_6, tI_0, tI_1, tI_or]
    exact go
theorem gr_start {a te w b cap az : Nat} {f : Nat → Int32} (ha : a = (gX G).1) (hS : SCR G) (ht : te = 22 ∨ te = 25) (hq : gdG Q (SGR G)) (hC : GC (fun _ => none) w b cap f (txL 14 ++ txL te) az) : EX G m_World_grown 41 [(0, .ref a), (1, .ref w), (2, .ref (gS G te)), (3, .ref (w + 40))] [] (hW (hGr (fun _ => none) w b cap f (txL 14 ++ txL te).length) w S00 0) (some az) 44 8253 Q := by
  have h3 := endT_l ht
  obtain ⟨n14, n26, n27, n28, n29, n30, n31⟩ := tx_ls
  obtain ⟨o0, o1, o2, o3, o4, o5⟩ := set_oks
  have P0 := PINV_0 te ht
  have hl0 : (txL 14 ++ txL te).length ≤ 8 := by rw [List.length_append]; omega
  obtain ⟨l0, el0⟩ : ∃ l0, l0 = txL 14 ++ txL te := ⟨_, rfl⟩
  rw [← el0] at P0 hl0 hC ⊢
  refine gr_sets ha hS ht (by omega) hC (fun v0 v1 v2 v3 v4 v5 N b cap f az p0 q0 p1 q1 p2 q2 p3 q3 p4 q4 p5 q5 hN hC => ?_)
  have P1 := PINV_set (te := te) (x := 0) (v := v0) P0 (by decide) ht (by decide) (by omega) (o0 v0 q0)
  have P2 := PINV_set (te := te) (x := 1) (v := v1) P1 (by decide) ht (by decide) (by omega) (o1 v1 q1 p1)
  have P3 := PINV_set (te := te) (x := 2) (v := v2) P2 (by decide) ht (by decide) (by omega) (o2 v2 q2)
  have P4 := PINV_set (te := te) (x := 3) (v := v3) P3 (by decide) ht (by decide) (by omega) (o3 v3 q3 p3)
  have P5 := PINV_set (te := te) (x := 4) (v := v4) P4 (by decide) ht (by decide) (by omega) (o4 v4 q4)
  have P6 := PINV_set (te := te) (x := 5) (v := v5) P5 (by decide) ht (by decide) (by omega) (o5 v5 q5)
  clear P0 P1 P2 P3 P4 P5
  have hL : (((((((l0 ++ txL 26 ++ decL v0 ++ txL te) ++ txL 27 ++ decL v1 ++ txL te) ++ txL 28 ++ decL v2 ++ txL te) ++ txL 29 ++ decL v3 ++ txL te) ++ txL 30 ++ decL v4 ++ txL te) ++ txL 31 ++ decL v5 ++ txL te)).length ≤ 72 := by
    have a0 := decL_1 (show v0 < 10 by omega)
    have a1 := decL_1 q1
    have a2 := decL_1 q2
    have a3 := decL_1 q3
    have a4 := decL_l v4
    have a5 := decL_l v5
    simp only [List.length_append]
    omega
  have P6 : PINV 6 (((((((l0 ++ txL 26 ++ decL v0 ++ txL te) ++ txL 27 ++ decL v1 ++ txL te) ++ txL 28 ++ decL v2 ++ txL te) ++ txL 29 ++ decL v3 ++ txL te) ++ txL 30 ++ decL v4 ++ txL te) ++ txL 31 ++ decL v5 ++ txL te)) (upd (upd (upd (upd (upd (upd S00 0 (nI v0)) 1 (nI v1)) 2 (nI v2)) 3 (nI v3)) 4 (nI v4)) 5 (nI v5)) := P6
  have hs : ∀ i, 6 ≤ i → (upd (upd (upd (upd (upd (upd S00 0 (nI v0)) 1 (nI v1)) 2 (nI v2)) 3 (nI v3)) 4 (nI v4)) 5 (nI v5)) i = 0 := fun i hi => by
    refine (if_neg (by omega)).trans ((if_neg (by omega)).trans ((if_neg (by omega)).trans ((if_neg (by omega)).trans ((if_neg (by omega)).trans ((if_neg (by omega)).trans ?_)))))
    unfold S00
    rw [if_neg (by omega), if_neg (by omega), if_neg (by omega), if_neg (by omega), if_neg (by omega)]
  generalize (((((((l0 ++ txL 26 ++ decL v0 ++ txL te) ++ txL 27 ++ decL v1 ++ txL te) ++ txL 28 ++ decL v2 ++ txL te) ++ txL 29 ++ decL v3 ++ txL te) ++ txL 30 ++ decL v4 ++ txL te) ++ txL 31 ++ decL v5 ++ txL te)) = l6 at P6 hC hL ⊢
  generalize (upd (upd (upd (upd (upd (upd S00 0 (nI v0)) 1 (nI v1)) 2 (nI v2)) 3 (nI v3)) 4 (nI v4)) 5 (nI v5)) = s6 at P6 hs ⊢
  have n0 : nR s6 = 0 := by unfold nR; rw [hs 9 (by decide)]; rfl
  have d0 : nD s6 = 0 := by unfold nD; rw [hs 10 (by decide)]; rfl
  have W0 : WGP s6 := ⟨hs 7 (by decide), fun k hk => absurd hk (by omega)⟩
  refine gr_rooms (te := te) (N := N) (w := w) (zm := _) ha hS ht hN (fun l s b cap f az hC hP hl hWg h11 hn hd => ?_) N 0 l6 s6 b cap f az (by omega) hC P6 (by omega) W0 (hs 11 (by decide)) n0 d0
  have go := gr_di (te := te) (N := N) (w := w) (zm := _) (Q := Q) ha hS ht hN (fun l s b cap f az d hC hP hl hd hWg h11 hn => gr_end ha hS ht hN (by omega) (by omega) hq hC hP (by omega) hd hWg h11 hn) (N - 1) 1 l s b cap f az 0 (by omega) hC hP (by omega) (by omega) hWg h11 hn hd (fun d hd2 => absurd hd2 (by omega))
  have hJ : True := trivial
  refine EX.widen (k' := 150 + 10 * 0) (n' := 350000 + 33000 * 0) (by omega) (by omega) ?_
  obtain ⟨ln, eln⟩ : ∃ ln, ln = l.length := ⟨_, rfl⟩
  rw [← eln] at go ⊢
  generalize 150 + 10 * 0 = k9 at go ⊢
  generalize 350000 + 33000 * 0 = n9 at go ⊢
  refine exB_ok (t := [(.iconst 1, 1, 0, 0, 0, 0), (.istore 7, 2, 0, 0, 0, 0)]) (W81_ok G) (jj := fun q L st h o k n => EX G m_World_grown q L st h o k n Q) (fun q L st h o k n hq => hq) (by decide +kernel) ?_
  simp [exB, hJ, exT, stp, lv_args, Value.category, lkL, stL1, stL2, insL, contX, q_ofNat, f4_3, nI_1, -Int32.not_lt, -Int32.not_le, -Int64.not_lt, -Int64.not_le, T_World_grown_22, T_World_grown_24, T_World_grown_116, T_World_grown_154, T_World_grown_158, T_World_grown_159, T_World_grown_191, T_World_grown_204, T_World_grown_236, T_World_grown_247, T_World_grown_277, T_World_grown_278, T_World_grown_304, T_World_grown_305, T_World_grown_356, T_World_grown_358, T_World_grown_379, T_World_grown_381, T_World_grown_395, T_World_grown_398, T_World_grown_408, T_World_grown_450, T_World_grown_462, T_World_grown_516, T_World_grown_517, T_World_grown_581, T_World_grown_583, T_World_grown_591, T_World_grown_597, T_World_grown_603, T_World_grown_643, R_World_grown, C_World_grown, M_World_grown, HH_World_grown, KI_1, KI_2, KB_6, KI_0, KI_3, KB_9, KB_10, KI_4, KB_16, KI_5, KB_100, KB_8, KB_30, KB_40, KB_97, KB_50, KB_60, KB_12, KB_13, KS_200, KS_340, KS_370, -Int32.reduceOfInt, -Int8.reduceOfInt, -Int16.reduceOfInt, -Int32.ofInt_neg, TY_11_2, O_World_grown_World_init, C_World_init, M_World_init, W81_World_init, rx_World_init, O_World_grown_World_addRoom, C_World_addRoom, M_World_addRoom, W81_World_addRoom, rx_World_addRoom, O_World_grown_World_addDoor, C_World_addDoor, M_World_addDoor, W81_World_addDoor, rx_World_addDoor, O_World_grown_SB_appendS, C_SB_appendS, M_SB_appendS, W81_SB_appendS, rx_SB_appendS, O_World_grown_SB_appendC, C_SB_appendC, M_SB_appendC, W81_SB_appendC, rx_SB_appendC, O_World_grown_SB_appendI, C_SB_appendI, M_SB_appendI, W81_SB_appendI, rx_SB_appendI, O_World_grown_L_pick, C_L_pick, M_L_pick, W81_L_pick, rx_L_pick]
  try simp (disch := omega) [-Int64.not_lt, -Int64.not_le, -Int32.not_lt, -Int32.not_le, nI_z, nI_ltI, nI_leI, nI_1, nI_clamp, q_vp, nI_pos', rget_k, rset_k, lget_k, hup_hup]
  exact go
set_option maxRecDepth 2000 in
set_option maxHeartbeats 200000 in
theorem r_World_grown (hx : rx_World_grown G as h o Q) : Runs G m_World_grown as h o Q := by
  obtain ⟨a, rfl, z, ⟨rfl, ha, hS⟩, hq⟩ := E_r hx
  refine Runs.of (by decide +kernel) (Nat.le_of_ble_eq_true rfl) ?_
  refine gr_head ha hS (fun w e b cap f az he hC => ?_)
  exact gr_start ha hS (by split <;> simp) hq hC
end GR
def W82 (G : GG) : WF := (wcons 139 (rx_World_grown G) (W81 G))
theorem W82_ok (G : GG) : WOK G (W82 G) := (wcons_ok (fun _ _ _ _ hx => r_World_grown hx) (W81_ok G))
