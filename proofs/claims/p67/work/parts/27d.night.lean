/-! 27d -/
section NI
variable {G : GG} {as : List Value} {h : HM} {o : Option Nat} {Q : XQ}
theorem HH_Night_randomRoom : mHH 49 = [] := rfl
theorem W11_Row_set {G : GG} {as : List Value} {h : HM} {o : Option Nat} {Q : XQ} : RX G (W11 G) 62 as h o Q = rx_Row_set as h o Q := rfl
theorem W11_Integer_bitCount {G : GG} {as : List Value} {h : HM} {o : Option Nat} {Q : XQ} : RX G (W11 G) 165 as h o Q = rx_Integer_bitCount as h o Q := rfl
theorem rdL {p : Nat} {h0 : HM} {nm : Nat → Int64} {co re ev so lo hi no se : Nat → Int32} {rc dc : Nat} {od th mi po gh nn gm cs ar x w : Int32} (hr : rc ≤ 12) : ∀ j d : Nat, d + j = rc → ∀ left : Int32, Q (.inl (some (.int (rdG ar gh j d left)))) (hH h0 p (nm, co, re, ev, so, lo, hi, no, se, rc, dc, od, th, mi, po, gh, nn, gm, cs)) o → EX G m_Night_randomRoom 49 [(0, .ref p), (1, .int ar), (2, .int x), (3, .int w), (4, .int left), (5, .int (nI d))] [] (hH h0 p (nm, co, re, ev, so, lo, hi, no, se, rc, dc, od, th, mi, po, gh, nn, gm, cs)) o 0 0 Q := by
    intro j
    induction j with
    | zero =>
      intro d hd2 left hq
      obtain rfl : d = rc := by omega
      refine exB_ok (t := [(.iload 5, 2, 0, 0, 0, 0), (.aload_n 0, 1, 0, 0, 0, 0), (.getfield 15, 3, 3, 9, 0, 0), (.if_icmp .ge 34, 3, 89, 0, 0, 0), (.iload 4, 2, 0, 0, 0, 0), (.ifCond .le 29, 3, 89, 0, 0, 0), (.iload_n 1, 1, 0, 0, 0, 0), (.iload 5, 2, 0, 0, 0, 0), (.invokestatic 106, 3, 134, 1, 2, 0), (.ifCond .eq 14, 3, 83, 0, 0, 0)]) (W11_ok G) (fun q L st h o k n hq => exF_ok (W11_ok G) T_Night_randomRoom_ok (f := 40) hq) (by decide +kernel) ?_
      refine genJ (P := fun J => exB _ _ _ _ (J 40) _ _ _ _ _ _ _ _) (fun J hJ => ?_)
      simp [exB, hJ, exT, stp, lv_args, Value.category, lkL, stL1, stL2, insL, contX, q_ofNat, f4_3, nI_1, -Int32.not_lt, -Int32.not_le, T_Night_randomRoom_39, T_Night_randomRoom_49, T_Night_randomRoom_83, T_Night_randomRoom_89, R_Night_randomRoom, C_Night_randomRoom, M_Night_randomRoom, HH_Night_randomRoom, O_Night_randomRoom_Row_get, C_Row_get, M_Row_get, W11_Row_get, rx_Row_get, O_Night_randomRoom_Row_set, C_Row_set, M_Row_set, W11_Row_set, rx_Row_set, O_Night_randomRoom_G_contains, C_G_contains, M_G_contains, W11_G_contains, rx_G_contains, O_Night_randomRoom_Integer_bitCount, C_Integer_bitCount, M_Integer_bitCount, W11_Integer_bitCount, rx_Integer_bitCount, A_ii, hH_0, tI_0, tI_1]
      try simp (disch := omega) [-Int32.not_lt, -Int32.not_le, nI_z, nI_ltI, nI_leI, nI_1, nI_clamp, q_vp, nI_pos', rget_k, rset_k, lget_k, hup_hup, A_ii, hH_0, tI_0, tI_1]
      rw [rdG] at hq
      exact hq
    | succ j ih =>
      intro d hd2 left hq
      have hlt : d < rc := by omega
      have hI := ih (d + 1) (by omega) left
      have hI2 := ih (d + 1) (by omega) (left + Int32.ofInt (-1))
      rw [rdG] at hq
      refine exB_ok (t := [(.iload 5, 2, 0, 0, 0, 0), (.aload_n 0, 1, 0, 0, 0, 0), (.getfield 15, 3, 3, 9, 0, 0), (.if_icmp .ge 34, 3, 89, 0, 0, 0), (.iload 4, 2, 0, 0, 0, 0), (.ifCond .le 29, 3, 89, 0, 0, 0), (.iload_n 1, 1, 0, 0, 0, 0), (.iload 5, 2, 0, 0, 0, 0), (.invokestatic 106, 3, 134, 1, 2, 0), (.ifCond .eq 14, 3, 83, 0, 0, 0)]) (W11_ok G) (fun q L st h o k n hq => exF_ok (W11_ok G) T_Night_randomRoom_ok (f := 40) hq) (by decide +kernel) ?_
      refine genJ (P := fun J => exB _ _ _ _ (J 40) _ _ _ _ _ _ _ _) (fun J hJ => ?_)
      simp [exB, hJ, exT, stp, lv_args, Value.category, lkL, stL1, stL2, insL, contX, q_ofNat, f4_3, nI_1, -Int32.not_lt, -Int32.not_le, T_Night_randomRoom_39, T_Night_randomRoom_49, T_Night_randomRoom_83, T_Night_randomRoom_89, R_Night_randomRoom, C_Night_randomRoom, M_Night_randomRoom, HH_Night_randomRoom, O_Night_randomRoom_Row_get, C_Row_get, M_Row_get, W11_Row_get, rx_Row_get, O_Night_randomRoom_Row_set, C_Row_set, M_Row_set, W11_Row_set, rx_Row_set, O_Night_randomRoom_G_contains, C_G_contains, M_G_contains, W11_G_contains, rx_G_contains, O_Night_randomRoom_Integer_bitCount, C_Integer_bitCount, M_Integer_bitCount, W11_Integer_bitCount, rx_Integer_bitCount, A_ii, hH_0, tI_0, tI_1, hlt, Nat.not_le.mpr hlt]
      try simp (disch := omega) [-Int32.not_lt, -Int32.not_le, nI_z, nI_ltI, nI_leI, nI_1, nI_clamp, q_vp, nI_pos', rget_k, rset_k, lget_k, hup_hup, A_ii, hH_0, tI_0, tI_1, hlt, Nat.not_le.mpr hlt]
      refine ⟨fun c => ?_, fun c => ⟨fun c2 => ?_, fun c2 => ?_⟩⟩
      · rw [if_pos c] at hq; exact hq
      · rw [if_neg c, if_pos c2] at hq; exact hI hq
      · simp only [if_neg c, c2] at hq
        refine s_iinc (i := m_Night_randomRoom) (pc := 72) (z := 4) (dlt := -1) (x := left) (by decide +kernel) rfl (by decide +kernel) ?_
        generalize left + Int32.ofInt (-1) = y at hq hI2 ⊢
        refine exB_ok (t := [(.iload 4, 2, 0, 0, 0, 0), (.ifCond .ne 6, 3, 83, 0, 0, 0), (.iload 5, 2, 0, 0, 0, 0), (.ireturn, 1, 0, 0, 0, 0)]) (W11_ok G) (fun q L st h o k n hq => exF_ok (W11_ok G) T_Night_randomRoom_ok (f := 40) hq) (by decide +kernel) ?_
        refine genJ (P := fun J => exB _ _ _ _ (J 40) _ _ _ _ _ _ _ _) (fun J hJ => ?_)
        simp [exB, hJ, exT, stp, lv_args, Value.category, lkL, stL1, stL2, insL, contX, q_ofNat, f4_3, nI_1, -Int32.not_lt, -Int32.not_le, T_Night_randomRoom_39, T_Night_randomRoom_49, T_Night_randomRoom_83, T_Night_randomRoom_89, R_Night_randomRoom, C_Night_randomRoom, M_Night_randomRoom, HH_Night_randomRoom, O_Night_randomRoom_Row_get, C_Row_get, M_Row_get, W11_Row_get, rx_Row_get, O_Night_randomRoom_Row_set, C_Row_set, M_Row_set, W11_Row_set, rx_Row_set, O_Night_randomRoom_G_contains, C_G_contains, M_G_contains, W11_G_contains, rx_G_contains, O_Night_randomRoom_Integer_bitCount, C_Integer_bitCount, M_Integer_bitCount, W11_Integer_bitCount, rx_Integer_bitCount, A_ii, hH_0, tI_0, tI_1, hlt, Nat.not_le.mpr hlt]
        try simp (disch := omega) [-Int32.not_lt, -Int32.not_le, nI_z, nI_ltI, nI_leI, nI_1, nI_clamp, q_vp, nI_pos', rget_k, rset_k, lget_k, hup_hup, A_ii, hH_0, tI_0, tI_1, hlt, Nat.not_le.mpr hlt]
        refine ⟨fun c3 => ?_, fun c3 => ?_⟩
        · simp [c3] at hq; exact hI2 hq
        · simp [c3] at hq; exact hq
end NI
