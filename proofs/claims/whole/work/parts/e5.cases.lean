/-! e5: cases 32 to 47 of the law -/
set_option maxRecDepth 8000
section LC
variable {G : GG} {z t k n : Nat} {K : KT} {M : MT} {f : Nat → Int64} {o : Option Nat} {Q : XQ}
theorem case_quietestPath (hT : 6 * t + 6 ≤ (gX G).2.1) (hX : (gX G).2.1 ≤ 3072) (hk : k ≤ 599000) (hn : n ≤ 6999000) (hI : INV K M) (nx : NXL G z t k n Q) : EX G m_L_law 1461 (LW4 G z t) [] (hL z K M f) o k n Q := by
  have hk6 : k ≤ 600000 := by omega
  have hn6 : n ≤ 7000000 := by omega
  have hk7 : k + 45 ≤ 600000 := by omega
  have hn7 : n + 280 ≤ 7000000 := by omega
  refine s_aload_n (z := 1) (by decide +kernel) rfl ?_
  refine l_arg (pc := 1462) (c := 1) (by decide +kernel) (by decide) rfl rfl hT (by decide) hX ?_
  refine l_arg (pc := 1468) (c := 2) (by decide +kernel) (by decide) rfl rfl hT (by decide) hX ?_
  refine s_aload_n (z := 3) (by decide +kernel) rfl ?_
  refine l_callS (pc := 1475) (idx := 262) (j := m_L_quietestPath) (np := 4) (as := [.ref z, .int ((gX G).2.2 (6 * t + 1)), .int ((gX G).2.2 (6 * t + 2)), .ref (z + 224)]) (st := []) (by decide +kernel) rfl (Nat.le_of_ble_eq_true rfl) hk6 hn6 ?_
  obtain ⟨fs, hz⟩ := hL_z (z := z) (K := K) (M := M) (f := f)
  refine l_quietestPath hz ((r_G_quietestPath (ag_quietestPath hI)).mono (lq (G := G) (fun h o Q hx => r_M_quietestPath hx) (by simp) (fun K2 c g o2 hM => ?_)))
  show EX G m_L_law 1478 (LW4 G z t) [.int c] (hL z K2 M g) o2 (k + 45) (n + 280) Q
  refine s_istore (z := 5) (by decide +kernel) (by decide +kernel) ?_
  show EX G m_L_law 1480 (LW5 G z t c) [] (hL z K2 M g) o2 (k + 45) (n + 280) Q
  refine s_aload_n (z := 2) (by decide +kernel) rfl ?_
  refine l_arg (pc := 1481) (c := 1) (by decide +kernel) (by decide) rfl rfl hT (by decide) hX ?_
  refine l_arg (pc := 1487) (c := 2) (by decide +kernel) (by decide) rfl rfl hT (by decide) hX ?_
  obtain ⟨fs2, hz2⟩ := hL_m (z := z) (K := K2) (M := M) (f := g)
  refine l_callV (pc := 1493) (idx := 264) (j := m_M_quietestPath) (np := 2) (ci := 11) (b := z + 207) (as := [.int ((gX G).2.2 (6 * t + 1)), .int ((gX G).2.2 (6 * t + 2))]) (st := []) (by decide +kernel) rfl (Nat.le_of_ble_eq_true rfl) hz2 hk7 hn7 ((hM o2).mono (fun u h o3 hq => ?_))
  obtain ⟨M2, v, rfl, rfl, e0, hg, hI2⟩ := hq
  show EX G m_L_law 1496 (LW5 G z t c) [.int v] (hL z K2 M2 g) o3 (k + 45) (n + 280) Q
  refine s_istore (z := 6) (by decide +kernel) (by decide +kernel) ?_
  show EX G m_L_law 1498 (LW6 G z t c v) [] (hL z K2 M2 g) o3 (k + 45) (n + 280) Q
  exact l_tail (pc := 1498) (by decide +kernel) e0 hg hI2 hk hn nx
theorem case_exclusionReason (hT : 6 * t + 6 ≤ (gX G).2.1) (hX : (gX G).2.1 ≤ 3072) (hk : k ≤ 599000) (hn : n ≤ 6999000) (hI : INV K M) (nx : NXL G z t k n Q) : EX G m_L_law 1529 (LW4 G z t) [] (hL z K M f) o k n Q := by
  have hk6 : k ≤ 600000 := by omega
  have hn6 : n ≤ 7000000 := by omega
  have hk7 : k + 45 ≤ 600000 := by omega
  have hn7 : n + 280 ≤ 7000000 := by omega
  refine s_aload_n (z := 1) (by decide +kernel) rfl ?_
  refine l_arg (pc := 1530) (c := 1) (by decide +kernel) (by decide) rfl rfl hT (by decide) hX ?_
  refine s_aload_n (z := 3) (by decide +kernel) rfl ?_
  refine l_callS (pc := 1537) (idx := 265) (j := m_L_exclusionReason) (np := 3) (as := [.ref z, .int ((gX G).2.2 (6 * t + 1)), .ref (z + 224)]) (st := []) (by decide +kernel) rfl (Nat.le_of_ble_eq_true rfl) hk6 hn6 ?_
  obtain ⟨fs, hz⟩ := hL_z (z := z) (K := K) (M := M) (f := f)
  refine l_exclusionReason hz ((r_G_exclusionReason (ag_exclusionReason hI)).mono (lq (G := G) (fun h o Q hx => r_M_exclusionReason hx) (by simp) (fun K2 c g o2 hM => ?_)))
  show EX G m_L_law 1540 (LW4 G z t) [.int c] (hL z K2 M g) o2 (k + 45) (n + 280) Q
  refine s_istore (z := 5) (by decide +kernel) (by decide +kernel) ?_
  show EX G m_L_law 1542 (LW5 G z t c) [] (hL z K2 M g) o2 (k + 45) (n + 280) Q
  refine s_aload_n (z := 2) (by decide +kernel) rfl ?_
  refine l_arg (pc := 1543) (c := 1) (by decide +kernel) (by decide) rfl rfl hT (by decide) hX ?_
  obtain ⟨fs2, hz2⟩ := hL_m (z := z) (K := K2) (M := M) (f := g)
  refine l_callV (pc := 1549) (idx := 267) (j := m_M_exclusionReason) (np := 1) (ci := 11) (b := z + 207) (as := [.int ((gX G).2.2 (6 * t + 1))]) (st := []) (by decide +kernel) rfl (Nat.le_of_ble_eq_true rfl) hz2 hk7 hn7 ((hM o2).mono (fun u h o3 hq => ?_))
  obtain ⟨M2, v, rfl, rfl, e0, hg, hI2⟩ := hq
  show EX G m_L_law 1552 (LW5 G z t c) [.int v] (hL z K2 M2 g) o3 (k + 45) (n + 280) Q
  refine s_istore (z := 6) (by decide +kernel) (by decide +kernel) ?_
  show EX G m_L_law 1554 (LW6 G z t c v) [] (hL z K2 M2 g) o3 (k + 45) (n + 280) Q
  exact l_tail (pc := 1554) (by decide +kernel) e0 hg hI2 hk hn nx
theorem case_exclusionEvidence (hT : 6 * t + 6 ≤ (gX G).2.1) (hX : (gX G).2.1 ≤ 3072) (hk : k ≤ 599000) (hn : n ≤ 6999000) (hI : INV K M) (nx : NXL G z t k n Q) : EX G m_L_law 1585 (LW4 G z t) [] (hL z K M f) o k n Q := by
  have hk6 : k ≤ 600000 := by omega
  have hn6 : n ≤ 7000000 := by omega
  have hk7 : k + 45 ≤ 600000 := by omega
  have hn7 : n + 280 ≤ 7000000 := by omega
  refine s_aload_n (z := 1) (by decide +kernel) rfl ?_
  refine l_arg (pc := 1586) (c := 1) (by decide +kernel) (by decide) rfl rfl hT (by decide) hX ?_
  refine s_aload_n (z := 3) (by decide +kernel) rfl ?_
  refine l_callS (pc := 1593) (idx := 268) (j := m_L_exclusionEvidence) (np := 3) (as := [.ref z, .int ((gX G).2.2 (6 * t + 1)), .ref (z + 224)]) (st := []) (by decide +kernel) rfl (Nat.le_of_ble_eq_true rfl) hk6 hn6 ?_
  obtain ⟨fs, hz⟩ := hL_z (z := z) (K := K) (M := M) (f := f)
  refine l_exclusionEvidence hz ((r_G_exclusionEvidence (ag_exclusionEvidence hI)).mono (lq (G := G) (fun h o Q hx => r_M_exclusionEvidence hx) (by simp) (fun K2 c g o2 hM => ?_)))
  show EX G m_L_law 1596 (LW4 G z t) [.int c] (hL z K2 M g) o2 (k + 45) (n + 280) Q
  refine s_istore (z := 5) (by decide +kernel) (by decide +kernel) ?_
  show EX G m_L_law 1598 (LW5 G z t c) [] (hL z K2 M g) o2 (k + 45) (n + 280) Q
  refine s_aload_n (z := 2) (by decide +kernel) rfl ?_
  refine l_arg (pc := 1599) (c := 1) (by decide +kernel) (by decide) rfl rfl hT (by decide) hX ?_
  obtain ⟨fs2, hz2⟩ := hL_m (z := z) (K := K2) (M := M) (f := g)
  refine l_callV (pc := 1605) (idx := 270) (j := m_M_exclusionEvidence) (np := 1) (ci := 11) (b := z + 207) (as := [.int ((gX G).2.2 (6 * t + 1))]) (st := []) (by decide +kernel) rfl (Nat.le_of_ble_eq_true rfl) hz2 hk7 hn7 ((hM o2).mono (fun u h o3 hq => ?_))
  obtain ⟨M2, v, rfl, rfl, e0, hg, hI2⟩ := hq
  show EX G m_L_law 1608 (LW5 G z t c) [.int v] (hL z K2 M2 g) o3 (k + 45) (n + 280) Q
  refine s_istore (z := 6) (by decide +kernel) (by decide +kernel) ?_
  show EX G m_L_law 1610 (LW6 G z t c v) [] (hL z K2 M2 g) o3 (k + 45) (n + 280) Q
  exact l_tail (pc := 1610) (by decide +kernel) e0 hg hI2 hk hn nx
theorem case_exclusionSource (hT : 6 * t + 6 ≤ (gX G).2.1) (hX : (gX G).2.1 ≤ 3072) (hk : k ≤ 599000) (hn : n ≤ 6999000) (hI : INV K M) (nx : NXL G z t k n Q) : EX G m_L_law 1641 (LW4 G z t) [] (hL z K M f) o k n Q := by
  have hk6 : k ≤ 600000 := by omega
  have hn6 : n ≤ 7000000 := by omega
  have hk7 : k + 45 ≤ 600000 := by omega
  have hn7 : n + 280 ≤ 7000000 := by omega
  refine s_aload_n (z := 1) (by decide +kernel) rfl ?_
  refine l_arg (pc := 1642) (c := 1) (by decide +kernel) (by decide) rfl rfl hT (by decide) hX ?_
  refine s_aload_n (z := 3) (by decide +kernel) rfl ?_
  refine l_callS (pc := 1649) (idx := 271) (j := m_L_exclusionSource) (np := 3) (as := [.ref z, .int ((gX G).2.2 (6 * t + 1)), .ref (z + 224)]) (st := []) (by decide +kernel) rfl (Nat.le_of_ble_eq_true rfl) hk6 hn6 ?_
  obtain ⟨fs, hz⟩ := hL_z (z := z) (K := K) (M := M) (f := f)
  refine l_exclusionSource hz ((r_G_exclusionSource (ag_exclusionSource hI)).mono (lq (G := G) (fun h o Q hx => r_M_exclusionSource hx) (by simp) (fun K2 c g o2 hM => ?_)))
  show EX G m_L_law 1652 (LW4 G z t) [.int c] (hL z K2 M g) o2 (k + 45) (n + 280) Q
  refine s_istore (z := 5) (by decide +kernel) (by decide +kernel) ?_
  show EX G m_L_law 1654 (LW5 G z t c) [] (hL z K2 M g) o2 (k + 45) (n + 280) Q
  refine s_aload_n (z := 2) (by decide +kernel) rfl ?_
  refine l_arg (pc := 1655) (c := 1) (by decide +kernel) (by decide) rfl rfl hT (by decide) hX ?_
  obtain ⟨fs2, hz2⟩ := hL_m (z := z) (K := K2) (M := M) (f := g)
  refine l_callV (pc := 1661) (idx := 273) (j := m_M_exclusionSource) (np := 1) (ci := 11) (b := z + 207) (as := [.int ((gX G).2.2 (6 * t + 1))]) (st := []) (by decide +kernel) rfl (Nat.le_of_ble_eq_true rfl) hz2 hk7 hn7 ((hM o2).mono (fun u h o3 hq => ?_))
  obtain ⟨M2, v, rfl, rfl, e0, hg, hI2⟩ := hq
  show EX G m_L_law 1664 (LW5 G z t c) [.int v] (hL z K2 M2 g) o3 (k + 45) (n + 280) Q
  refine s_istore (z := 6) (by decide +kernel) (by decide +kernel) ?_
  show EX G m_L_law 1666 (LW6 G z t c v) [] (hL z K2 M2 g) o3 (k + 45) (n + 280) Q
  exact l_tail (pc := 1666) (by decide +kernel) e0 hg hI2 hk hn nx
theorem case_violations (hT : 6 * t + 6 ≤ (gX G).2.1) (hX : (gX G).2.1 ≤ 3072) (hk : k ≤ 599000) (hn : n ≤ 6999000) (hI : INV K M) (nx : NXL G z t k n Q) : EX G m_L_law 1697 (LW4 G z t) [] (hL z K M f) o k n Q := by
  have hk6 : k ≤ 600000 := by omega
  have hn6 : n ≤ 7000000 := by omega
  have hk7 : k + 45 ≤ 600000 := by omega
  have hn7 : n + 280 ≤ 7000000 := by omega
  refine s_aload_n (z := 1) (by decide +kernel) rfl ?_
  obtain ⟨fs, hz⟩ := hL_z (z := z) (K := K) (M := M) (f := f)
  refine l_callV (pc := 1698) (idx := 274) (j := m_G_violations) (np := 0) (ci := 10) (b := z) (as := []) (st := []) (by decide +kernel) rfl (Nat.le_of_ble_eq_true rfl) hz hk6 hn6 ((r_G_violations (ag_violations hI)).mono (fun u h o2 hq => ?_))
  obtain ⟨K2, v, rfl, rfl, hM⟩ := gq_s (G := G) (fun h o Q hx => r_M_violations hx) hq
  show EX G m_L_law 1701 (LW4 G z t) [.int v] (hL z K2 M f) o2 k n Q
  refine s_aload_n (z := 2) (by decide +kernel) rfl ?_
  obtain ⟨fs2, hz2⟩ := hL_m (z := z) (K := K2) (M := M) (f := f)
  refine l_callV (pc := 1702) (idx := 277) (j := m_M_violations) (np := 0) (ci := 11) (b := z + 207) (as := []) (st := [.int v]) (by decide +kernel) rfl (Nat.le_of_ble_eq_true rfl) hz2 hk6 hn6 ((hM f o2).mono (fun u h o3 hq2 => ?_))
  obtain ⟨M2, rfl, rfl, -, hI2⟩ := hq2
  show EX G m_L_law 1705 (LW4 G z t) [.int v, .int v] (hL z K2 M2 f) o3 k n Q
  exact s_icmp_eq (off := 1334) (tgt := 3039) (by decide +kernel) (by decide) (fun _ => EX.widen (by omega) (by omega) (nx K2 M2 f o3 hI2)) (fun y => absurd rfl y)
theorem case_meanColdness (hT : 6 * t + 6 ≤ (gX G).2.1) (hX : (gX G).2.1 ≤ 3072) (hk : k ≤ 599000) (hn : n ≤ 6999000) (hI : INV K M) (nx : NXL G z t k n Q) : EX G m_L_law 1710 (LW4 G z t) [] (hL z K M f) o k n Q := by
  have hk6 : k ≤ 600000 := by omega
  have hn6 : n ≤ 7000000 := by omega
  have hk7 : k + 45 ≤ 600000 := by omega
  have hn7 : n + 280 ≤ 7000000 := by omega
  refine s_aload_n (z := 1) (by decide +kernel) rfl ?_
  obtain ⟨fs, hz⟩ := hL_z (z := z) (K := K) (M := M) (f := f)
  refine l_callV (pc := 1711) (idx := 278) (j := m_G_meanColdness) (np := 0) (ci := 10) (b := z) (as := []) (st := []) (by decide +kernel) rfl (Nat.le_of_ble_eq_true rfl) hz hk6 hn6 ((r_G_meanColdness (ag_meanColdness hI)).mono (fun u h o2 hq => ?_))
  obtain ⟨K2, v, rfl, rfl, hM⟩ := gq_d (G := G) (fun h o Q hx => r_M_meanColdness hx) hq
  show EX G m_L_law 1714 (LW4 G z t) [.double v] (hL z K2 M f) o2 k n Q
  refine s_dstore (z := 5) (by decide +kernel) (by decide +kernel) ?_
  show EX G m_L_law 1716 (LD5 G z t v) [] (hL z K2 M f) o2 k n Q
  refine s_aload_n (z := 2) (by decide +kernel) rfl ?_
  obtain ⟨fs2, hz2⟩ := hL_m (z := z) (K := K2) (M := M) (f := f)
  refine l_callV (pc := 1717) (idx := 282) (j := m_M_meanColdness) (np := 0) (ci := 11) (b := z + 207) (as := []) (st := []) (by decide +kernel) rfl (Nat.le_of_ble_eq_true rfl) hz2 hk6 hn6 ((hM f o2).mono (fun u h o3 hq2 => ?_))
  obtain ⟨M2, rfl, rfl, -, hI2⟩ := hq2
  show EX G m_L_law 1720 (LD5 G z t v) [.double v] (hL z K2 M2 f) o3 k n Q
  refine s_dstore (z := 7) (by decide +kernel) (by decide +kernel) ?_
  generalize v = w
  show EX G m_L_law 1722 (LD7 G z t w w) [] (hL z K2 M2 f) o3 k n Q
  exact l_dbl (pc := 1722) (by decide +kernel) hI2 nx
theorem case_possibleFraction (hT : 6 * t + 6 ≤ (gX G).2.1) (hX : (gX G).2.1 ≤ 3072) (hk : k ≤ 599000) (hn : n ≤ 6999000) (hI : INV K M) (nx : NXL G z t k n Q) : EX G m_L_law 1751 (LW4 G z t) [] (hL z K M f) o k n Q := by
  have hk6 : k ≤ 600000 := by omega
  have hn6 : n ≤ 7000000 := by omega
  have hk7 : k + 45 ≤ 600000 := by omega
  have hn7 : n + 280 ≤ 7000000 := by omega
  refine s_aload_n (z := 1) (by decide +kernel) rfl ?_
  obtain ⟨fs, hz⟩ := hL_z (z := z) (K := K) (M := M) (f := f)
  refine l_callV (pc := 1752) (idx := 283) (j := m_G_possibleFraction) (np := 0) (ci := 10) (b := z) (as := []) (st := []) (by decide +kernel) rfl (Nat.le_of_ble_eq_true rfl) hz hk6 hn6 ((r_G_possibleFraction (ag_possibleFraction hI)).mono (fun u h o2 hq => ?_))
  obtain ⟨K2, v, rfl, rfl, hf2, hM⟩ := gq_f (G := G) (fun h o Q hx => r_M_possibleFraction hx) hq
  show EX G m_L_law 1755 (LW4 G z t) [.float v] (hL z K2 M f) o2 k n Q
  refine s_f2d (by decide +kernel) hf2 ?_
  refine s_dstore (z := 5) (by decide +kernel) (by decide +kernel) ?_
  show EX G m_L_law 1758 (LD5 G z t (FP.f2d v)) [] (hL z K2 M f) o2 k n Q
  refine s_aload_n (z := 2) (by decide +kernel) rfl ?_
  obtain ⟨fs2, hz2⟩ := hL_m (z := z) (K := K2) (M := M) (f := f)
  refine l_callV (pc := 1759) (idx := 287) (j := m_M_possibleFraction) (np := 0) (ci := 11) (b := z + 207) (as := []) (st := []) (by decide +kernel) rfl (Nat.le_of_ble_eq_true rfl) hz2 hk6 hn6 ((hM f o2).mono (fun u h o3 hq2 => ?_))
  obtain ⟨M2, rfl, rfl, -, hI2⟩ := hq2
  show EX G m_L_law 1762 (LD5 G z t (FP.f2d v)) [.float v] (hL z K2 M2 f) o3 k n Q
  refine s_f2d (by decide +kernel) hf2 ?_
  refine s_dstore (z := 7) (by decide +kernel) (by decide +kernel) ?_
  generalize FP.f2d v = w
  show EX G m_L_law 1765 (LD7 G z t w w) [] (hL z K2 M2 f) o3 k n Q
  exact l_dbl (pc := 1765) (by decide +kernel) hI2 nx
theorem case_ghostRoomAfter (hT : 6 * t + 6 ≤ (gX G).2.1) (hX : (gX G).2.1 ≤ 3072) (hk : k ≤ 599000) (hn : n ≤ 6999000) (hI : INV K M) (nx : NXL G z t k n Q) : EX G m_L_law 1794 (LW4 G z t) [] (hL z K M f) o k n Q := by
  have hk6 : k ≤ 600000 := by omega
  have hn6 : n ≤ 7000000 := by omega
  have hk7 : k + 45 ≤ 600000 := by omega
  have hn7 : n + 280 ≤ 7000000 := by omega
  refine s_aload_n (z := 1) (by decide +kernel) rfl ?_
  refine l_arg (pc := 1795) (c := 1) (by decide +kernel) (by decide) rfl rfl hT (by decide) hX ?_
  refine s_aload_n (z := 3) (by decide +kernel) rfl ?_
  refine l_callS (pc := 1802) (idx := 288) (j := m_L_ghostRoomAfter) (np := 3) (as := [.ref z, .int ((gX G).2.2 (6 * t + 1)), .ref (z + 224)]) (st := []) (by decide +kernel) rfl (Nat.le_of_ble_eq_true rfl) hk6 hn6 ?_
  obtain ⟨fs, hz⟩ := hL_z (z := z) (K := K) (M := M) (f := f)
  refine l_ghostRoomAfter hz ((r_G_ghostRoomAfter (ag_ghostRoomAfter hI)).mono (lq (G := G) (fun h o Q hx => r_M_ghostRoomAfter hx) (by simp) (fun K2 c g o2 hM => ?_)))
  show EX G m_L_law 1805 (LW4 G z t) [.int c] (hL z K2 M g) o2 (k + 45) (n + 280) Q
  refine s_istore (z := 5) (by decide +kernel) (by decide +kernel) ?_
  show EX G m_L_law 1807 (LW5 G z t c) [] (hL z K2 M g) o2 (k + 45) (n + 280) Q
  refine s_aload_n (z := 2) (by decide +kernel) rfl ?_
  refine l_arg (pc := 1808) (c := 1) (by decide +kernel) (by decide) rfl rfl hT (by decide) hX ?_
  obtain ⟨fs2, hz2⟩ := hL_m (z := z) (K := K2) (M := M) (f := g)
  refine l_callV (pc := 1814) (idx := 290) (j := m_M_ghostRoomAfter) (np := 1) (ci := 11) (b := z + 207) (as := [.int ((gX G).2.2 (6 * t + 1))]) (st := []) (by decide +kernel) rfl (Nat.le_of_ble_eq_true rfl) hz2 hk7 hn7 ((hM o2).mono (fun u h o3 hq => ?_))
  obtain ⟨M2, v, rfl, rfl, e0, hg, hI2⟩ := hq
  show EX G m_L_law 1817 (LW5 G z t c) [.int v] (hL z K2 M2 g) o3 (k + 45) (n + 280) Q
  refine s_istore (z := 6) (by decide +kernel) (by decide +kernel) ?_
  show EX G m_L_law 1819 (LW6 G z t c v) [] (hL z K2 M2 g) o3 (k + 45) (n + 280) Q
  exact l_tail (pc := 1819) (by decide +kernel) e0 hg hI2 hk hn nx
theorem case_possibleRoomsAfter (hT : 6 * t + 6 ≤ (gX G).2.1) (hX : (gX G).2.1 ≤ 3072) (hk : k ≤ 599000) (hn : n ≤ 6999000) (hI : INV K M) (nx : NXL G z t k n Q) : EX G m_L_law 1850 (LW4 G z t) [] (hL z K M f) o k n Q := by
  have hk6 : k ≤ 600000 := by omega
  have hn6 : n ≤ 7000000 := by omega
  have hk7 : k + 45 ≤ 600000 := by omega
  have hn7 : n + 280 ≤ 7000000 := by omega
  refine s_aload_n (z := 1) (by decide +kernel) rfl ?_
  refine l_arg (pc := 1851) (c := 1) (by decide +kernel) (by decide) rfl rfl hT (by decide) hX ?_
  refine s_aload_n (z := 3) (by decide +kernel) rfl ?_
  refine l_callS (pc := 1858) (idx := 291) (j := m_L_possibleRoomsAfter) (np := 3) (as := [.ref z, .int ((gX G).2.2 (6 * t + 1)), .ref (z + 224)]) (st := []) (by decide +kernel) rfl (Nat.le_of_ble_eq_true rfl) hk6 hn6 ?_
  obtain ⟨fs, hz⟩ := hL_z (z := z) (K := K) (M := M) (f := f)
  refine l_possibleRoomsAfter hz ((r_G_possibleRoomsAfter (ag_possibleRoomsAfter hI)).mono (lq (G := G) (fun h o Q hx => r_M_possibleRoomsAfter hx) (by simp) (fun K2 c g o2 hM => ?_)))
  show EX G m_L_law 1861 (LW4 G z t) [.int c] (hL z K2 M g) o2 (k + 45) (n + 280) Q
  refine s_istore (z := 5) (by decide +kernel) (by decide +kernel) ?_
  show EX G m_L_law 1863 (LW5 G z t c) [] (hL z K2 M g) o2 (k + 45) (n + 280) Q
  refine s_aload_n (z := 2) (by decide +kernel) rfl ?_
  refine l_arg (pc := 1864) (c := 1) (by decide +kernel) (by decide) rfl rfl hT (by decide) hX ?_
  obtain ⟨fs2, hz2⟩ := hL_m (z := z) (K := K2) (M := M) (f := g)
  refine l_callV (pc := 1870) (idx := 293) (j := m_M_possibleRoomsAfter) (np := 1) (ci := 11) (b := z + 207) (as := [.int ((gX G).2.2 (6 * t + 1))]) (st := []) (by decide +kernel) rfl (Nat.le_of_ble_eq_true rfl) hz2 hk7 hn7 ((hM o2).mono (fun u h o3 hq => ?_))
  obtain ⟨M2, v, rfl, rfl, e0, hg, hI2⟩ := hq
  show EX G m_L_law 1873 (LW5 G z t c) [.int v] (hL z K2 M2 g) o3 (k + 45) (n + 280) Q
  refine s_istore (z := 6) (by decide +kernel) (by decide +kernel) ?_
  show EX G m_L_law 1875 (LW6 G z t c v) [] (hL z K2 M2 g) o3 (k + 45) (n + 280) Q
  exact l_tail (pc := 1875) (by decide +kernel) e0 hg hI2 hk hn nx
theorem case_nightsUntilKnown (hT : 6 * t + 6 ≤ (gX G).2.1) (hX : (gX G).2.1 ≤ 3072) (hk : k ≤ 599000) (hn : n ≤ 6999000) (hI : INV K M) (nx : NXL G z t k n Q) : EX G m_L_law 1906 (LW4 G z t) [] (hL z K M f) o k n Q := by
  have hk6 : k ≤ 600000 := by omega
  have hn6 : n ≤ 7000000 := by omega
  have hk7 : k + 45 ≤ 600000 := by omega
  have hn7 : n + 280 ≤ 7000000 := by omega
  refine s_aload_n (z := 1) (by decide +kernel) rfl ?_
  obtain ⟨fs, hz⟩ := hL_z (z := z) (K := K) (M := M) (f := f)
  refine l_callV (pc := 1907) (idx := 294) (j := m_G_nightsUntilKnown) (np := 0) (ci := 10) (b := z) (as := []) (st := []) (by decide +kernel) rfl (Nat.le_of_ble_eq_true rfl) hz hk6 hn6 ((r_G_nightsUntilKnown (ag_nightsUntilKnown hI)).mono (fun u h o2 hq => ?_))
  obtain ⟨K2, v, rfl, rfl, hM⟩ := gq_s (G := G) (fun h o Q hx => r_M_nightsUntilKnown hx) hq
  show EX G m_L_law 1910 (LW4 G z t) [.int v] (hL z K2 M f) o2 k n Q
  refine s_aload_n (z := 2) (by decide +kernel) rfl ?_
  obtain ⟨fs2, hz2⟩ := hL_m (z := z) (K := K2) (M := M) (f := f)
  refine l_callV (pc := 1911) (idx := 297) (j := m_M_nightsUntilKnown) (np := 0) (ci := 11) (b := z + 207) (as := []) (st := [.int v]) (by decide +kernel) rfl (Nat.le_of_ble_eq_true rfl) hz2 hk6 hn6 ((hM f o2).mono (fun u h o3 hq2 => ?_))
  obtain ⟨M2, rfl, rfl, -, hI2⟩ := hq2
  show EX G m_L_law 1914 (LW4 G z t) [.int v, .int v] (hL z K2 M2 f) o3 k n Q
  exact s_icmp_eq (off := 1125) (tgt := 3039) (by decide +kernel) (by decide) (fun _ => EX.widen (by omega) (by omega) (nx K2 M2 f o3 hI2)) (fun y => absurd rfl y)
theorem case_bestThermometerRoom (hT : 6 * t + 6 ≤ (gX G).2.1) (hX : (gX G).2.1 ≤ 3072) (hk : k ≤ 599000) (hn : n ≤ 6999000) (hI : INV K M) (nx : NXL G z t k n Q) : EX G m_L_law 1919 (LW4 G z t) [] (hL z K M f) o k n Q := by
  have hk6 : k ≤ 600000 := by omega
  have hn6 : n ≤ 7000000 := by omega
  have hk7 : k + 45 ≤ 600000 := by omega
  have hn7 : n + 280 ≤ 7000000 := by omega
  refine s_aload_n (z := 1) (by decide +kernel) rfl ?_
  obtain ⟨fs, hz⟩ := hL_z (z := z) (K := K) (M := M) (f := f)
  refine l_callV (pc := 1920) (idx := 298) (j := m_G_bestThermometerRoom) (np := 0) (ci := 10) (b := z) (as := []) (st := []) (by decide +kernel) rfl (Nat.le_of_ble_eq_true rfl) hz hk6 hn6 ((r_G_bestThermometerRoom (ag_bestThermometerRoom hI)).mono (fun u h o2 hq => ?_))
  obtain ⟨K2, v, rfl, rfl, hM⟩ := gq_s (G := G) (fun h o Q hx => r_M_bestThermometerRoom hx) hq
  show EX G m_L_law 1923 (LW4 G z t) [.int v] (hL z K2 M f) o2 k n Q
  refine s_aload_n (z := 2) (by decide +kernel) rfl ?_
  obtain ⟨fs2, hz2⟩ := hL_m (z := z) (K := K2) (M := M) (f := f)
  refine l_callV (pc := 1924) (idx := 301) (j := m_M_bestThermometerRoom) (np := 0) (ci := 11) (b := z + 207) (as := []) (st := [.int v]) (by decide +kernel) rfl (Nat.le_of_ble_eq_true rfl) hz2 hk6 hn6 ((hM f o2).mono (fun u h o3 hq2 => ?_))
  obtain ⟨M2, rfl, rfl, -, hI2⟩ := hq2
  show EX G m_L_law 1927 (LW4 G z t) [.int v, .int v] (hL z K2 M2 f) o3 k n Q
  exact s_icmp_eq (off := 1112) (tgt := 3039) (by decide +kernel) (by decide) (fun _ => EX.widen (by omega) (by omega) (nx K2 M2 f o3 hI2)) (fun y => absurd rfl y)
theorem case_calmestMode (hT : 6 * t + 6 ≤ (gX G).2.1) (hX : (gX G).2.1 ≤ 3072) (hk : k ≤ 599000) (hn : n ≤ 6999000) (hI : INV K M) (nx : NXL G z t k n Q) : EX G m_L_law 1932 (LW4 G z t) [] (hL z K M f) o k n Q := by
  have hk6 : k ≤ 600000 := by omega
  have hn6 : n ≤ 7000000 := by omega
  have hk7 : k + 45 ≤ 600000 := by omega
  have hn7 : n + 280 ≤ 7000000 := by omega
  refine s_aload_n (z := 1) (by decide +kernel) rfl ?_
  obtain ⟨fs, hz⟩ := hL_z (z := z) (K := K) (M := M) (f := f)
  refine l_callV (pc := 1933) (idx := 302) (j := m_G_calmestMode) (np := 0) (ci := 10) (b := z) (as := []) (st := []) (by decide +kernel) rfl (Nat.le_of_ble_eq_true rfl) hz hk6 hn6 ((r_G_calmestMode (ag_calmestMode hI)).mono (fun u h o2 hq => ?_))
  obtain ⟨K2, v, rfl, rfl, hM⟩ := gq_s (G := G) (fun h o Q hx => r_M_calmestMode hx) hq
  show EX G m_L_law 1936 (LW4 G z t) [.int v] (hL z K2 M f) o2 k n Q
  refine s_aload_n (z := 2) (by decide +kernel) rfl ?_
  obtain ⟨fs2, hz2⟩ := hL_m (z := z) (K := K2) (M := M) (f := f)
  refine l_callV (pc := 1937) (idx := 305) (j := m_M_calmestMode) (np := 0) (ci := 11) (b := z + 207) (as := []) (st := [.int v]) (by decide +kernel) rfl (Nat.le_of_ble_eq_true rfl) hz2 hk6 hn6 ((hM f o2).mono (fun u h o3 hq2 => ?_))
  obtain ⟨M2, rfl, rfl, -, hI2⟩ := hq2
  show EX G m_L_law 1940 (LW4 G z t) [.int v, .int v] (hL z K2 M2 f) o3 k n Q
  exact s_icmp_eq (off := 1099) (tgt := 3039) (by decide +kernel) (by decide) (fun _ => EX.widen (by omega) (by omega) (nx K2 M2 f o3 hI2)) (fun y => absurd rfl y)
theorem case_mostImportantDoor (hT : 6 * t + 6 ≤ (gX G).2.1) (hX : (gX G).2.1 ≤ 3072) (hk : k ≤ 599000) (hn : n ≤ 6999000) (hI : INV K M) (nx : NXL G z t k n Q) : EX G m_L_law 1945 (LW4 G z t) [] (hL z K M f) o k n Q := by
  have hk6 : k ≤ 600000 := by omega
  have hn6 : n ≤ 7000000 := by omega
  have hk7 : k + 45 ≤ 600000 := by omega
  have hn7 : n + 280 ≤ 7000000 := by omega
  refine s_aload_n (z := 1) (by decide +kernel) rfl ?_
  obtain ⟨fs, hz⟩ := hL_z (z := z) (K := K) (M := M) (f := f)
  refine l_callV (pc := 1946) (idx := 306) (j := m_G_mostImportantDoor) (np := 0) (ci := 10) (b := z) (as := []) (st := []) (by decide +kernel) rfl (Nat.le_of_ble_eq_true rfl) hz hk6 hn6 ((r_G_mostImportantDoor (ag_mostImportantDoor hI)).mono (fun u h o2 hq => ?_))
  obtain ⟨K2, v, rfl, rfl, hM⟩ := gq_s (G := G) (fun h o Q hx => r_M_mostImportantDoor hx) hq
  show EX G m_L_law 1949 (LW4 G z t) [.int v] (hL z K2 M f) o2 k n Q
  refine s_aload_n (z := 2) (by decide +kernel) rfl ?_
  obtain ⟨fs2, hz2⟩ := hL_m (z := z) (K := K2) (M := M) (f := f)
  refine l_callV (pc := 1950) (idx := 309) (j := m_M_mostImportantDoor) (np := 0) (ci := 11) (b := z + 207) (as := []) (st := [.int v]) (by decide +kernel) rfl (Nat.le_of_ble_eq_true rfl) hz2 hk6 hn6 ((hM f o2).mono (fun u h o3 hq2 => ?_))
  obtain ⟨M2, rfl, rfl, -, hI2⟩ := hq2
  show EX G m_L_law 1953 (LW4 G z t) [.int v, .int v] (hL z K2 M2 f) o3 k n Q
  exact s_icmp_eq (off := 1086) (tgt := 3039) (by decide +kernel) (by decide) (fun _ => EX.widen (by omega) (by omega) (nx K2 M2 f o3 hI2)) (fun y => absurd rfl y)
theorem case_addRoom (hT : 6 * t + 6 ≤ (gX G).2.1) (hX : (gX G).2.1 ≤ 3072) (hk : k ≤ 599000) (hn : n ≤ 6999000) (hI : INV K M) (nx : NXL G z t k n Q) : EX G m_L_law 1958 (LW4 G z t) [] (hL z K M f) o k n Q := by
  have hk6 : k ≤ 600000 := by omega
  have hn6 : n ≤ 7000000 := by omega
  have hk7 : k + 45 ≤ 600000 := by omega
  have hn7 : n + 280 ≤ 7000000 := by omega
  refine s_aload_n (z := 1) (by decide +kernel) rfl ?_
  refine l_arg (pc := 1959) (c := 1) (by decide +kernel) (by decide) rfl rfl hT (by decide) hX ?_
  refine s_aload_n (z := 3) (by decide +kernel) rfl ?_
  refine l_callS (pc := 1966) (idx := 310) (j := m_L_addRoom) (np := 3) (as := [.ref z, .int ((gX G).2.2 (6 * t + 1)), .ref (z + 224)]) (st := []) (by decide +kernel) rfl (Nat.le_of_ble_eq_true rfl) hk6 hn6 ?_
  obtain ⟨fs, hz⟩ := hL_z (z := z) (K := K) (M := M) (f := f)
  refine l_addRoom hz ((r_G_addRoom (ag_addRoom hI)).mono (lq (G := G) (fun h o Q hx => r_M_addRoom hx) (by simp) (fun K2 c g o2 hM => ?_)))
  show EX G m_L_law 1969 (LW4 G z t) [.int c] (hL z K2 M g) o2 (k + 45) (n + 280) Q
  refine s_istore (z := 5) (by decide +kernel) (by decide +kernel) ?_
  show EX G m_L_law 1971 (LW5 G z t c) [] (hL z K2 M g) o2 (k + 45) (n + 280) Q
  refine s_aload_n (z := 2) (by decide +kernel) rfl ?_
  refine l_arg (pc := 1972) (c := 1) (by decide +kernel) (by decide) rfl rfl hT (by decide) hX ?_
  obtain ⟨fs2, hz2⟩ := hL_m (z := z) (K := K2) (M := M) (f := g)
  refine l_callV (pc := 1978) (idx := 312) (j := m_M_addRoom) (np := 1) (ci := 11) (b := z + 207) (as := [.int ((gX G).2.2 (6 * t + 1))]) (st := []) (by decide +kernel) rfl (Nat.le_of_ble_eq_true rfl) hz2 hk7 hn7 ((hM o2).mono (fun u h o3 hq => ?_))
  obtain ⟨M2, v, rfl, rfl, e0, hg, hI2⟩ := hq
  show EX G m_L_law 1981 (LW5 G z t c) [.int v] (hL z K2 M2 g) o3 (k + 45) (n + 280) Q
  refine s_istore (z := 6) (by decide +kernel) (by decide +kernel) ?_
  show EX G m_L_law 1983 (LW6 G z t c v) [] (hL z K2 M2 g) o3 (k + 45) (n + 280) Q
  exact l_tail (pc := 1983) (by decide +kernel) e0 hg hI2 hk hn nx
theorem case_addDoor (hT : 6 * t + 6 ≤ (gX G).2.1) (hX : (gX G).2.1 ≤ 3072) (hk : k ≤ 599000) (hn : n ≤ 6999000) (hI : INV K M) (nx : NXL G z t k n Q) : EX G m_L_law 2014 (LW4 G z t) [] (hL z K M f) o k n Q := by
  have hk6 : k ≤ 600000 := by omega
  have hn6 : n ≤ 7000000 := by omega
  have hk7 : k + 45 ≤ 600000 := by omega
  have hn7 : n + 280 ≤ 7000000 := by omega
  refine s_aload_n (z := 1) (by decide +kernel) rfl ?_
  refine l_arg (pc := 2015) (c := 1) (by decide +kernel) (by decide) rfl rfl hT (by decide) hX ?_
  refine l_arg (pc := 2021) (c := 2) (by decide +kernel) (by decide) rfl rfl hT (by decide) hX ?_
  refine l_arg (pc := 2027) (c := 3) (by decide +kernel) (by decide) rfl rfl hT (by decide) hX ?_
  refine s_aload_n (z := 3) (by decide +kernel) rfl ?_
  refine l_callS (pc := 2034) (idx := 313) (j := m_L_addDoor) (np := 5) (as := [.ref z, .int ((gX G).2.2 (6 * t + 1)), .int ((gX G).2.2 (6 * t + 2)), .int ((gX G).2.2 (6 * t + 3)), .ref (z + 224)]) (st := []) (by decide +kernel) rfl (Nat.le_of_ble_eq_true rfl) hk6 hn6 ?_
  obtain ⟨fs, hz⟩ := hL_z (z := z) (K := K) (M := M) (f := f)
  refine l_addDoor hz ((r_G_addDoor (ag_addDoor hI)).mono (lq (G := G) (fun h o Q hx => r_M_addDoor hx) (by simp) (fun K2 c g o2 hM => ?_)))
  show EX G m_L_law 2037 (LW4 G z t) [.int c] (hL z K2 M g) o2 (k + 45) (n + 280) Q
  refine s_istore (z := 5) (by decide +kernel) (by decide +kernel) ?_
  show EX G m_L_law 2039 (LW5 G z t c) [] (hL z K2 M g) o2 (k + 45) (n + 280) Q
  refine s_aload_n (z := 2) (by decide +kernel) rfl ?_
  refine l_arg (pc := 2040) (c := 1) (by decide +kernel) (by decide) rfl rfl hT (by decide) hX ?_
  refine l_arg (pc := 2046) (c := 2) (by decide +kernel) (by decide) rfl rfl hT (by decide) hX ?_
  refine l_arg (pc := 2052) (c := 3) (by decide +kernel) (by decide) rfl rfl hT (by decide) hX ?_
  obtain ⟨fs2, hz2⟩ := hL_m (z := z) (K := K2) (M := M) (f := g)
  refine l_callV (pc := 2058) (idx := 316) (j := m_M_addDoor) (np := 3) (ci := 11) (b := z + 207) (as := [.int ((gX G).2.2 (6 * t + 1)), .int ((gX G).2.2 (6 * t + 2)), .int ((gX G).2.2 (6 * t + 3))]) (st := []) (by decide +kernel) rfl (Nat.le_of_ble_eq_true rfl) hz2 hk7 hn7 ((hM o2).mono (fun u h o3 hq => ?_))
  obtain ⟨M2, v, rfl, rfl, e0, hg, hI2⟩ := hq
  show EX G m_L_law 2061 (LW5 G z t c) [.int v] (hL z K2 M2 g) o3 (k + 45) (n + 280) Q
  refine s_istore (z := 6) (by decide +kernel) (by decide +kernel) ?_
  show EX G m_L_law 2063 (LW6 G z t c v) [] (hL z K2 M2 g) o3 (k + 45) (n + 280) Q
  exact l_tail (pc := 2063) (by decide +kernel) e0 hg hI2 hk hn nx
theorem case_setDoorOpen (hT : 6 * t + 6 ≤ (gX G).2.1) (hX : (gX G).2.1 ≤ 3072) (hk : k ≤ 599000) (hn : n ≤ 6999000) (hI : INV K M) (nx : NXL G z t k n Q) : EX G m_L_law 2094 (LW4 G z t) [] (hL z K M f) o k n Q := by
  have hk6 : k ≤ 600000 := by omega
  have hn6 : n ≤ 7000000 := by omega
  have hk7 : k + 45 ≤ 600000 := by omega
  have hn7 : n + 280 ≤ 7000000 := by omega
  refine s_aload_n (z := 1) (by decide +kernel) rfl ?_
  refine l_arg (pc := 2095) (c := 1) (by decide +kernel) (by decide) rfl rfl hT (by decide) hX ?_
  refine l_arg (pc := 2101) (c := 2) (by decide +kernel) (by decide) rfl rfl hT (by decide) hX ?_
  refine l_bool (pc := 2107) (by decide +kernel) ?_
  refine s_aload_n (z := 3) (by decide +kernel) rfl ?_
  refine l_callS (pc := 2116) (idx := 317) (j := m_L_setDoorOpen) (np := 4) (as := [.ref z, .int ((gX G).2.2 (6 * t + 1)), .int (trI ((gX G).2.2 (6 * t + 2))), .ref (z + 224)]) (st := []) (by decide +kernel) rfl (Nat.le_of_ble_eq_true rfl) hk6 hn6 ?_
  obtain ⟨fs, hz⟩ := hL_z (z := z) (K := K) (M := M) (f := f)
  refine l_setDoorOpen hz ((r_G_setDoorOpen (ag_setDoorOpen (trI_01 _) hI)).mono (lq (G := G) (fun h o Q hx => r_M_setDoorOpen hx) (by simp) (fun K2 c g o2 hM => ?_)))
  show EX G m_L_law 2119 (LW4 G z t) [.int c] (hL z K2 M g) o2 (k + 45) (n + 280) Q
  refine s_istore (z := 5) (by decide +kernel) (by decide +kernel) ?_
  show EX G m_L_law 2121 (LW5 G z t c) [] (hL z K2 M g) o2 (k + 45) (n + 280) Q
  refine s_aload_n (z := 2) (by decide +kernel) rfl ?_
  refine l_arg (pc := 2122) (c := 1) (by decide +kernel) (by decide) rfl rfl hT (by decide) hX ?_
  refine l_arg (pc := 2128) (c := 2) (by decide +kernel) (by decide) rfl rfl hT (by decide) hX ?_
  refine l_bool (pc := 2134) (by decide +kernel) ?_
  obtain ⟨fs2, hz2⟩ := hL_m (z := z) (K := K2) (M := M) (f := g)
  refine l_callV (pc := 2142) (idx := 320) (j := m_M_setDoorOpen) (np := 2) (ci := 11) (b := z + 207) (as := [.int ((gX G).2.2 (6 * t + 1)), .int (trI ((gX G).2.2 (6 * t + 2)))]) (st := []) (by decide +kernel) rfl (Nat.le_of_ble_eq_true rfl) hz2 hk7 hn7 ((hM o2).mono (fun u h o3 hq => ?_))
  obtain ⟨M2, v, rfl, rfl, e0, hg, hI2⟩ := hq
  show EX G m_L_law 2145 (LW5 G z t c) [.int v] (hL z K2 M2 g) o3 (k + 45) (n + 280) Q
  refine s_istore (z := 6) (by decide +kernel) (by decide +kernel) ?_
  show EX G m_L_law 2147 (LW6 G z t c v) [] (hL z K2 M2 g) o3 (k + 45) (n + 280) Q
  exact l_tail (pc := 2147) (by decide +kernel) e0 hg hI2 hk hn nx
end LC
