/-! e6: cases 48 to 63 of the law -/
set_option maxRecDepth 8000
section LC
variable {G : GG} {z t k n : Nat} {K : KT} {M : MT} {f : Nat → Int64} {o : Option Nat} {Q : XQ}
theorem case_setThermometer (hT : 6 * t + 6 ≤ (gX G).2.1) (hX : (gX G).2.1 ≤ 3072) (hk : k ≤ 599000) (hn : n ≤ 6999000) (hI : INV K M) (nx : NXL G z t k n Q) : EX G m_L_law 2178 (LW4 G z t) [] (hL z K M f) o k n Q := by
  have hk6 : k ≤ 600000 := by omega
  have hn6 : n ≤ 7000000 := by omega
  have hk7 : k + 45 ≤ 600000 := by omega
  have hn7 : n + 280 ≤ 7000000 := by omega
  refine s_aload_n (z := 1) (by decide +kernel) rfl ?_
  refine l_arg (pc := 2179) (c := 1) (by decide +kernel) (by decide) rfl rfl hT (by decide) hX ?_
  refine l_arg (pc := 2185) (c := 2) (by decide +kernel) (by decide) rfl rfl hT (by decide) hX ?_
  refine l_bool (pc := 2191) (by decide +kernel) ?_
  refine s_aload_n (z := 3) (by decide +kernel) rfl ?_
  refine l_callS (pc := 2200) (idx := 321) (j := m_L_setThermometer) (np := 4) (as := [.ref z, .int ((gX G).2.2 (6 * t + 1)), .int (trI ((gX G).2.2 (6 * t + 2))), .ref (z + 224)]) (st := []) (by decide +kernel) rfl (Nat.le_of_ble_eq_true rfl) hk6 hn6 ?_
  obtain ⟨fs, hz⟩ := hL_z (z := z) (K := K) (M := M) (f := f)
  refine l_setThermometer hz ((r_G_setThermometer (ag_setThermometer (trI_01 _) hI)).mono (lq (G := G) (fun h o Q hx => r_M_setThermometer hx) (by simp) (fun K2 c g o2 hM => ?_)))
  show EX G m_L_law 2203 (LW4 G z t) [.int c] (hL z K2 M g) o2 (k + 45) (n + 280) Q
  refine s_istore (z := 5) (by decide +kernel) (by decide +kernel) ?_
  show EX G m_L_law 2205 (LW5 G z t c) [] (hL z K2 M g) o2 (k + 45) (n + 280) Q
  refine s_aload_n (z := 2) (by decide +kernel) rfl ?_
  refine l_arg (pc := 2206) (c := 1) (by decide +kernel) (by decide) rfl rfl hT (by decide) hX ?_
  refine l_arg (pc := 2212) (c := 2) (by decide +kernel) (by decide) rfl rfl hT (by decide) hX ?_
  refine l_bool (pc := 2218) (by decide +kernel) ?_
  obtain ⟨fs2, hz2⟩ := hL_m (z := z) (K := K2) (M := M) (f := g)
  refine l_callV (pc := 2226) (idx := 323) (j := m_M_setThermometer) (np := 2) (ci := 11) (b := z + 207) (as := [.int ((gX G).2.2 (6 * t + 1)), .int (trI ((gX G).2.2 (6 * t + 2)))]) (st := []) (by decide +kernel) rfl (Nat.le_of_ble_eq_true rfl) hz2 hk7 hn7 ((hM o2).mono (fun u h o3 hq => ?_))
  obtain ⟨M2, v, rfl, rfl, e0, hg, hI2⟩ := hq
  show EX G m_L_law 2229 (LW5 G z t c) [.int v] (hL z K2 M2 g) o3 (k + 45) (n + 280) Q
  refine s_istore (z := 6) (by decide +kernel) (by decide +kernel) ?_
  show EX G m_L_law 2231 (LW6 G z t c v) [] (hL z K2 M2 g) o3 (k + 45) (n + 280) Q
  exact l_tail (pc := 2231) (by decide +kernel) e0 hg hI2 hk hn nx
theorem case_setMicrophone (hT : 6 * t + 6 ≤ (gX G).2.1) (hX : (gX G).2.1 ≤ 3072) (hk : k ≤ 599000) (hn : n ≤ 6999000) (hI : INV K M) (nx : NXL G z t k n Q) : EX G m_L_law 2262 (LW4 G z t) [] (hL z K M f) o k n Q := by
  have hk6 : k ≤ 600000 := by omega
  have hn6 : n ≤ 7000000 := by omega
  have hk7 : k + 45 ≤ 600000 := by omega
  have hn7 : n + 280 ≤ 7000000 := by omega
  refine s_aload_n (z := 1) (by decide +kernel) rfl ?_
  refine l_arg (pc := 2263) (c := 1) (by decide +kernel) (by decide) rfl rfl hT (by decide) hX ?_
  refine l_arg (pc := 2269) (c := 2) (by decide +kernel) (by decide) rfl rfl hT (by decide) hX ?_
  refine l_bool (pc := 2275) (by decide +kernel) ?_
  refine s_aload_n (z := 3) (by decide +kernel) rfl ?_
  refine l_callS (pc := 2284) (idx := 324) (j := m_L_setMicrophone) (np := 4) (as := [.ref z, .int ((gX G).2.2 (6 * t + 1)), .int (trI ((gX G).2.2 (6 * t + 2))), .ref (z + 224)]) (st := []) (by decide +kernel) rfl (Nat.le_of_ble_eq_true rfl) hk6 hn6 ?_
  obtain ⟨fs, hz⟩ := hL_z (z := z) (K := K) (M := M) (f := f)
  refine l_setMicrophone hz ((r_G_setMicrophone (ag_setMicrophone (trI_01 _) hI)).mono (lq (G := G) (fun h o Q hx => r_M_setMicrophone hx) (by simp) (fun K2 c g o2 hM => ?_)))
  show EX G m_L_law 2287 (LW4 G z t) [.int c] (hL z K2 M g) o2 (k + 45) (n + 280) Q
  refine s_istore (z := 5) (by decide +kernel) (by decide +kernel) ?_
  show EX G m_L_law 2289 (LW5 G z t c) [] (hL z K2 M g) o2 (k + 45) (n + 280) Q
  refine s_aload_n (z := 2) (by decide +kernel) rfl ?_
  refine l_arg (pc := 2290) (c := 1) (by decide +kernel) (by decide) rfl rfl hT (by decide) hX ?_
  refine l_arg (pc := 2296) (c := 2) (by decide +kernel) (by decide) rfl rfl hT (by decide) hX ?_
  refine l_bool (pc := 2302) (by decide +kernel) ?_
  obtain ⟨fs2, hz2⟩ := hL_m (z := z) (K := K2) (M := M) (f := g)
  refine l_callV (pc := 2310) (idx := 326) (j := m_M_setMicrophone) (np := 2) (ci := 11) (b := z + 207) (as := [.int ((gX G).2.2 (6 * t + 1)), .int (trI ((gX G).2.2 (6 * t + 2)))]) (st := []) (by decide +kernel) rfl (Nat.le_of_ble_eq_true rfl) hz2 hk7 hn7 ((hM o2).mono (fun u h o3 hq => ?_))
  obtain ⟨M2, v, rfl, rfl, e0, hg, hI2⟩ := hq
  show EX G m_L_law 2313 (LW5 G z t c) [.int v] (hL z K2 M2 g) o3 (k + 45) (n + 280) Q
  refine s_istore (z := 6) (by decide +kernel) (by decide +kernel) ?_
  show EX G m_L_law 2315 (LW6 G z t c v) [] (hL z K2 M2 g) o3 (k + 45) (n + 280) Q
  exact l_tail (pc := 2315) (by decide +kernel) e0 hg hI2 hk hn nx
theorem case_warm (hT : 6 * t + 6 ≤ (gX G).2.1) (hX : (gX G).2.1 ≤ 3072) (hk : k ≤ 599000) (hn : n ≤ 6999000) (hI : INV K M) (nx : NXL G z t k n Q) : EX G m_L_law 2346 (LW4 G z t) [] (hL z K M f) o k n Q := by
  have hk6 : k ≤ 600000 := by omega
  have hn6 : n ≤ 7000000 := by omega
  have hk7 : k + 45 ≤ 600000 := by omega
  have hn7 : n + 280 ≤ 7000000 := by omega
  refine s_aload_n (z := 1) (by decide +kernel) rfl ?_
  refine l_arg (pc := 2347) (c := 1) (by decide +kernel) (by decide) rfl rfl hT (by decide) hX ?_
  refine l_arg (pc := 2353) (c := 2) (by decide +kernel) (by decide) rfl rfl hT (by decide) hX ?_
  refine s_aload_n (z := 3) (by decide +kernel) rfl ?_
  refine l_callS (pc := 2360) (idx := 327) (j := m_L_warm) (np := 4) (as := [.ref z, .int ((gX G).2.2 (6 * t + 1)), .int ((gX G).2.2 (6 * t + 2)), .ref (z + 224)]) (st := []) (by decide +kernel) rfl (Nat.le_of_ble_eq_true rfl) hk6 hn6 ?_
  obtain ⟨fs, hz⟩ := hL_z (z := z) (K := K) (M := M) (f := f)
  refine l_warm hz ((r_G_warm (ag_warm hI)).mono (lq (G := G) (fun h o Q hx => r_M_warm hx) (by simp) (fun K2 c g o2 hM => ?_)))
  show EX G m_L_law 2363 (LW4 G z t) [.int c] (hL z K2 M g) o2 (k + 45) (n + 280) Q
  refine s_istore (z := 5) (by decide +kernel) (by decide +kernel) ?_
  show EX G m_L_law 2365 (LW5 G z t c) [] (hL z K2 M g) o2 (k + 45) (n + 280) Q
  refine s_aload_n (z := 2) (by decide +kernel) rfl ?_
  refine l_arg (pc := 2366) (c := 1) (by decide +kernel) (by decide) rfl rfl hT (by decide) hX ?_
  refine l_arg (pc := 2372) (c := 2) (by decide +kernel) (by decide) rfl rfl hT (by decide) hX ?_
  obtain ⟨fs2, hz2⟩ := hL_m (z := z) (K := K2) (M := M) (f := g)
  refine l_callV (pc := 2378) (idx := 329) (j := m_M_warm) (np := 2) (ci := 11) (b := z + 207) (as := [.int ((gX G).2.2 (6 * t + 1)), .int ((gX G).2.2 (6 * t + 2))]) (st := []) (by decide +kernel) rfl (Nat.le_of_ble_eq_true rfl) hz2 hk7 hn7 ((hM o2).mono (fun u h o3 hq => ?_))
  obtain ⟨M2, v, rfl, rfl, e0, hg, hI2⟩ := hq
  show EX G m_L_law 2381 (LW5 G z t c) [.int v] (hL z K2 M2 g) o3 (k + 45) (n + 280) Q
  refine s_istore (z := 6) (by decide +kernel) (by decide +kernel) ?_
  show EX G m_L_law 2383 (LW6 G z t c v) [] (hL z K2 M2 g) o3 (k + 45) (n + 280) Q
  exact l_tail (pc := 2383) (by decide +kernel) e0 hg hI2 hk hn nx
theorem case_passNights (hT : 6 * t + 6 ≤ (gX G).2.1) (hX : (gX G).2.1 ≤ 3072) (hk : k ≤ 599000) (hn : n ≤ 6999000) (hI : INV K M) (nx : NXL G z t k n Q) : EX G m_L_law 2414 (LW4 G z t) [] (hL z K M f) o k n Q := by
  have hk6 : k ≤ 600000 := by omega
  have hn6 : n ≤ 7000000 := by omega
  have hk7 : k + 45 ≤ 600000 := by omega
  have hn7 : n + 280 ≤ 7000000 := by omega
  refine s_aload_n (z := 1) (by decide +kernel) rfl ?_
  refine l_arg (pc := 2415) (c := 1) (by decide +kernel) (by decide) rfl rfl hT (by decide) hX ?_
  refine s_aload_n (z := 3) (by decide +kernel) rfl ?_
  refine l_callS (pc := 2422) (idx := 330) (j := m_L_passNights) (np := 3) (as := [.ref z, .int ((gX G).2.2 (6 * t + 1)), .ref (z + 224)]) (st := []) (by decide +kernel) rfl (Nat.le_of_ble_eq_true rfl) hk6 hn6 ?_
  obtain ⟨fs, hz⟩ := hL_z (z := z) (K := K) (M := M) (f := f)
  refine l_passNights hz ((r_G_passNights (ag_passNights hI)).mono (lq (G := G) (fun h o Q hx => r_M_passNights hx) (by simp) (fun K2 c g o2 hM => ?_)))
  show EX G m_L_law 2425 (LW4 G z t) [.int c] (hL z K2 M g) o2 (k + 45) (n + 280) Q
  refine s_istore (z := 5) (by decide +kernel) (by decide +kernel) ?_
  show EX G m_L_law 2427 (LW5 G z t c) [] (hL z K2 M g) o2 (k + 45) (n + 280) Q
  refine s_aload_n (z := 2) (by decide +kernel) rfl ?_
  refine l_arg (pc := 2428) (c := 1) (by decide +kernel) (by decide) rfl rfl hT (by decide) hX ?_
  obtain ⟨fs2, hz2⟩ := hL_m (z := z) (K := K2) (M := M) (f := g)
  refine l_callV (pc := 2434) (idx := 332) (j := m_M_passNights) (np := 1) (ci := 11) (b := z + 207) (as := [.int ((gX G).2.2 (6 * t + 1))]) (st := []) (by decide +kernel) rfl (Nat.le_of_ble_eq_true rfl) hz2 hk7 hn7 ((hM o2).mono (fun u h o3 hq => ?_))
  obtain ⟨M2, v, rfl, rfl, e0, hg, hI2⟩ := hq
  show EX G m_L_law 2437 (LW5 G z t c) [.int v] (hL z K2 M2 g) o3 (k + 45) (n + 280) Q
  refine s_istore (z := 6) (by decide +kernel) (by decide +kernel) ?_
  show EX G m_L_law 2439 (LW6 G z t c v) [] (hL z K2 M2 g) o3 (k + 45) (n + 280) Q
  exact l_tail (pc := 2439) (by decide +kernel) e0 hg hI2 hk hn nx
theorem case_holdSeance (hT : 6 * t + 6 ≤ (gX G).2.1) (hX : (gX G).2.1 ≤ 3072) (hk : k ≤ 599000) (hn : n ≤ 6999000) (hI : INV K M) (nx : NXL G z t k n Q) : EX G m_L_law 2470 (LW4 G z t) [] (hL z K M f) o k n Q := by
  have hk6 : k ≤ 600000 := by omega
  have hn6 : n ≤ 7000000 := by omega
  have hk7 : k + 45 ≤ 600000 := by omega
  have hn7 : n + 280 ≤ 7000000 := by omega
  refine s_aload_n (z := 1) (by decide +kernel) rfl ?_
  refine l_arg (pc := 2471) (c := 1) (by decide +kernel) (by decide) rfl rfl hT (by decide) hX ?_
  refine s_aload_n (z := 3) (by decide +kernel) rfl ?_
  refine l_callS (pc := 2478) (idx := 333) (j := m_L_holdSeance) (np := 3) (as := [.ref z, .int ((gX G).2.2 (6 * t + 1)), .ref (z + 224)]) (st := []) (by decide +kernel) rfl (Nat.le_of_ble_eq_true rfl) hk6 hn6 ?_
  obtain ⟨fs, hz⟩ := hL_z (z := z) (K := K) (M := M) (f := f)
  refine l_holdSeance hz ((r_G_holdSeance (ag_holdSeance hI)).mono (lqb (G := G) (fun h o Q hx => r_M_holdSeance hx) (by simp) (fun K2 c g o2 hM => ?_)))
  show EX G m_L_law 2481 (LW4 G z t) [.int c] (hL z K2 M g) o2 (k + 45) (n + 280) Q
  refine s_istore (z := 5) (by decide +kernel) (by decide +kernel) ?_
  show EX G m_L_law 2483 (LW5 G z t c) [] (hL z K2 M g) o2 (k + 45) (n + 280) Q
  refine s_aload_n (z := 2) (by decide +kernel) rfl ?_
  refine l_arg (pc := 2484) (c := 1) (by decide +kernel) (by decide) rfl rfl hT (by decide) hX ?_
  obtain ⟨fs2, hz2⟩ := hL_m (z := z) (K := K2) (M := M) (f := g)
  refine l_callV (pc := 2490) (idx := 335) (j := m_M_holdSeance) (np := 1) (ci := 11) (b := z + 207) (as := [.int ((gX G).2.2 (6 * t + 1))]) (st := []) (by decide +kernel) rfl (Nat.le_of_ble_eq_true rfl) hz2 hk7 hn7 ((hM o2).mono (fun u h o3 hq => ?_))
  obtain ⟨M2, v, rfl, rfl, e0, hg, hI2⟩ := hq
  show EX G m_L_law 2493 (LW5 G z t c) [.int v] (hL z K2 M2 g) o3 (k + 45) (n + 280) Q
  refine s_istore (z := 6) (by decide +kernel) (by decide +kernel) ?_
  show EX G m_L_law 2495 (LW6 G z t c v) [] (hL z K2 M2 g) o3 (k + 45) (n + 280) Q
  exact l_tailB (pc := 2495) (by decide +kernel) e0 hg hI2 hk hn nx
theorem case_earnCoins (hT : 6 * t + 6 ≤ (gX G).2.1) (hX : (gX G).2.1 ≤ 3072) (hk : k ≤ 599000) (hn : n ≤ 6999000) (hI : INV K M) (nx : NXL G z t k n Q) : EX G m_L_law 2533 (LW4 G z t) [] (hL z K M f) o k n Q := by
  have hk6 : k ≤ 600000 := by omega
  have hn6 : n ≤ 7000000 := by omega
  have hk7 : k + 45 ≤ 600000 := by omega
  have hn7 : n + 280 ≤ 7000000 := by omega
  refine s_aload_n (z := 1) (by decide +kernel) rfl ?_
  refine l_arg (pc := 2534) (c := 1) (by decide +kernel) (by decide) rfl rfl hT (by decide) hX ?_
  refine s_aload_n (z := 3) (by decide +kernel) rfl ?_
  refine l_callS (pc := 2541) (idx := 336) (j := m_L_earnCoins) (np := 3) (as := [.ref z, .int ((gX G).2.2 (6 * t + 1)), .ref (z + 224)]) (st := []) (by decide +kernel) rfl (Nat.le_of_ble_eq_true rfl) hk6 hn6 ?_
  obtain ⟨fs, hz⟩ := hL_z (z := z) (K := K) (M := M) (f := f)
  refine l_earnCoins hz ((r_G_earnCoins (ag_earnCoins hI)).mono (lq (G := G) (fun h o Q hx => r_M_earnCoins hx) (by simp) (fun K2 c g o2 hM => ?_)))
  show EX G m_L_law 2544 (LW4 G z t) [.int c] (hL z K2 M g) o2 (k + 45) (n + 280) Q
  refine s_istore (z := 5) (by decide +kernel) (by decide +kernel) ?_
  show EX G m_L_law 2546 (LW5 G z t c) [] (hL z K2 M g) o2 (k + 45) (n + 280) Q
  refine s_aload_n (z := 2) (by decide +kernel) rfl ?_
  refine l_arg (pc := 2547) (c := 1) (by decide +kernel) (by decide) rfl rfl hT (by decide) hX ?_
  obtain ⟨fs2, hz2⟩ := hL_m (z := z) (K := K2) (M := M) (f := g)
  refine l_callV (pc := 2553) (idx := 338) (j := m_M_earnCoins) (np := 1) (ci := 11) (b := z + 207) (as := [.int ((gX G).2.2 (6 * t + 1))]) (st := []) (by decide +kernel) rfl (Nat.le_of_ble_eq_true rfl) hz2 hk7 hn7 ((hM o2).mono (fun u h o3 hq => ?_))
  obtain ⟨M2, v, rfl, rfl, e0, hg, hI2⟩ := hq
  show EX G m_L_law 2556 (LW5 G z t c) [.int v] (hL z K2 M2 g) o3 (k + 45) (n + 280) Q
  refine s_istore (z := 6) (by decide +kernel) (by decide +kernel) ?_
  show EX G m_L_law 2558 (LW6 G z t c v) [] (hL z K2 M2 g) o3 (k + 45) (n + 280) Q
  exact l_tail (pc := 2558) (by decide +kernel) e0 hg hI2 hk hn nx
theorem case_setMode (hT : 6 * t + 6 ≤ (gX G).2.1) (hX : (gX G).2.1 ≤ 3072) (hk : k ≤ 599000) (hn : n ≤ 6999000) (hI : INV K M) (nx : NXL G z t k n Q) : EX G m_L_law 2589 (LW4 G z t) [] (hL z K M f) o k n Q := by
  have hk6 : k ≤ 600000 := by omega
  have hn6 : n ≤ 7000000 := by omega
  have hk7 : k + 45 ≤ 600000 := by omega
  have hn7 : n + 280 ≤ 7000000 := by omega
  refine s_aload_n (z := 1) (by decide +kernel) rfl ?_
  refine l_arg (pc := 2590) (c := 1) (by decide +kernel) (by decide) rfl rfl hT (by decide) hX ?_
  refine s_aload_n (z := 3) (by decide +kernel) rfl ?_
  refine l_callS (pc := 2597) (idx := 339) (j := m_L_setMode) (np := 3) (as := [.ref z, .int ((gX G).2.2 (6 * t + 1)), .ref (z + 224)]) (st := []) (by decide +kernel) rfl (Nat.le_of_ble_eq_true rfl) hk6 hn6 ?_
  obtain ⟨fs, hz⟩ := hL_z (z := z) (K := K) (M := M) (f := f)
  refine l_setMode hz ((r_G_setMode (ag_setMode hI)).mono (lq (G := G) (fun h o Q hx => r_M_setMode hx) (by simp) (fun K2 c g o2 hM => ?_)))
  show EX G m_L_law 2600 (LW4 G z t) [.int c] (hL z K2 M g) o2 (k + 45) (n + 280) Q
  refine s_istore (z := 5) (by decide +kernel) (by decide +kernel) ?_
  show EX G m_L_law 2602 (LW5 G z t c) [] (hL z K2 M g) o2 (k + 45) (n + 280) Q
  refine s_aload_n (z := 2) (by decide +kernel) rfl ?_
  refine l_arg (pc := 2603) (c := 1) (by decide +kernel) (by decide) rfl rfl hT (by decide) hX ?_
  obtain ⟨fs2, hz2⟩ := hL_m (z := z) (K := K2) (M := M) (f := g)
  refine l_callV (pc := 2609) (idx := 341) (j := m_M_setMode) (np := 1) (ci := 11) (b := z + 207) (as := [.int ((gX G).2.2 (6 * t + 1))]) (st := []) (by decide +kernel) rfl (Nat.le_of_ble_eq_true rfl) hz2 hk7 hn7 ((hM o2).mono (fun u h o3 hq => ?_))
  obtain ⟨M2, v, rfl, rfl, e0, hg, hI2⟩ := hq
  show EX G m_L_law 2612 (LW5 G z t c) [.int v] (hL z K2 M2 g) o3 (k + 45) (n + 280) Q
  refine s_istore (z := 6) (by decide +kernel) (by decide +kernel) ?_
  show EX G m_L_law 2614 (LW6 G z t c v) [] (hL z K2 M2 g) o3 (k + 45) (n + 280) Q
  exact l_tail (pc := 2614) (by decide +kernel) e0 hg hI2 hk hn nx
theorem case_setChill (hT : 6 * t + 6 ≤ (gX G).2.1) (hX : (gX G).2.1 ≤ 3072) (hk : k ≤ 599000) (hn : n ≤ 6999000) (hI : INV K M) (nx : NXL G z t k n Q) : EX G m_L_law 2645 (LW4 G z t) [] (hL z K M f) o k n Q := by
  have hk6 : k ≤ 600000 := by omega
  have hn6 : n ≤ 7000000 := by omega
  have hk7 : k + 45 ≤ 600000 := by omega
  have hn7 : n + 280 ≤ 7000000 := by omega
  refine s_aload_n (z := 1) (by decide +kernel) rfl ?_
  refine l_arg (pc := 2646) (c := 1) (by decide +kernel) (by decide) rfl rfl hT (by decide) hX ?_
  refine s_aload_n (z := 3) (by decide +kernel) rfl ?_
  refine l_callS (pc := 2653) (idx := 342) (j := m_L_setChill) (np := 3) (as := [.ref z, .int ((gX G).2.2 (6 * t + 1)), .ref (z + 224)]) (st := []) (by decide +kernel) rfl (Nat.le_of_ble_eq_true rfl) hk6 hn6 ?_
  obtain ⟨fs, hz⟩ := hL_z (z := z) (K := K) (M := M) (f := f)
  refine l_setChill hz ((r_G_setChill (ag_setChill hI)).mono (lq (G := G) (fun h o Q hx => r_M_setChill hx) (by simp) (fun K2 c g o2 hM => ?_)))
  show EX G m_L_law 2656 (LW4 G z t) [.int c] (hL z K2 M g) o2 (k + 45) (n + 280) Q
  refine s_istore (z := 5) (by decide +kernel) (by decide +kernel) ?_
  show EX G m_L_law 2658 (LW5 G z t c) [] (hL z K2 M g) o2 (k + 45) (n + 280) Q
  refine s_aload_n (z := 2) (by decide +kernel) rfl ?_
  refine l_arg (pc := 2659) (c := 1) (by decide +kernel) (by decide) rfl rfl hT (by decide) hX ?_
  obtain ⟨fs2, hz2⟩ := hL_m (z := z) (K := K2) (M := M) (f := g)
  refine l_callV (pc := 2665) (idx := 344) (j := m_M_setChill) (np := 1) (ci := 11) (b := z + 207) (as := [.int ((gX G).2.2 (6 * t + 1))]) (st := []) (by decide +kernel) rfl (Nat.le_of_ble_eq_true rfl) hz2 hk7 hn7 ((hM o2).mono (fun u h o3 hq => ?_))
  obtain ⟨M2, v, rfl, rfl, e0, hg, hI2⟩ := hq
  show EX G m_L_law 2668 (LW5 G z t c) [.int v] (hL z K2 M2 g) o3 (k + 45) (n + 280) Q
  refine s_istore (z := 6) (by decide +kernel) (by decide +kernel) ?_
  show EX G m_L_law 2670 (LW6 G z t c v) [] (hL z K2 M2 g) o3 (k + 45) (n + 280) Q
  exact l_tail (pc := 2670) (by decide +kernel) e0 hg hI2 hk hn nx
theorem case_setHearingThreshold (hT : 6 * t + 6 ≤ (gX G).2.1) (hX : (gX G).2.1 ≤ 3072) (hk : k ≤ 599000) (hn : n ≤ 6999000) (hI : INV K M) (nx : NXL G z t k n Q) : EX G m_L_law 2701 (LW4 G z t) [] (hL z K M f) o k n Q := by
  have hk6 : k ≤ 600000 := by omega
  have hn6 : n ≤ 7000000 := by omega
  have hk7 : k + 45 ≤ 600000 := by omega
  have hn7 : n + 280 ≤ 7000000 := by omega
  refine s_aload_n (z := 1) (by decide +kernel) rfl ?_
  refine l_arg (pc := 2702) (c := 1) (by decide +kernel) (by decide) rfl rfl hT (by decide) hX ?_
  refine s_aload_n (z := 3) (by decide +kernel) rfl ?_
  refine l_callS (pc := 2709) (idx := 345) (j := m_L_setHearingThreshold) (np := 3) (as := [.ref z, .int ((gX G).2.2 (6 * t + 1)), .ref (z + 224)]) (st := []) (by decide +kernel) rfl (Nat.le_of_ble_eq_true rfl) hk6 hn6 ?_
  obtain ⟨fs, hz⟩ := hL_z (z := z) (K := K) (M := M) (f := f)
  refine l_setHearingThreshold hz ((r_G_setHearingThreshold (ag_setHearingThreshold hI)).mono (lq (G := G) (fun h o Q hx => r_M_setHearingThreshold hx) (by simp) (fun K2 c g o2 hM => ?_)))
  show EX G m_L_law 2712 (LW4 G z t) [.int c] (hL z K2 M g) o2 (k + 45) (n + 280) Q
  refine s_istore (z := 5) (by decide +kernel) (by decide +kernel) ?_
  show EX G m_L_law 2714 (LW5 G z t c) [] (hL z K2 M g) o2 (k + 45) (n + 280) Q
  refine s_aload_n (z := 2) (by decide +kernel) rfl ?_
  refine l_arg (pc := 2715) (c := 1) (by decide +kernel) (by decide) rfl rfl hT (by decide) hX ?_
  obtain ⟨fs2, hz2⟩ := hL_m (z := z) (K := K2) (M := M) (f := g)
  refine l_callV (pc := 2721) (idx := 347) (j := m_M_setHearingThreshold) (np := 1) (ci := 11) (b := z + 207) (as := [.int ((gX G).2.2 (6 * t + 1))]) (st := []) (by decide +kernel) rfl (Nat.le_of_ble_eq_true rfl) hz2 hk7 hn7 ((hM o2).mono (fun u h o3 hq => ?_))
  obtain ⟨M2, v, rfl, rfl, e0, hg, hI2⟩ := hq
  show EX G m_L_law 2724 (LW5 G z t c) [.int v] (hL z K2 M2 g) o3 (k + 45) (n + 280) Q
  refine s_istore (z := 6) (by decide +kernel) (by decide +kernel) ?_
  show EX G m_L_law 2726 (LW6 G z t c v) [] (hL z K2 M2 g) o3 (k + 45) (n + 280) Q
  exact l_tail (pc := 2726) (by decide +kernel) e0 hg hI2 hk hn nx
theorem case_setSeancePrice (hT : 6 * t + 6 ≤ (gX G).2.1) (hX : (gX G).2.1 ≤ 3072) (hk : k ≤ 599000) (hn : n ≤ 6999000) (hI : INV K M) (nx : NXL G z t k n Q) : EX G m_L_law 2757 (LW4 G z t) [] (hL z K M f) o k n Q := by
  have hk6 : k ≤ 600000 := by omega
  have hn6 : n ≤ 7000000 := by omega
  have hk7 : k + 45 ≤ 600000 := by omega
  have hn7 : n + 280 ≤ 7000000 := by omega
  refine s_aload_n (z := 1) (by decide +kernel) rfl ?_
  refine l_arg (pc := 2758) (c := 1) (by decide +kernel) (by decide) rfl rfl hT (by decide) hX ?_
  refine s_aload_n (z := 3) (by decide +kernel) rfl ?_
  refine l_callS (pc := 2765) (idx := 348) (j := m_L_setSeancePrice) (np := 3) (as := [.ref z, .int ((gX G).2.2 (6 * t + 1)), .ref (z + 224)]) (st := []) (by decide +kernel) rfl (Nat.le_of_ble_eq_true rfl) hk6 hn6 ?_
  obtain ⟨fs, hz⟩ := hL_z (z := z) (K := K) (M := M) (f := f)
  refine l_setSeancePrice hz ((r_G_setSeancePrice (ag_setSeancePrice hI)).mono (lq (G := G) (fun h o Q hx => r_M_setSeancePrice hx) (by simp) (fun K2 c g o2 hM => ?_)))
  show EX G m_L_law 2768 (LW4 G z t) [.int c] (hL z K2 M g) o2 (k + 45) (n + 280) Q
  refine s_istore (z := 5) (by decide +kernel) (by decide +kernel) ?_
  show EX G m_L_law 2770 (LW5 G z t c) [] (hL z K2 M g) o2 (k + 45) (n + 280) Q
  refine s_aload_n (z := 2) (by decide +kernel) rfl ?_
  refine l_arg (pc := 2771) (c := 1) (by decide +kernel) (by decide) rfl rfl hT (by decide) hX ?_
  obtain ⟨fs2, hz2⟩ := hL_m (z := z) (K := K2) (M := M) (f := g)
  refine l_callV (pc := 2777) (idx := 350) (j := m_M_setSeancePrice) (np := 1) (ci := 11) (b := z + 207) (as := [.int ((gX G).2.2 (6 * t + 1))]) (st := []) (by decide +kernel) rfl (Nat.le_of_ble_eq_true rfl) hz2 hk7 hn7 ((hM o2).mono (fun u h o3 hq => ?_))
  obtain ⟨M2, v, rfl, rfl, e0, hg, hI2⟩ := hq
  show EX G m_L_law 2780 (LW5 G z t c) [.int v] (hL z K2 M2 g) o3 (k + 45) (n + 280) Q
  refine s_istore (z := 6) (by decide +kernel) (by decide +kernel) ?_
  show EX G m_L_law 2782 (LW6 G z t c v) [] (hL z K2 M2 g) o3 (k + 45) (n + 280) Q
  exact l_tail (pc := 2782) (by decide +kernel) e0 hg hI2 hk hn nx
theorem case_setRandomState (hT : 6 * t + 6 ≤ (gX G).2.1) (hX : (gX G).2.1 ≤ 3072) (hk : k ≤ 599000) (hn : n ≤ 6999000) (hI : INV K M) (nx : NXL G z t k n Q) : EX G m_L_law 2813 (LW4 G z t) [] (hL z K M f) o k n Q := by
  have hk6 : k ≤ 600000 := by omega
  have hn6 : n ≤ 7000000 := by omega
  have hk7 : k + 45 ≤ 600000 := by omega
  have hn7 : n + 280 ≤ 7000000 := by omega
  refine s_aload_n (z := 1) (by decide +kernel) rfl ?_
  refine l_arg (pc := 2814) (c := 1) (by decide +kernel) (by decide) rfl rfl hT (by decide) hX ?_
  refine s_aload_n (z := 3) (by decide +kernel) rfl ?_
  refine l_callS (pc := 2821) (idx := 351) (j := m_L_setRandomState) (np := 3) (as := [.ref z, .int ((gX G).2.2 (6 * t + 1)), .ref (z + 224)]) (st := []) (by decide +kernel) rfl (Nat.le_of_ble_eq_true rfl) hk6 hn6 ?_
  obtain ⟨fs, hz⟩ := hL_z (z := z) (K := K) (M := M) (f := f)
  refine l_setRandomState hz ((r_G_setRandomState (ag_setRandomState hI)).mono (lq (G := G) (fun h o Q hx => r_M_setRandomState hx) (by simp) (fun K2 c g o2 hM => ?_)))
  show EX G m_L_law 2824 (LW4 G z t) [.int c] (hL z K2 M g) o2 (k + 45) (n + 280) Q
  refine s_istore (z := 5) (by decide +kernel) (by decide +kernel) ?_
  show EX G m_L_law 2826 (LW5 G z t c) [] (hL z K2 M g) o2 (k + 45) (n + 280) Q
  refine s_aload_n (z := 2) (by decide +kernel) rfl ?_
  refine l_arg (pc := 2827) (c := 1) (by decide +kernel) (by decide) rfl rfl hT (by decide) hX ?_
  obtain ⟨fs2, hz2⟩ := hL_m (z := z) (K := K2) (M := M) (f := g)
  refine l_callV (pc := 2833) (idx := 353) (j := m_M_setRandomState) (np := 1) (ci := 11) (b := z + 207) (as := [.int ((gX G).2.2 (6 * t + 1))]) (st := []) (by decide +kernel) rfl (Nat.le_of_ble_eq_true rfl) hz2 hk7 hn7 ((hM o2).mono (fun u h o3 hq => ?_))
  obtain ⟨M2, v, rfl, rfl, e0, hg, hI2⟩ := hq
  show EX G m_L_law 2836 (LW5 G z t c) [.int v] (hL z K2 M2 g) o3 (k + 45) (n + 280) Q
  refine s_istore (z := 6) (by decide +kernel) (by decide +kernel) ?_
  show EX G m_L_law 2838 (LW6 G z t c v) [] (hL z K2 M2 g) o3 (k + 45) (n + 280) Q
  exact l_tail (pc := 2838) (by decide +kernel) e0 hg hI2 hk hn nx
theorem case_undo (hT : 6 * t + 6 ≤ (gX G).2.1) (hX : (gX G).2.1 ≤ 3072) (hk : k ≤ 599000) (hn : n ≤ 6999000) (hI : INV K M) (nx : NXL G z t k n Q) : EX G m_L_law 2869 (LW4 G z t) [] (hL z K M f) o k n Q := by
  have hk6 : k ≤ 600000 := by omega
  have hn6 : n ≤ 7000000 := by omega
  have hk7 : k + 45 ≤ 600000 := by omega
  have hn7 : n + 280 ≤ 7000000 := by omega
  refine s_aload_n (z := 1) (by decide +kernel) rfl ?_
  refine s_aload_n (z := 3) (by decide +kernel) rfl ?_
  refine l_callS (pc := 2871) (idx := 354) (j := m_L_undo) (np := 2) (as := [.ref z, .ref (z + 224)]) (st := []) (by decide +kernel) rfl (Nat.le_of_ble_eq_true rfl) hk6 hn6 ?_
  obtain ⟨fs, hz⟩ := hL_z (z := z) (K := K) (M := M) (f := f)
  refine l_undo hz ((r_G_undo (ag_undo hI)).mono (lq (G := G) (fun h o Q hx => r_M_undo hx) (by simp) (fun K2 c g o2 hM => ?_)))
  show EX G m_L_law 2874 (LW4 G z t) [.int c] (hL z K2 M g) o2 (k + 45) (n + 280) Q
  refine s_istore (z := 5) (by decide +kernel) (by decide +kernel) ?_
  show EX G m_L_law 2876 (LW5 G z t c) [] (hL z K2 M g) o2 (k + 45) (n + 280) Q
  refine s_aload_n (z := 2) (by decide +kernel) rfl ?_
  obtain ⟨fs2, hz2⟩ := hL_m (z := z) (K := K2) (M := M) (f := g)
  refine l_callV (pc := 2877) (idx := 356) (j := m_M_undo) (np := 0) (ci := 11) (b := z + 207) (as := []) (st := []) (by decide +kernel) rfl (Nat.le_of_ble_eq_true rfl) hz2 hk7 hn7 ((hM o2).mono (fun u h o3 hq => ?_))
  obtain ⟨M2, v, rfl, rfl, e0, hg, hI2⟩ := hq
  show EX G m_L_law 2880 (LW5 G z t c) [.int v] (hL z K2 M2 g) o3 (k + 45) (n + 280) Q
  refine s_istore (z := 6) (by decide +kernel) (by decide +kernel) ?_
  show EX G m_L_law 2882 (LW6 G z t c v) [] (hL z K2 M2 g) o3 (k + 45) (n + 280) Q
  exact l_tail (pc := 2882) (by decide +kernel) e0 hg hI2 hk hn nx
theorem case_printReport (hT : 6 * t + 6 ≤ (gX G).2.1) (hX : (gX G).2.1 ≤ 3072) (hk : k ≤ 599000) (hn : n ≤ 6999000) (hI : INV K M) (nx : NXL G z t k n Q) : EX G m_L_law 2913 (LW4 G z t) [] (hL z K M f) o k n Q := by
  have hk6 : k ≤ 600000 := by omega
  have hn6 : n ≤ 7000000 := by omega
  have hk7 : k + 45 ≤ 600000 := by omega
  have hn7 : n + 280 ≤ 7000000 := by omega
  refine s_aload_n (z := 1) (by decide +kernel) rfl ?_
  obtain ⟨fs, hz⟩ := hL_z (z := z) (K := K) (M := M) (f := f)
  refine l_callV (pc := 2914) (idx := 357) (j := m_G_printReport) (np := 0) (ci := 10) (b := z) (as := []) (st := []) (by decide +kernel) rfl (Nat.le_of_ble_eq_true rfl) hz hk6 hn6 ((r_G_printReport (ag_printReport hI)).mono (fun u h o2 hq => ?_))
  obtain ⟨K2, v, rfl, rfl, hM⟩ := gq_s (G := G) (fun h o Q hx => r_M_printReport hx) hq
  show EX G m_L_law 2917 (LW4 G z t) [.int v] (hL z K2 M f) o2 k n Q
  refine s_aload_n (z := 2) (by decide +kernel) rfl ?_
  obtain ⟨fs2, hz2⟩ := hL_m (z := z) (K := K2) (M := M) (f := f)
  refine l_callV (pc := 2918) (idx := 360) (j := m_M_printReport) (np := 0) (ci := 11) (b := z + 207) (as := []) (st := [.int v]) (by decide +kernel) rfl (Nat.le_of_ble_eq_true rfl) hz2 hk6 hn6 ((hM f o2).mono (fun u h o3 hq2 => ?_))
  obtain ⟨M2, rfl, rfl, -, hI2⟩ := hq2
  show EX G m_L_law 2921 (LW4 G z t) [.int v, .int v] (hL z K2 M2 f) o3 k n Q
  exact s_icmp_eq (off := 118) (tgt := 3039) (by decide +kernel) (by decide) (fun _ => EX.widen (by omega) (by omega) (nx K2 M2 f o3 hI2)) (fun y => absurd rfl y)
theorem case_outputByte (hT : 6 * t + 6 ≤ (gX G).2.1) (hX : (gX G).2.1 ≤ 3072) (hk : k ≤ 599000) (hn : n ≤ 6999000) (hI : INV K M) (nx : NXL G z t k n Q) : EX G m_L_law 2926 (LW4 G z t) [] (hL z K M f) o k n Q := by
  have hk6 : k ≤ 600000 := by omega
  have hn6 : n ≤ 7000000 := by omega
  have hk7 : k + 45 ≤ 600000 := by omega
  have hn7 : n + 280 ≤ 7000000 := by omega
  refine s_aload_n (z := 1) (by decide +kernel) rfl ?_
  refine l_arg (pc := 2927) (c := 1) (by decide +kernel) (by decide) rfl rfl hT (by decide) hX ?_
  refine s_aload_n (z := 3) (by decide +kernel) rfl ?_
  refine l_callS (pc := 2934) (idx := 361) (j := m_L_outputByte) (np := 3) (as := [.ref z, .int ((gX G).2.2 (6 * t + 1)), .ref (z + 224)]) (st := []) (by decide +kernel) rfl (Nat.le_of_ble_eq_true rfl) hk6 hn6 ?_
  obtain ⟨fs, hz⟩ := hL_z (z := z) (K := K) (M := M) (f := f)
  refine l_outputByte hz ((r_G_outputByte (ag_outputByte hI)).mono (lq (G := G) (fun h o Q hx => r_M_outputByte hx) (by simp) (fun K2 c g o2 hM => ?_)))
  show EX G m_L_law 2937 (LW4 G z t) [.int c] (hL z K2 M g) o2 (k + 45) (n + 280) Q
  refine s_istore (z := 5) (by decide +kernel) (by decide +kernel) ?_
  show EX G m_L_law 2939 (LW5 G z t c) [] (hL z K2 M g) o2 (k + 45) (n + 280) Q
  refine s_aload_n (z := 2) (by decide +kernel) rfl ?_
  refine l_arg (pc := 2940) (c := 1) (by decide +kernel) (by decide) rfl rfl hT (by decide) hX ?_
  obtain ⟨fs2, hz2⟩ := hL_m (z := z) (K := K2) (M := M) (f := g)
  refine l_callV (pc := 2946) (idx := 363) (j := m_M_outputByte) (np := 1) (ci := 11) (b := z + 207) (as := [.int ((gX G).2.2 (6 * t + 1))]) (st := []) (by decide +kernel) rfl (Nat.le_of_ble_eq_true rfl) hz2 hk7 hn7 ((hM o2).mono (fun u h o3 hq => ?_))
  obtain ⟨M2, v, rfl, rfl, e0, hg, hI2⟩ := hq
  show EX G m_L_law 2949 (LW5 G z t c) [.int v] (hL z K2 M2 g) o3 (k + 45) (n + 280) Q
  refine s_istore (z := 6) (by decide +kernel) (by decide +kernel) ?_
  show EX G m_L_law 2951 (LW6 G z t c v) [] (hL z K2 M2 g) o3 (k + 45) (n + 280) Q
  exact l_tail (pc := 2951) (by decide +kernel) e0 hg hI2 hk hn nx
theorem case_saveState (hT : 6 * t + 6 ≤ (gX G).2.1) (hX : (gX G).2.1 ≤ 3072) (hk : k ≤ 599000) (hn : n ≤ 6999000) (hI : INV K M) (nx : NXL G z t k n Q) : EX G m_L_law 2982 (LW4 G z t) [] (hL z K M f) o k n Q := by
  have hk6 : k ≤ 600000 := by omega
  have hn6 : n ≤ 7000000 := by omega
  have hk7 : k + 45 ≤ 600000 := by omega
  have hn7 : n + 280 ≤ 7000000 := by omega
  refine s_aload_n (z := 1) (by decide +kernel) rfl ?_
  obtain ⟨fs, hz⟩ := hL_z (z := z) (K := K) (M := M) (f := f)
  refine l_callV (pc := 2983) (idx := 364) (j := m_G_saveState) (np := 0) (ci := 10) (b := z) (as := []) (st := []) (by decide +kernel) rfl (Nat.le_of_ble_eq_true rfl) hz hk6 hn6 ((r_G_saveState (ag_saveState hI)).mono (fun u h o2 hq => ?_))
  obtain ⟨K2, v, rfl, rfl, hM⟩ := gq_s (G := G) (fun h o Q hx => r_M_saveState hx) hq
  show EX G m_L_law 2986 (LW4 G z t) [.int v] (hL z K2 M f) o2 k n Q
  refine s_aload_n (z := 2) (by decide +kernel) rfl ?_
  obtain ⟨fs2, hz2⟩ := hL_m (z := z) (K := K2) (M := M) (f := f)
  refine l_callV (pc := 2987) (idx := 367) (j := m_M_saveState) (np := 0) (ci := 11) (b := z + 207) (as := []) (st := [.int v]) (by decide +kernel) rfl (Nat.le_of_ble_eq_true rfl) hz2 hk6 hn6 ((hM f o2).mono (fun u h o3 hq2 => ?_))
  obtain ⟨M2, rfl, rfl, -, hI2⟩ := hq2
  show EX G m_L_law 2990 (LW4 G z t) [.int v, .int v] (hL z K2 M2 f) o3 k n Q
  exact s_icmp_eq (off := 49) (tgt := 3039) (by decide +kernel) (by decide) (fun _ => EX.widen (by omega) (by omega) (nx K2 M2 f o3 hI2)) (fun y => absurd rfl y)
theorem case_restoreState (hT : 6 * t + 6 ≤ (gX G).2.1) (hX : (gX G).2.1 ≤ 3072) (hk : k ≤ 599000) (hn : n ≤ 6999000) (hI : INV K M) (nx : NXL G z t k n Q) : EX G m_L_law 2995 (LW4 G z t) [] (hL z K M f) o k n Q := by
  have hk6 : k ≤ 600000 := by omega
  have hn6 : n ≤ 7000000 := by omega
  have hk7 : k + 45 ≤ 600000 := by omega
  have hn7 : n + 280 ≤ 7000000 := by omega
  refine s_aload_n (z := 1) (by decide +kernel) rfl ?_
  refine s_aload_n (z := 3) (by decide +kernel) rfl ?_
  refine l_callS (pc := 2997) (idx := 368) (j := m_L_restoreState) (np := 2) (as := [.ref z, .ref (z + 224)]) (st := []) (by decide +kernel) rfl (Nat.le_of_ble_eq_true rfl) hk6 hn6 ?_
  obtain ⟨fs, hz⟩ := hL_z (z := z) (K := K) (M := M) (f := f)
  refine l_restoreState hz ((r_G_restoreState (ag_restoreState hI)).mono (lq (G := G) (fun h o Q hx => r_M_restoreState hx) (by simp) (fun K2 c g o2 hM => ?_)))
  show EX G m_L_law 3000 (LW4 G z t) [.int c] (hL z K2 M g) o2 (k + 45) (n + 280) Q
  refine s_istore (z := 5) (by decide +kernel) (by decide +kernel) ?_
  show EX G m_L_law 3002 (LW5 G z t c) [] (hL z K2 M g) o2 (k + 45) (n + 280) Q
  refine s_aload_n (z := 2) (by decide +kernel) rfl ?_
  obtain ⟨fs2, hz2⟩ := hL_m (z := z) (K := K2) (M := M) (f := g)
  refine l_callV (pc := 3003) (idx := 370) (j := m_M_restoreState) (np := 0) (ci := 11) (b := z + 207) (as := []) (st := []) (by decide +kernel) rfl (Nat.le_of_ble_eq_true rfl) hz2 hk7 hn7 ((hM o2).mono (fun u h o3 hq => ?_))
  obtain ⟨M2, v, rfl, rfl, e0, hg, hI2⟩ := hq
  show EX G m_L_law 3006 (LW5 G z t c) [.int v] (hL z K2 M2 g) o3 (k + 45) (n + 280) Q
  refine s_istore (z := 6) (by decide +kernel) (by decide +kernel) ?_
  show EX G m_L_law 3008 (LW6 G z t c v) [] (hL z K2 M2 g) o3 (k + 45) (n + 280) Q
  exact l_tail (pc := 3008) (by decide +kernel) e0 hg hI2 hk hn nx
end LC
