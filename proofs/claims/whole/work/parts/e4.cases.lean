/-! e4: cases 16 to 31 of the law -/
set_option maxRecDepth 8000
section LC
variable {G : GG} {z t k n : Nat} {K : KT} {M : MT} {f : Nat → Int64} {o : Option Nat} {Q : XQ}
theorem case_doorCount (hT : 6 * t + 6 ≤ (gX G).2.1) (hX : (gX G).2.1 ≤ 3072) (hk : k ≤ 599000) (hn : n ≤ 6999000) (hI : INV K M) (nx : NXL G z t k n Q) : EX G m_L_law 716 (LW4 G z t) [] (hL z K M f) o k n Q := by
  have hk6 : k ≤ 600000 := by omega
  have hn6 : n ≤ 7000000 := by omega
  have hk7 : k + 45 ≤ 600000 := by omega
  have hn7 : n + 280 ≤ 7000000 := by omega
  refine s_aload_n (z := 1) (by decide +kernel) rfl ?_
  obtain ⟨fs, hz⟩ := hL_z (z := z) (K := K) (M := M) (f := f)
  refine l_callV (pc := 717) (idx := 208) (j := m_G_doorCount) (np := 0) (ci := 10) (b := z) (as := []) (st := []) (by decide +kernel) rfl (Nat.le_of_ble_eq_true rfl) hz hk6 hn6 ((r_G_doorCount (ag_doorCount hI)).mono (fun u h o2 hq => ?_))
  obtain ⟨K2, v, rfl, rfl, hM⟩ := gq_s (G := G) (fun h o Q hx => r_M_doorCount hx) hq
  show EX G m_L_law 720 (LW4 G z t) [.int v] (hL z K2 M f) o2 k n Q
  refine s_aload_n (z := 2) (by decide +kernel) rfl ?_
  obtain ⟨fs2, hz2⟩ := hL_m (z := z) (K := K2) (M := M) (f := f)
  refine l_callV (pc := 721) (idx := 211) (j := m_M_doorCount) (np := 0) (ci := 11) (b := z + 207) (as := []) (st := [.int v]) (by decide +kernel) rfl (Nat.le_of_ble_eq_true rfl) hz2 hk6 hn6 ((hM f o2).mono (fun u h o3 hq2 => ?_))
  obtain ⟨M2, rfl, rfl, -, hI2⟩ := hq2
  show EX G m_L_law 724 (LW4 G z t) [.int v, .int v] (hL z K2 M2 f) o3 k n Q
  exact s_icmp_eq (off := 2315) (tgt := 3039) (by decide +kernel) (by decide) (fun _ => EX.widen (by omega) (by omega) (nx K2 M2 f o3 hI2)) (fun y => absurd rfl y)
theorem case_ghostRoom (hT : 6 * t + 6 ≤ (gX G).2.1) (hX : (gX G).2.1 ≤ 3072) (hk : k ≤ 599000) (hn : n ≤ 6999000) (hI : INV K M) (nx : NXL G z t k n Q) : EX G m_L_law 729 (LW4 G z t) [] (hL z K M f) o k n Q := by
  have hk6 : k ≤ 600000 := by omega
  have hn6 : n ≤ 7000000 := by omega
  have hk7 : k + 45 ≤ 600000 := by omega
  have hn7 : n + 280 ≤ 7000000 := by omega
  refine s_aload_n (z := 1) (by decide +kernel) rfl ?_
  obtain ⟨fs, hz⟩ := hL_z (z := z) (K := K) (M := M) (f := f)
  refine l_callV (pc := 730) (idx := 212) (j := m_G_ghostRoom) (np := 0) (ci := 10) (b := z) (as := []) (st := []) (by decide +kernel) rfl (Nat.le_of_ble_eq_true rfl) hz hk6 hn6 ((r_G_ghostRoom (ag_ghostRoom hI)).mono (fun u h o2 hq => ?_))
  obtain ⟨K2, v, rfl, rfl, hM⟩ := gq_s (G := G) (fun h o Q hx => r_M_ghostRoom hx) hq
  show EX G m_L_law 733 (LW4 G z t) [.int v] (hL z K2 M f) o2 k n Q
  refine s_aload_n (z := 2) (by decide +kernel) rfl ?_
  obtain ⟨fs2, hz2⟩ := hL_m (z := z) (K := K2) (M := M) (f := f)
  refine l_callV (pc := 734) (idx := 215) (j := m_M_ghostRoom) (np := 0) (ci := 11) (b := z + 207) (as := []) (st := [.int v]) (by decide +kernel) rfl (Nat.le_of_ble_eq_true rfl) hz2 hk6 hn6 ((hM f o2).mono (fun u h o3 hq2 => ?_))
  obtain ⟨M2, rfl, rfl, -, hI2⟩ := hq2
  show EX G m_L_law 737 (LW4 G z t) [.int v, .int v] (hL z K2 M2 f) o3 k n Q
  exact s_icmp_eq (off := 2302) (tgt := 3039) (by decide +kernel) (by decide) (fun _ => EX.widen (by omega) (by omega) (nx K2 M2 f o3 hI2)) (fun y => absurd rfl y)
theorem case_possibleRooms (hT : 6 * t + 6 ≤ (gX G).2.1) (hX : (gX G).2.1 ≤ 3072) (hk : k ≤ 599000) (hn : n ≤ 6999000) (hI : INV K M) (nx : NXL G z t k n Q) : EX G m_L_law 742 (LW4 G z t) [] (hL z K M f) o k n Q := by
  have hk6 : k ≤ 600000 := by omega
  have hn6 : n ≤ 7000000 := by omega
  have hk7 : k + 45 ≤ 600000 := by omega
  have hn7 : n + 280 ≤ 7000000 := by omega
  refine s_aload_n (z := 1) (by decide +kernel) rfl ?_
  obtain ⟨fs, hz⟩ := hL_z (z := z) (K := K) (M := M) (f := f)
  refine l_callV (pc := 743) (idx := 216) (j := m_G_possibleRooms) (np := 0) (ci := 10) (b := z) (as := []) (st := []) (by decide +kernel) rfl (Nat.le_of_ble_eq_true rfl) hz hk6 hn6 ((r_G_possibleRooms (ag_possibleRooms hI)).mono (fun u h o2 hq => ?_))
  obtain ⟨K2, v, rfl, rfl, hM⟩ := gq_s (G := G) (fun h o Q hx => r_M_possibleRooms hx) hq
  show EX G m_L_law 746 (LW4 G z t) [.int v] (hL z K2 M f) o2 k n Q
  refine s_aload_n (z := 2) (by decide +kernel) rfl ?_
  obtain ⟨fs2, hz2⟩ := hL_m (z := z) (K := K2) (M := M) (f := f)
  refine l_callV (pc := 747) (idx := 219) (j := m_M_possibleRooms) (np := 0) (ci := 11) (b := z + 207) (as := []) (st := [.int v]) (by decide +kernel) rfl (Nat.le_of_ble_eq_true rfl) hz2 hk6 hn6 ((hM f o2).mono (fun u h o3 hq2 => ?_))
  obtain ⟨M2, rfl, rfl, -, hI2⟩ := hq2
  show EX G m_L_law 750 (LW4 G z t) [.int v, .int v] (hL z K2 M2 f) o3 k n Q
  exact s_icmp_eq (off := 2289) (tgt := 3039) (by decide +kernel) (by decide) (fun _ => EX.widen (by omega) (by omega) (nx K2 M2 f o3 hI2)) (fun y => absurd rfl y)
theorem case_nameByte (hT : 6 * t + 6 ≤ (gX G).2.1) (hX : (gX G).2.1 ≤ 3072) (hk : k ≤ 599000) (hn : n ≤ 6999000) (hI : INV K M) (nx : NXL G z t k n Q) : EX G m_L_law 755 (LW4 G z t) [] (hL z K M f) o k n Q := by
  have hk6 : k ≤ 600000 := by omega
  have hn6 : n ≤ 7000000 := by omega
  have hk7 : k + 45 ≤ 600000 := by omega
  have hn7 : n + 280 ≤ 7000000 := by omega
  refine s_aload_n (z := 1) (by decide +kernel) rfl ?_
  refine l_arg (pc := 756) (c := 1) (by decide +kernel) (by decide) rfl rfl hT (by decide) hX ?_
  refine l_arg (pc := 762) (c := 2) (by decide +kernel) (by decide) rfl rfl hT (by decide) hX ?_
  refine s_aload_n (z := 3) (by decide +kernel) rfl ?_
  refine l_callS (pc := 769) (idx := 220) (j := m_L_nameByte) (np := 4) (as := [.ref z, .int ((gX G).2.2 (6 * t + 1)), .int ((gX G).2.2 (6 * t + 2)), .ref (z + 224)]) (st := []) (by decide +kernel) rfl (Nat.le_of_ble_eq_true rfl) hk6 hn6 ?_
  obtain ⟨fs, hz⟩ := hL_z (z := z) (K := K) (M := M) (f := f)
  refine l_nameByte hz ((r_G_nameByte (ag_nameByte hI)).mono (lq (G := G) (fun h o Q hx => r_M_nameByte hx) (by simp) (fun K2 c g o2 hM => ?_)))
  show EX G m_L_law 772 (LW4 G z t) [.int c] (hL z K2 M g) o2 (k + 45) (n + 280) Q
  refine s_istore (z := 5) (by decide +kernel) (by decide +kernel) ?_
  show EX G m_L_law 774 (LW5 G z t c) [] (hL z K2 M g) o2 (k + 45) (n + 280) Q
  refine s_aload_n (z := 2) (by decide +kernel) rfl ?_
  refine l_arg (pc := 775) (c := 1) (by decide +kernel) (by decide) rfl rfl hT (by decide) hX ?_
  refine l_arg (pc := 781) (c := 2) (by decide +kernel) (by decide) rfl rfl hT (by decide) hX ?_
  obtain ⟨fs2, hz2⟩ := hL_m (z := z) (K := K2) (M := M) (f := g)
  refine l_callV (pc := 787) (idx := 223) (j := m_M_nameByte) (np := 2) (ci := 11) (b := z + 207) (as := [.int ((gX G).2.2 (6 * t + 1)), .int ((gX G).2.2 (6 * t + 2))]) (st := []) (by decide +kernel) rfl (Nat.le_of_ble_eq_true rfl) hz2 hk7 hn7 ((hM o2).mono (fun u h o3 hq => ?_))
  obtain ⟨M2, v, rfl, rfl, e0, hg, hI2⟩ := hq
  show EX G m_L_law 790 (LW5 G z t c) [.int v] (hL z K2 M2 g) o3 (k + 45) (n + 280) Q
  refine s_istore (z := 6) (by decide +kernel) (by decide +kernel) ?_
  show EX G m_L_law 792 (LW6 G z t c v) [] (hL z K2 M2 g) o3 (k + 45) (n + 280) Q
  exact l_tail (pc := 792) (by decide +kernel) e0 hg hI2 hk hn nx
theorem case_findRoom (hT : 6 * t + 6 ≤ (gX G).2.1) (hX : (gX G).2.1 ≤ 3072) (hk : k ≤ 599000) (hn : n ≤ 6999000) (hI : INV K M) (nx : NXL G z t k n Q) : EX G m_L_law 823 (LW4 G z t) [] (hL z K M f) o k n Q := by
  have hk6 : k ≤ 600000 := by omega
  have hn6 : n ≤ 7000000 := by omega
  have hk7 : k + 45 ≤ 600000 := by omega
  have hn7 : n + 280 ≤ 7000000 := by omega
  refine s_aload_n (z := 1) (by decide +kernel) rfl ?_
  obtain ⟨fs, hz⟩ := hL_z (z := z) (K := K) (M := M) (f := f)
  refine l_callV (pc := 824) (idx := 224) (j := m_G_findRoom) (np := 0) (ci := 10) (b := z) (as := []) (st := []) (by decide +kernel) rfl (Nat.le_of_ble_eq_true rfl) hz hk6 hn6 ((r_G_findRoom (ag_findRoom hI)).mono (fun u h o2 hq => ?_))
  obtain ⟨K2, v, rfl, rfl, hM⟩ := gq_s (G := G) (fun h o Q hx => r_M_findRoom hx) hq
  show EX G m_L_law 827 (LW4 G z t) [.int v] (hL z K2 M f) o2 k n Q
  refine s_aload_n (z := 2) (by decide +kernel) rfl ?_
  obtain ⟨fs2, hz2⟩ := hL_m (z := z) (K := K2) (M := M) (f := f)
  refine l_callV (pc := 828) (idx := 227) (j := m_M_findRoom) (np := 0) (ci := 11) (b := z + 207) (as := []) (st := [.int v]) (by decide +kernel) rfl (Nat.le_of_ble_eq_true rfl) hz2 hk6 hn6 ((hM f o2).mono (fun u h o3 hq2 => ?_))
  obtain ⟨M2, rfl, rfl, -, hI2⟩ := hq2
  show EX G m_L_law 831 (LW4 G z t) [.int v, .int v] (hL z K2 M2 f) o3 k n Q
  exact s_icmp_eq (off := 2208) (tgt := 3039) (by decide +kernel) (by decide) (fun _ => EX.widen (by omega) (by omega) (nx K2 M2 f o3 hI2)) (fun y => absurd rfl y)
theorem case_coldness (hT : 6 * t + 6 ≤ (gX G).2.1) (hX : (gX G).2.1 ≤ 3072) (hk : k ≤ 599000) (hn : n ≤ 6999000) (hI : INV K M) (nx : NXL G z t k n Q) : EX G m_L_law 836 (LW4 G z t) [] (hL z K M f) o k n Q := by
  have hk6 : k ≤ 600000 := by omega
  have hn6 : n ≤ 7000000 := by omega
  have hk7 : k + 45 ≤ 600000 := by omega
  have hn7 : n + 280 ≤ 7000000 := by omega
  refine s_aload_n (z := 1) (by decide +kernel) rfl ?_
  refine l_arg (pc := 837) (c := 1) (by decide +kernel) (by decide) rfl rfl hT (by decide) hX ?_
  refine s_aload_n (z := 3) (by decide +kernel) rfl ?_
  refine l_callS (pc := 844) (idx := 228) (j := m_L_coldness) (np := 3) (as := [.ref z, .int ((gX G).2.2 (6 * t + 1)), .ref (z + 224)]) (st := []) (by decide +kernel) rfl (Nat.le_of_ble_eq_true rfl) hk6 hn6 ?_
  obtain ⟨fs, hz⟩ := hL_z (z := z) (K := K) (M := M) (f := f)
  refine l_coldness hz ((r_G_coldness (ag_coldness hI)).mono (lq (G := G) (fun h o Q hx => r_M_coldness hx) (by simp) (fun K2 c g o2 hM => ?_)))
  show EX G m_L_law 847 (LW4 G z t) [.int c] (hL z K2 M g) o2 (k + 45) (n + 280) Q
  refine s_istore (z := 5) (by decide +kernel) (by decide +kernel) ?_
  show EX G m_L_law 849 (LW5 G z t c) [] (hL z K2 M g) o2 (k + 45) (n + 280) Q
  refine s_aload_n (z := 2) (by decide +kernel) rfl ?_
  refine l_arg (pc := 850) (c := 1) (by decide +kernel) (by decide) rfl rfl hT (by decide) hX ?_
  obtain ⟨fs2, hz2⟩ := hL_m (z := z) (K := K2) (M := M) (f := g)
  refine l_callV (pc := 856) (idx := 230) (j := m_M_coldness) (np := 1) (ci := 11) (b := z + 207) (as := [.int ((gX G).2.2 (6 * t + 1))]) (st := []) (by decide +kernel) rfl (Nat.le_of_ble_eq_true rfl) hz2 hk7 hn7 ((hM o2).mono (fun u h o3 hq => ?_))
  obtain ⟨M2, v, rfl, rfl, e0, hg, hI2⟩ := hq
  show EX G m_L_law 859 (LW5 G z t c) [.int v] (hL z K2 M2 g) o3 (k + 45) (n + 280) Q
  refine s_istore (z := 6) (by decide +kernel) (by decide +kernel) ?_
  show EX G m_L_law 861 (LW6 G z t c v) [] (hL z K2 M2 g) o3 (k + 45) (n + 280) Q
  exact l_tail (pc := 861) (by decide +kernel) e0 hg hI2 hk hn nx
theorem case_hasThermometer (hT : 6 * t + 6 ≤ (gX G).2.1) (hX : (gX G).2.1 ≤ 3072) (hk : k ≤ 599000) (hn : n ≤ 6999000) (hI : INV K M) (nx : NXL G z t k n Q) : EX G m_L_law 892 (LW4 G z t) [] (hL z K M f) o k n Q := by
  have hk6 : k ≤ 600000 := by omega
  have hn6 : n ≤ 7000000 := by omega
  have hk7 : k + 45 ≤ 600000 := by omega
  have hn7 : n + 280 ≤ 7000000 := by omega
  refine s_aload_n (z := 1) (by decide +kernel) rfl ?_
  refine l_arg (pc := 893) (c := 1) (by decide +kernel) (by decide) rfl rfl hT (by decide) hX ?_
  refine s_aload_n (z := 3) (by decide +kernel) rfl ?_
  refine l_callS (pc := 900) (idx := 231) (j := m_L_hasThermometer) (np := 3) (as := [.ref z, .int ((gX G).2.2 (6 * t + 1)), .ref (z + 224)]) (st := []) (by decide +kernel) rfl (Nat.le_of_ble_eq_true rfl) hk6 hn6 ?_
  obtain ⟨fs, hz⟩ := hL_z (z := z) (K := K) (M := M) (f := f)
  refine l_hasThermometer hz ((r_G_hasThermometer (ag_hasThermometer hI)).mono (lqb (G := G) (fun h o Q hx => r_M_hasThermometer hx) (by simp) (fun K2 c g o2 hM => ?_)))
  show EX G m_L_law 903 (LW4 G z t) [.int c] (hL z K2 M g) o2 (k + 45) (n + 280) Q
  refine s_istore (z := 5) (by decide +kernel) (by decide +kernel) ?_
  show EX G m_L_law 905 (LW5 G z t c) [] (hL z K2 M g) o2 (k + 45) (n + 280) Q
  refine s_aload_n (z := 2) (by decide +kernel) rfl ?_
  refine l_arg (pc := 906) (c := 1) (by decide +kernel) (by decide) rfl rfl hT (by decide) hX ?_
  obtain ⟨fs2, hz2⟩ := hL_m (z := z) (K := K2) (M := M) (f := g)
  refine l_callV (pc := 912) (idx := 233) (j := m_M_hasThermometer) (np := 1) (ci := 11) (b := z + 207) (as := [.int ((gX G).2.2 (6 * t + 1))]) (st := []) (by decide +kernel) rfl (Nat.le_of_ble_eq_true rfl) hz2 hk7 hn7 ((hM o2).mono (fun u h o3 hq => ?_))
  obtain ⟨M2, v, rfl, rfl, e0, hg, hI2⟩ := hq
  show EX G m_L_law 915 (LW5 G z t c) [.int v] (hL z K2 M2 g) o3 (k + 45) (n + 280) Q
  refine s_istore (z := 6) (by decide +kernel) (by decide +kernel) ?_
  show EX G m_L_law 917 (LW6 G z t c v) [] (hL z K2 M2 g) o3 (k + 45) (n + 280) Q
  exact l_tailB (pc := 917) (by decide +kernel) e0 hg hI2 hk hn nx
theorem case_hasMicrophone (hT : 6 * t + 6 ≤ (gX G).2.1) (hX : (gX G).2.1 ≤ 3072) (hk : k ≤ 599000) (hn : n ≤ 6999000) (hI : INV K M) (nx : NXL G z t k n Q) : EX G m_L_law 955 (LW4 G z t) [] (hL z K M f) o k n Q := by
  have hk6 : k ≤ 600000 := by omega
  have hn6 : n ≤ 7000000 := by omega
  have hk7 : k + 45 ≤ 600000 := by omega
  have hn7 : n + 280 ≤ 7000000 := by omega
  refine s_aload_n (z := 1) (by decide +kernel) rfl ?_
  refine l_arg (pc := 956) (c := 1) (by decide +kernel) (by decide) rfl rfl hT (by decide) hX ?_
  refine s_aload_n (z := 3) (by decide +kernel) rfl ?_
  refine l_callS (pc := 963) (idx := 234) (j := m_L_hasMicrophone) (np := 3) (as := [.ref z, .int ((gX G).2.2 (6 * t + 1)), .ref (z + 224)]) (st := []) (by decide +kernel) rfl (Nat.le_of_ble_eq_true rfl) hk6 hn6 ?_
  obtain ⟨fs, hz⟩ := hL_z (z := z) (K := K) (M := M) (f := f)
  refine l_hasMicrophone hz ((r_G_hasMicrophone (ag_hasMicrophone hI)).mono (lqb (G := G) (fun h o Q hx => r_M_hasMicrophone hx) (by simp) (fun K2 c g o2 hM => ?_)))
  show EX G m_L_law 966 (LW4 G z t) [.int c] (hL z K2 M g) o2 (k + 45) (n + 280) Q
  refine s_istore (z := 5) (by decide +kernel) (by decide +kernel) ?_
  show EX G m_L_law 968 (LW5 G z t c) [] (hL z K2 M g) o2 (k + 45) (n + 280) Q
  refine s_aload_n (z := 2) (by decide +kernel) rfl ?_
  refine l_arg (pc := 969) (c := 1) (by decide +kernel) (by decide) rfl rfl hT (by decide) hX ?_
  obtain ⟨fs2, hz2⟩ := hL_m (z := z) (K := K2) (M := M) (f := g)
  refine l_callV (pc := 975) (idx := 236) (j := m_M_hasMicrophone) (np := 1) (ci := 11) (b := z + 207) (as := [.int ((gX G).2.2 (6 * t + 1))]) (st := []) (by decide +kernel) rfl (Nat.le_of_ble_eq_true rfl) hz2 hk7 hn7 ((hM o2).mono (fun u h o3 hq => ?_))
  obtain ⟨M2, v, rfl, rfl, e0, hg, hI2⟩ := hq
  show EX G m_L_law 978 (LW5 G z t c) [.int v] (hL z K2 M2 g) o3 (k + 45) (n + 280) Q
  refine s_istore (z := 6) (by decide +kernel) (by decide +kernel) ?_
  show EX G m_L_law 980 (LW6 G z t c v) [] (hL z K2 M2 g) o3 (k + 45) (n + 280) Q
  exact l_tailB (pc := 980) (by decide +kernel) e0 hg hI2 hk hn nx
theorem case_neighbors (hT : 6 * t + 6 ≤ (gX G).2.1) (hX : (gX G).2.1 ≤ 3072) (hk : k ≤ 599000) (hn : n ≤ 6999000) (hI : INV K M) (nx : NXL G z t k n Q) : EX G m_L_law 1018 (LW4 G z t) [] (hL z K M f) o k n Q := by
  have hk6 : k ≤ 600000 := by omega
  have hn6 : n ≤ 7000000 := by omega
  have hk7 : k + 45 ≤ 600000 := by omega
  have hn7 : n + 280 ≤ 7000000 := by omega
  refine s_aload_n (z := 1) (by decide +kernel) rfl ?_
  refine l_arg (pc := 1019) (c := 1) (by decide +kernel) (by decide) rfl rfl hT (by decide) hX ?_
  refine s_aload_n (z := 3) (by decide +kernel) rfl ?_
  refine l_callS (pc := 1026) (idx := 237) (j := m_L_neighbors) (np := 3) (as := [.ref z, .int ((gX G).2.2 (6 * t + 1)), .ref (z + 224)]) (st := []) (by decide +kernel) rfl (Nat.le_of_ble_eq_true rfl) hk6 hn6 ?_
  obtain ⟨fs, hz⟩ := hL_z (z := z) (K := K) (M := M) (f := f)
  refine l_neighbors hz ((r_G_neighbors (ag_neighbors hI)).mono (lq (G := G) (fun h o Q hx => r_M_neighbors hx) (by simp) (fun K2 c g o2 hM => ?_)))
  show EX G m_L_law 1029 (LW4 G z t) [.int c] (hL z K2 M g) o2 (k + 45) (n + 280) Q
  refine s_istore (z := 5) (by decide +kernel) (by decide +kernel) ?_
  show EX G m_L_law 1031 (LW5 G z t c) [] (hL z K2 M g) o2 (k + 45) (n + 280) Q
  refine s_aload_n (z := 2) (by decide +kernel) rfl ?_
  refine l_arg (pc := 1032) (c := 1) (by decide +kernel) (by decide) rfl rfl hT (by decide) hX ?_
  obtain ⟨fs2, hz2⟩ := hL_m (z := z) (K := K2) (M := M) (f := g)
  refine l_callV (pc := 1038) (idx := 239) (j := m_M_neighbors) (np := 1) (ci := 11) (b := z + 207) (as := [.int ((gX G).2.2 (6 * t + 1))]) (st := []) (by decide +kernel) rfl (Nat.le_of_ble_eq_true rfl) hz2 hk7 hn7 ((hM o2).mono (fun u h o3 hq => ?_))
  obtain ⟨M2, v, rfl, rfl, e0, hg, hI2⟩ := hq
  show EX G m_L_law 1041 (LW5 G z t c) [.int v] (hL z K2 M2 g) o3 (k + 45) (n + 280) Q
  refine s_istore (z := 6) (by decide +kernel) (by decide +kernel) ?_
  show EX G m_L_law 1043 (LW6 G z t c v) [] (hL z K2 M2 g) o3 (k + 45) (n + 280) Q
  exact l_tail (pc := 1043) (by decide +kernel) e0 hg hI2 hk hn nx
theorem case_roomByColdness (hT : 6 * t + 6 ≤ (gX G).2.1) (hX : (gX G).2.1 ≤ 3072) (hk : k ≤ 599000) (hn : n ≤ 6999000) (hI : INV K M) (nx : NXL G z t k n Q) : EX G m_L_law 1074 (LW4 G z t) [] (hL z K M f) o k n Q := by
  have hk6 : k ≤ 600000 := by omega
  have hn6 : n ≤ 7000000 := by omega
  have hk7 : k + 45 ≤ 600000 := by omega
  have hn7 : n + 280 ≤ 7000000 := by omega
  refine s_aload_n (z := 1) (by decide +kernel) rfl ?_
  refine l_arg (pc := 1075) (c := 1) (by decide +kernel) (by decide) rfl rfl hT (by decide) hX ?_
  obtain ⟨fs, hz⟩ := hL_z (z := z) (K := K) (M := M) (f := f)
  refine l_callV (pc := 1081) (idx := 240) (j := m_G_roomByColdness) (np := 1) (ci := 10) (b := z) (as := [.int ((gX G).2.2 (6 * t + 1))]) (st := []) (by decide +kernel) rfl (Nat.le_of_ble_eq_true rfl) hz hk6 hn6 ((r_G_roomByColdness (ag_roomByColdness hI)).mono (fun u h o2 hq => ?_))
  obtain ⟨K2, v, rfl, rfl, hM⟩ := gq_s (G := G) (fun h o Q hx => r_M_roomByColdness hx) hq
  show EX G m_L_law 1084 (LW4 G z t) [.int v] (hL z K2 M f) o2 k n Q
  refine s_aload_n (z := 2) (by decide +kernel) rfl ?_
  refine l_arg (pc := 1085) (c := 1) (by decide +kernel) (by decide) rfl rfl hT (by decide) hX ?_
  obtain ⟨fs2, hz2⟩ := hL_m (z := z) (K := K2) (M := M) (f := f)
  refine l_callV (pc := 1091) (idx := 243) (j := m_M_roomByColdness) (np := 1) (ci := 11) (b := z + 207) (as := [.int ((gX G).2.2 (6 * t + 1))]) (st := [.int v]) (by decide +kernel) rfl (Nat.le_of_ble_eq_true rfl) hz2 hk6 hn6 ((hM f o2).mono (fun u h o3 hq2 => ?_))
  obtain ⟨M2, rfl, rfl, -, hI2⟩ := hq2
  show EX G m_L_law 1094 (LW4 G z t) [.int v, .int v] (hL z K2 M2 f) o3 k n Q
  exact s_icmp_eq (off := 1945) (tgt := 3039) (by decide +kernel) (by decide) (fun _ => EX.widen (by omega) (by omega) (nx K2 M2 f o3 hI2)) (fun y => absurd rfl y)
theorem case_lowRoom (hT : 6 * t + 6 ≤ (gX G).2.1) (hX : (gX G).2.1 ≤ 3072) (hk : k ≤ 599000) (hn : n ≤ 6999000) (hI : INV K M) (nx : NXL G z t k n Q) : EX G m_L_law 1099 (LW4 G z t) [] (hL z K M f) o k n Q := by
  have hk6 : k ≤ 600000 := by omega
  have hn6 : n ≤ 7000000 := by omega
  have hk7 : k + 45 ≤ 600000 := by omega
  have hn7 : n + 280 ≤ 7000000 := by omega
  refine s_aload_n (z := 1) (by decide +kernel) rfl ?_
  refine l_arg (pc := 1100) (c := 1) (by decide +kernel) (by decide) rfl rfl hT (by decide) hX ?_
  refine s_aload_n (z := 3) (by decide +kernel) rfl ?_
  refine l_callS (pc := 1107) (idx := 244) (j := m_L_lowRoom) (np := 3) (as := [.ref z, .int ((gX G).2.2 (6 * t + 1)), .ref (z + 224)]) (st := []) (by decide +kernel) rfl (Nat.le_of_ble_eq_true rfl) hk6 hn6 ?_
  obtain ⟨fs, hz⟩ := hL_z (z := z) (K := K) (M := M) (f := f)
  refine l_lowRoom hz ((r_G_lowRoom (ag_lowRoom hI)).mono (lq (G := G) (fun h o Q hx => r_M_lowRoom hx) (by simp) (fun K2 c g o2 hM => ?_)))
  show EX G m_L_law 1110 (LW4 G z t) [.int c] (hL z K2 M g) o2 (k + 45) (n + 280) Q
  refine s_istore (z := 5) (by decide +kernel) (by decide +kernel) ?_
  show EX G m_L_law 1112 (LW5 G z t c) [] (hL z K2 M g) o2 (k + 45) (n + 280) Q
  refine s_aload_n (z := 2) (by decide +kernel) rfl ?_
  refine l_arg (pc := 1113) (c := 1) (by decide +kernel) (by decide) rfl rfl hT (by decide) hX ?_
  obtain ⟨fs2, hz2⟩ := hL_m (z := z) (K := K2) (M := M) (f := g)
  refine l_callV (pc := 1119) (idx := 246) (j := m_M_lowRoom) (np := 1) (ci := 11) (b := z + 207) (as := [.int ((gX G).2.2 (6 * t + 1))]) (st := []) (by decide +kernel) rfl (Nat.le_of_ble_eq_true rfl) hz2 hk7 hn7 ((hM o2).mono (fun u h o3 hq => ?_))
  obtain ⟨M2, v, rfl, rfl, e0, hg, hI2⟩ := hq
  show EX G m_L_law 1122 (LW5 G z t c) [.int v] (hL z K2 M2 g) o3 (k + 45) (n + 280) Q
  refine s_istore (z := 6) (by decide +kernel) (by decide +kernel) ?_
  show EX G m_L_law 1124 (LW6 G z t c v) [] (hL z K2 M2 g) o3 (k + 45) (n + 280) Q
  exact l_tail (pc := 1124) (by decide +kernel) e0 hg hI2 hk hn nx
theorem case_highRoom (hT : 6 * t + 6 ≤ (gX G).2.1) (hX : (gX G).2.1 ≤ 3072) (hk : k ≤ 599000) (hn : n ≤ 6999000) (hI : INV K M) (nx : NXL G z t k n Q) : EX G m_L_law 1155 (LW4 G z t) [] (hL z K M f) o k n Q := by
  have hk6 : k ≤ 600000 := by omega
  have hn6 : n ≤ 7000000 := by omega
  have hk7 : k + 45 ≤ 600000 := by omega
  have hn7 : n + 280 ≤ 7000000 := by omega
  refine s_aload_n (z := 1) (by decide +kernel) rfl ?_
  refine l_arg (pc := 1156) (c := 1) (by decide +kernel) (by decide) rfl rfl hT (by decide) hX ?_
  refine s_aload_n (z := 3) (by decide +kernel) rfl ?_
  refine l_callS (pc := 1163) (idx := 247) (j := m_L_highRoom) (np := 3) (as := [.ref z, .int ((gX G).2.2 (6 * t + 1)), .ref (z + 224)]) (st := []) (by decide +kernel) rfl (Nat.le_of_ble_eq_true rfl) hk6 hn6 ?_
  obtain ⟨fs, hz⟩ := hL_z (z := z) (K := K) (M := M) (f := f)
  refine l_highRoom hz ((r_G_highRoom (ag_highRoom hI)).mono (lq (G := G) (fun h o Q hx => r_M_highRoom hx) (by simp) (fun K2 c g o2 hM => ?_)))
  show EX G m_L_law 1166 (LW4 G z t) [.int c] (hL z K2 M g) o2 (k + 45) (n + 280) Q
  refine s_istore (z := 5) (by decide +kernel) (by decide +kernel) ?_
  show EX G m_L_law 1168 (LW5 G z t c) [] (hL z K2 M g) o2 (k + 45) (n + 280) Q
  refine s_aload_n (z := 2) (by decide +kernel) rfl ?_
  refine l_arg (pc := 1169) (c := 1) (by decide +kernel) (by decide) rfl rfl hT (by decide) hX ?_
  obtain ⟨fs2, hz2⟩ := hL_m (z := z) (K := K2) (M := M) (f := g)
  refine l_callV (pc := 1175) (idx := 249) (j := m_M_highRoom) (np := 1) (ci := 11) (b := z + 207) (as := [.int ((gX G).2.2 (6 * t + 1))]) (st := []) (by decide +kernel) rfl (Nat.le_of_ble_eq_true rfl) hz2 hk7 hn7 ((hM o2).mono (fun u h o3 hq => ?_))
  obtain ⟨M2, v, rfl, rfl, e0, hg, hI2⟩ := hq
  show EX G m_L_law 1178 (LW5 G z t c) [.int v] (hL z K2 M2 g) o3 (k + 45) (n + 280) Q
  refine s_istore (z := 6) (by decide +kernel) (by decide +kernel) ?_
  show EX G m_L_law 1180 (LW6 G z t c v) [] (hL z K2 M2 g) o3 (k + 45) (n + 280) Q
  exact l_tail (pc := 1180) (by decide +kernel) e0 hg hI2 hk hn nx
theorem case_noise (hT : 6 * t + 6 ≤ (gX G).2.1) (hX : (gX G).2.1 ≤ 3072) (hk : k ≤ 599000) (hn : n ≤ 6999000) (hI : INV K M) (nx : NXL G z t k n Q) : EX G m_L_law 1211 (LW4 G z t) [] (hL z K M f) o k n Q := by
  have hk6 : k ≤ 600000 := by omega
  have hn6 : n ≤ 7000000 := by omega
  have hk7 : k + 45 ≤ 600000 := by omega
  have hn7 : n + 280 ≤ 7000000 := by omega
  refine s_aload_n (z := 1) (by decide +kernel) rfl ?_
  refine l_arg (pc := 1212) (c := 1) (by decide +kernel) (by decide) rfl rfl hT (by decide) hX ?_
  refine s_aload_n (z := 3) (by decide +kernel) rfl ?_
  refine l_callS (pc := 1219) (idx := 250) (j := m_L_noise) (np := 3) (as := [.ref z, .int ((gX G).2.2 (6 * t + 1)), .ref (z + 224)]) (st := []) (by decide +kernel) rfl (Nat.le_of_ble_eq_true rfl) hk6 hn6 ?_
  obtain ⟨fs, hz⟩ := hL_z (z := z) (K := K) (M := M) (f := f)
  refine l_noise hz ((r_G_noise (ag_noise hI)).mono (lq (G := G) (fun h o Q hx => r_M_noise hx) (by simp) (fun K2 c g o2 hM => ?_)))
  show EX G m_L_law 1222 (LW4 G z t) [.int c] (hL z K2 M g) o2 (k + 45) (n + 280) Q
  refine s_istore (z := 5) (by decide +kernel) (by decide +kernel) ?_
  show EX G m_L_law 1224 (LW5 G z t c) [] (hL z K2 M g) o2 (k + 45) (n + 280) Q
  refine s_aload_n (z := 2) (by decide +kernel) rfl ?_
  refine l_arg (pc := 1225) (c := 1) (by decide +kernel) (by decide) rfl rfl hT (by decide) hX ?_
  obtain ⟨fs2, hz2⟩ := hL_m (z := z) (K := K2) (M := M) (f := g)
  refine l_callV (pc := 1231) (idx := 252) (j := m_M_noise) (np := 1) (ci := 11) (b := z + 207) (as := [.int ((gX G).2.2 (6 * t + 1))]) (st := []) (by decide +kernel) rfl (Nat.le_of_ble_eq_true rfl) hz2 hk7 hn7 ((hM o2).mono (fun u h o3 hq => ?_))
  obtain ⟨M2, v, rfl, rfl, e0, hg, hI2⟩ := hq
  show EX G m_L_law 1234 (LW5 G z t c) [.int v] (hL z K2 M2 g) o3 (k + 45) (n + 280) Q
  refine s_istore (z := 6) (by decide +kernel) (by decide +kernel) ?_
  show EX G m_L_law 1236 (LW6 G z t c v) [] (hL z K2 M2 g) o3 (k + 45) (n + 280) Q
  exact l_tail (pc := 1236) (by decide +kernel) e0 hg hI2 hk hn nx
theorem case_isOpen (hT : 6 * t + 6 ≤ (gX G).2.1) (hX : (gX G).2.1 ≤ 3072) (hk : k ≤ 599000) (hn : n ≤ 6999000) (hI : INV K M) (nx : NXL G z t k n Q) : EX G m_L_law 1267 (LW4 G z t) [] (hL z K M f) o k n Q := by
  have hk6 : k ≤ 600000 := by omega
  have hn6 : n ≤ 7000000 := by omega
  have hk7 : k + 45 ≤ 600000 := by omega
  have hn7 : n + 280 ≤ 7000000 := by omega
  refine s_aload_n (z := 1) (by decide +kernel) rfl ?_
  refine l_arg (pc := 1268) (c := 1) (by decide +kernel) (by decide) rfl rfl hT (by decide) hX ?_
  refine s_aload_n (z := 3) (by decide +kernel) rfl ?_
  refine l_callS (pc := 1275) (idx := 253) (j := m_L_isOpen) (np := 3) (as := [.ref z, .int ((gX G).2.2 (6 * t + 1)), .ref (z + 224)]) (st := []) (by decide +kernel) rfl (Nat.le_of_ble_eq_true rfl) hk6 hn6 ?_
  obtain ⟨fs, hz⟩ := hL_z (z := z) (K := K) (M := M) (f := f)
  refine l_isOpen hz ((r_G_isOpen (ag_isOpen hI)).mono (lqb (G := G) (fun h o Q hx => r_M_isOpen hx) (by simp) (fun K2 c g o2 hM => ?_)))
  show EX G m_L_law 1278 (LW4 G z t) [.int c] (hL z K2 M g) o2 (k + 45) (n + 280) Q
  refine s_istore (z := 5) (by decide +kernel) (by decide +kernel) ?_
  show EX G m_L_law 1280 (LW5 G z t c) [] (hL z K2 M g) o2 (k + 45) (n + 280) Q
  refine s_aload_n (z := 2) (by decide +kernel) rfl ?_
  refine l_arg (pc := 1281) (c := 1) (by decide +kernel) (by decide) rfl rfl hT (by decide) hX ?_
  obtain ⟨fs2, hz2⟩ := hL_m (z := z) (K := K2) (M := M) (f := g)
  refine l_callV (pc := 1287) (idx := 255) (j := m_M_isOpen) (np := 1) (ci := 11) (b := z + 207) (as := [.int ((gX G).2.2 (6 * t + 1))]) (st := []) (by decide +kernel) rfl (Nat.le_of_ble_eq_true rfl) hz2 hk7 hn7 ((hM o2).mono (fun u h o3 hq => ?_))
  obtain ⟨M2, v, rfl, rfl, e0, hg, hI2⟩ := hq
  show EX G m_L_law 1290 (LW5 G z t c) [.int v] (hL z K2 M2 g) o3 (k + 45) (n + 280) Q
  refine s_istore (z := 6) (by decide +kernel) (by decide +kernel) ?_
  show EX G m_L_law 1292 (LW6 G z t c v) [] (hL z K2 M2 g) o3 (k + 45) (n + 280) Q
  exact l_tailB (pc := 1292) (by decide +kernel) e0 hg hI2 hk hn nx
theorem case_isMonitored (hT : 6 * t + 6 ≤ (gX G).2.1) (hX : (gX G).2.1 ≤ 3072) (hk : k ≤ 599000) (hn : n ≤ 6999000) (hI : INV K M) (nx : NXL G z t k n Q) : EX G m_L_law 1330 (LW4 G z t) [] (hL z K M f) o k n Q := by
  have hk6 : k ≤ 600000 := by omega
  have hn6 : n ≤ 7000000 := by omega
  have hk7 : k + 45 ≤ 600000 := by omega
  have hn7 : n + 280 ≤ 7000000 := by omega
  refine s_aload_n (z := 1) (by decide +kernel) rfl ?_
  refine l_arg (pc := 1331) (c := 1) (by decide +kernel) (by decide) rfl rfl hT (by decide) hX ?_
  refine s_aload_n (z := 3) (by decide +kernel) rfl ?_
  refine l_callS (pc := 1338) (idx := 256) (j := m_L_isMonitored) (np := 3) (as := [.ref z, .int ((gX G).2.2 (6 * t + 1)), .ref (z + 224)]) (st := []) (by decide +kernel) rfl (Nat.le_of_ble_eq_true rfl) hk6 hn6 ?_
  obtain ⟨fs, hz⟩ := hL_z (z := z) (K := K) (M := M) (f := f)
  refine l_isMonitored hz ((r_G_isMonitored (ag_isMonitored hI)).mono (lqb (G := G) (fun h o Q hx => r_M_isMonitored hx) (by simp) (fun K2 c g o2 hM => ?_)))
  show EX G m_L_law 1341 (LW4 G z t) [.int c] (hL z K2 M g) o2 (k + 45) (n + 280) Q
  refine s_istore (z := 5) (by decide +kernel) (by decide +kernel) ?_
  show EX G m_L_law 1343 (LW5 G z t c) [] (hL z K2 M g) o2 (k + 45) (n + 280) Q
  refine s_aload_n (z := 2) (by decide +kernel) rfl ?_
  refine l_arg (pc := 1344) (c := 1) (by decide +kernel) (by decide) rfl rfl hT (by decide) hX ?_
  obtain ⟨fs2, hz2⟩ := hL_m (z := z) (K := K2) (M := M) (f := g)
  refine l_callV (pc := 1350) (idx := 258) (j := m_M_isMonitored) (np := 1) (ci := 11) (b := z + 207) (as := [.int ((gX G).2.2 (6 * t + 1))]) (st := []) (by decide +kernel) rfl (Nat.le_of_ble_eq_true rfl) hz2 hk7 hn7 ((hM o2).mono (fun u h o3 hq => ?_))
  obtain ⟨M2, v, rfl, rfl, e0, hg, hI2⟩ := hq
  show EX G m_L_law 1353 (LW5 G z t c) [.int v] (hL z K2 M2 g) o3 (k + 45) (n + 280) Q
  refine s_istore (z := 6) (by decide +kernel) (by decide +kernel) ?_
  show EX G m_L_law 1355 (LW6 G z t c v) [] (hL z K2 M2 g) o3 (k + 45) (n + 280) Q
  exact l_tailB (pc := 1355) (by decide +kernel) e0 hg hI2 hk hn nx
theorem case_doorBetween (hT : 6 * t + 6 ≤ (gX G).2.1) (hX : (gX G).2.1 ≤ 3072) (hk : k ≤ 599000) (hn : n ≤ 6999000) (hI : INV K M) (nx : NXL G z t k n Q) : EX G m_L_law 1393 (LW4 G z t) [] (hL z K M f) o k n Q := by
  have hk6 : k ≤ 600000 := by omega
  have hn6 : n ≤ 7000000 := by omega
  have hk7 : k + 45 ≤ 600000 := by omega
  have hn7 : n + 280 ≤ 7000000 := by omega
  refine s_aload_n (z := 1) (by decide +kernel) rfl ?_
  refine l_arg (pc := 1394) (c := 1) (by decide +kernel) (by decide) rfl rfl hT (by decide) hX ?_
  refine l_arg (pc := 1400) (c := 2) (by decide +kernel) (by decide) rfl rfl hT (by decide) hX ?_
  refine s_aload_n (z := 3) (by decide +kernel) rfl ?_
  refine l_callS (pc := 1407) (idx := 259) (j := m_L_doorBetween) (np := 4) (as := [.ref z, .int ((gX G).2.2 (6 * t + 1)), .int ((gX G).2.2 (6 * t + 2)), .ref (z + 224)]) (st := []) (by decide +kernel) rfl (Nat.le_of_ble_eq_true rfl) hk6 hn6 ?_
  obtain ⟨fs, hz⟩ := hL_z (z := z) (K := K) (M := M) (f := f)
  refine l_doorBetween hz ((r_G_doorBetween (ag_doorBetween hI)).mono (lq (G := G) (fun h o Q hx => r_M_doorBetween hx) (by simp) (fun K2 c g o2 hM => ?_)))
  show EX G m_L_law 1410 (LW4 G z t) [.int c] (hL z K2 M g) o2 (k + 45) (n + 280) Q
  refine s_istore (z := 5) (by decide +kernel) (by decide +kernel) ?_
  show EX G m_L_law 1412 (LW5 G z t c) [] (hL z K2 M g) o2 (k + 45) (n + 280) Q
  refine s_aload_n (z := 2) (by decide +kernel) rfl ?_
  refine l_arg (pc := 1413) (c := 1) (by decide +kernel) (by decide) rfl rfl hT (by decide) hX ?_
  refine l_arg (pc := 1419) (c := 2) (by decide +kernel) (by decide) rfl rfl hT (by decide) hX ?_
  obtain ⟨fs2, hz2⟩ := hL_m (z := z) (K := K2) (M := M) (f := g)
  refine l_callV (pc := 1425) (idx := 261) (j := m_M_doorBetween) (np := 2) (ci := 11) (b := z + 207) (as := [.int ((gX G).2.2 (6 * t + 1)), .int ((gX G).2.2 (6 * t + 2))]) (st := []) (by decide +kernel) rfl (Nat.le_of_ble_eq_true rfl) hz2 hk7 hn7 ((hM o2).mono (fun u h o3 hq => ?_))
  obtain ⟨M2, v, rfl, rfl, e0, hg, hI2⟩ := hq
  show EX G m_L_law 1428 (LW5 G z t c) [.int v] (hL z K2 M2 g) o3 (k + 45) (n + 280) Q
  refine s_istore (z := 6) (by decide +kernel) (by decide +kernel) ?_
  show EX G m_L_law 1430 (LW6 G z t c v) [] (hL z K2 M2 g) o3 (k + 45) (n + 280) Q
  exact l_tail (pc := 1430) (by decide +kernel) e0 hg hI2 hk hn nx
end LC
