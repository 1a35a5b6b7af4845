/-! e3: cases 0 to 15 of the law -/
set_option maxRecDepth 8000
section LC
variable {G : GG} {z t k n : Nat} {K : KT} {M : MT} {f : Nat → Int64} {o : Option Nat} {Q : XQ}
/-- out of a simple answer -/
theorem gq_s {R : RUL} {jm : Nat} {as : List Value} {u : OUT} {h : HM} (hR : ∀ h o Q, R h o Q → Runs G jm as h o Q) (hq : GQ [] z M f R u h o) : ∃ (K2 : KT) (v : Int32), h = hL z K2 M f ∧ u = .inl (some (.int v)) ∧ ∀ g o2, Runs G jm as (hL z K2 M g) o2 (MQv z K2 g (.int v)) := by
  obtain ⟨K2, rfl, hu⟩ := hq
  cases u with
  | inl v => cases v with
    | none => exact False.elim hu
    | some v => cases v with
      | int v => exact ⟨K2, v, rfl, rfl, fun g o2 => hR _ _ _ (hu g o2)⟩
      | _ => exact False.elim hu
  | inr E =>
    obtain ⟨q, hm, -⟩ := hu
    cases hm
theorem gq_d {R : RUL} {jm : Nat} {as : List Value} {u : OUT} {h : HM} (hR : ∀ h o Q, R h o Q → Runs G jm as h o Q) (hq : GQd z M f R u h o) : ∃ (K2 : KT) (v : UInt64), h = hL z K2 M f ∧ u = .inl (some (.double v)) ∧ ∀ g o2, Runs G jm as (hL z K2 M g) o2 (MQv z K2 g (.double v)) := by
  obtain ⟨K2, rfl, hu⟩ := hq
  cases u with
  | inl v => cases v with
    | none => exact False.elim hu
    | some v => cases v with
      | double v => exact ⟨K2, v, rfl, rfl, fun g o2 => hR _ _ _ (hu g o2)⟩
      | _ => exact False.elim hu
  | inr E => exact False.elim hu
theorem gq_f {R : RUL} {jm : Nat} {as : List Value} {u : OUT} {h : HM} (hR : ∀ h o Q, R h o Q → Runs G jm as h o Q) (hq : GQf z M f R u h o) : ∃ (K2 : KT) (v : UInt32), h = hL z K2 M f ∧ u = .inl (some (.float v)) ∧ vf_n64 (FP.f2d v) ∧ ∀ g o2, Runs G jm as (hL z K2 M g) o2 (MQv z K2 g (.float v)) := by
  obtain ⟨K2, rfl, hu⟩ := hq
  cases u with
  | inl v => cases v with
    | none => exact False.elim hu
    | some v => cases v with
      | float v => exact ⟨K2, v, rfl, rfl, hu.1, fun g o2 => hR _ _ _ (hu.2 g o2)⟩
      | _ => exact False.elim hu
  | inr E => exact False.elim hu
theorem trI_01 (x : Int32) : trI x = 0 ∨ trI x = 1 := by
  unfold trI
  split
  · exact Or.inl rfl
  · exact Or.inr rfl
def dblOK (pc : Nat) : Bool := decide (decode (mC m_L_law) pc = .ok (.dload 5, 2)) && decide (decode (mC m_L_law) (pc + 2) = .ok (.dload 7, 2)) && decide (decode (mC m_L_law) (pc + 4) = .ok (.dcmp .l, 1)) && decide (decode (mC m_L_law) (pc + 5) = .ok (.ifCond .eq 21, 3)) && decide (decode (mC m_L_law) (pc + 8) = .ok (.dload 5, 2)) && decide (decode (mC m_L_law) (pc + 10) = .ok (.dload 5, 2)) && decide (decode (mC m_L_law) (pc + 12) = .ok (.dcmp .l, 1)) && decide (decode (mC m_L_law) (pc + 13) = .ok (.ifCond .eq 11, 3)) && decide (decode (mC m_L_law) (pc + 16) = .ok (.dload 7, 2)) && decide (decode (mC m_L_law) (pc + 18) = .ok (.dload 7, 2)) && decide (decode (mC m_L_law) (pc + 20) = .ok (.dcmp .l, 1)) && decide (decode (mC m_L_law) (pc + 21) = .ok (.ifCond .ne 5, 3)) && decide (decode (mC m_L_law) (pc + 26) = .ok (.goto (3039 - ((pc + 26 : Nat) : Int)), 3))
theorem l_dbl {pc : Nat} {w : UInt64} (hok : dblOK pc = true) (hI : INV K M) (nx : NXL G z t k n Q) : EX G m_L_law pc (LD7 G z t w w) [] (hL z K M f) o k n Q := by
  unfold dblOK at hok
  simp only [Bool.and_eq_true, decide_eq_true_eq] at hok
  obtain ⟨⟨⟨⟨⟨⟨⟨⟨⟨⟨⟨⟨d1, d2⟩, d3⟩, d4⟩, d5⟩, d6⟩, d7⟩, d8⟩, d9⟩, d10⟩, d11⟩, d12⟩, d13⟩ := hok
  have hend : EX G m_L_law (pc + 26) (LD7 G z t w w) [] (hL z K M f) o k n Q := s_goto (tgt := 3039) d13 (by omega) (EX.sub lw4_7 (EX.widen (by omega) (by omega) (nx K M f o hI)))
  refine s_dload (z := 5) (x := w) d1 rfl ?_
  refine s_dload (z := 7) (x := w) d2 rfl ?_
  refine s_dcmp d3 ?_
  refine s_if_eq (tgt := pc + 26) d4 (by omega) (fun _ => hend) (fun y => ?_)
  refine s_dload (z := 5) (x := w) d5 rfl ?_
  refine s_dload (z := 5) (x := w) d6 rfl ?_
  refine s_dcmp d7 ?_
  refine s_if_eq (tgt := pc + 24) d8 (by omega) (fun y2 => absurd y2 y) (fun _ => ?_)
  refine s_dload (z := 7) (x := w) d9 rfl ?_
  refine s_dload (z := 7) (x := w) d10 rfl ?_
  refine s_dcmp d11 ?_
  exact s_if_ne (tgt := pc + 26) d12 (by omega) (fun _ => hend) (fun y2 => absurd y2 y)
theorem case_feed (hT : 6 * t + 6 ≤ (gX G).2.1) (hX : (gX G).2.1 ≤ 3072) (hk : k ≤ 599000) (hn : n ≤ 6999000) (hI : INV K M) (nx : NXL G z t k n Q) : EX G m_L_law 312 (LW4 G z t) [] (hL z K M f) o k n Q := by
  have hk6 : k ≤ 600000 := by omega
  have hn6 : n ≤ 7000000 := by omega
  have hk7 : k + 45 ≤ 600000 := by omega
  have hn7 : n + 280 ≤ 7000000 := by omega
  refine s_aload_n (z := 1) (by decide +kernel) rfl ?_
  refine l_arg (pc := 313) (c := 1) (by decide +kernel) (by decide) rfl rfl hT (by decide) hX ?_
  refine l_arg (pc := 319) (c := 2) (by decide +kernel) (by decide) rfl rfl hT (by decide) hX ?_
  refine l_arg (pc := 325) (c := 3) (by decide +kernel) (by decide) rfl rfl hT (by decide) hX ?_
  refine l_arg (pc := 331) (c := 4) (by decide +kernel) (by decide) rfl rfl hT (by decide) hX ?_
  refine l_arg (pc := 337) (c := 5) (by decide +kernel) (by decide) rfl rfl hT (by decide) hX ?_
  refine s_aload_n (z := 3) (by decide +kernel) rfl ?_
  refine l_callS (pc := 344) (idx := 140) (j := m_L_feed) (np := 7) (as := [.ref z, .int ((gX G).2.2 (6 * t + 1)), .int ((gX G).2.2 (6 * t + 2)), .int ((gX G).2.2 (6 * t + 3)), .int ((gX G).2.2 (6 * t + 4)), .int ((gX G).2.2 (6 * t + 5)), .ref (z + 224)]) (st := []) (by decide +kernel) rfl (Nat.le_of_ble_eq_true rfl) hk6 hn6 ?_
  obtain ⟨fs, hz⟩ := hL_z (z := z) (K := K) (M := M) (f := f)
  refine l_feed hz ((r_G_feed (ag_feed hI)).mono (lq (G := G) (fun h o Q hx => r_M_feed hx) (by simp) (fun K2 c g o2 hM => ?_)))
  show EX G m_L_law 347 (LW4 G z t) [.int c] (hL z K2 M g) o2 (k + 45) (n + 280) Q
  refine s_istore (z := 5) (by decide +kernel) (by decide +kernel) ?_
  show EX G m_L_law 349 (LW5 G z t c) [] (hL z K2 M g) o2 (k + 45) (n + 280) Q
  refine s_aload_n (z := 2) (by decide +kernel) rfl ?_
  refine l_arg (pc := 350) (c := 1) (by decide +kernel) (by decide) rfl rfl hT (by decide) hX ?_
  refine l_arg (pc := 356) (c := 2) (by decide +kernel) (by decide) rfl rfl hT (by decide) hX ?_
  refine l_arg (pc := 362) (c := 3) (by decide +kernel) (by decide) rfl rfl hT (by decide) hX ?_
  refine l_arg (pc := 368) (c := 4) (by decide +kernel) (by decide) rfl rfl hT (by decide) hX ?_
  refine l_arg (pc := 374) (c := 5) (by decide +kernel) (by decide) rfl rfl hT (by decide) hX ?_
  obtain ⟨fs2, hz2⟩ := hL_m (z := z) (K := K2) (M := M) (f := g)
  refine l_callV (pc := 380) (idx := 145) (j := m_M_feed) (np := 5) (ci := 11) (b := z + 207) (as := [.int ((gX G).2.2 (6 * t + 1)), .int ((gX G).2.2 (6 * t + 2)), .int ((gX G).2.2 (6 * t + 3)), .int ((gX G).2.2 (6 * t + 4)), .int ((gX G).2.2 (6 * t + 5))]) (st := []) (by decide +kernel) rfl (Nat.le_of_ble_eq_true rfl) hz2 hk7 hn7 ((hM o2).mono (fun u h o3 hq => ?_))
  obtain ⟨M2, v, rfl, rfl, e0, hg, hI2⟩ := hq
  show EX G m_L_law 383 (LW5 G z t c) [.int v] (hL z K2 M2 g) o3 (k + 45) (n + 280) Q
  refine s_istore (z := 6) (by decide +kernel) (by decide +kernel) ?_
  show EX G m_L_law 385 (LW6 G z t c v) [] (hL z K2 M2 g) o3 (k + 45) (n + 280) Q
  exact l_tail (pc := 385) (by decide +kernel) e0 hg hI2 hk hn nx
theorem case_truncate (hT : 6 * t + 6 ≤ (gX G).2.1) (hX : (gX G).2.1 ≤ 3072) (hk : k ≤ 599000) (hn : n ≤ 6999000) (hI : INV K M) (nx : NXL G z t k n Q) : EX G m_L_law 416 (LW4 G z t) [] (hL z K M f) o k n Q := by
  have hk6 : k ≤ 600000 := by omega
  have hn6 : n ≤ 7000000 := by omega
  have hk7 : k + 45 ≤ 600000 := by omega
  have hn7 : n + 280 ≤ 7000000 := by omega
  refine s_aload_n (z := 1) (by decide +kernel) rfl ?_
  refine l_arg (pc := 417) (c := 1) (by decide +kernel) (by decide) rfl rfl hT (by decide) hX ?_
  refine s_aload_n (z := 3) (by decide +kernel) rfl ?_
  refine l_callS (pc := 424) (idx := 149) (j := m_L_truncate) (np := 3) (as := [.ref z, .int ((gX G).2.2 (6 * t + 1)), .ref (z + 224)]) (st := []) (by decide +kernel) rfl (Nat.le_of_ble_eq_true rfl) hk6 hn6 ?_
  obtain ⟨fs, hz⟩ := hL_z (z := z) (K := K) (M := M) (f := f)
  refine l_truncate hz ((r_G_truncate (ag_truncate hI)).mono (lq (G := G) (fun h o Q hx => r_M_truncate hx) (by simp) (fun K2 c g o2 hM => ?_)))
  show EX G m_L_law 427 (LW4 G z t) [.int c] (hL z K2 M g) o2 (k + 45) (n + 280) Q
  refine s_istore (z := 5) (by decide +kernel) (by decide +kernel) ?_
  show EX G m_L_law 429 (LW5 G z t c) [] (hL z K2 M g) o2 (k + 45) (n + 280) Q
  refine s_aload_n (z := 2) (by decide +kernel) rfl ?_
  refine l_arg (pc := 430) (c := 1) (by decide +kernel) (by decide) rfl rfl hT (by decide) hX ?_
  obtain ⟨fs2, hz2⟩ := hL_m (z := z) (K := K2) (M := M) (f := g)
  refine l_callV (pc := 436) (idx := 152) (j := m_M_truncate) (np := 1) (ci := 11) (b := z + 207) (as := [.int ((gX G).2.2 (6 * t + 1))]) (st := []) (by decide +kernel) rfl (Nat.le_of_ble_eq_true rfl) hz2 hk7 hn7 ((hM o2).mono (fun u h o3 hq => ?_))
  obtain ⟨M2, v, rfl, rfl, e0, hg, hI2⟩ := hq
  show EX G m_L_law 439 (LW5 G z t c) [.int v] (hL z K2 M2 g) o3 (k + 45) (n + 280) Q
  refine s_istore (z := 6) (by decide +kernel) (by decide +kernel) ?_
  show EX G m_L_law 441 (LW6 G z t c v) [] (hL z K2 M2 g) o3 (k + 45) (n + 280) Q
  exact l_tail (pc := 441) (by decide +kernel) e0 hg hI2 hk hn nx
theorem case_readText (hT : 6 * t + 6 ≤ (gX G).2.1) (hX : (gX G).2.1 ≤ 3072) (hk : k ≤ 599000) (hn : n ≤ 6999000) (hI : INV K M) (nx : NXL G z t k n Q) : EX G m_L_law 472 (LW4 G z t) [] (hL z K M f) o k n Q := by
  have hk6 : k ≤ 600000 := by omega
  have hn6 : n ≤ 7000000 := by omega
  have hk7 : k + 45 ≤ 600000 := by omega
  have hn7 : n + 280 ≤ 7000000 := by omega
  refine s_aload_n (z := 1) (by decide +kernel) rfl ?_
  refine s_aload_n (z := 3) (by decide +kernel) rfl ?_
  refine l_callS (pc := 474) (idx := 153) (j := m_L_readText) (np := 2) (as := [.ref z, .ref (z + 224)]) (st := []) (by decide +kernel) rfl (Nat.le_of_ble_eq_true rfl) hk6 hn6 ?_
  obtain ⟨fs, hz⟩ := hL_z (z := z) (K := K) (M := M) (f := f)
  refine l_readText hz ((r_G_readText (ag_readText hI)).mono (lq (G := G) (fun h o Q hx => r_M_readText hx) (by simp) (fun K2 c g o2 hM => ?_)))
  show EX G m_L_law 477 (LW4 G z t) [.int c] (hL z K2 M g) o2 (k + 45) (n + 280) Q
  refine s_istore (z := 5) (by decide +kernel) (by decide +kernel) ?_
  show EX G m_L_law 479 (LW5 G z t c) [] (hL z K2 M g) o2 (k + 45) (n + 280) Q
  refine s_aload_n (z := 2) (by decide +kernel) rfl ?_
  obtain ⟨fs2, hz2⟩ := hL_m (z := z) (K := K2) (M := M) (f := g)
  refine l_callV (pc := 480) (idx := 156) (j := m_M_readText) (np := 0) (ci := 11) (b := z + 207) (as := []) (st := []) (by decide +kernel) rfl (Nat.le_of_ble_eq_true rfl) hz2 hk7 hn7 ((hM o2).mono (fun u h o3 hq => ?_))
  obtain ⟨M2, v, rfl, rfl, e0, hg, hI2⟩ := hq
  show EX G m_L_law 483 (LW5 G z t c) [.int v] (hL z K2 M2 g) o3 (k + 45) (n + 280) Q
  refine s_istore (z := 6) (by decide +kernel) (by decide +kernel) ?_
  show EX G m_L_law 485 (LW6 G z t c v) [] (hL z K2 M2 g) o3 (k + 45) (n + 280) Q
  exact l_tail (pc := 485) (by decide +kernel) e0 hg hI2 hk hn nx
theorem case_runScript (hT : 6 * t + 6 ≤ (gX G).2.1) (hX : (gX G).2.1 ≤ 3072) (hk : k ≤ 599000) (hn : n ≤ 6999000) (hI : INV K M) (nx : NXL G z t k n Q) : EX G m_L_law 516 (LW4 G z t) [] (hL z K M f) o k n Q := by
  have hk6 : k ≤ 600000 := by omega
  have hn6 : n ≤ 7000000 := by omega
  have hk7 : k + 45 ≤ 600000 := by omega
  have hn7 : n + 280 ≤ 7000000 := by omega
  refine s_aload_n (z := 1) (by decide +kernel) rfl ?_
  refine s_aload_n (z := 3) (by decide +kernel) rfl ?_
  refine l_callS (pc := 518) (idx := 157) (j := m_L_runScript) (np := 2) (as := [.ref z, .ref (z + 224)]) (st := []) (by decide +kernel) rfl (Nat.le_of_ble_eq_true rfl) hk6 hn6 ?_
  obtain ⟨fs, hz⟩ := hL_z (z := z) (K := K) (M := M) (f := f)
  refine l_runScript hz ((r_G_runScript (ag_runScript hI)).mono (lq (G := G) (fun h o Q hx => r_M_runScript hx) (by simp) (fun K2 c g o2 hM => ?_)))
  show EX G m_L_law 521 (LW4 G z t) [.int c] (hL z K2 M g) o2 (k + 45) (n + 280) Q
  refine s_istore (z := 5) (by decide +kernel) (by decide +kernel) ?_
  show EX G m_L_law 523 (LW5 G z t c) [] (hL z K2 M g) o2 (k + 45) (n + 280) Q
  refine s_aload_n (z := 2) (by decide +kernel) rfl ?_
  obtain ⟨fs2, hz2⟩ := hL_m (z := z) (K := K2) (M := M) (f := g)
  refine l_callV (pc := 524) (idx := 159) (j := m_M_runScript) (np := 0) (ci := 11) (b := z + 207) (as := []) (st := []) (by decide +kernel) rfl (Nat.le_of_ble_eq_true rfl) hz2 hk7 hn7 ((hM o2).mono (fun u h o3 hq => ?_))
  obtain ⟨M2, v, rfl, rfl, e0, hg, hI2⟩ := hq
  show EX G m_L_law 527 (LW5 G z t c) [.int v] (hL z K2 M2 g) o3 (k + 45) (n + 280) Q
  refine s_istore (z := 6) (by decide +kernel) (by decide +kernel) ?_
  show EX G m_L_law 529 (LW6 G z t c v) [] (hL z K2 M2 g) o3 (k + 45) (n + 280) Q
  exact l_tail (pc := 529) (by decide +kernel) e0 hg hI2 hk hn nx
theorem case_errorCode (hT : 6 * t + 6 ≤ (gX G).2.1) (hX : (gX G).2.1 ≤ 3072) (hk : k ≤ 599000) (hn : n ≤ 6999000) (hI : INV K M) (nx : NXL G z t k n Q) : EX G m_L_law 560 (LW4 G z t) [] (hL z K M f) o k n Q := by
  have hk6 : k ≤ 600000 := by omega
  have hn6 : n ≤ 7000000 := by omega
  have hk7 : k + 45 ≤ 600000 := by omega
  have hn7 : n + 280 ≤ 7000000 := by omega
  refine s_aload_n (z := 1) (by decide +kernel) rfl ?_
  obtain ⟨fs, hz⟩ := hL_z (z := z) (K := K) (M := M) (f := f)
  refine l_callV (pc := 561) (idx := 160) (j := m_G_errorCode) (np := 0) (ci := 10) (b := z) (as := []) (st := []) (by decide +kernel) rfl (Nat.le_of_ble_eq_true rfl) hz hk6 hn6 ((r_G_errorCode (ag_errorCode hI)).mono (fun u h o2 hq => ?_))
  obtain ⟨K2, v, rfl, rfl, hM⟩ := gq_s (G := G) (fun h o Q hx => r_M_errorCode hx) hq
  show EX G m_L_law 564 (LW4 G z t) [.int v] (hL z K2 M f) o2 k n Q
  refine s_aload_n (z := 2) (by decide +kernel) rfl ?_
  obtain ⟨fs2, hz2⟩ := hL_m (z := z) (K := K2) (M := M) (f := f)
  refine l_callV (pc := 565) (idx := 163) (j := m_M_errorCode) (np := 0) (ci := 11) (b := z + 207) (as := []) (st := [.int v]) (by decide +kernel) rfl (Nat.le_of_ble_eq_true rfl) hz2 hk6 hn6 ((hM f o2).mono (fun u h o3 hq2 => ?_))
  obtain ⟨M2, rfl, rfl, -, hI2⟩ := hq2
  show EX G m_L_law 568 (LW4 G z t) [.int v, .int v] (hL z K2 M2 f) o3 k n Q
  exact s_icmp_eq (off := 2471) (tgt := 3039) (by decide +kernel) (by decide) (fun _ => EX.widen (by omega) (by omega) (nx K2 M2 f o3 hI2)) (fun y => absurd rfl y)
theorem case_errorOffset (hT : 6 * t + 6 ≤ (gX G).2.1) (hX : (gX G).2.1 ≤ 3072) (hk : k ≤ 599000) (hn : n ≤ 6999000) (hI : INV K M) (nx : NXL G z t k n Q) : EX G m_L_law 573 (LW4 G z t) [] (hL z K M f) o k n Q := by
  have hk6 : k ≤ 600000 := by omega
  have hn6 : n ≤ 7000000 := by omega
  have hk7 : k + 45 ≤ 600000 := by omega
  have hn7 : n + 280 ≤ 7000000 := by omega
  refine s_aload_n (z := 1) (by decide +kernel) rfl ?_
  obtain ⟨fs, hz⟩ := hL_z (z := z) (K := K) (M := M) (f := f)
  refine l_callV (pc := 574) (idx := 164) (j := m_G_errorOffset) (np := 0) (ci := 10) (b := z) (as := []) (st := []) (by decide +kernel) rfl (Nat.le_of_ble_eq_true rfl) hz hk6 hn6 ((r_G_errorOffset (ag_errorOffset hI)).mono (fun u h o2 hq => ?_))
  obtain ⟨K2, v, rfl, rfl, hM⟩ := gq_s (G := G) (fun h o Q hx => r_M_errorOffset hx) hq
  show EX G m_L_law 577 (LW4 G z t) [.int v] (hL z K2 M f) o2 k n Q
  refine s_aload_n (z := 2) (by decide +kernel) rfl ?_
  obtain ⟨fs2, hz2⟩ := hL_m (z := z) (K := K2) (M := M) (f := f)
  refine l_callV (pc := 578) (idx := 167) (j := m_M_errorOffset) (np := 0) (ci := 11) (b := z + 207) (as := []) (st := [.int v]) (by decide +kernel) rfl (Nat.le_of_ble_eq_true rfl) hz2 hk6 hn6 ((hM f o2).mono (fun u h o3 hq2 => ?_))
  obtain ⟨M2, rfl, rfl, -, hI2⟩ := hq2
  show EX G m_L_law 581 (LW4 G z t) [.int v, .int v] (hL z K2 M2 f) o3 k n Q
  exact s_icmp_eq (off := 2458) (tgt := 3039) (by decide +kernel) (by decide) (fun _ => EX.widen (by omega) (by omega) (nx K2 M2 f o3 hI2)) (fun y => absurd rfl y)
theorem case_mode (hT : 6 * t + 6 ≤ (gX G).2.1) (hX : (gX G).2.1 ≤ 3072) (hk : k ≤ 599000) (hn : n ≤ 6999000) (hI : INV K M) (nx : NXL G z t k n Q) : EX G m_L_law 586 (LW4 G z t) [] (hL z K M f) o k n Q := by
  have hk6 : k ≤ 600000 := by omega
  have hn6 : n ≤ 7000000 := by omega
  have hk7 : k + 45 ≤ 600000 := by omega
  have hn7 : n + 280 ≤ 7000000 := by omega
  refine s_aload_n (z := 1) (by decide +kernel) rfl ?_
  obtain ⟨fs, hz⟩ := hL_z (z := z) (K := K) (M := M) (f := f)
  refine l_callV (pc := 587) (idx := 168) (j := m_G_mode) (np := 0) (ci := 10) (b := z) (as := []) (st := []) (by decide +kernel) rfl (Nat.le_of_ble_eq_true rfl) hz hk6 hn6 ((r_G_mode (ag_mode hI)).mono (fun u h o2 hq => ?_))
  obtain ⟨K2, v, rfl, rfl, hM⟩ := gq_s (G := G) (fun h o Q hx => r_M_mode hx) hq
  show EX G m_L_law 590 (LW4 G z t) [.int v] (hL z K2 M f) o2 k n Q
  refine s_aload_n (z := 2) (by decide +kernel) rfl ?_
  obtain ⟨fs2, hz2⟩ := hL_m (z := z) (K := K2) (M := M) (f := f)
  refine l_callV (pc := 591) (idx := 171) (j := m_M_mode) (np := 0) (ci := 11) (b := z + 207) (as := []) (st := [.int v]) (by decide +kernel) rfl (Nat.le_of_ble_eq_true rfl) hz2 hk6 hn6 ((hM f o2).mono (fun u h o3 hq2 => ?_))
  obtain ⟨M2, rfl, rfl, -, hI2⟩ := hq2
  show EX G m_L_law 594 (LW4 G z t) [.int v, .int v] (hL z K2 M2 f) o3 k n Q
  exact s_icmp_eq (off := 2445) (tgt := 3039) (by decide +kernel) (by decide) (fun _ => EX.widen (by omega) (by omega) (nx K2 M2 f o3 hI2)) (fun y => absurd rfl y)
theorem case_chill (hT : 6 * t + 6 ≤ (gX G).2.1) (hX : (gX G).2.1 ≤ 3072) (hk : k ≤ 599000) (hn : n ≤ 6999000) (hI : INV K M) (nx : NXL G z t k n Q) : EX G m_L_law 599 (LW4 G z t) [] (hL z K M f) o k n Q := by
  have hk6 : k ≤ 600000 := by omega
  have hn6 : n ≤ 7000000 := by omega
  have hk7 : k + 45 ≤ 600000 := by omega
  have hn7 : n + 280 ≤ 7000000 := by omega
  refine s_aload_n (z := 1) (by decide +kernel) rfl ?_
  obtain ⟨fs, hz⟩ := hL_z (z := z) (K := K) (M := M) (f := f)
  refine l_callV (pc := 600) (idx := 172) (j := m_G_chill) (np := 0) (ci := 10) (b := z) (as := []) (st := []) (by decide +kernel) rfl (Nat.le_of_ble_eq_true rfl) hz hk6 hn6 ((r_G_chill (ag_chill hI)).mono (fun u h o2 hq => ?_))
  obtain ⟨K2, v, rfl, rfl, hM⟩ := gq_s (G := G) (fun h o Q hx => r_M_chill hx) hq
  show EX G m_L_law 603 (LW4 G z t) [.int v] (hL z K2 M f) o2 k n Q
  refine s_aload_n (z := 2) (by decide +kernel) rfl ?_
  obtain ⟨fs2, hz2⟩ := hL_m (z := z) (K := K2) (M := M) (f := f)
  refine l_callV (pc := 604) (idx := 175) (j := m_M_chill) (np := 0) (ci := 11) (b := z + 207) (as := []) (st := [.int v]) (by decide +kernel) rfl (Nat.le_of_ble_eq_true rfl) hz2 hk6 hn6 ((hM f o2).mono (fun u h o3 hq2 => ?_))
  obtain ⟨M2, rfl, rfl, -, hI2⟩ := hq2
  show EX G m_L_law 607 (LW4 G z t) [.int v, .int v] (hL z K2 M2 f) o3 k n Q
  exact s_icmp_eq (off := 2432) (tgt := 3039) (by decide +kernel) (by decide) (fun _ => EX.widen (by omega) (by omega) (nx K2 M2 f o3 hI2)) (fun y => absurd rfl y)
theorem case_hearingThreshold (hT : 6 * t + 6 ≤ (gX G).2.1) (hX : (gX G).2.1 ≤ 3072) (hk : k ≤ 599000) (hn : n ≤ 6999000) (hI : INV K M) (nx : NXL G z t k n Q) : EX G m_L_law 612 (LW4 G z t) [] (hL z K M f) o k n Q := by
  have hk6 : k ≤ 600000 := by omega
  have hn6 : n ≤ 7000000 := by omega
  have hk7 : k + 45 ≤ 600000 := by omega
  have hn7 : n + 280 ≤ 7000000 := by omega
  refine s_aload_n (z := 1) (by decide +kernel) rfl ?_
  obtain ⟨fs, hz⟩ := hL_z (z := z) (K := K) (M := M) (f := f)
  refine l_callV (pc := 613) (idx := 176) (j := m_G_hearingThreshold) (np := 0) (ci := 10) (b := z) (as := []) (st := []) (by decide +kernel) rfl (Nat.le_of_ble_eq_true rfl) hz hk6 hn6 ((r_G_hearingThreshold (ag_hearingThreshold hI)).mono (fun u h o2 hq => ?_))
  obtain ⟨K2, v, rfl, rfl, hM⟩ := gq_s (G := G) (fun h o Q hx => r_M_hearingThreshold hx) hq
  show EX G m_L_law 616 (LW4 G z t) [.int v] (hL z K2 M f) o2 k n Q
  refine s_aload_n (z := 2) (by decide +kernel) rfl ?_
  obtain ⟨fs2, hz2⟩ := hL_m (z := z) (K := K2) (M := M) (f := f)
  refine l_callV (pc := 617) (idx := 179) (j := m_M_hearingThreshold) (np := 0) (ci := 11) (b := z + 207) (as := []) (st := [.int v]) (by decide +kernel) rfl (Nat.le_of_ble_eq_true rfl) hz2 hk6 hn6 ((hM f o2).mono (fun u h o3 hq2 => ?_))
  obtain ⟨M2, rfl, rfl, -, hI2⟩ := hq2
  show EX G m_L_law 620 (LW4 G z t) [.int v, .int v] (hL z K2 M2 f) o3 k n Q
  exact s_icmp_eq (off := 2419) (tgt := 3039) (by decide +kernel) (by decide) (fun _ => EX.widen (by omega) (by omega) (nx K2 M2 f o3 hI2)) (fun y => absurd rfl y)
theorem case_seancePrice (hT : 6 * t + 6 ≤ (gX G).2.1) (hX : (gX G).2.1 ≤ 3072) (hk : k ≤ 599000) (hn : n ≤ 6999000) (hI : INV K M) (nx : NXL G z t k n Q) : EX G m_L_law 625 (LW4 G z t) [] (hL z K M f) o k n Q := by
  have hk6 : k ≤ 600000 := by omega
  have hn6 : n ≤ 7000000 := by omega
  have hk7 : k + 45 ≤ 600000 := by omega
  have hn7 : n + 280 ≤ 7000000 := by omega
  refine s_aload_n (z := 1) (by decide +kernel) rfl ?_
  obtain ⟨fs, hz⟩ := hL_z (z := z) (K := K) (M := M) (f := f)
  refine l_callV (pc := 626) (idx := 180) (j := m_G_seancePrice) (np := 0) (ci := 10) (b := z) (as := []) (st := []) (by decide +kernel) rfl (Nat.le_of_ble_eq_true rfl) hz hk6 hn6 ((r_G_seancePrice (ag_seancePrice hI)).mono (fun u h o2 hq => ?_))
  obtain ⟨K2, v, rfl, rfl, hM⟩ := gq_s (G := G) (fun h o Q hx => r_M_seancePrice hx) hq
  show EX G m_L_law 629 (LW4 G z t) [.int v] (hL z K2 M f) o2 k n Q
  refine s_aload_n (z := 2) (by decide +kernel) rfl ?_
  obtain ⟨fs2, hz2⟩ := hL_m (z := z) (K := K2) (M := M) (f := f)
  refine l_callV (pc := 630) (idx := 183) (j := m_M_seancePrice) (np := 0) (ci := 11) (b := z + 207) (as := []) (st := [.int v]) (by decide +kernel) rfl (Nat.le_of_ble_eq_true rfl) hz2 hk6 hn6 ((hM f o2).mono (fun u h o3 hq2 => ?_))
  obtain ⟨M2, rfl, rfl, -, hI2⟩ := hq2
  show EX G m_L_law 633 (LW4 G z t) [.int v, .int v] (hL z K2 M2 f) o3 k n Q
  exact s_icmp_eq (off := 2406) (tgt := 3039) (by decide +kernel) (by decide) (fun _ => EX.widen (by omega) (by omega) (nx K2 M2 f o3 hI2)) (fun y => absurd rfl y)
theorem case_randomState (hT : 6 * t + 6 ≤ (gX G).2.1) (hX : (gX G).2.1 ≤ 3072) (hk : k ≤ 599000) (hn : n ≤ 6999000) (hI : INV K M) (nx : NXL G z t k n Q) : EX G m_L_law 638 (LW4 G z t) [] (hL z K M f) o k n Q := by
  have hk6 : k ≤ 600000 := by omega
  have hn6 : n ≤ 7000000 := by omega
  have hk7 : k + 45 ≤ 600000 := by omega
  have hn7 : n + 280 ≤ 7000000 := by omega
  refine s_aload_n (z := 1) (by decide +kernel) rfl ?_
  obtain ⟨fs, hz⟩ := hL_z (z := z) (K := K) (M := M) (f := f)
  refine l_callV (pc := 639) (idx := 184) (j := m_G_randomState) (np := 0) (ci := 10) (b := z) (as := []) (st := []) (by decide +kernel) rfl (Nat.le_of_ble_eq_true rfl) hz hk6 hn6 ((r_G_randomState (ag_randomState hI)).mono (fun u h o2 hq => ?_))
  obtain ⟨K2, v, rfl, rfl, hM⟩ := gq_s (G := G) (fun h o Q hx => r_M_randomState hx) hq
  show EX G m_L_law 642 (LW4 G z t) [.int v] (hL z K2 M f) o2 k n Q
  refine s_aload_n (z := 2) (by decide +kernel) rfl ?_
  obtain ⟨fs2, hz2⟩ := hL_m (z := z) (K := K2) (M := M) (f := f)
  refine l_callV (pc := 643) (idx := 187) (j := m_M_randomState) (np := 0) (ci := 11) (b := z + 207) (as := []) (st := [.int v]) (by decide +kernel) rfl (Nat.le_of_ble_eq_true rfl) hz2 hk6 hn6 ((hM f o2).mono (fun u h o3 hq2 => ?_))
  obtain ⟨M2, rfl, rfl, -, hI2⟩ := hq2
  show EX G m_L_law 646 (LW4 G z t) [.int v, .int v] (hL z K2 M2 f) o3 k n Q
  exact s_icmp_eq (off := 2393) (tgt := 3039) (by decide +kernel) (by decide) (fun _ => EX.widen (by omega) (by omega) (nx K2 M2 f o3 hI2)) (fun y => absurd rfl y)
theorem case_coins (hT : 6 * t + 6 ≤ (gX G).2.1) (hX : (gX G).2.1 ≤ 3072) (hk : k ≤ 599000) (hn : n ≤ 6999000) (hI : INV K M) (nx : NXL G z t k n Q) : EX G m_L_law 651 (LW4 G z t) [] (hL z K M f) o k n Q := by
  have hk6 : k ≤ 600000 := by omega
  have hn6 : n ≤ 7000000 := by omega
  have hk7 : k + 45 ≤ 600000 := by omega
  have hn7 : n + 280 ≤ 7000000 := by omega
  refine s_aload_n (z := 1) (by decide +kernel) rfl ?_
  obtain ⟨fs, hz⟩ := hL_z (z := z) (K := K) (M := M) (f := f)
  refine l_callV (pc := 652) (idx := 188) (j := m_G_coins) (np := 0) (ci := 10) (b := z) (as := []) (st := []) (by decide +kernel) rfl (Nat.le_of_ble_eq_true rfl) hz hk6 hn6 ((r_G_coins (ag_coins hI)).mono (fun u h o2 hq => ?_))
  obtain ⟨K2, v, rfl, rfl, hM⟩ := gq_s (G := G) (fun h o Q hx => r_M_coins hx) hq
  show EX G m_L_law 655 (LW4 G z t) [.int v] (hL z K2 M f) o2 k n Q
  refine s_aload_n (z := 2) (by decide +kernel) rfl ?_
  obtain ⟨fs2, hz2⟩ := hL_m (z := z) (K := K2) (M := M) (f := f)
  refine l_callV (pc := 656) (idx := 191) (j := m_M_coins) (np := 0) (ci := 11) (b := z + 207) (as := []) (st := [.int v]) (by decide +kernel) rfl (Nat.le_of_ble_eq_true rfl) hz2 hk6 hn6 ((hM f o2).mono (fun u h o3 hq2 => ?_))
  obtain ⟨M2, rfl, rfl, -, hI2⟩ := hq2
  show EX G m_L_law 659 (LW4 G z t) [.int v, .int v] (hL z K2 M2 f) o3 k n Q
  exact s_icmp_eq (off := 2380) (tgt := 3039) (by decide +kernel) (by decide) (fun _ => EX.widen (by omega) (by omega) (nx K2 M2 f o3 hI2)) (fun y => absurd rfl y)
theorem case_coinsSpent (hT : 6 * t + 6 ≤ (gX G).2.1) (hX : (gX G).2.1 ≤ 3072) (hk : k ≤ 599000) (hn : n ≤ 6999000) (hI : INV K M) (nx : NXL G z t k n Q) : EX G m_L_law 664 (LW4 G z t) [] (hL z K M f) o k n Q := by
  have hk6 : k ≤ 600000 := by omega
  have hn6 : n ≤ 7000000 := by omega
  have hk7 : k + 45 ≤ 600000 := by omega
  have hn7 : n + 280 ≤ 7000000 := by omega
  refine s_aload_n (z := 1) (by decide +kernel) rfl ?_
  obtain ⟨fs, hz⟩ := hL_z (z := z) (K := K) (M := M) (f := f)
  refine l_callV (pc := 665) (idx := 192) (j := m_G_coinsSpent) (np := 0) (ci := 10) (b := z) (as := []) (st := []) (by decide +kernel) rfl (Nat.le_of_ble_eq_true rfl) hz hk6 hn6 ((r_G_coinsSpent (ag_coinsSpent hI)).mono (fun u h o2 hq => ?_))
  obtain ⟨K2, v, rfl, rfl, hM⟩ := gq_s (G := G) (fun h o Q hx => r_M_coinsSpent hx) hq
  show EX G m_L_law 668 (LW4 G z t) [.int v] (hL z K2 M f) o2 k n Q
  refine s_aload_n (z := 2) (by decide +kernel) rfl ?_
  obtain ⟨fs2, hz2⟩ := hL_m (z := z) (K := K2) (M := M) (f := f)
  refine l_callV (pc := 669) (idx := 195) (j := m_M_coinsSpent) (np := 0) (ci := 11) (b := z + 207) (as := []) (st := [.int v]) (by decide +kernel) rfl (Nat.le_of_ble_eq_true rfl) hz2 hk6 hn6 ((hM f o2).mono (fun u h o3 hq2 => ?_))
  obtain ⟨M2, rfl, rfl, -, hI2⟩ := hq2
  show EX G m_L_law 672 (LW4 G z t) [.int v, .int v] (hL z K2 M2 f) o3 k n Q
  exact s_icmp_eq (off := 2367) (tgt := 3039) (by decide +kernel) (by decide) (fun _ => EX.widen (by omega) (by omega) (nx K2 M2 f o3 hI2)) (fun y => absurd rfl y)
theorem case_nightNumber (hT : 6 * t + 6 ≤ (gX G).2.1) (hX : (gX G).2.1 ≤ 3072) (hk : k ≤ 599000) (hn : n ≤ 6999000) (hI : INV K M) (nx : NXL G z t k n Q) : EX G m_L_law 677 (LW4 G z t) [] (hL z K M f) o k n Q := by
  have hk6 : k ≤ 600000 := by omega
  have hn6 : n ≤ 7000000 := by omega
  have hk7 : k + 45 ≤ 600000 := by omega
  have hn7 : n + 280 ≤ 7000000 := by omega
  refine s_aload_n (z := 1) (by decide +kernel) rfl ?_
  obtain ⟨fs, hz⟩ := hL_z (z := z) (K := K) (M := M) (f := f)
  refine l_callV (pc := 678) (idx := 196) (j := m_G_nightNumber) (np := 0) (ci := 10) (b := z) (as := []) (st := []) (by decide +kernel) rfl (Nat.le_of_ble_eq_true rfl) hz hk6 hn6 ((r_G_nightNumber (ag_nightNumber hI)).mono (fun u h o2 hq => ?_))
  obtain ⟨K2, v, rfl, rfl, hM⟩ := gq_s (G := G) (fun h o Q hx => r_M_nightNumber hx) hq
  show EX G m_L_law 681 (LW4 G z t) [.int v] (hL z K2 M f) o2 k n Q
  refine s_aload_n (z := 2) (by decide +kernel) rfl ?_
  obtain ⟨fs2, hz2⟩ := hL_m (z := z) (K := K2) (M := M) (f := f)
  refine l_callV (pc := 682) (idx := 199) (j := m_M_nightNumber) (np := 0) (ci := 11) (b := z + 207) (as := []) (st := [.int v]) (by decide +kernel) rfl (Nat.le_of_ble_eq_true rfl) hz2 hk6 hn6 ((hM f o2).mono (fun u h o3 hq2 => ?_))
  obtain ⟨M2, rfl, rfl, -, hI2⟩ := hq2
  show EX G m_L_law 685 (LW4 G z t) [.int v, .int v] (hL z K2 M2 f) o3 k n Q
  exact s_icmp_eq (off := 2354) (tgt := 3039) (by decide +kernel) (by decide) (fun _ => EX.widen (by omega) (by omega) (nx K2 M2 f o3 hI2)) (fun y => absurd rfl y)
theorem case_ghostMoves (hT : 6 * t + 6 ≤ (gX G).2.1) (hX : (gX G).2.1 ≤ 3072) (hk : k ≤ 599000) (hn : n ≤ 6999000) (hI : INV K M) (nx : NXL G z t k n Q) : EX G m_L_law 690 (LW4 G z t) [] (hL z K M f) o k n Q := by
  have hk6 : k ≤ 600000 := by omega
  have hn6 : n ≤ 7000000 := by omega
  have hk7 : k + 45 ≤ 600000 := by omega
  have hn7 : n + 280 ≤ 7000000 := by omega
  refine s_aload_n (z := 1) (by decide +kernel) rfl ?_
  obtain ⟨fs, hz⟩ := hL_z (z := z) (K := K) (M := M) (f := f)
  refine l_callV (pc := 691) (idx := 200) (j := m_G_ghostMoves) (np := 0) (ci := 10) (b := z) (as := []) (st := []) (by decide +kernel) rfl (Nat.le_of_ble_eq_true rfl) hz hk6 hn6 ((r_G_ghostMoves (ag_ghostMoves hI)).mono (fun u h o2 hq => ?_))
  obtain ⟨K2, v, rfl, rfl, hM⟩ := gq_s (G := G) (fun h o Q hx => r_M_ghostMoves hx) hq
  show EX G m_L_law 694 (LW4 G z t) [.int v] (hL z K2 M f) o2 k n Q
  refine s_aload_n (z := 2) (by decide +kernel) rfl ?_
  obtain ⟨fs2, hz2⟩ := hL_m (z := z) (K := K2) (M := M) (f := f)
  refine l_callV (pc := 695) (idx := 203) (j := m_M_ghostMoves) (np := 0) (ci := 11) (b := z + 207) (as := []) (st := [.int v]) (by decide +kernel) rfl (Nat.le_of_ble_eq_true rfl) hz2 hk6 hn6 ((hM f o2).mono (fun u h o3 hq2 => ?_))
  obtain ⟨M2, rfl, rfl, -, hI2⟩ := hq2
  show EX G m_L_law 698 (LW4 G z t) [.int v, .int v] (hL z K2 M2 f) o3 k n Q
  exact s_icmp_eq (off := 2341) (tgt := 3039) (by decide +kernel) (by decide) (fun _ => EX.widen (by omega) (by omega) (nx K2 M2 f o3 hI2)) (fun y => absurd rfl y)
theorem case_roomCount (hT : 6 * t + 6 ≤ (gX G).2.1) (hX : (gX G).2.1 ≤ 3072) (hk : k ≤ 599000) (hn : n ≤ 6999000) (hI : INV K M) (nx : NXL G z t k n Q) : EX G m_L_law 703 (LW4 G z t) [] (hL z K M f) o k n Q := by
  have hk6 : k ≤ 600000 := by omega
  have hn6 : n ≤ 7000000 := by omega
  have hk7 : k + 45 ≤ 600000 := by omega
  have hn7 : n + 280 ≤ 7000000 := by omega
  refine s_aload_n (z := 1) (by decide +kernel) rfl ?_
  obtain ⟨fs, hz⟩ := hL_z (z := z) (K := K) (M := M) (f := f)
  refine l_callV (pc := 704) (idx := 204) (j := m_G_roomCount) (np := 0) (ci := 10) (b := z) (as := []) (st := []) (by decide +kernel) rfl (Nat.le_of_ble_eq_true rfl) hz hk6 hn6 ((r_G_roomCount (ag_roomCount hI)).mono (fun u h o2 hq => ?_))
  obtain ⟨K2, v, rfl, rfl, hM⟩ := gq_s (G := G) (fun h o Q hx => r_M_roomCount hx) hq
  show EX G m_L_law 707 (LW4 G z t) [.int v] (hL z K2 M f) o2 k n Q
  refine s_aload_n (z := 2) (by decide +kernel) rfl ?_
  obtain ⟨fs2, hz2⟩ := hL_m (z := z) (K := K2) (M := M) (f := f)
  refine l_callV (pc := 708) (idx := 207) (j := m_M_roomCount) (np := 0) (ci := 11) (b := z + 207) (as := []) (st := [.int v]) (by decide +kernel) rfl (Nat.le_of_ble_eq_true rfl) hz2 hk6 hn6 ((hM f o2).mono (fun u h o3 hq2 => ?_))
  obtain ⟨M2, rfl, rfl, -, hI2⟩ := hq2
  show EX G m_L_law 711 (LW4 G z t) [.int v, .int v] (hL z K2 M2 f) o3 k n Q
  exact s_icmp_eq (off := 2328) (tgt := 3039) (by decide +kernel) (by decide) (fun _ => EX.widen (by omega) (by omega) (nx K2 M2 f o3 hI2)) (fun y => absurd rfl y)
end LC
