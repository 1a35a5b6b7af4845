/-! e7: the law's loop -/
set_option maxRecDepth 8000
section LO
variable {G : GG} {z t : Nat} {K : KT} {M : MT} {f : Nat → Int64} {o : Option Nat} {Q : XQ}
theorem and63 (x : Int32) : ∃ c, c < 64 ∧ x &&& 63 = nI c := by
  refine ⟨(x &&& 63).toBitVec.toNat, ?_, ?_⟩
  · show (x.toBitVec &&& 63#32).toNat < 64
    rw [BitVec.toNat_and]
    exact Nat.lt_of_le_of_lt Nat.and_le_right (by decide)
  · apply Int32.toBitVec_inj.mp
    show (x &&& 63).toBitVec = BitVec.ofNat 32 (x &&& 63).toBitVec.toNat
    rw [BitVec.ofNat_toNat, BitVec.setWidth_eq]
theorem len_lt (hX : (gX G).2.1 ≤ 3072) (hT : (gX G).2.1 < 6 * t + 6) (ht : t ≤ 513) : nI (gX G).2.1 - 6 < nI (6 * t) := by
  by_cases c : 6 ≤ (gX G).2.1
  · have e : nI (gX G).2.1 - 6 = nI ((gX G).2.1 - 6) := nI_subN (b := 6) c
    rw [e]
    exact (nI_ltI (by omega) (by omega)).mpr (by omega)
  · have h0 : (0 : Int32) ≤ nI (6 * t) := (nI_leI (a := 0) (by decide) (by omega)).mpr (Nat.zero_le _)
    have h1 : nI (gX G).2.1 - 6 < 0 := by
      have key : ∀ q, q < 6 → nI q - 6 < 0 := by decide
      exact key _ (by omega)
    exact Int32.lt_of_lt_of_le h1 h0
theorem law_end {k n : Nat} {h : HM} {L : List (Nat × Value)} (hq : ∀ h o, Q (.inl (some (.int 1))) h o) (hk : k ≤ 600000) (hn : n ≤ 7000000) : EX G m_L_law 3045 L [] h o k n Q := by
  refine s_iconst (z := 1) (v := 1) (by decide +kernel) (by decide) ?_
  have hr : mRc m_L_law = (601024, 7293034) := by decide +kernel
  exact s_zreturn (by decide +kernel) (by decide +kernel) (Or.inr rfl) (by rw [hr]; show k ≤ 601024; omega) (by rw [hr]; show n ≤ 7293034; omega) (hq _ _)
theorem d_sw : decode (mC m_L_law) 40 = .ok (.tableswitch 2999 0 63 #[272, 376, 432, 476, 520, 533, 546, 559, 572, 585, 598, 611, 624, 637, 650, 663, 676, 689, 702, 715, 783, 796, 852, 915, 978, 1034, 1059, 1115, 1171, 1227, 1290, 1353, 1421, 1489, 1545, 1601, 1657, 1670, 1711, 1754, 1810, 1866, 1879, 1892, 1905, 1918, 1974, 2054, 2138, 2222, 2306, 2374, 2430, 2493, 2549, 2605, 2661, 2717, 2773, 2829, 2873, 2886, 2942, 2955], 272) := by decide +kernel
theorem law_sw {k n c : Nat} (hc : c < 64) (hT : 6 * t + 6 ≤ (gX G).2.1) (hX : (gX G).2.1 ≤ 3072) (hk : k ≤ 599000) (hn : n ≤ 6999000) (hI : INV K M) (nx : NXL G z t k n Q) : EX G m_L_law 40 (LW4 G z t) [.int (nI c)] (hL z K M f) o k n Q := by
  match c, hc with
  | 0, _ => exact s_tableIn (tgt := 312) (off := 272) d_sw (by decide +kernel) (by decide +kernel) (by decide +kernel) (by decide) (case_feed hT hX hk hn hI nx)
  | 1, _ => exact s_tableIn (tgt := 416) (off := 376) d_sw (by decide +kernel) (by decide +kernel) (by decide +kernel) (by decide) (case_truncate hT hX hk hn hI nx)
  | 2, _ => exact s_tableIn (tgt := 472) (off := 432) d_sw (by decide +kernel) (by decide +kernel) (by decide +kernel) (by decide) (case_readText hT hX hk hn hI nx)
  | 3, _ => exact s_tableIn (tgt := 516) (off := 476) d_sw (by decide +kernel) (by decide +kernel) (by decide +kernel) (by decide) (case_runScript hT hX hk hn hI nx)
  | 4, _ => exact s_tableIn (tgt := 560) (off := 520) d_sw (by decide +kernel) (by decide +kernel) (by decide +kernel) (by decide) (case_errorCode hT hX hk hn hI nx)
  | 5, _ => exact s_tableIn (tgt := 573) (off := 533) d_sw (by decide +kernel) (by decide +kernel) (by decide +kernel) (by decide) (case_errorOffset hT hX hk hn hI nx)
  | 6, _ => exact s_tableIn (tgt := 586) (off := 546) d_sw (by decide +kernel) (by decide +kernel) (by decide +kernel) (by decide) (case_mode hT hX hk hn hI nx)
  | 7, _ => exact s_tableIn (tgt := 599) (off := 559) d_sw (by decide +kernel) (by decide +kernel) (by decide +kernel) (by decide) (case_chill hT hX hk hn hI nx)
  | 8, _ => exact s_tableIn (tgt := 612) (off := 572) d_sw (by decide +kernel) (by decide +kernel) (by decide +kernel) (by decide) (case_hearingThreshold hT hX hk hn hI nx)
  | 9, _ => exact s_tableIn (tgt := 625) (off := 585) d_sw (by decide +kernel) (by decide +kernel) (by decide +kernel) (by decide) (case_seancePrice hT hX hk hn hI nx)
  | 10, _ => exact s_tableIn (tgt := 638) (off := 598) d_sw (by decide +kernel) (by decide +kernel) (by decide +kernel) (by decide) (case_randomState hT hX hk hn hI nx)
  | 11, _ => exact s_tableIn (tgt := 651) (off := 611) d_sw (by decide +kernel) (by decide +kernel) (by decide +kernel) (by decide) (case_coins hT hX hk hn hI nx)
  | 12, _ => exact s_tableIn (tgt := 664) (off := 624) d_sw (by decide +kernel) (by decide +kernel) (by decide +kernel) (by decide) (case_coinsSpent hT hX hk hn hI nx)
  | 13, _ => exact s_tableIn (tgt := 677) (off := 637) d_sw (by decide +kernel) (by decide +kernel) (by decide +kernel) (by decide) (case_nightNumber hT hX hk hn hI nx)
  | 14, _ => exact s_tableIn (tgt := 690) (off := 650) d_sw (by decide +kernel) (by decide +kernel) (by decide +kernel) (by decide) (case_ghostMoves hT hX hk hn hI nx)
  | 15, _ => exact s_tableIn (tgt := 703) (off := 663) d_sw (by decide +kernel) (by decide +kernel) (by decide +kernel) (by decide) (case_roomCount hT hX hk hn hI nx)
  | 16, _ => exact s_tableIn (tgt := 716) (off := 676) d_sw (by decide +kernel) (by decide +kernel) (by decide +kernel) (by decide) (case_doorCount hT hX hk hn hI nx)
  | 17, _ => exact s_tableIn (tgt := 729) (off := 689) d_sw (by decide +kernel) (by decide +kernel) (by decide +kernel) (by decide) (case_ghostRoom hT hX hk hn hI nx)
  | 18, _ => exact s_tableIn (tgt := 742) (off := 702) d_sw (by decide +kernel) (by decide +kernel) (by decide +kernel) (by decide) (case_possibleRooms hT hX hk hn hI nx)
  | 19, _ => exact s_tableIn (tgt := 755) (off := 715) d_sw (by decide +kernel) (by decide +kernel) (by decide +kernel) (by decide) (case_nameByte hT hX hk hn hI nx)
  | 20, _ => exact s_tableIn (tgt := 823) (off := 783) d_sw (by decide +kernel) (by decide +kernel) (by decide +kernel) (by decide) (case_findRoom hT hX hk hn hI nx)
  | 21, _ => exact s_tableIn (tgt := 836) (off := 796) d_sw (by decide +kernel) (by decide +kernel) (by decide +kernel) (by decide) (case_coldness hT hX hk hn hI nx)
  | 22, _ => exact s_tableIn (tgt := 892) (off := 852) d_sw (by decide +kernel) (by decide +kernel) (by decide +kernel) (by decide) (case_hasThermometer hT hX hk hn hI nx)
  | 23, _ => exact s_tableIn (tgt := 955) (off := 915) d_sw (by decide +kernel) (by decide +kernel) (by decide +kernel) (by decide) (case_hasMicrophone hT hX hk hn hI nx)
  | 24, _ => exact s_tableIn (tgt := 1018) (off := 978) d_sw (by decide +kernel) (by decide +kernel) (by decide +kernel) (by decide) (case_neighbors hT hX hk hn hI nx)
  | 25, _ => exact s_tableIn (tgt := 1074) (off := 1034) d_sw (by decide +kernel) (by decide +kernel) (by decide +kernel) (by decide) (case_roomByColdness hT hX hk hn hI nx)
  | 26, _ => exact s_tableIn (tgt := 1099) (off := 1059) d_sw (by decide +kernel) (by decide +kernel) (by decide +kernel) (by decide) (case_lowRoom hT hX hk hn hI nx)
  | 27, _ => exact s_tableIn (tgt := 1155) (off := 1115) d_sw (by decide +kernel) (by decide +kernel) (by decide +kernel) (by decide) (case_highRoom hT hX hk hn hI nx)
  | 28, _ => exact s_tableIn (tgt := 1211) (off := 1171) d_sw (by decide +kernel) (by decide +kernel) (by decide +kernel) (by decide) (case_noise hT hX hk hn hI nx)
  | 29, _ => exact s_tableIn (tgt := 1267) (off := 1227) d_sw (by decide +kernel) (by decide +kernel) (by decide +kernel) (by decide) (case_isOpen hT hX hk hn hI nx)
  | 30, _ => exact s_tableIn (tgt := 1330) (off := 1290) d_sw (by decide +kernel) (by decide +kernel) (by decide +kernel) (by decide) (case_isMonitored hT hX hk hn hI nx)
  | 31, _ => exact s_tableIn (tgt := 1393) (off := 1353) d_sw (by decide +kernel) (by decide +kernel) (by decide +kernel) (by decide) (case_doorBetween hT hX hk hn hI nx)
  | 32, _ => exact s_tableIn (tgt := 1461) (off := 1421) d_sw (by decide +kernel) (by decide +kernel) (by decide +kernel) (by decide) (case_quietestPath hT hX hk hn hI nx)
  | 33, _ => exact s_tableIn (tgt := 1529) (off := 1489) d_sw (by decide +kernel) (by decide +kernel) (by decide +kernel) (by decide) (case_exclusionReason hT hX hk hn hI nx)
  | 34, _ => exact s_tableIn (tgt := 1585) (off := 1545) d_sw (by decide +kernel) (by decide +kernel) (by decide +kernel) (by decide) (case_exclusionEvidence hT hX hk hn hI nx)
  | 35, _ => exact s_tableIn (tgt := 1641) (off := 1601) d_sw (by decide +kernel) (by decide +kernel) (by decide +kernel) (by decide) (case_exclusionSource hT hX hk hn hI nx)
  | 36, _ => exact s_tableIn (tgt := 1697) (off := 1657) d_sw (by decide +kernel) (by decide +kernel) (by decide +kernel) (by decide) (case_violations hT hX hk hn hI nx)
  | 37, _ => exact s_tableIn (tgt := 1710) (off := 1670) d_sw (by decide +kernel) (by decide +kernel) (by decide +kernel) (by decide) (case_meanColdness hT hX hk hn hI nx)
  | 38, _ => exact s_tableIn (tgt := 1751) (off := 1711) d_sw (by decide +kernel) (by decide +kernel) (by decide +kernel) (by decide) (case_possibleFraction hT hX hk hn hI nx)
  | 39, _ => exact s_tableIn (tgt := 1794) (off := 1754) d_sw (by decide +kernel) (by decide +kernel) (by decide +kernel) (by decide) (case_ghostRoomAfter hT hX hk hn hI nx)
  | 40, _ => exact s_tableIn (tgt := 1850) (off := 1810) d_sw (by decide +kernel) (by decide +kernel) (by decide +kernel) (by decide) (case_possibleRoomsAfter hT hX hk hn hI nx)
  | 41, _ => exact s_tableIn (tgt := 1906) (off := 1866) d_sw (by decide +kernel) (by decide +kernel) (by decide +kernel) (by decide) (case_nightsUntilKnown hT hX hk hn hI nx)
  | 42, _ => exact s_tableIn (tgt := 1919) (off := 1879) d_sw (by decide +kernel) (by decide +kernel) (by decide +kernel) (by decide) (case_bestThermometerRoom hT hX hk hn hI nx)
  | 43, _ => exact s_tableIn (tgt := 1932) (off := 1892) d_sw (by decide +kernel) (by decide +kernel) (by decide +kernel) (by decide) (case_calmestMode hT hX hk hn hI nx)
  | 44, _ => exact s_tableIn (tgt := 1945) (off := 1905) d_sw (by decide +kernel) (by decide +kernel) (by decide +kernel) (by decide) (case_mostImportantDoor hT hX hk hn hI nx)
  | 45, _ => exact s_tableIn (tgt := 1958) (off := 1918) d_sw (by decide +kernel) (by decide +kernel) (by decide +kernel) (by decide) (case_addRoom hT hX hk hn hI nx)
  | 46, _ => exact s_tableIn (tgt := 2014) (off := 1974) d_sw (by decide +kernel) (by decide +kernel) (by decide +kernel) (by decide) (case_addDoor hT hX hk hn hI nx)
  | 47, _ => exact s_tableIn (tgt := 2094) (off := 2054) d_sw (by decide +kernel) (by decide +kernel) (by decide +kernel) (by decide) (case_setDoorOpen hT hX hk hn hI nx)
  | 48, _ => exact s_tableIn (tgt := 2178) (off := 2138) d_sw (by decide +kernel) (by decide +kernel) (by decide +kernel) (by decide) (case_setThermometer hT hX hk hn hI nx)
  | 49, _ => exact s_tableIn (tgt := 2262) (off := 2222) d_sw (by decide +kernel) (by decide +kernel) (by decide +kernel) (by decide) (case_setMicrophone hT hX hk hn hI nx)
  | 50, _ => exact s_tableIn (tgt := 2346) (off := 2306) d_sw (by decide +kernel) (by decide +kernel) (by decide +kernel) (by decide) (case_warm hT hX hk hn hI nx)
  | 51, _ => exact s_tableIn (tgt := 2414) (off := 2374) d_sw (by decide +kernel) (by decide +kernel) (by decide +kernel) (by decide) (case_passNights hT hX hk hn hI nx)
  | 52, _ => exact s_tableIn (tgt := 2470) (off := 2430) d_sw (by decide +kernel) (by decide +kernel) (by decide +kernel) (by decide) (case_holdSeance hT hX hk hn hI nx)
  | 53, _ => exact s_tableIn (tgt := 2533) (off := 2493) d_sw (by decide +kernel) (by decide +kernel) (by decide +kernel) (by decide) (case_earnCoins hT hX hk hn hI nx)
  | 54, _ => exact s_tableIn (tgt := 2589) (off := 2549) d_sw (by decide +kernel) (by decide +kernel) (by decide +kernel) (by decide) (case_setMode hT hX hk hn hI nx)
  | 55, _ => exact s_tableIn (tgt := 2645) (off := 2605) d_sw (by decide +kernel) (by decide +kernel) (by decide +kernel) (by decide) (case_setChill hT hX hk hn hI nx)
  | 56, _ => exact s_tableIn (tgt := 2701) (off := 2661) d_sw (by decide +kernel) (by decide +kernel) (by decide +kernel) (by decide) (case_setHearingThreshold hT hX hk hn hI nx)
  | 57, _ => exact s_tableIn (tgt := 2757) (off := 2717) d_sw (by decide +kernel) (by decide +kernel) (by decide +kernel) (by decide) (case_setSeancePrice hT hX hk hn hI nx)
  | 58, _ => exact s_tableIn (tgt := 2813) (off := 2773) d_sw (by decide +kernel) (by decide +kernel) (by decide +kernel) (by decide) (case_setRandomState hT hX hk hn hI nx)
  | 59, _ => exact s_tableIn (tgt := 2869) (off := 2829) d_sw (by decide +kernel) (by decide +kernel) (by decide +kernel) (by decide) (case_undo hT hX hk hn hI nx)
  | 60, _ => exact s_tableIn (tgt := 2913) (off := 2873) d_sw (by decide +kernel) (by decide +kernel) (by decide +kernel) (by decide) (case_printReport hT hX hk hn hI nx)
  | 61, _ => exact s_tableIn (tgt := 2926) (off := 2886) d_sw (by decide +kernel) (by decide +kernel) (by decide +kernel) (by decide) (case_outputByte hT hX hk hn hI nx)
  | 62, _ => exact s_tableIn (tgt := 2982) (off := 2942) d_sw (by decide +kernel) (by decide +kernel) (by decide +kernel) (by decide) (case_saveState hT hX hk hn hI nx)
  | 63, _ => exact s_tableIn (tgt := 2995) (off := 2955) d_sw (by decide +kernel) (by decide +kernel) (by decide +kernel) (by decide) (case_restoreState hT hX hk hn hI nx)
  | c + 64, h => omega
theorem law_loop (hX : (gX G).2.1 ≤ 3072) (hq : ∀ h o, Q (.inl (some (.int 1))) h o) : ∀ (d t : Nat) (K : KT) (M : MT) (f : Nat → Int64) (o : Option Nat), t + d = 513 → INV K M → EX G m_L_law 23 (LW4 G z t) [] (hL z K M f) o (400 + 45 * t) (90000 + 280 * t) Q := by
  intro d
  induction d with
  | zero =>
    intro t K M f o ht hI
    refine s_iload (z := 4) (x := nI (6 * t)) (by decide +kernel) rfl ?_
    refine s_aload_n (z := 0) (x := (gX G).1) (by decide +kernel) rfl ?_
    refine s_slen (by decide +kernel) ?_
    refine s_bipush (v := 6) (z := 6) (by decide +kernel) (by decide) ?_
    refine s_isub (by decide +kernel) ?_
    refine s_icmp_gt (off := 3015) (tgt := 3045) (by decide +kernel) (by decide) (fun _ => law_end hq (by omega) (by omega)) (fun y => absurd (len_lt hX (by omega) (by omega)) y)
  | succ d ih =>
    intro t K M f o ht hI
    refine s_iload (z := 4) (x := nI (6 * t)) (by decide +kernel) rfl ?_
    refine s_aload_n (z := 0) (x := (gX G).1) (by decide +kernel) rfl ?_
    refine s_slen (by decide +kernel) ?_
    refine s_bipush (v := 6) (z := 6) (by decide +kernel) (by decide) ?_
    refine s_isub (by decide +kernel) ?_
    refine s_icmp_gt (off := 3015) (tgt := 3045) (by decide +kernel) (by decide) (fun _ => law_end hq (by omega) (by omega)) (fun y => ?_)
    by_cases hT : 6 * t + 6 ≤ (gX G).2.1
    rotate_left
    · exact absurd (len_lt hX (by omega) (by omega)) y
    refine s_aload_n (z := 0) (x := (gX G).1) (by decide +kernel) rfl ?_
    refine s_iload (z := 4) (x := nI (6 * t)) (by decide +kernel) rfl ?_
    refine s_sld (by decide +kernel) (vp_in_nI (by omega) (by omega)) ?_
    refine s_bipush (v := 63) (z := 63) (by decide +kernel) (by decide) ?_
    refine s_iand (by decide +kernel) ?_
    obtain ⟨c, hc, ec⟩ := and63 ((gX G).2.2 (nI (6 * t)).toNatClampNeg)
    rw [ec]
    refine law_sw hc hT hX (by omega) (by omega) hI (fun K2 M2 g o2 hI2 => ?_)
    refine s_iinc (z := 4) (dlt := 6) (x := nI (6 * t)) (by decide +kernel) rfl (by decide +kernel) ?_
    refine s_goto (off := -3019) (tgt := 23) (by decide +kernel) (by decide) ?_
    have e : stL1 (LW4 G z t) 4 (.int (nI (6 * t) + Int32.ofInt 6)) = LW4 G z (t + 1) := by
      have e1 : nI (6 * t) + Int32.ofInt 6 = nI (6 * (t + 1)) := nI_add (6 * t) 6
      rw [e1]
      rfl
    rw [e]
    exact EX.widen (by omega) (by omega) (ih (t + 1) K2 M2 g o2 (by omega) hI2)
end LO
