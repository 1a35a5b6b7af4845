/-! d2: questions: class and reference answer alike -/
set_option maxRecDepth 8000
theorem INV_Cd {K : KT} {M : MT} {c : Int32} (hI : INV K M) : INV K (c, M.2.1, M.2.2.1, M.2.2.2.1, M.2.2.2.2.1, M.2.2.2.2.2.1, M.2.2.2.2.2.2.1, M.2.2.2.2.2.2.2.1, M.2.2.2.2.2.2.2.2.1, M.2.2.2.2.2.2.2.2.2.1, M.2.2.2.2.2.2.2.2.2.2.1, M.2.2.2.2.2.2.2.2.2.2.2.1, M.2.2.2.2.2.2.2.2.2.2.2.2.1, M.2.2.2.2.2.2.2.2.2.2.2.2.2.1, M.2.2.2.2.2.2.2.2.2.2.2.2.2.2.1, M.2.2.2.2.2.2.2.2.2.2.2.2.2.2.2.1, M.2.2.2.2.2.2.2.2.2.2.2.2.2.2.2.2.1, M.2.2.2.2.2.2.2.2.2.2.2.2.2.2.2.2.2.1, M.2.2.2.2.2.2.2.2.2.2.2.2.2.2.2.2.2.2.1, M.2.2.2.2.2.2.2.2.2.2.2.2.2.2.2.2.2.2.2.1, M.2.2.2.2.2.2.2.2.2.2.2.2.2.2.2.2.2.2.2.2.1, M.2.2.2.2.2.2.2.2.2.2.2.2.2.2.2.2.2.2.2.2.2.1, M.2.2.2.2.2.2.2.2.2.2.2.2.2.2.2.2.2.2.2.2.2.2.1, M.2.2.2.2.2.2.2.2.2.2.2.2.2.2.2.2.2.2.2.2.2.2.2.1, M.2.2.2.2.2.2.2.2.2.2.2.2.2.2.2.2.2.2.2.2.2.2.2.2.1, M.2.2.2.2.2.2.2.2.2.2.2.2.2.2.2.2.2.2.2.2.2.2.2.2.2.1, M.2.2.2.2.2.2.2.2.2.2.2.2.2.2.2.2.2.2.2.2.2.2.2.2.2.2.1, M.2.2.2.2.2.2.2.2.2.2.2.2.2.2.2.2.2.2.2.2.2.2.2.2.2.2.2.1, M.2.2.2.2.2.2.2.2.2.2.2.2.2.2.2.2.2.2.2.2.2.2.2.2.2.2.2.2.1, M.2.2.2.2.2.2.2.2.2.2.2.2.2.2.2.2.2.2.2.2.2.2.2.2.2.2.2.2.2.1, M.2.2.2.2.2.2.2.2.2.2.2.2.2.2.2.2.2.2.2.2.2.2.2.2.2.2.2.2.2.2.1, M.2.2.2.2.2.2.2.2.2.2.2.2.2.2.2.2.2.2.2.2.2.2.2.2.2.2.2.2.2.2.2.1, M.2.2.2.2.2.2.2.2.2.2.2.2.2.2.2.2.2.2.2.2.2.2.2.2.2.2.2.2.2.2.2.2.1, M.2.2.2.2.2.2.2.2.2.2.2.2.2.2.2.2.2.2.2.2.2.2.2.2.2.2.2.2.2.2.2.2.2.1, M.2.2.2.2.2.2.2.2.2.2.2.2.2.2.2.2.2.2.2.2.2.2.2.2.2.2.2.2.2.2.2.2.2.2) := hI
theorem gh_T {U : HT} {s : Nat → Int32} (h : CPL U s) : (if s 9 = 0 then (-1 : Int32) else s 11) = U.2.2.2.2.2.2.2.2.2.2.2.2.2.2.2.1 := by
  have h12 := h.1.1.2.2.1
  by_cases c : U.2.2.2.2.2.2.2.2.2.1 = 0
  · rw [if_pos (by rw [h.1.1.1, c]; rfl)]
    exact (h.2.2.2.1.1 c).1.symm
  · rw [if_neg (fun y => c ((nI_z (by omega)).mp (h.1.1.1.symm.trans y)))]
    exact (h.2.2.2.1.2 (by omega)).1.symm
theorem fr_T {U : HT} {s : Nat → Int32} {x y : Int64} (h : CPL U s) (hn : NAM x y) : (if y = 0 then (-1 : Int32) else nmd s y) = fnd U x := by
  rcases hn with ⟨rfl, rfl⟩ | ⟨h1, h2, h3⟩
  · rw [if_pos rfl, fnd_0 h]
  · rw [if_neg h3]
    exact nmd_fnd h h1
theorem dfJ_0 {p q : Nat → Nat → Int32} {i n : Nat} {c : Int32} (h : ∀ i j, i < n → j < n → p i j = q i j) (hi : i < n) : ∀ k, i + 1 + k ≤ n → dfJ p q i c k = c := by
  intro k
  induction k with
  | zero => intro _; rfl
  | succ k ih =>
    intro hk
    rw [dfJ, if_pos (h i (i + 1 + k) hi (by omega))]
    exact ih (by omega)
theorem dfA_0 {p q : Nat → Nat → Int32} {n : Nat} {c : Int32} (h : ∀ i j, i < n → j < n → p i j = q i j) : ∀ i, i ≤ n → dfA p q n c i = c := by
  intro i
  induction i with
  | zero => intro _; rfl
  | succ i ih =>
    intro hi
    rw [dfA, ih (by omega)]
    exact dfJ_0 h (by omega) _ (by omega)
theorem vi_T {U : HT} {s : Nat → Int32} (h : CPL U s) (f : Nat → Int32) : vc0 U = viT U (msT U U.2.2.2.2.2.2.2.2.2.2.2.1 f) := by
  unfold viT
  refine (dfA_0 (fun i j hi hj => ?_) _ (Nat.le_refl _)).symm
  show ptP _ i j = ptP _ j i
  rw [pt_C h _ _ hi hj, pt_C h _ _ hj hi, (DD_p h _).2]
theorem inT {p : Prop} [Decidable p] {b : Bool} (h : b = !decide p) (c : p) : b = false := h.trans (by simp [c])
theorem inN {p : Prop} [Decidable p] {b : Bool} (h : b = !decide p) (c : ¬ p) : b = true := h.trans (by simp [c])
theorem nI_nng {k : Nat} (hk : k < 2 ^ 31) : ¬ nI k < 0 := fun y => by
  have := (nI_ltI (b := 0) hk (by decide)).mp y
  omega
def GQd (z : Nat) (M : MT) (f : Nat → Int64) (R : RUL) : XQ := fun u h _ => ∃ K2, h = hL z K2 M f ∧ match u with
  | .inl (some (.double v)) => ∀ g o2, R (hL z K2 M g) o2 (MQv z K2 g (.double v))
  | _ => False
def GQf (z : Nat) (M : MT) (f : Nat → Int64) (R : RUL) : XQ := fun u h _ => ∃ K2, h = hL z K2 M f ∧ match u with
  | .inl (some (.float v)) => vf_n64 (FP.f2d v) ∧ ∀ g o2, R (hL z K2 M g) o2 (MQv z K2 g (.float v))
  | _ => False
theorem ff_dec : (List.range 13).all (fun a => (List.range 12).all fun b => decide ((FP.f2d (FP.fdiv (FP.i2f (nI a)) (FP.i2f (nI (b + 1))))) &&& 0x7fffffffffffffff ≤ 0x7ff0000000000000)) = true := by decide +kernel
theorem ff_ok {a b : Nat} (ha : a ≤ 12) (hb : 1 ≤ b) (hb2 : b ≤ 12) : vf_n64 (FP.f2d (FP.fdiv (FP.i2f (nI a)) (FP.i2f (nI b)))) := by
  have h1 := List.all_eq_true.mp ff_dec a (List.mem_range.mpr (by omega))
  have h2 := List.all_eq_true.mp h1 (b - 1) (List.mem_range.mpr (by omega))
  have e : b - 1 + 1 = b := by omega
  rw [e] at h2
  have h3 := of_decide_eq_true h2
  exact h3
theorem f0_ok : vf_n64 (FP.f2d FP.fconst0) := by
  unfold vf_n64
  decide +kernel
theorem ffr_ok {U : HT} {s : Nat → Int32} (h : CPL U s) (h0 : ¬ U.2.2.2.2.2.2.2.2.2.1 = 0) : vf_n64 (FP.f2d (FP.fdiv (FP.i2f (bcF U.2.2.2.2.2.2.2.2.2.2.2.2.2.2.1)) (FP.i2f (nI U.2.2.2.2.2.2.2.2.2.1)))) := by
  obtain ⟨a, ha, e⟩ := bc_12 h
  rw [e]
  exact ff_ok ha (by omega) h.1.1.2.2.1
section AG
variable {z : Nat} {K : KT} {M : MT} {f : Nat → Int64} {o : Option Nat}
theorem mqw {g : Nat → Int64} {M2 : MT} {v w : Value} (hI : INV K M2) (e0 : M2.1 = 0) (ev : w = v) : MQv z K g v (.inl (some w)) (hM (hL z K M g) (z + 207) M2) o := ⟨M2, hL_M, by rw [ev], e0, hI⟩
theorem gqd {R : RUL} {v : UInt64} (h : ∀ g o2, R (hL z K M g) o2 (MQv z K g (.double v))) : GQd z M f R (.inl (some (.double v))) (hL z K M f) o := ⟨K, rfl, h⟩
theorem gqf {R : RUL} {v : UInt32} (hv : vf_n64 (FP.f2d v)) (h : ∀ g o2, R (hL z K M g) o2 (MQv z K g (.float v))) : GQf z M f R (.inl (some (.float v))) (hL z K M f) o := ⟨K, rfl, hv, h⟩
theorem ag_errorCode (hI : INV K M) : rx_G_errorCode [.ref z] (hL z K M f) o (GQ [] z M f fun h o Q => rx_M_errorCode [.ref (z + 207)] h o Q) := by
  obtain ⟨⟨ok, zh, zd, zs, hz⟩, hC, ⟨a, b, ⟨ha, hb⟩, ⟨eO, eC, eU⟩, hR⟩, hs, ⟨eB, hB, f0, hf, eK, eF⟩, ⟨et, ep⟩, n0, hn0, en1, en2, en3⟩ := id hI
  obtain ⟨hg, hse, ⟨hcs, hnn, hgm⟩, hgh, hrm, hmk, hsb⟩ := id hC
  have hW := geo_RW hg
  have hr := (geo_n hg).1
  have hd := (geo_n hg).2
  have h12 := hg.1.2.2.1
  have h24 := hg.1.2.2.2
  exact gx ok (gqv0 fun g o2 => mx (mqv (INV_Cd hI) rfl (et.symm)))
theorem ag_errorOffset (hI : INV K M) : rx_G_errorOffset [.ref z] (hL z K M f) o (GQ [] z M f fun h o Q => rx_M_errorOffset [.ref (z + 207)] h o Q) := by
  obtain ⟨⟨ok, zh, zd, zs, hz⟩, hC, ⟨a, b, ⟨ha, hb⟩, ⟨eO, eC, eU⟩, hR⟩, hs, ⟨eB, hB, f0, hf, eK, eF⟩, ⟨et, ep⟩, n0, hn0, en1, en2, en3⟩ := id hI
  obtain ⟨hg, hse, ⟨hcs, hnn, hgm⟩, hgh, hrm, hmk, hsb⟩ := id hC
  have hW := geo_RW hg
  have hr := (geo_n hg).1
  have hd := (geo_n hg).2
  have h12 := hg.1.2.2.1
  have h24 := hg.1.2.2.2
  exact gx ok (gqv0 fun g o2 => mx (mqv (INV_Cd hI) rfl (ep.symm)))
theorem ag_mode (hI : INV K M) : rx_G_mode [.ref z] (hL z K M f) o (GQ [] z M f fun h o Q => rx_M_mode [.ref (z + 207)] h o Q) := by
  obtain ⟨⟨ok, zh, zd, zs, hz⟩, hC, ⟨a, b, ⟨ha, hb⟩, ⟨eO, eC, eU⟩, hR⟩, hs, ⟨eB, hB, f0, hf, eK, eF⟩, ⟨et, ep⟩, n0, hn0, en1, en2, en3⟩ := id hI
  obtain ⟨hg, hse, ⟨hcs, hnn, hgm⟩, hgh, hrm, hmk, hsb⟩ := id hC
  have hW := geo_RW hg
  have hr := (geo_n hg).1
  have hd := (geo_n hg).2
  have h12 := hg.1.2.2.1
  have h24 := hg.1.2.2.2
  exact gx ok (gqv0 fun g o2 => mx (mqv (INV_Cd hI) rfl ((hse 0 (by decide)).symm)))
theorem ag_chill (hI : INV K M) : rx_G_chill [.ref z] (hL z K M f) o (GQ [] z M f fun h o Q => rx_M_chill [.ref (z + 207)] h o Q) := by
  obtain ⟨⟨ok, zh, zd, zs, hz⟩, hC, ⟨a, b, ⟨ha, hb⟩, ⟨eO, eC, eU⟩, hR⟩, hs, ⟨eB, hB, f0, hf, eK, eF⟩, ⟨et, ep⟩, n0, hn0, en1, en2, en3⟩ := id hI
  obtain ⟨hg, hse, ⟨hcs, hnn, hgm⟩, hgh, hrm, hmk, hsb⟩ := id hC
  have hW := geo_RW hg
  have hr := (geo_n hg).1
  have hd := (geo_n hg).2
  have h12 := hg.1.2.2.1
  have h24 := hg.1.2.2.2
  exact gx ok (gqv0 fun g o2 => mx (mqv (INV_Cd hI) rfl ((hse 1 (by decide)).symm)))
theorem ag_hearingThreshold (hI : INV K M) : rx_G_hearingThreshold [.ref z] (hL z K M f) o (GQ [] z M f fun h o Q => rx_M_hearingThreshold [.ref (z + 207)] h o Q) := by
  obtain ⟨⟨ok, zh, zd, zs, hz⟩, hC, ⟨a, b, ⟨ha, hb⟩, ⟨eO, eC, eU⟩, hR⟩, hs, ⟨eB, hB, f0, hf, eK, eF⟩, ⟨et, ep⟩, n0, hn0, en1, en2, en3⟩ := id hI
  obtain ⟨hg, hse, ⟨hcs, hnn, hgm⟩, hgh, hrm, hmk, hsb⟩ := id hC
  have hW := geo_RW hg
  have hr := (geo_n hg).1
  have hd := (geo_n hg).2
  have h12 := hg.1.2.2.1
  have h24 := hg.1.2.2.2
  exact gx ok (gqv0 fun g o2 => mx (mqv (INV_Cd hI) rfl ((hse 2 (by decide)).symm)))
theorem ag_seancePrice (hI : INV K M) : rx_G_seancePrice [.ref z] (hL z K M f) o (GQ [] z M f fun h o Q => rx_M_seancePrice [.ref (z + 207)] h o Q) := by
  obtain ⟨⟨ok, zh, zd, zs, hz⟩, hC, ⟨a, b, ⟨ha, hb⟩, ⟨eO, eC, eU⟩, hR⟩, hs, ⟨eB, hB, f0, hf, eK, eF⟩, ⟨et, ep⟩, n0, hn0, en1, en2, en3⟩ := id hI
  obtain ⟨hg, hse, ⟨hcs, hnn, hgm⟩, hgh, hrm, hmk, hsb⟩ := id hC
  have hW := geo_RW hg
  have hr := (geo_n hg).1
  have hd := (geo_n hg).2
  have h12 := hg.1.2.2.1
  have h24 := hg.1.2.2.2
  exact gx ok (gqv0 fun g o2 => mx (mqv (INV_Cd hI) rfl ((hse 3 (by decide)).symm)))
theorem ag_randomState (hI : INV K M) : rx_G_randomState [.ref z] (hL z K M f) o (GQ [] z M f fun h o Q => rx_M_randomState [.ref (z + 207)] h o Q) := by
  obtain ⟨⟨ok, zh, zd, zs, hz⟩, hC, ⟨a, b, ⟨ha, hb⟩, ⟨eO, eC, eU⟩, hR⟩, hs, ⟨eB, hB, f0, hf, eK, eF⟩, ⟨et, ep⟩, n0, hn0, en1, en2, en3⟩ := id hI
  obtain ⟨hg, hse, ⟨hcs, hnn, hgm⟩, hgh, hrm, hmk, hsb⟩ := id hC
  have hW := geo_RW hg
  have hr := (geo_n hg).1
  have hd := (geo_n hg).2
  have h12 := hg.1.2.2.1
  have h24 := hg.1.2.2.2
  exact gx ok (gqv0 fun g o2 => mx (mqv (INV_Cd hI) rfl ((hse 4 (by decide)).symm)))
theorem ag_coins (hI : INV K M) : rx_G_coins [.ref z] (hL z K M f) o (GQ [] z M f fun h o Q => rx_M_coins [.ref (z + 207)] h o Q) := by
  obtain ⟨⟨ok, zh, zd, zs, hz⟩, hC, ⟨a, b, ⟨ha, hb⟩, ⟨eO, eC, eU⟩, hR⟩, hs, ⟨eB, hB, f0, hf, eK, eF⟩, ⟨et, ep⟩, n0, hn0, en1, en2, en3⟩ := id hI
  obtain ⟨hg, hse, ⟨hcs, hnn, hgm⟩, hgh, hrm, hmk, hsb⟩ := id hC
  have hW := geo_RW hg
  have hr := (geo_n hg).1
  have hd := (geo_n hg).2
  have h12 := hg.1.2.2.1
  have h24 := hg.1.2.2.2
  exact gx ok (gqv0 fun g o2 => mx (mqv (INV_Cd hI) rfl ((hse 5 (by decide)).symm)))
theorem ag_coinsSpent (hI : INV K M) : rx_G_coinsSpent [.ref z] (hL z K M f) o (GQ [] z M f fun h o Q => rx_M_coinsSpent [.ref (z + 207)] h o Q) := by
  obtain ⟨⟨ok, zh, zd, zs, hz⟩, hC, ⟨a, b, ⟨ha, hb⟩, ⟨eO, eC, eU⟩, hR⟩, hs, ⟨eB, hB, f0, hf, eK, eF⟩, ⟨et, ep⟩, n0, hn0, en1, en2, en3⟩ := id hI
  obtain ⟨hg, hse, ⟨hcs, hnn, hgm⟩, hgh, hrm, hmk, hsb⟩ := id hC
  have hW := geo_RW hg
  have hr := (geo_n hg).1
  have hd := (geo_n hg).2
  have h12 := hg.1.2.2.1
  have h24 := hg.1.2.2.2
  exact gx ok (gqv0 fun g o2 => mx (mqv (INV_Cd hI) rfl (hcs.symm)))
theorem ag_nightNumber (hI : INV K M) : rx_G_nightNumber [.ref z] (hL z K M f) o (GQ [] z M f fun h o Q => rx_M_nightNumber [.ref (z + 207)] h o Q) := by
  obtain ⟨⟨ok, zh, zd, zs, hz⟩, hC, ⟨a, b, ⟨ha, hb⟩, ⟨eO, eC, eU⟩, hR⟩, hs, ⟨eB, hB, f0, hf, eK, eF⟩, ⟨et, ep⟩, n0, hn0, en1, en2, en3⟩ := id hI
  obtain ⟨hg, hse, ⟨hcs, hnn, hgm⟩, hgh, hrm, hmk, hsb⟩ := id hC
  have hW := geo_RW hg
  have hr := (geo_n hg).1
  have hd := (geo_n hg).2
  have h12 := hg.1.2.2.1
  have h24 := hg.1.2.2.2
  exact gx ok (gqv0 fun g o2 => mx (mqv (INV_Cd hI) rfl (hnn.symm)))
theorem ag_ghostMoves (hI : INV K M) : rx_G_ghostMoves [.ref z] (hL z K M f) o (GQ [] z M f fun h o Q => rx_M_ghostMoves [.ref (z + 207)] h o Q) := by
  obtain ⟨⟨ok, zh, zd, zs, hz⟩, hC, ⟨a, b, ⟨ha, hb⟩, ⟨eO, eC, eU⟩, hR⟩, hs, ⟨eB, hB, f0, hf, eK, eF⟩, ⟨et, ep⟩, n0, hn0, en1, en2, en3⟩ := id hI
  obtain ⟨hg, hse, ⟨hcs, hnn, hgm⟩, hgh, hrm, hmk, hsb⟩ := id hC
  have hW := geo_RW hg
  have hr := (geo_n hg).1
  have hd := (geo_n hg).2
  have h12 := hg.1.2.2.1
  have h24 := hg.1.2.2.2
  exact gx ok (gqv0 fun g o2 => mx (mqv (INV_Cd hI) rfl (hgm.symm)))
theorem ag_roomCount (hI : INV K M) : rx_G_roomCount [.ref z] (hL z K M f) o (GQ [] z M f fun h o Q => rx_M_roomCount [.ref (z + 207)] h o Q) := by
  obtain ⟨⟨ok, zh, zd, zs, hz⟩, hC, ⟨a, b, ⟨ha, hb⟩, ⟨eO, eC, eU⟩, hR⟩, hs, ⟨eB, hB, f0, hf, eK, eF⟩, ⟨et, ep⟩, n0, hn0, en1, en2, en3⟩ := id hI
  obtain ⟨hg, hse, ⟨hcs, hnn, hgm⟩, hgh, hrm, hmk, hsb⟩ := id hC
  have hW := geo_RW hg
  have hr := (geo_n hg).1
  have hd := (geo_n hg).2
  have h12 := hg.1.2.2.1
  have h24 := hg.1.2.2.2
  exact gx ok (gqv0 fun g o2 => mx (mqv (INV_Cd hI) rfl (hg.1.1)))
theorem ag_doorCount (hI : INV K M) : rx_G_doorCount [.ref z] (hL z K M f) o (GQ [] z M f fun h o Q => rx_M_doorCount [.ref (z + 207)] h o Q) := by
  obtain ⟨⟨ok, zh, zd, zs, hz⟩, hC, ⟨a, b, ⟨ha, hb⟩, ⟨eO, eC, eU⟩, hR⟩, hs, ⟨eB, hB, f0, hf, eK, eF⟩, ⟨et, ep⟩, n0, hn0, en1, en2, en3⟩ := id hI
  obtain ⟨hg, hse, ⟨hcs, hnn, hgm⟩, hgh, hrm, hmk, hsb⟩ := id hC
  have hW := geo_RW hg
  have hr := (geo_n hg).1
  have hd := (geo_n hg).2
  have h12 := hg.1.2.2.1
  have h24 := hg.1.2.2.2
  exact gx ok (gqv0 fun g o2 => mx (mqv (INV_Cd hI) rfl (hg.1.2.1)))
theorem ag_ghostRoom (hI : INV K M) : rx_G_ghostRoom [.ref z] (hL z K M f) o (GQ [] z M f fun h o Q => rx_M_ghostRoom [.ref (z + 207)] h o Q) := by
  obtain ⟨⟨ok, zh, zd, zs, hz⟩, hC, ⟨a, b, ⟨ha, hb⟩, ⟨eO, eC, eU⟩, hR⟩, hs, ⟨eB, hB, f0, hf, eK, eF⟩, ⟨et, ep⟩, n0, hn0, en1, en2, en3⟩ := id hI
  obtain ⟨hg, hse, ⟨hcs, hnn, hgm⟩, hgh, hrm, hmk, hsb⟩ := id hC
  have hW := geo_RW hg
  have hr := (geo_n hg).1
  have hd := (geo_n hg).2
  have h12 := hg.1.2.2.1
  have h24 := hg.1.2.2.2
  exact gx ok (gqv0 fun g o2 => mx (mqv (INV_Cd hI) rfl (gh_T hC)))
theorem ag_possibleRooms (hI : INV K M) : rx_G_possibleRooms [.ref z] (hL z K M f) o (GQ [] z M f fun h o Q => rx_M_possibleRooms [.ref (z + 207)] h o Q) := by
  obtain ⟨⟨ok, zh, zd, zs, hz⟩, hC, ⟨a, b, ⟨ha, hb⟩, ⟨eO, eC, eU⟩, hR⟩, hs, ⟨eB, hB, f0, hf, eK, eF⟩, ⟨et, ep⟩, n0, hn0, en1, en2, en3⟩ := id hI
  obtain ⟨hg, hse, ⟨hcs, hnn, hgm⟩, hgh, hrm, hmk, hsb⟩ := id hC
  have hW := geo_RW hg
  have hr := (geo_n hg).1
  have hd := (geo_n hg).2
  have h12 := hg.1.2.2.1
  have h24 := hg.1.2.2.2
  exact gx ok (gqv0 fun g o2 => mx (⟨hW, mqv (INV_Cd hI) rfl (po_S hC)⟩))
theorem ag_findRoom (hI : INV K M) : rx_G_findRoom [.ref z] (hL z K M f) o (GQ [] z M f fun h o Q => rx_M_findRoom [.ref (z + 207)] h o Q) := by
  obtain ⟨⟨ok, zh, zd, zs, hz⟩, hC, ⟨a, b, ⟨ha, hb⟩, ⟨eO, eC, eU⟩, hR⟩, hs, ⟨eB, hB, f0, hf, eK, eF⟩, ⟨et, ep⟩, n0, hn0, en1, en2, en3⟩ := id hI
  obtain ⟨hg, hse, ⟨hcs, hnn, hgm⟩, hgh, hrm, hmk, hsb⟩ := id hC
  have hW := geo_RW hg
  have hr := (geo_n hg).1
  have hd := (geo_n hg).2
  have h12 := hg.1.2.2.1
  have h24 := hg.1.2.2.2
  have ev : (if bfN M.2.1 f0 = 0 then (-1 : Int32) else nmd M.2.2.2.2.2.2.2.2.2.2.2.2.2.1 (bfN M.2.1 f0)) = fnd K.2.2.1 (wnC K.2.2.2.2.2.2.2.2.2.2.1 f0) := by
    rw [eB]
    exact fr_T hC (NAM_buf _ _ hf)
  exact gx ok ⟨f0, ⟨hf, eK⟩, gqv0 fun g o2 => mx ⟨f0, ⟨hW, hf, eF⟩, mqv (INV_Cd hI) rfl ev⟩⟩
theorem ag_roomByColdness {x : Int32} (hI : INV K M) : rx_G_roomByColdness [.ref z, .int x] (hL z K M f) o (GQ [] z M f fun h o Q => rx_M_roomByColdness [.ref (z + 207), .int x] h o Q) := by
  obtain ⟨⟨ok, zh, zd, zs, hz⟩, hC, ⟨a, b, ⟨ha, hb⟩, ⟨eO, eC, eU⟩, hR⟩, hs, ⟨eB, hB, f0, hf, eK, eF⟩, ⟨et, ep⟩, n0, hn0, en1, en2, en3⟩ := id hI
  obtain ⟨hg, hse, ⟨hcs, hnn, hgm⟩, hgh, hrm, hmk, hsb⟩ := id hC
  have hW := geo_RW hg
  have hr := (geo_n hg).1
  have hd := (geo_n hg).2
  have h12 := hg.1.2.2.1
  have h24 := hg.1.2.2.2
  exact gx ok (gqv0 fun g o2 => mx (⟨hW, mqv (INV_Cd hI) rfl (wrk_T hC x)⟩))
theorem ag_nameByte {i j9 : Int32} (hI : INV K M) : rx_G_nameByte [.ref z, .int i, .int j9] (hL z K M f) o (GQ [(2, 1)] z M f fun h o Q => rx_M_nameByte [.ref (z + 207), .int i, .int j9] h o Q) := by
  obtain ⟨⟨ok, zh, zd, zs, hz⟩, hC, ⟨a, b, ⟨ha, hb⟩, ⟨eO, eC, eU⟩, hR⟩, hs, ⟨eB, hB, f0, hf, eK, eF⟩, ⟨et, ep⟩, n0, hn0, en1, en2, en3⟩ := id hI
  obtain ⟨hg, hse, ⟨hcs, hnn, hgm⟩, hgh, hrm, hmk, hsb⟩ := id hC
  have hW := geo_RW hg
  have hr := (geo_n hg).1
  have hd := (geo_n hg).2
  have h12 := hg.1.2.2.1
  have h24 := hg.1.2.2.2
  refine gx ok ⟨fun c => gqx0 2 1 (by simp) fun g o2 => mx ⟨hW, fun _ => mqx (INV_Cd hI) rfl, fun k hk e => (in_no c (Nat.lt_of_lt_of_eq hk hr) (by omega) e).elim⟩, fun k hk e => gqv0 fun g o2 => mx ⟨hW, fun c => (in_no c (Nat.lt_of_lt_of_eq hk hr.symm) (by omega) e).elim, fun j hj e2 => ?_⟩⟩
  have hj2 := Nat.lt_of_lt_of_eq hj hr
  have ej := in_eq (show k < 700 by omega) (show j < 700 by omega) e e2
  rw [ej]
  obtain ⟨n, -, hn1, -, -, hn2⟩ := NMB_of (hrm k hk).2.2.2.2.2.2.2.2
  exact ⟨n, hn1, mqv (INV_Cd hI) rfl (hn2 _)⟩
theorem ag_coldness {i : Int32} (hI : INV K M) : rx_G_coldness [.ref z, .int i] (hL z K M f) o (GQ [(2, 1)] z M f fun h o Q => rx_M_coldness [.ref (z + 207), .int i] h o Q) := by
  obtain ⟨⟨ok, zh, zd, zs, hz⟩, hC, ⟨a, b, ⟨ha, hb⟩, ⟨eO, eC, eU⟩, hR⟩, hs, ⟨eB, hB, f0, hf, eK, eF⟩, ⟨et, ep⟩, n0, hn0, en1, en2, en3⟩ := id hI
  obtain ⟨hg, hse, ⟨hcs, hnn, hgm⟩, hgh, hrm, hmk, hsb⟩ := id hC
  have hW := geo_RW hg
  have hr := (geo_n hg).1
  have hd := (geo_n hg).2
  have h12 := hg.1.2.2.1
  have h24 := hg.1.2.2.2
  refine gx ok ⟨fun c => gqx0 2 1 (by simp) fun g o2 => mx ⟨hW, fun _ => mqx (INV_Cd hI) rfl, fun k hk e => (in_no c (Nat.lt_of_lt_of_eq hk hr) (by omega) e).elim⟩, fun k hk e => gqv0 fun g o2 => mx ⟨hW, fun c => (in_no c (Nat.lt_of_lt_of_eq hk hr.symm) (by omega) e).elim, fun j hj e2 => ?_⟩⟩
  have hj2 := Nat.lt_of_lt_of_eq hj hr
  have ej := in_eq (show k < 700 by omega) (show j < 700 by omega) e e2
  rw [ej]
  exact mqv (INV_Cd hI) rfl ((hrm k hk).1.symm)
theorem ag_hasThermometer {i : Int32} (hI : INV K M) : rx_G_hasThermometer [.ref z, .int i] (hL z K M f) o (GQ [(2, 1)] z M f fun h o Q => rx_M_hasThermometer [.ref (z + 207), .int i] h o Q) := by
  obtain ⟨⟨ok, zh, zd, zs, hz⟩, hC, ⟨a, b, ⟨ha, hb⟩, ⟨eO, eC, eU⟩, hR⟩, hs, ⟨eB, hB, f0, hf, eK, eF⟩, ⟨et, ep⟩, n0, hn0, en1, en2, en3⟩ := id hI
  obtain ⟨hg, hse, ⟨hcs, hnn, hgm⟩, hgh, hrm, hmk, hsb⟩ := id hC
  have hW := geo_RW hg
  have hr := (geo_n hg).1
  have hd := (geo_n hg).2
  have h12 := hg.1.2.2.1
  have h24 := hg.1.2.2.2
  refine gx ok ⟨fun c => gqx0 2 1 (by simp) fun g o2 => mx ⟨hW, fun _ => mqx (INV_Cd hI) rfl, fun k hk e => (in_no c (Nat.lt_of_lt_of_eq hk hr) (by omega) e).elim⟩, fun c => gqv0 fun g o2 => ?_⟩
  obtain ⟨k, hk, e⟩ := inR_t c (by omega)
  refine mx ⟨hW, fun c => (in_no c (Nat.lt_of_lt_of_eq hk hr.symm) (by omega) e).elim, fun j hj e2 => ?_⟩
  have hj2 := Nat.lt_of_lt_of_eq hj hr
  have ej := in_eq (show k < 700 by omega) (show j < 700 by omega) e e2
  rw [ej]
  exact mqv (INV_Cd hI) rfl (by rw [(hrm k hk).2.2.1, tI_ite, e, ctn_k (by omega)])
theorem ag_hasMicrophone {i : Int32} (hI : INV K M) : rx_G_hasMicrophone [.ref z, .int i] (hL z K M f) o (GQ [(2, 1)] z M f fun h o Q => rx_M_hasMicrophone [.ref (z + 207), .int i] h o Q) := by
  obtain ⟨⟨ok, zh, zd, zs, hz⟩, hC, ⟨a, b, ⟨ha, hb⟩, ⟨eO, eC, eU⟩, hR⟩, hs, ⟨eB, hB, f0, hf, eK, eF⟩, ⟨et, ep⟩, n0, hn0, en1, en2, en3⟩ := id hI
  obtain ⟨hg, hse, ⟨hcs, hnn, hgm⟩, hgh, hrm, hmk, hsb⟩ := id hC
  have hW := geo_RW hg
  have hr := (geo_n hg).1
  have hd := (geo_n hg).2
  have h12 := hg.1.2.2.1
  have h24 := hg.1.2.2.2
  refine gx ok ⟨fun c => gqx0 2 1 (by simp) fun g o2 => mx ⟨hW, fun _ => mqx (INV_Cd hI) rfl, fun k hk e => (in_no c (Nat.lt_of_lt_of_eq hk hr) (by omega) e).elim⟩, fun c => gqv0 fun g o2 => ?_⟩
  obtain ⟨k, hk, e⟩ := inR_t c (by omega)
  refine mx ⟨hW, fun c => (in_no c (Nat.lt_of_lt_of_eq hk hr.symm) (by omega) e).elim, fun j hj e2 => ?_⟩
  have hj2 := Nat.lt_of_lt_of_eq hj hr
  have ej := in_eq (show k < 700 by omega) (show j < 700 by omega) e e2
  rw [ej]
  exact mqv (INV_Cd hI) rfl (by rw [(hrm k hk).2.2.2.1, tI_ite, e, ctn_k (by omega)])
theorem ag_lowRoom {i : Int32} (hI : INV K M) : rx_G_lowRoom [.ref z, .int i] (hL z K M f) o (GQ [(2, 1)] z M f fun h o Q => rx_M_lowRoom [.ref (z + 207), .int i] h o Q) := by
  obtain ⟨⟨ok, zh, zd, zs, hz⟩, hC, ⟨a, b, ⟨ha, hb⟩, ⟨eO, eC, eU⟩, hR⟩, hs, ⟨eB, hB, f0, hf, eK, eF⟩, ⟨et, ep⟩, n0, hn0, en1, en2, en3⟩ := id hI
  obtain ⟨hg, hse, ⟨hcs, hnn, hgm⟩, hgh, hrm, hmk, hsb⟩ := id hC
  have hW := geo_RW hg
  have hr := (geo_n hg).1
  have hd := (geo_n hg).2
  have h12 := hg.1.2.2.1
  have h24 := hg.1.2.2.2
  refine gx ok ⟨fun c => gqx0 2 1 (by simp) fun g o2 => mx ⟨hW, fun _ => mqx (INV_Cd hI) rfl, fun k hk e => (in_no c (Nat.lt_of_lt_of_eq hk hd) (by omega) e).elim⟩, fun k hk e => gqv0 fun g o2 => mx ⟨hW, fun c => (in_no c (Nat.lt_of_lt_of_eq hk hd.symm) (by omega) e).elim, fun j hj e2 => ?_⟩⟩
  have hj2 := Nat.lt_of_lt_of_eq hj hd
  have ej := in_eq (show k < 700 by omega) (show j < 700 by omega) e e2
  rw [ej]
  obtain ⟨x, y, n, -, -, l1, l2, l3, l4, l5, l6, -, l7⟩ := hg.2.1 k hk
  exact mqv (INV_Cd hI) rfl (l3.trans l1.symm)
theorem ag_highRoom {i : Int32} (hI : INV K M) : rx_G_highRoom [.ref z, .int i] (hL z K M f) o (GQ [(2, 1)] z M f fun h o Q => rx_M_highRoom [.ref (z + 207), .int i] h o Q) := by
  obtain ⟨⟨ok, zh, zd, zs, hz⟩, hC, ⟨a, b, ⟨ha, hb⟩, ⟨eO, eC, eU⟩, hR⟩, hs, ⟨eB, hB, f0, hf, eK, eF⟩, ⟨et, ep⟩, n0, hn0, en1, en2, en3⟩ := id hI
  obtain ⟨hg, hse, ⟨hcs, hnn, hgm⟩, hgh, hrm, hmk, hsb⟩ := id hC
  have hW := geo_RW hg
  have hr := (geo_n hg).1
  have hd := (geo_n hg).2
  have h12 := hg.1.2.2.1
  have h24 := hg.1.2.2.2
  refine gx ok ⟨fun c => gqx0 2 1 (by simp) fun g o2 => mx ⟨hW, fun _ => mqx (INV_Cd hI) rfl, fun k hk e => (in_no c (Nat.lt_of_lt_of_eq hk hd) (by omega) e).elim⟩, fun k hk e => gqv0 fun g o2 => mx ⟨hW, fun c => (in_no c (Nat.lt_of_lt_of_eq hk hd.symm) (by omega) e).elim, fun j hj e2 => ?_⟩⟩
  have hj2 := Nat.lt_of_lt_of_eq hj hd
  have ej := in_eq (show k < 700 by omega) (show j < 700 by omega) e e2
  rw [ej]
  obtain ⟨x, y, n, -, -, l1, l2, l3, l4, l5, l6, -, l7⟩ := hg.2.1 k hk
  exact mqv (INV_Cd hI) rfl (l4.trans l2.symm)
theorem ag_noise {i : Int32} (hI : INV K M) : rx_G_noise [.ref z, .int i] (hL z K M f) o (GQ [(2, 1)] z M f fun h o Q => rx_M_noise [.ref (z + 207), .int i] h o Q) := by
  obtain ⟨⟨ok, zh, zd, zs, hz⟩, hC, ⟨a, b, ⟨ha, hb⟩, ⟨eO, eC, eU⟩, hR⟩, hs, ⟨eB, hB, f0, hf, eK, eF⟩, ⟨et, ep⟩, n0, hn0, en1, en2, en3⟩ := id hI
  obtain ⟨hg, hse, ⟨hcs, hnn, hgm⟩, hgh, hrm, hmk, hsb⟩ := id hC
  have hW := geo_RW hg
  have hr := (geo_n hg).1
  have hd := (geo_n hg).2
  have h12 := hg.1.2.2.1
  have h24 := hg.1.2.2.2
  refine gx ok ⟨fun c => gqx0 2 1 (by simp) fun g o2 => mx ⟨hW, fun _ => mqx (INV_Cd hI) rfl, fun k hk e => (in_no c (Nat.lt_of_lt_of_eq hk hd) (by omega) e).elim⟩, fun k hk e => gqv0 fun g o2 => mx ⟨hW, fun c => (in_no c (Nat.lt_of_lt_of_eq hk hd.symm) (by omega) e).elim, fun j hj e2 => ?_⟩⟩
  have hj2 := Nat.lt_of_lt_of_eq hj hd
  have ej := in_eq (show k < 700 by omega) (show j < 700 by omega) e e2
  rw [ej]
  obtain ⟨x, y, n, -, -, l1, l2, l3, l4, l5, l6, -, l7⟩ := hg.2.1 k hk
  exact mqv (INV_Cd hI) rfl (l6.trans l5.symm)
theorem ag_isOpen {i : Int32} (hI : INV K M) : rx_G_isOpen [.ref z, .int i] (hL z K M f) o (GQ [(2, 1)] z M f fun h o Q => rx_M_isOpen [.ref (z + 207), .int i] h o Q) := by
  obtain ⟨⟨ok, zh, zd, zs, hz⟩, hC, ⟨a, b, ⟨ha, hb⟩, ⟨eO, eC, eU⟩, hR⟩, hs, ⟨eB, hB, f0, hf, eK, eF⟩, ⟨et, ep⟩, n0, hn0, en1, en2, en3⟩ := id hI
  obtain ⟨hg, hse, ⟨hcs, hnn, hgm⟩, hgh, hrm, hmk, hsb⟩ := id hC
  have hW := geo_RW hg
  have hr := (geo_n hg).1
  have hd := (geo_n hg).2
  have h12 := hg.1.2.2.1
  have h24 := hg.1.2.2.2
  refine gx ok ⟨fun c => gqx0 2 1 (by simp) fun g o2 => mx ⟨hW, fun _ => mqx (INV_Cd hI) rfl, fun k hk e => (in_no c (Nat.lt_of_lt_of_eq hk hd) (by omega) e).elim⟩, fun c => gqv0 fun g o2 => ?_⟩
  obtain ⟨k, hk, e⟩ := inR_t c (by omega)
  refine mx ⟨hW, fun c => (in_no c (Nat.lt_of_lt_of_eq hk hd.symm) (by omega) e).elim, fun j hj e2 => ?_⟩
  have hj2 := Nat.lt_of_lt_of_eq hj hd
  have ej := in_eq (show k < 700 by omega) (show j < 700 by omega) e e2
  rw [ej]
  obtain ⟨x, y, n, -, -, l1, l2, l3, l4, l5, l6, -, l7⟩ := hg.2.1 k hk
  exact mqv (INV_Cd hI) rfl (by rw [l7, tI_ite, e, ctn_k (by omega)])
theorem ag_isMonitored {i : Int32} (hI : INV K M) : rx_G_isMonitored [.ref z, .int i] (hL z K M f) o (GQ [(2, 1)] z M f fun h o Q => rx_M_isMonitored [.ref (z + 207), .int i] h o Q) := by
  obtain ⟨⟨ok, zh, zd, zs, hz⟩, hC, ⟨a, b, ⟨ha, hb⟩, ⟨eO, eC, eU⟩, hR⟩, hs, ⟨eB, hB, f0, hf, eK, eF⟩, ⟨et, ep⟩, n0, hn0, en1, en2, en3⟩ := id hI
  obtain ⟨hg, hse, ⟨hcs, hnn, hgm⟩, hgh, hrm, hmk, hsb⟩ := id hC
  have hW := geo_RW hg
  have hr := (geo_n hg).1
  have hd := (geo_n hg).2
  have h12 := hg.1.2.2.1
  have h24 := hg.1.2.2.2
  refine gx ok ⟨fun c => gqx0 2 1 (by simp) fun g o2 => mx ⟨⟨hW, geo_WD hg⟩, fun _ => mqx (INV_Cd hI) rfl, fun k hk e => (in_no c (Nat.lt_of_lt_of_eq hk hd) (by omega) e).elim⟩, fun c => gqv0 fun g o2 => ?_⟩
  obtain ⟨k, hk, e⟩ := inR_t c (by omega)
  refine mx ⟨⟨hW, geo_WD hg⟩, fun c => (in_no c (Nat.lt_of_lt_of_eq hk hd.symm) (by omega) e).elim, fun j hj e2 => ?_⟩
  have hj2 := Nat.lt_of_lt_of_eq hj hd
  have ej := in_eq (show k < 700 by omega) (show j < 700 by omega) e e2
  rw [ej]
  exact mqv (INV_Cd hI) rfl (by rw [e, ctn_k (by omega), bt_moF hg hk (fun k hk => (hrm k hk).2.2.2.1) (hse 2 (by decide)).symm])
theorem ag_exclusionReason {i : Int32} (hI : INV K M) : rx_G_exclusionReason [.ref z, .int i] (hL z K M f) o (GQ [(2, 1)] z M f fun h o Q => rx_M_exclusionReason [.ref (z + 207), .int i] h o Q) := by
  obtain ⟨⟨ok, zh, zd, zs, hz⟩, hC, ⟨a, b, ⟨ha, hb⟩, ⟨eO, eC, eU⟩, hR⟩, hs, ⟨eB, hB, f0, hf, eK, eF⟩, ⟨et, ep⟩, n0, hn0, en1, en2, en3⟩ := id hI
  obtain ⟨hg, hse, ⟨hcs, hnn, hgm⟩, hgh, hrm, hmk, hsb⟩ := id hC
  have hW := geo_RW hg
  have hr := (geo_n hg).1
  have hd := (geo_n hg).2
  have h12 := hg.1.2.2.1
  have h24 := hg.1.2.2.2
  refine gx ok ⟨fun c => gqx0 2 1 (by simp) fun g o2 => mx ⟨hW, fun _ => mqx (INV_Cd hI) rfl, fun k hk e => (in_no c (Nat.lt_of_lt_of_eq hk hr) (by omega) e).elim⟩, fun k hk e => gqv0 fun g o2 => mx ⟨hW, fun c => (in_no c (Nat.lt_of_lt_of_eq hk hr.symm) (by omega) e).elim, fun j hj e2 => ?_⟩⟩
  have hj2 := Nat.lt_of_lt_of_eq hj hr
  have ej := in_eq (show k < 700 by omega) (show j < 700 by omega) e e2
  rw [ej]
  exact mqv (INV_Cd hI) rfl ((hrm k hk).2.2.2.2.2.1.symm)
theorem ag_exclusionEvidence {i : Int32} (hI : INV K M) : rx_G_exclusionEvidence [.ref z, .int i] (hL z K M f) o (GQ [(2, 1)] z M f fun h o Q => rx_M_exclusionEvidence [.ref (z + 207), .int i] h o Q) := by
  obtain ⟨⟨ok, zh, zd, zs, hz⟩, hC, ⟨a, b, ⟨ha, hb⟩, ⟨eO, eC, eU⟩, hR⟩, hs, ⟨eB, hB, f0, hf, eK, eF⟩, ⟨et, ep⟩, n0, hn0, en1, en2, en3⟩ := id hI
  obtain ⟨hg, hse, ⟨hcs, hnn, hgm⟩, hgh, hrm, hmk, hsb⟩ := id hC
  have hW := geo_RW hg
  have hr := (geo_n hg).1
  have hd := (geo_n hg).2
  have h12 := hg.1.2.2.1
  have h24 := hg.1.2.2.2
  refine gx ok ⟨fun c => gqx0 2 1 (by simp) fun g o2 => mx ⟨hW, fun _ => mqx (INV_Cd hI) rfl, fun k hk e => (in_no c (Nat.lt_of_lt_of_eq hk hr) (by omega) e).elim⟩, fun k hk e => gqv0 fun g o2 => mx ⟨hW, fun c => (in_no c (Nat.lt_of_lt_of_eq hk hr.symm) (by omega) e).elim, fun j hj e2 => ?_⟩⟩
  have hj2 := Nat.lt_of_lt_of_eq hj hr
  have ej := in_eq (show k < 700 by omega) (show j < 700 by omega) e e2
  rw [ej]
  exact mqv (INV_Cd hI) rfl ((hrm k hk).2.2.2.2.2.2.1.symm)
theorem ag_exclusionSource {i : Int32} (hI : INV K M) : rx_G_exclusionSource [.ref z, .int i] (hL z K M f) o (GQ [(2, 1)] z M f fun h o Q => rx_M_exclusionSource [.ref (z + 207), .int i] h o Q) := by
  obtain ⟨⟨ok, zh, zd, zs, hz⟩, hC, ⟨a, b, ⟨ha, hb⟩, ⟨eO, eC, eU⟩, hR⟩, hs, ⟨eB, hB, f0, hf, eK, eF⟩, ⟨et, ep⟩, n0, hn0, en1, en2, en3⟩ := id hI
  obtain ⟨hg, hse, ⟨hcs, hnn, hgm⟩, hgh, hrm, hmk, hsb⟩ := id hC
  have hW := geo_RW hg
  have hr := (geo_n hg).1
  have hd := (geo_n hg).2
  have h12 := hg.1.2.2.1
  have h24 := hg.1.2.2.2
  refine gx ok ⟨fun c => gqx0 2 1 (by simp) fun g o2 => mx ⟨hW, fun _ => mqx (INV_Cd hI) rfl, fun k hk e => (in_no c (Nat.lt_of_lt_of_eq hk hr) (by omega) e).elim⟩, fun k hk e => gqv0 fun g o2 => mx ⟨hW, fun c => (in_no c (Nat.lt_of_lt_of_eq hk hr.symm) (by omega) e).elim, fun j hj e2 => ?_⟩⟩
  have hj2 := Nat.lt_of_lt_of_eq hj hr
  have ej := in_eq (show k < 700 by omega) (show j < 700 by omega) e e2
  rw [ej]
  exact mqv (INV_Cd hI) rfl ((hrm k hk).2.2.2.2.2.2.2.1.symm)
theorem ag_neighbors {i : Int32} (hI : INV K M) : rx_G_neighbors [.ref z, .int i] (hL z K M f) o (GQ [(2, 1)] z M f fun h o Q => rx_M_neighbors [.ref (z + 207), .int i] h o Q) := by
  obtain ⟨⟨ok, zh, zd, zs, hz⟩, hC, ⟨a, b, ⟨ha, hb⟩, ⟨eO, eC, eU⟩, hR⟩, hs, ⟨eB, hB, f0, hf, eK, eF⟩, ⟨et, ep⟩, n0, hn0, en1, en2, en3⟩ := id hI
  obtain ⟨hg, hse, ⟨hcs, hnn, hgm⟩, hgh, hrm, hmk, hsb⟩ := id hC
  have hW := geo_RW hg
  have hr := (geo_n hg).1
  have hd := (geo_n hg).2
  have h12 := hg.1.2.2.1
  have h24 := hg.1.2.2.2
  refine gx ok ⟨fun c => gqx0 2 1 (by simp) fun g o2 => mx ⟨hW, fun _ => mqx (INV_Cd hI) rfl, fun c2 => (nf c (by rw [hr] at c2; exact c2)).elim⟩, fun c => gqv0 fun g o2 => mx ⟨hW, fun c2 => (nf (by rw [hr] at c2; exact c2) c).elim, fun _ => ?_⟩⟩
  obtain ⟨k, hk, e⟩ := inR_t c (by omega)
  exact mqv (INV_Cd hI) rfl (by rw [e]; exact (nbS_eq hg (by omega)).symm)
theorem ag_doorBetween {i j : Int32} (hI : INV K M) : rx_G_doorBetween [.ref z, .int i, .int j] (hL z K M f) o (GQ [(2, 1)] z M f fun h o Q => rx_M_doorBetween [.ref (z + 207), .int i, .int j] h o Q) := by
  obtain ⟨⟨ok, zh, zd, zs, hz⟩, hC, ⟨a, b, ⟨ha, hb⟩, ⟨eO, eC, eU⟩, hR⟩, hs, ⟨eB, hB, f0, hf, eK, eF⟩, ⟨et, ep⟩, n0, hn0, en1, en2, en3⟩ := id hI
  obtain ⟨hg, hse, ⟨hcs, hnn, hgm⟩, hgh, hrm, hmk, hsb⟩ := id hC
  have hW := geo_RW hg
  have hr := (geo_n hg).1
  have hd := (geo_n hg).2
  have h12 := hg.1.2.2.1
  have h24 := hg.1.2.2.2
  refine gx ok ⟨fun c => gqx0 2 1 (by simp) fun g o2 => mx ⟨hW, fun _ => mqx (INV_Cd hI) rfl, fun c1 c2 => ?_⟩, fun c1 c2 => gqv0 fun g o2 => mx ⟨hW, fun c => ?_, fun _ _ => mqv (INV_Cd hI) rfl (geo_btw hg _ _)⟩⟩
  · rw [hr] at c1 c2
    exact (c.elim (fun y => nf y c1) (fun y => nf y c2)).elim
  · rw [hr] at c
    exact (c.elim (fun y => nf y c1) (fun y => nf y c2)).elim
theorem ag_quietestPath {x y : Int32} (hI : INV K M) : rx_G_quietestPath [.ref z, .int x, .int y] (hL z K M f) o (GQ [(2, 1)] z M f fun h o Q => rx_M_quietestPath [.ref (z + 207), .int x, .int y] h o Q) := by
  obtain ⟨⟨ok, zh, zd, zs, hz⟩, hC, ⟨a, b, ⟨ha, hb⟩, ⟨eO, eC, eU⟩, hR⟩, hs, ⟨eB, hB, f0, hf, eK, eF⟩, ⟨et, ep⟩, n0, hn0, en1, en2, en3⟩ := id hI
  obtain ⟨hg, hse, ⟨hcs, hnn, hgm⟩, hgh, hrm, hmk, hsb⟩ := id hC
  have hW := geo_RW hg
  have hr := (geo_n hg).1
  have hd := (geo_n hg).2
  have h12 := hg.1.2.2.1
  have h24 := hg.1.2.2.2
  refine gx ok ⟨fun c => gqx0 2 1 (by simp) fun g o2 => mx ?_, fun a1 b1 ha1 hb1 e1 e2 => ⟨PGE_C hC, gqv fun g o2 => mx ?_⟩⟩
  · unfold gd_quietestPath
    exact ⟨K.2.2.1, hC, fun _ => mqx (INV_Cd hI) rfl, fun a2 b2 ha2 hb2 e3 e4 => (c.elim (fun y => in_no y ha2 (by omega) e3) (fun y => in_no y hb2 (by omega) e4)).elim⟩
  · unfold gd_quietestPath
    refine ⟨K.2.2.1, hC, fun c => (c.elim (fun y => in_no y ha1 (by omega) e1) (fun y => in_no y hb1 (by omega) e2)).elim, fun a2 b2 ha2 hb2 e3 e4 M2 z0 hF => ?_⟩
    have ea := in_eq (show a1 < 700 by omega) (show a2 < 700 by omega) e1 e3
    have eb := in_eq (show b1 < 700 by omega) (show b2 < 700 by omega) e2 e4
    rw [ea, eb]
    exact mqv (INV_M (M := M) (INV_pa (b := K.2.2.2.2.2.2.2.2.2.2.2.2.2.2.2.2.2.2.2.2.2.2.2.2.1) hI) (fun i _ => by rw [FPC_f hF]) (FRI_C hF)) z0 (pt_C hC _ _ ha1 hb1).symm
theorem ag_violations (hI : INV K M) : rx_G_violations [.ref z] (hL z K M f) o (GQ [] z M f fun h o Q => rx_M_violations [.ref (z + 207)] h o Q) := by
  obtain ⟨⟨ok, zh, zd, zs, hz⟩, hC, ⟨a, b, ⟨ha, hb⟩, ⟨eO, eC, eU⟩, hR⟩, hs, ⟨eB, hB, f0, hf, eK, eF⟩, ⟨et, ep⟩, n0, hn0, en1, en2, en3⟩ := id hI
  obtain ⟨hg, hse, ⟨hcs, hnn, hgm⟩, hgh, hrm, hmk, hsb⟩ := id hC
  have hW := geo_RW hg
  have hr := (geo_n hg).1
  have hd := (geo_n hg).2
  have h12 := hg.1.2.2.1
  have h24 := hg.1.2.2.2
  refine gx ok ⟨PGE_C hC, gqv fun g o2 => mx ?_⟩
  unfold gd_violations
  exact ⟨K.2.2.1, hC, fun M2 z0 hF => mqv (INV_M (M := M) (INV_pa (b := K.2.2.2.2.2.2.2.2.2.2.2.2.2.2.2.2.2.2.2.2.2.2.2.2.1) hI) (fun i _ => by rw [FPC_f hF]) (FRI_C hF)) z0 (vi_T hC _)⟩
theorem ag_meanColdness (hI : INV K M) : rx_G_meanColdness [.ref z] (hL z K M f) o (GQd z M f fun h o Q => rx_M_meanColdness [.ref (z + 207)] h o Q) := by
  obtain ⟨⟨ok, zh, zd, zs, hz⟩, hC, ⟨a, b, ⟨ha, hb⟩, ⟨eO, eC, eU⟩, hR⟩, hs, ⟨eB, hB, f0, hf, eK, eF⟩, ⟨et, ep⟩, n0, hn0, en1, en2, en3⟩ := id hI
  obtain ⟨hg, hse, ⟨hcs, hnn, hgm⟩, hgh, hrm, hmk, hsb⟩ := id hC
  have hW := geo_RW hg
  have hr := (geo_n hg).1
  have hd := (geo_n hg).2
  have h12 := hg.1.2.2.1
  have h24 := hg.1.2.2.2
  refine gx ok ⟨fun c => gqd fun g o2 => mx ⟨hW, fun _ => mqw (INV_Cd hI) rfl rfl, fun c2 => absurd (hr.trans c) c2⟩, fun c => ⟨mean_ok hC c, gqd fun g o2 => mx ⟨hW, fun c2 => absurd (hr.symm.trans c2) c, fun _ => ?_⟩⟩⟩
  rw [smF_T hC, hr]
  exact ⟨mean_ok hC c, mqw (INV_Cd hI) rfl rfl⟩
theorem ag_possibleFraction (hI : INV K M) : rx_G_possibleFraction [.ref z] (hL z K M f) o (GQf z M f fun h o Q => rx_M_possibleFraction [.ref (z + 207)] h o Q) := by
  obtain ⟨⟨ok, zh, zd, zs, hz⟩, hC, ⟨a, b, ⟨ha, hb⟩, ⟨eO, eC, eU⟩, hR⟩, hs, ⟨eB, hB, f0, hf, eK, eF⟩, ⟨et, ep⟩, n0, hn0, en1, en2, en3⟩ := id hI
  obtain ⟨hg, hse, ⟨hcs, hnn, hgm⟩, hgh, hrm, hmk, hsb⟩ := id hC
  have hW := geo_RW hg
  have hr := (geo_n hg).1
  have hd := (geo_n hg).2
  have h12 := hg.1.2.2.1
  have h24 := hg.1.2.2.2
  refine gx ok ⟨fun c => gqf f0_ok fun g o2 => mx ?_, fun c => ⟨frac_ok hC c, gqf (ffr_ok hC c) fun g o2 => mx ?_⟩⟩
  · unfold gd_possibleFraction
    exact ⟨K.2.2.1, hC, fun _ => mqw (INV_Cd hI) rfl rfl, fun c2 => absurd c c2⟩
  · unfold gd_possibleFraction
    exact ⟨K.2.2.1, hC, fun c2 => absurd c2 c, fun _ => ⟨frac_ok hC c, mqw (INV_Cd hI) rfl rfl⟩⟩
theorem ag_nightsUntilKnown (hI : INV K M) : rx_G_nightsUntilKnown [.ref z] (hL z K M f) o (GQ [] z M f fun h o Q => rx_M_nightsUntilKnown [.ref (z + 207)] h o Q) := by
  obtain ⟨⟨ok, zh, zd, zs, hz⟩, hC, ⟨a, b, ⟨ha, hb⟩, ⟨eO, eC, eU⟩, hR⟩, hs, ⟨eB, hB, f0, hf, eK, eF⟩, ⟨et, ep⟩, n0, hn0, en1, en2, en3⟩ := id hI
  obtain ⟨hg, hse, ⟨hcs, hnn, hgm⟩, hgh, hrm, hmk, hsb⟩ := id hC
  have hW := geo_RW hg
  have hr := (geo_n hg).1
  have hd := (geo_n hg).2
  have h12 := hg.1.2.2.1
  have h24 := hg.1.2.2.2
  refine gx ok ⟨⟨zh, zd⟩, fun m a1 b1 c1 d1 e1 => gqv fun g o2 => mx ?_⟩
  unfold gd_nuk
  exact ⟨K.2.2.1, hC, fun M2 hp => mqv (INV_M (M := M) (INV_dr hI (pasM_ok ok.1 m) (ZH_pasM ok.1 zh m)) hp.2.1 (FRI_P hp.2.2)) hp.1 rfl⟩
theorem ag_bestThermometerRoom (hI : INV K M) : rx_G_bestThermometerRoom [.ref z] (hL z K M f) o (GQ [] z M f fun h o Q => rx_M_bestThermometerRoom [.ref (z + 207)] h o Q) := by
  obtain ⟨⟨ok, zh, zd, zs, hz⟩, hC, ⟨a, b, ⟨ha, hb⟩, ⟨eO, eC, eU⟩, hR⟩, hs, ⟨eB, hB, f0, hf, eK, eF⟩, ⟨et, ep⟩, n0, hn0, en1, en2, en3⟩ := id hI
  obtain ⟨hg, hse, ⟨hcs, hnn, hgm⟩, hgh, hrm, hmk, hsb⟩ := id hC
  have hW := geo_RW hg
  have hr := (geo_n hg).1
  have hd := (geo_n hg).2
  have h12 := hg.1.2.2.1
  have h24 := hg.1.2.2.2
  refine gx ok ⟨⟨zh, zd⟩, fun D a1 b1 c1 d1 e1 zD hD => gqv fun g o2 => mx ?_⟩
  unfold gd_btr
  exact ⟨K.2.2.1, hC, fun M2 hp => mqv (INV_M (M := M) (INV_dr hI hD zD) hp.2.1 (FRI_P hp.2.2)) hp.1 rfl⟩
theorem ag_calmestMode (hI : INV K M) : rx_G_calmestMode [.ref z] (hL z K M f) o (GQ [] z M f fun h o Q => rx_M_calmestMode [.ref (z + 207)] h o Q) := by
  obtain ⟨⟨ok, zh, zd, zs, hz⟩, hC, ⟨a, b, ⟨ha, hb⟩, ⟨eO, eC, eU⟩, hR⟩, hs, ⟨eB, hB, f0, hf, eK, eF⟩, ⟨et, ep⟩, n0, hn0, en1, en2, en3⟩ := id hI
  obtain ⟨hg, hse, ⟨hcs, hnn, hgm⟩, hgh, hrm, hmk, hsb⟩ := id hC
  have hW := geo_RW hg
  have hr := (geo_n hg).1
  have hd := (geo_n hg).2
  have h12 := hg.1.2.2.1
  have h24 := hg.1.2.2.2
  refine gx ok ⟨⟨zh, zd⟩, fun D a1 b1 c1 d1 e1 zD hD => gqv fun g o2 => mx ?_⟩
  unfold gd_clm
  exact ⟨K.2.2.1, hC, fun M2 hp => mqv (INV_M (M := M) (INV_dr hI hD zD) hp.2.1 (FRI_P hp.2.2)) hp.1 rfl⟩
theorem ag_mostImportantDoor (hI : INV K M) : rx_G_mostImportantDoor [.ref z] (hL z K M f) o (GQ [] z M f fun h o Q => rx_M_mostImportantDoor [.ref (z + 207)] h o Q) := by
  obtain ⟨⟨ok, zh, zd, zs, hz⟩, hC, ⟨a, b, ⟨ha, hb⟩, ⟨eO, eC, eU⟩, hR⟩, hs, ⟨eB, hB, f0, hf, eK, eF⟩, ⟨et, ep⟩, n0, hn0, en1, en2, en3⟩ := id hI
  obtain ⟨hg, hse, ⟨hcs, hnn, hgm⟩, hgh, hrm, hmk, hsb⟩ := id hC
  have hW := geo_RW hg
  have hr := (geo_n hg).1
  have hd := (geo_n hg).2
  have h12 := hg.1.2.2.1
  have h24 := hg.1.2.2.2
  refine gx ok ⟨PGE_C hC, gqv fun g o2 => mx ?_⟩
  unfold gd_mid
  exact ⟨K.2.2.1, hC, fun M2 z0 hF => mqv (INV_M (M := M) (INV_pa hI) (fun i _ => by rw [FPC_f hF]) (FRI_C hF)) z0 (miS_D hC _ _ _ (Nat.le_refl _)).1.symm⟩
theorem isIn_050 (x : Int32) : isInF x.toInt64 0 50 = (!decide (x < 0 ∨ ¬ x ≤ 50)) := isIn_l (a := 0) (b := 50) x (by decide) (by decide)
theorem ag_ghostRoomAfter {x : Int32} (hI : INV K M) : rx_G_ghostRoomAfter [.ref z, .int x] (hL z K M f) o (GQ [(1, 1)] z M f fun h o Q => rx_M_ghostRoomAfter [.ref (z + 207), .int x] h o Q) := by
  obtain ⟨⟨ok, zh, zd, zs, hz⟩, hC, ⟨a, b, ⟨ha, hb⟩, ⟨eO, eC, eU⟩, hR⟩, hs, ⟨eB, hB, f0, hf, eK, eF⟩, ⟨et, ep⟩, n0, hn0, en1, en2, en3⟩ := id hI
  obtain ⟨hg, hse, ⟨hcs, hnn, hgm⟩, hgh, hrm, hmk, hsb⟩ := id hC
  have hW := geo_RW hg
  have hr := (geo_n hg).1
  have hd := (geo_n hg).2
  have h12 := hg.1.2.2.1
  have h24 := hg.1.2.2.2
  refine gx ok ⟨fun c => gqx0 1 1 (by simp) fun g o2 => mx ?_, fun n hn en => ⟨⟨zh, zd⟩, fun a1 b1 c1 d1 e1 => gqv fun g o2 => mx ?_⟩⟩
  · have e : aheB x = false := inT (isIn_050 x) c
    exact ⟨fun _ => mqx (INV_Cd hI) rfl, fun y => (nf e y).elim⟩
  · have e : aheB x = true := inN (isIn_050 x) (fun y => y.elim (fun y => nI_nng (k := n) (by omega) (by rw [← en]; exact y)) (fun y => y (by rw [en]; exact (nI_leI (b := 50) (by omega) (by decide)).mpr hn)))
    have hD := INV_dr (a := a1) (b := b1) (c := c1) (d := d1) (e := e1) hI (pasM_ok ok.1 n) (ZH_pasM ok.1 zh n)
    have hcl : x.toNatClampNeg = n := by rw [en]; exact nI_clamp (by omega)
    have hx0 : 0 ≤ x := by rw [en]; exact (nI_leI (a := 0) (by decide) (by omega)).mpr (Nat.zero_le _)
    have hSS : ∀ (X : Nat → Int32) i, i < 216 → cpy (cpy M.2.2.2.2.2.2.2.2.2.2.2.2.2.1 0 M.2.2.2.2.2.2.2.2.2.2.2.2.2.2.2.2.1 0 216) 0 X 0 216 i = M.2.2.2.2.2.2.2.2.2.2.2.2.2.1 i := fun X i hi => (cpy_at _ _ hi).trans (cpy_at _ _ hi)
    have hIT : itS M.2.2.2.2.2.2.2.2.2.2.2.2.2.1 M.2.2.2.2.2.2.2.2.2.2.2.2.2.2.2.2.2.2.2.2.1 M.2.2.2.2.2.2.2.2.2.2.2.2.2.2.2.2.2.2.2.2.2.1 x = if M.2.2.2.2.2.2.2.2.2.2.2.2.2.1 9 ≤ 0 then (M.2.2.2.2.2.2.2.2.2.2.2.2.2.1, M.2.2.2.2.2.2.2.2.2.2.2.2.2.2.2.2.2.2.2.2.1, M.2.2.2.2.2.2.2.2.2.2.2.2.2.2.2.2.2.2.2.2.2.1) else itN (M.2.2.2.2.2.2.2.2.2.2.2.2.2.1, M.2.2.2.2.2.2.2.2.2.2.2.2.2.2.2.2.2.2.2.2.1, M.2.2.2.2.2.2.2.2.2.2.2.2.2.2.2.2.2.2.2.2.2.1) n := by
      unfold itS
      rw [hcl]
    have hV : CPL (VN K.2.2.1 n) (itS M.2.2.2.2.2.2.2.2.2.2.2.2.2.1 M.2.2.2.2.2.2.2.2.2.2.2.2.2.2.2.2.2.2.2.2.1 M.2.2.2.2.2.2.2.2.2.2.2.2.2.2.2.2.2.2.2.2.2.1 x).1 := by
      rw [hIT]
      unfold VN
      by_cases c : K.2.2.1.2.2.2.2.2.2.2.2.2.1 = 0
      · rw [if_pos c, if_pos (by rw [hg.1.1, c]; exact Int32.le_refl _)]
        exact hC
      · rw [if_neg c, if_neg (by rw [hg.1.1]; exact fun y => c (by have := (nI_leI (b := 0) (by omega) (by decide)).mp y; omega)), pasM_N c]
        exact (pas_itN hC (by omega) n).2.2
    have hN : ¬ M.2.2.2.2.2.2.2.2.2.2.2.2.2.1 9 ≤ 0 → 0 ≤ x ∧ (∀ j, j < x.toNatClampNeg → NOK (itN (M.2.2.2.2.2.2.2.2.2.2.2.2.2.1, M.2.2.2.2.2.2.2.2.2.2.2.2.2.2.2.2.2.2.2.2.1, M.2.2.2.2.2.2.2.2.2.2.2.2.2.2.2.2.2.2.2.2.2.1) j).1) ∧ RW (itN (M.2.2.2.2.2.2.2.2.2.2.2.2.2.1, M.2.2.2.2.2.2.2.2.2.2.2.2.2.2.2.2.2.2.2.2.1, M.2.2.2.2.2.2.2.2.2.2.2.2.2.2.2.2.2.2.2.2.2.1) x.toNatClampNeg).1 := fun c => by
      have h0 : 0 < K.2.2.1.2.2.2.2.2.2.2.2.2.1 := by
        have : ¬ K.2.2.1.2.2.2.2.2.2.2.2.2.1 = 0 := fun y => c (by rw [hg.1.1, y]; exact Int32.le_refl _)
        omega
      rw [hcl]
      exact ⟨hx0, (pas_itN hC h0 n).1, (pas_itN hC h0 n).2.1⟩
    exact ⟨fun y => (nf y e).elim, fun _ => ⟨hN, mqv (INV_M (M := M) hD (hSS _) ⟨rfl, rfl, rfl, rfl, rfl, rfl, rfl, rfl, rfl, rfl⟩) rfl ((gh_T hV).trans (VN_f K.2.2.1 n).2.1)⟩⟩
theorem ag_possibleRoomsAfter {x : Int32} (hI : INV K M) : rx_G_possibleRoomsAfter [.ref z, .int x] (hL z K M f) o (GQ [(1, 1)] z M f fun h o Q => rx_M_possibleRoomsAfter [.ref (z + 207), .int x] h o Q) := by
  obtain ⟨⟨ok, zh, zd, zs, hz⟩, hC, ⟨a, b, ⟨ha, hb⟩, ⟨eO, eC, eU⟩, hR⟩, hs, ⟨eB, hB, f0, hf, eK, eF⟩, ⟨et, ep⟩, n0, hn0, en1, en2, en3⟩ := id hI
  obtain ⟨hg, hse, ⟨hcs, hnn, hgm⟩, hgh, hrm, hmk, hsb⟩ := id hC
  have hW := geo_RW hg
  have hr := (geo_n hg).1
  have hd := (geo_n hg).2
  have h12 := hg.1.2.2.1
  have h24 := hg.1.2.2.2
  refine gx ok ⟨fun c => gqx0 1 1 (by simp) fun g o2 => mx ?_, fun n hn en => ⟨⟨zh, zd⟩, fun a1 b1 c1 d1 e1 => gqv fun g o2 => mx ?_⟩⟩
  · have e : aheB x = false := inT (isIn_050 x) c
    exact ⟨fun _ => mqx (INV_Cd hI) rfl, fun y => (nf e y).elim⟩
  · have e : aheB x = true := inN (isIn_050 x) (fun y => y.elim (fun y => nI_nng (k := n) (by omega) (by rw [← en]; exact y)) (fun y => y (by rw [en]; exact (nI_leI (b := 50) (by omega) (by decide)).mpr hn)))
    have hD := INV_dr (a := a1) (b := b1) (c := c1) (d := d1) (e := e1) hI (pasM_ok ok.1 n) (ZH_pasM ok.1 zh n)
    have hcl : x.toNatClampNeg = n := by rw [en]; exact nI_clamp (by omega)
    have hx0 : 0 ≤ x := by rw [en]; exact (nI_leI (a := 0) (by decide) (by omega)).mpr (Nat.zero_le _)
    have hSS : ∀ (X : Nat → Int32) i, i < 216 → cpy (cpy M.2.2.2.2.2.2.2.2.2.2.2.2.2.1 0 M.2.2.2.2.2.2.2.2.2.2.2.2.2.2.2.2.1 0 216) 0 X 0 216 i = M.2.2.2.2.2.2.2.2.2.2.2.2.2.1 i := fun X i hi => (cpy_at _ _ hi).trans (cpy_at _ _ hi)
    have hIT : itS M.2.2.2.2.2.2.2.2.2.2.2.2.2.1 M.2.2.2.2.2.2.2.2.2.2.2.2.2.2.2.2.2.2.2.2.1 M.2.2.2.2.2.2.2.2.2.2.2.2.2.2.2.2.2.2.2.2.2.1 x = if M.2.2.2.2.2.2.2.2.2.2.2.2.2.1 9 ≤ 0 then (M.2.2.2.2.2.2.2.2.2.2.2.2.2.1, M.2.2.2.2.2.2.2.2.2.2.2.2.2.2.2.2.2.2.2.2.1, M.2.2.2.2.2.2.2.2.2.2.2.2.2.2.2.2.2.2.2.2.2.1) else itN (M.2.2.2.2.2.2.2.2.2.2.2.2.2.1, M.2.2.2.2.2.2.2.2.2.2.2.2.2.2.2.2.2.2.2.2.1, M.2.2.2.2.2.2.2.2.2.2.2.2.2.2.2.2.2.2.2.2.2.1) n := by
      unfold itS
      rw [hcl]
    have hV : CPL (VN K.2.2.1 n) (itS M.2.2.2.2.2.2.2.2.2.2.2.2.2.1 M.2.2.2.2.2.2.2.2.2.2.2.2.2.2.2.2.2.2.2.2.1 M.2.2.2.2.2.2.2.2.2.2.2.2.2.2.2.2.2.2.2.2.2.1 x).1 := by
      rw [hIT]
      unfold VN
      by_cases c : K.2.2.1.2.2.2.2.2.2.2.2.2.1 = 0
      · rw [if_pos c, if_pos (by rw [hg.1.1, c]; exact Int32.le_refl _)]
        exact hC
      · rw [if_neg c, if_neg (by rw [hg.1.1]; exact fun y => c (by have := (nI_leI (b := 0) (by omega) (by decide)).mp y; omega)), pasM_N c]
        exact (pas_itN hC (by omega) n).2.2
    have hN : ¬ M.2.2.2.2.2.2.2.2.2.2.2.2.2.1 9 ≤ 0 → 0 ≤ x ∧ (∀ j, j < x.toNatClampNeg → NOK (itN (M.2.2.2.2.2.2.2.2.2.2.2.2.2.1, M.2.2.2.2.2.2.2.2.2.2.2.2.2.2.2.2.2.2.2.2.1, M.2.2.2.2.2.2.2.2.2.2.2.2.2.2.2.2.2.2.2.2.2.1) j).1) ∧ RW (itN (M.2.2.2.2.2.2.2.2.2.2.2.2.2.1, M.2.2.2.2.2.2.2.2.2.2.2.2.2.2.2.2.2.2.2.2.1, M.2.2.2.2.2.2.2.2.2.2.2.2.2.2.2.2.2.2.2.2.2.1) x.toNatClampNeg).1 := fun c => by
      have h0 : 0 < K.2.2.1.2.2.2.2.2.2.2.2.2.1 := by
        have : ¬ K.2.2.1.2.2.2.2.2.2.2.2.2.1 = 0 := fun y => c (by rw [hg.1.1, y]; exact Int32.le_refl _)
        omega
      rw [hcl]
      exact ⟨hx0, (pas_itN hC h0 n).1, (pas_itN hC h0 n).2.1⟩
    exact ⟨fun y => (nf y e).elim, fun _ => ⟨⟨hN, geo_RW hV.1⟩, mqv (INV_M (M := M) hD (hSS _) ⟨rfl, rfl, rfl, rfl, rfl, rfl, rfl, rfl, rfl, rfl⟩) rfl ((po_S hV).trans (VN_f K.2.2.1 n).1)⟩⟩
theorem ag_outputByte {i : Int32} (hI : INV K M) : rx_G_outputByte [.ref z, .int i] (hL z K M f) o (GQ [(2, 1)] z M f fun h o Q => rx_M_outputByte [.ref (z + 207), .int i] h o Q) := by
  obtain ⟨⟨ok, zh, zd, zs, hz⟩, hC, ⟨a, b, ⟨ha, hb⟩, ⟨eO, eC, eU⟩, hR⟩, hs, ⟨eB, hB, f0, hf, eK, eF⟩, ⟨et, ep⟩, n0, hn0, en1, en2, en3⟩ := id hI
  obtain ⟨hg, hse, ⟨hcs, hnn, hgm⟩, hgh, hrm, hmk, hsb⟩ := id hC
  have hW := geo_RW hg
  have hr := (geo_n hg).1
  have hd := (geo_n hg).2
  have h12 := hg.1.2.2.1
  have h24 := hg.1.2.2.2
  refine gx ok ⟨n0, ⟨hn0, en1⟩, fun c => gqx0 2 1 (by simp) fun g o2 => mx ⟨n0, ⟨hn0, en2⟩, fun _ => mqx (INV_Cd hI) rfl, fun k hk e => (in_no c hk (by omega) e).elim⟩, fun k hk e => gqv0 fun g o2 => mx ⟨n0, ⟨hn0, en2⟩, fun c => (in_no c hk (by omega) e).elim, fun j hj e2 => ?_⟩⟩
  have ej := in_eq (show k < 700 by omega) (show j < 700 by omega) e e2
  rw [ej]
  exact mqv (INV_Cd hI) rfl (en3 k hk).symm
theorem ag_printReport (hI : INV K M) : rx_G_printReport [.ref z] (hL z K M f) o (GQ [] z M f fun h o Q => rx_M_printReport [.ref (z + 207)] h o Q) := by
  obtain ⟨⟨ok, zh, zd, zs, hz⟩, hC, ⟨a, b, ⟨ha, hb⟩, ⟨eO, eC, eU⟩, hR⟩, hs, ⟨eB, hB, f0, hf, eK, eF⟩, ⟨et, ep⟩, n0, hn0, en1, en2, en3⟩ := id hI
  obtain ⟨hg, hse, ⟨hcs, hnn, hgm⟩, hgh, hrm, hmk, hsb⟩ := id hC
  have hW := geo_RW hg
  have hr := (geo_n hg).1
  have hd := (geo_n hg).2
  have h12 := hg.1.2.2.1
  have h24 := hg.1.2.2.2
  obtain ⟨ρ, hρ⟩ := rho_T hC
  refine gx ok ⟨ρ, hρ, gqv fun g o2 => mx ?_⟩
  unfold gd_printReport
  refine ⟨K.2.2.1, ρ, ⟨hC, fun i hi => ⟨(hρ i hi).1, (wrk_T hC _).trans (hρ i hi).2⟩⟩, fun M2 p1 p2 hF => ?_⟩
  obtain ⟨A, eA⟩ : ∃ A, A = prA K.2.2.1 ρ (K.2.2.2.2.2.2.2.2.2.2.2.2.2.2.2.2.2.2.2.2.2.2.2.2.2.2.2.2.2.2.2.2.2, 0) K.2.2.1.2.2.2.2.2.2.2.2.2.1 := ⟨_, rfl⟩
  have hAG := AGP_A (AGP_0 K.2.2.2.2.2.2.2.2.2.2.2.2.2.2.2.2.2.2.2.2.2.2.2.2.2.2.2.2.2.2.2.2.2 M.2.2.2.2.2.2.2.2.2.2.2.2.2.2.2.2.2.2.2.2.2.2.2.2.2.2.2.2.2.2.2.2.2.1) K.2.2.1 ρ K.2.2.1.2.2.2.2.2.2.2.2.2.1
  have hA2 := prA_n K.2.2.1 ρ (K.2.2.2.2.2.2.2.2.2.2.2.2.2.2.2.2.2.2.2.2.2.2.2.2.2.2.2.2.2.2.2.2.2, 0) K.2.2.1.2.2.2.2.2.2.2.2.2.1
  obtain ⟨B, eB9⟩ : ∃ B, B = prA K.2.2.1 ρ (M.2.2.2.2.2.2.2.2.2.2.2.2.2.2.2.2.2.2.2.2.2.2.2.2.2.2.2.2.2.2.2.2.2.1, 0) K.2.2.1.2.2.2.2.2.2.2.2.2.1 := ⟨_, rfl⟩
  rw [← eA, ← eB9] at hAG
  rw [← eA] at hA2 ⊢
  rw [← eB9] at p1 p2 ⊢
  have hA3 : A.2 ≤ 192 := by
    have : A.2 ≤ 0 + 16 * K.2.2.1.2.2.2.2.2.2.2.2.2.1 := hA2
    omega
  have t1 : M2.2.2.2.2.2.2.2.2.2.2.2.2.2.1 = M.2.2.2.2.2.2.2.2.2.2.2.2.2.1 := by rw [← hF]; rfl
  have t2 : M2.2.1 = M.2.1 := by rw [← hF]; rfl
  have t3 : M2.2.2.1 = M.2.2.1 := by rw [← hF]; rfl
  have t4 : M2.2.2.2.2.2.2.2.2.2.2.1 = M.2.2.2.2.2.2.2.2.2.2.1 := by rw [← hF]; rfl
  have t5 : M2.2.2.2.2.2.2.2.2.2.2.2.1 = M.2.2.2.2.2.2.2.2.2.2.2.1 := by rw [← hF]; rfl
  have t6 : M2.2.2.2.2.2.2.2.2.2.2.2.2.2.2.1 = M.2.2.2.2.2.2.2.2.2.2.2.2.2.2.1 := by rw [← hF]; rfl
  have t7 : M2.2.2.2.2.2.2.2.2.2.2.2.2.2.2.2.2.2.1 = M.2.2.2.2.2.2.2.2.2.2.2.2.2.2.2.2.2.1 := by rw [← hF]; rfl
  have t8 : M2.2.2.2.2.2.2.2.2.2.2.2.2.2.2.2.2.2.2.1 = M.2.2.2.2.2.2.2.2.2.2.2.2.2.2.2.2.2.2.1 := by rw [← hF]; rfl
  have t9 : M2.2.2.2.2.2.2.2.2.2.2.2.2.2.2.2.2.2.2.2.1 = M.2.2.2.2.2.2.2.2.2.2.2.2.2.2.2.2.2.2.2.1 := by rw [← hF]; rfl
  have hJ : INV (K.1, nI A.2, K.2.2.1, K.2.2.2.1, K.2.2.2.2.1, K.2.2.2.2.2.1, K.2.2.2.2.2.2.1, K.2.2.2.2.2.2.2.1, K.2.2.2.2.2.2.2.2.1, K.2.2.2.2.2.2.2.2.2.1, K.2.2.2.2.2.2.2.2.2.2.1, K.2.2.2.2.2.2.2.2.2.2.2.1, K.2.2.2.2.2.2.2.2.2.2.2.2.1, K.2.2.2.2.2.2.2.2.2.2.2.2.2.1, K.2.2.2.2.2.2.2.2.2.2.2.2.2.2.1, K.2.2.2.2.2.2.2.2.2.2.2.2.2.2.2.1, K.2.2.2.2.2.2.2.2.2.2.2.2.2.2.2.2.1, K.2.2.2.2.2.2.2.2.2.2.2.2.2.2.2.2.2.1, K.2.2.2.2.2.2.2.2.2.2.2.2.2.2.2.2.2.2.1, K.2.2.2.2.2.2.2.2.2.2.2.2.2.2.2.2.2.2.2.1, K.2.2.2.2.2.2.2.2.2.2.2.2.2.2.2.2.2.2.2.2.1, K.2.2.2.2.2.2.2.2.2.2.2.2.2.2.2.2.2.2.2.2.2.1, K.2.2.2.2.2.2.2.2.2.2.2.2.2.2.2.2.2.2.2.2.2.2.1, K.2.2.2.2.2.2.2.2.2.2.2.2.2.2.2.2.2.2.2.2.2.2.2.1, K.2.2.2.2.2.2.2.2.2.2.2.2.2.2.2.2.2.2.2.2.2.2.2.2.1, K.2.2.2.2.2.2.2.2.2.2.2.2.2.2.2.2.2.2.2.2.2.2.2.2.2.1, K.2.2.2.2.2.2.2.2.2.2.2.2.2.2.2.2.2.2.2.2.2.2.2.2.2.2.1, K.2.2.2.2.2.2.2.2.2.2.2.2.2.2.2.2.2.2.2.2.2.2.2.2.2.2.2.1, K.2.2.2.2.2.2.2.2.2.2.2.2.2.2.2.2.2.2.2.2.2.2.2.2.2.2.2.2.1, K.2.2.2.2.2.2.2.2.2.2.2.2.2.2.2.2.2.2.2.2.2.2.2.2.2.2.2.2.2.1, K.2.2.2.2.2.2.2.2.2.2.2.2.2.2.2.2.2.2.2.2.2.2.2.2.2.2.2.2.2.2.1, K.2.2.2.2.2.2.2.2.2.2.2.2.2.2.2.2.2.2.2.2.2.2.2.2.2.2.2.2.2.2.2.1, K.2.2.2.2.2.2.2.2.2.2.2.2.2.2.2.2.2.2.2.2.2.2.2.2.2.2.2.2.2.2.2.2.1, A.1) M2 := by
    refine ⟨⟨ok, zh, zd, zs, hz⟩, by rw [t1]; exact hC, ⟨a, b, ⟨ha, hb⟩, ⟨eO, eC, by rw [t8]; exact eU⟩, by rw [t7]; exact hR⟩, by rw [t9, t6]; exact hs, ⟨by rw [t2]; exact eB, by rw [t2]; exact hB, f0, hf, eK, by rw [t3]; exact eF⟩, ⟨by rw [t4]; exact et, by rw [t5]; exact ep⟩, A.2, hA3, rfl, by rw [p2, hAG.1], fun i hi => ?_⟩
    rw [p1]
    exact hAG.2 i hi
  exact mqv (INV_Cd hJ) rfl (by rw [hAG.1])
end AG
