/-! c4: arrays of references, the history is made -/
set_option maxRecDepth 8000
theorem CL_hist : Cond.classLink "GhostRooms$History" 9 "GhostRooms$House" ∈ TBLg := inG 299 (by decide +kernel) rfl
section ST
variable {G : GG} {i pc : Nat} {L : List (Nat × Value)} {st : List Value} {h : HM} {o : Option Nat} {k n : Nat} {Q : XQ}
theorem s_anew {z : Nat} {v : Int32} {N : Nat} (hi : (mN i).cls = "GhostRooms$History") (hd : decode (mC i) pc = .ok (.anewarray 9, 3)) (hv : ¬ v < 0) (hN : v.toNatClampNeg = N) (hb : N * 4 ≤ 536870912) (hk : k + 1 ≤ (mMc i).1) (hn : n + N ≤ (mMc i).2)
    (kk : EX G i (pc + 3) L (.ref z :: st) (hup h z (.inl (2, N, .inr (.inr (.inr (.inr (fun _ => none))))))) (some (z + 1)) (k + 1) (n + N) Q) : EX G i pc L (.int v :: st) h (some z) k n Q := by
  intro p l e s m args below meth c H locs ls C hl hR hS
  have C0 := C
  obtain ⟨hx, hb9, hrt, hml, hown, hts, hlocks, hnm, hst, hK, htab⟩ := C
  have hsz : H.size = z := hR.1 z rfl
  rw [hi] at hown
  subst hN
  have AO : va_AO "GhostRooms$House" s := hK.2.2.2.2.2.2.2.2.2.2.2.2.2.2.2.1
  refine W.anew hx hb9 hown (hts _ CL_hist) (va_AO.use AO) rfl hd rfl hv hb hk hn fun cA kA comp f1 f2 f3 f4 => ?_
  subst hsz
  generalize hH1 : H.push ({ cls := cA, slots := Array.replicate v.toNatClampNeg .null, vm := .none } : Cell) = H1
  have z1 : H1.size = H.size + 1 := by rw [← hH1, Array.size_push]
  have e1 : H1[H.size]? = some (arrV cA v.toNatClampNeg (fun _ => .null)) := by rw [← hH1, Array.getElem?_push_size, ← arrV_new]
  have o1 : ∀ q : Nat, q < H.size → H1[q]? = H[q]? := fun q hq => by rw [← hH1, Array.getElem?_push, if_neg (Nat.ne_of_lt hq)]
  obtain ⟨-, -, -, -, -, g9⟩ := (hK.1.2 2 _ rfl).2
  have hcA : cA = gA G 2 := Option.some.inj (f1.symm.trans g9)
  subst hcA
  exact kk p l e s m args below meth c H1 locs ls C0 hl (hR.push e1 z1 o1) ⟨Nat.le_trans hS.1 (by omega), fun x h1 h2 => (o1 x (by have := hS.1; omega)).trans (hS.2.1 x h1 h2), hS.2.2⟩
theorem s_aastore {a v len : Nat} {f : Nat → Option Nat} {vs : List Value} {j : Int32} (hd : decode (mC i) pc = .ok (.aastore, 1)) (ha : h a = some (.inl (2, len, .inr (.inr (.inr (.inr f)))))) (hv : h v = some (.inr (3, vs))) (hin : vp_in j len)
    (kk : EX G i (pc + 1) L st (hup h a (.inl (2, len, .inr (.inr (.inr (.inr (va_up f j.toNatClampNeg (some v)))))))) o k n Q) : EX G i pc L (.ref v :: .int j :: .ref a :: st) h o k n Q := by
  intro p l e s m args below meth c H locs ls C hl hR hS
  have hK := C.2.2.2.2.2.2.2.2.2.1.1
  have hP := hR.one ha
  have hPv := hR.one hv
  have hba := (hR.2.2 a _ ha).1
  have hlt : j.toNatClampNeg < len := Nat.not_le.mp fun q => hin (Or.inr q)
  have h0 : ¬ j < 0 := fun q => hin (Or.inl q)
  obtain ⟨r', hr', cellV, g1, g2, g3, -⟩ := hPv 0 _ rfl
  have hcls := (hK.1 3 _ rfl).2
  obtain ⟨kA, comp, k1, k2, k3, -⟩ := (hK.2 2 _ rfl).2
  have hcomp : comp = (gD G).1 3 := Option.some.inj (k3.symm.trans hcls.1)
  subst hcomp
  obtain ⟨kC, hkC, -⟩ := hcls.2
  refine W.aast C.1 C.2.1 (hP 0 _ rfl) (fun q h => by cases h) (fun h => by cases h) k1 k2 rfl hkC ⟨h0, by show _ < (arrV _ _ _).slots.size; rw [arrV_size]; exact hlt⟩ g1 (fun q h => by rw [g3] at h; cases h) (by rw [g2]; exact hkC) (by rw [g2]; exact va_assign hcls) rfl rfl hd fun H1 e9 z oq => ?_
  refine kk p l e s m args below meth c H1 _ ls C hl (hR.set ha ?_ z oq) (hS.put z oq hba)
  show H1[a]? = some (vp_cell _ _)
  rw [e9]
  show some ((vp_cell _ _).setSlot _ _) = _
  rw [vp_cell_q, vp_cell_q, arrV_store]
  congr 2
  funext q
  by_cases hq : q = j.toNatClampNeg
  · subst hq
    simp [updV, va_up, va_rf]
  · simp [updV, va_up, hq]
end ST
def hS (h : HM) (a j : Nat) : HM := fun x => if x = a then some (.inr (2, [.ref (a + 1), .int 0, .int 0])) else if x = a + 1 then some (.inl (2, 7, .inr (.inr (.inr (.inr (fun i => if i < j then some (a + 2 + 18 * i) else none)))))) else if a + 2 ≤ x ∧ x < a + 2 + 18 * j then some (cH (a + 2 + 18 * ((x - (a + 2)) / 18)) HN ((x - (a + 2)) % 18)) else h x
theorem hS_0 {h : HM} {a j : Nat} : hS h a j a = some (.inr (2, [.ref (a + 1), .int 0, .int 0])) := if_pos rfl
theorem hS_1 {h : HM} {a j : Nat} : hS h a j (a + 1) = some (.inl (2, 7, .inr (.inr (.inr (.inr (fun i => if i < j then some (a + 2 + 18 * i) else none)))))) := (if_neg (by omega)).trans (if_pos rfl)
theorem hS_ini {h : HM} {a : Nat} : hup (hup h (a + 1) (.inl (2, 7, .inr (.inr (.inr (.inr (fun _ => none))))))) a (.inr (2, [.ref (a + 1), .int 0, .int 0])) = hS h a 0 := by
  funext x
  by_cases c : x = a
  · subst c; rw [hup_at, hS_0]
  · rw [hup_nq c]
    by_cases c1 : x = a + 1
    · subst c1
      rw [hup_at, hS_1]
      rfl
    · rw [hup_nq c1]
      unfold hS
      rw [if_neg c, if_neg c1, if_neg (by omega)]
theorem hS_suc {h : HM} {a j : Nat} : hup (hH (hS h a j) (a + 2 + 18 * j) HN) (a + 1) (.inl (2, 7, .inr (.inr (.inr (.inr (va_up (fun i => if i < j then some (a + 2 + 18 * i) else none) j (some (a + 2 + 18 * j)))))))) = hS h a (j + 1) := by
  funext x
  by_cases c1 : x = a + 1
  · subst c1
    rw [hup_at, hS_1]
    congr 8
    funext i
    unfold va_up
    by_cases e : i = j
    · subst e; rw [if_pos rfl, if_pos (by omega)]
    · rw [if_neg e]
      show (if i < j then some (a + 2 + 18 * i) else none) = _
      by_cases e2 : i < j
      · rw [if_pos e2, if_pos (by omega)]
      · rw [if_neg e2, if_neg (by omega)]
  · rw [hup_nq c1]
    by_cases c : a + 2 + 18 * j ≤ x ∧ x < a + 2 + 18 * j + 18
    · obtain ⟨i, hi, rfl⟩ : ∃ i, i < 18 ∧ x = a + 2 + 18 * j + i := ⟨x - (a + 2 + 18 * j), by omega, by omega⟩
      rw [hH_at hi]
      unfold hS
      rw [if_neg (by omega), if_neg (by omega), if_pos (by omega)]
      have q1 : (a + 2 + 18 * j + i - (a + 2)) / 18 = j := by omega
      have q2 : (a + 2 + 18 * j + i - (a + 2)) % 18 = i := by omega
      rw [q1, q2]
    · rw [hH_out c]
      unfold hS
      by_cases c0 : x = a
      · rw [if_pos c0, if_pos c0]
      · rw [if_neg c0, if_neg c0, if_neg c1, if_neg c1]
        by_cases e : a + 2 ≤ x ∧ x < a + 2 + 18 * j
        · rw [if_pos e, if_pos (by omega)]
        · rw [if_neg e, if_neg (by omega)]
theorem hH_own {h : HM} {p : Nat} {e : AE} {T : HT} : hH (hup h p e) p T = hH h p T := by
  funext x
  unfold hH
  split
  · rfl
  · rw [hup_nq (by omega)]
theorem room_hist {j : Nat} (hj : j < 7) : roomOK m_History_init 25 (1 + 18 * j + 1) (7 + 4839 * j + 19) = true := by
  have : j = 0 ∨ j = 1 ∨ j = 2 ∨ j = 3 ∨ j = 4 ∨ j = 5 ∨ j = 6 := by omega
  rcases this with rfl | rfl | rfl | rfl | rfl | rfl | rfl <;> decide +kernel
def rx_History_init (as : List Value) (h : HM) (o : Option Nat) (Q : XQ) : Prop := A_r as fun a => (o = some (a + 1) ∧ h a = some (.inr (2, [.null, .int 0, .int 0]))) ∧ Q (.inl none) (hS h a 7) (some (a + 128))
section CI
variable {G : GG} {as : List Value} {h : HM} {o : Option Nat} {Q : XQ}
theorem HH_History_init : mHH 20 = [] := rfl
theorem TY_2_0 {v : Nat} : okw (tyC 2 0) (.ref v) = True := rfl
theorem TY_2_0n : okw (tyC 2 0) (.null) = True := rfl
theorem W45_House_init {G : GG} {as : List Value} {h : HM} {o : Option Nat} {Q : XQ} : RX G (W45 G) 25 as h o Q = rx_House_init as h o Q := rfl
set_option maxRecDepth 2000 in
set_option maxHeartbeats 200000 in
theorem r_History_init (hx : rx_History_init as h o Q) : Runs G m_History_init as h o Q := by
  obtain ⟨a, rfl, ⟨rfl, h1⟩, hq⟩ := E_r hx
  change Nat at a
  have hJ : True := trivial
  have F1 : 1 ≤ (mF m_History_init).1 := by decide
  have F2 : 12 ≤ (mF m_History_init).2 := by decide
  have loop : ∀ m j : Nat, j + m = 7 → EX G m_History_init 15 [(0, .ref a), (1, .int (nI j))] [] (hS h a j) (some (a + 2 + 18 * j)) (1 + 18 * j) (7 + 4839 * j) Q := by
    intro m
    induction m with
    | zero =>
      intro j hj
      obtain rfl : j = 7 := by omega
      refine X_History_init_15 (W45_ok G) (genJ (P := fun J => exB _ _ _ _ (J 40) _ _ _ _ _ _ _ _) (fun J hJ => ?_))
      simp [exB, hJ, exT, stp, lv_args, Value.category, lkL, stL1, stL2, insL, contX, q_ofNat, f4_3, nI_1, -Int32.not_lt, -Int32.not_le, -Int64.not_lt, -Int64.not_le, T_History_init_15, T_History_init_43, R_History_init, C_History_init, M_History_init, HH_History_init, KB_7, KI_0, KI_1, -Int32.reduceOfInt, -Int8.reduceOfInt, -Int16.reduceOfInt, -Int32.ofInt_neg, TY_2_0, TY_2_0n, O_History_init_House_init, C_House_init, M_House_init, W45_House_init, rx_House_init, hS_0, hS_1]
      try simp (disch := omega) [-Int64.not_lt, -Int64.not_le, -Int32.not_lt, -Int32.not_le, nI_z, nI_ltI, nI_leI, nI_1, nI_clamp, q_vp, nI_pos', rget_k, rset_k, lget_k, hup_hup, hS_0, hS_1]
      exact hq
    | succ m ih =>
      intro j hj
      have hlt : j < 7 := by omega
      have hro := room_hist hlt
      have hl : ¬ nI 7 ≤ nI j := fun e => absurd (nI_lt hlt (by decide)) (Int32.not_lt.mpr e)
      have hv : vp_in (nI j) 7 := vp_in_nI hlt (by decide)
      have hc := nI_clamp (show j < 2 ^ 31 by omega)
      have n1 : a ≠ a + 2 + 18 * j := by omega
      have n2 : a + 1 ≠ a + 2 + 18 * j := by omega
      have k1 : 1 + 18 * j + 1 ≤ 128 := by omega
      have k2 : 7 + 4839 * j + 19 ≤ 33886 := by omega
      refine X_History_init_15 (W45_ok G) (genJ (P := fun J => exB _ _ _ _ (J 40) _ _ _ _ _ _ _ _) (fun J hJ => ?_))
      simp [exB, hJ, exT, stp, lv_args, Value.category, lkL, stL1, stL2, insL, contX, q_ofNat, f4_3, nI_1, -Int32.not_lt, -Int32.not_le, -Int64.not_lt, -Int64.not_le, T_History_init_15, T_History_init_43, R_History_init, C_History_init, M_History_init, HH_History_init, KB_7, KI_0, KI_1, -Int32.reduceOfInt, -Int8.reduceOfInt, -Int16.reduceOfInt, -Int32.ofInt_neg, TY_2_0, TY_2_0n, O_History_init_House_init, C_House_init, M_House_init, W45_House_init, rx_House_init, hS_0, hS_1, hl, hup_nq n1, hup_nq n2, hup_at, dfl, nFl, A_r, hro, k1, k2]
      try simp (disch := omega) [-Int64.not_lt, -Int64.not_le, -Int32.not_lt, -Int32.not_le, nI_z, nI_ltI, nI_leI, nI_1, nI_clamp, q_vp, nI_pos', rget_k, rset_k, lget_k, hup_hup, hS_0, hS_1, hl, hup_nq n1, hup_nq n2, hup_at, dfl, nFl, A_r, hro, k1, k2]
      rw [hH_own]
      refine s_aastore (by decide +kernel) ((hH_out (by omega)).trans hS_1) hH_0 hv ?_
      rw [hc, hS_suc]
      refine X_History_init_37 (W45_ok G) (genJ (P := fun J => exB _ _ _ _ (J 40) _ _ _ _ _ _ _ _) (fun J hJ => ?_))
      simp [exB, hJ, exT, stp, lv_args, Value.category, lkL, stL1, stL2, insL, contX, q_ofNat, f4_3, nI_1, -Int32.not_lt, -Int32.not_le, -Int64.not_lt, -Int64.not_le, T_History_init_15, T_History_init_43, R_History_init, C_History_init, M_History_init, HH_History_init, KB_7, KI_0, KI_1, -Int32.reduceOfInt, -Int8.reduceOfInt, -Int16.reduceOfInt, -Int32.ofInt_neg, TY_2_0, TY_2_0n, O_History_init_House_init, C_House_init, M_House_init, W45_House_init, rx_House_init, hS_0, hS_1]
      try simp (disch := omega) [-Int64.not_lt, -Int64.not_le, -Int32.not_lt, -Int32.not_le, nI_z, nI_ltI, nI_leI, nI_1, nI_clamp, q_vp, nI_pos', rget_k, rset_k, lget_k, hup_hup, hS_0, hS_1]
      have q := ih (j + 1) (by omega)
      rw [show a + 2 + 18 * (j + 1) = a + 2 + 18 * j + 18 by omega, show 1 + 18 * (j + 1) = 1 + 18 * j + 1 + 17 by omega, show 7 + 4839 * (j + 1) = 7 + 4839 * j + 19 + 4820 by omega] at q
      exact q
  refine Runs.of (by decide +kernel) (Nat.le_of_ble_eq_true rfl) ?_
  refine exB_ok (t := [(.aload_n 0, 1, 0, 0, 0, 0), (.invokespecial 3, 3, 100000, 0, 0, 0), (.aload_n 0, 1, 0, 0, 0, 0), (.bipush 7, 2, 0, 0, 0, 0)]) (W45_ok G) (jj := fun q L st h o k n => EX G m_History_init q L st h o k n Q) (fun q L st h o k n hq => hq) (by decide +kernel) ?_
  simp [exB, hJ, exT, stp, lv_args, Value.category, lkL, stL1, stL2, insL, contX, q_ofNat, f4_3, nI_1, -Int32.not_lt, -Int32.not_le, -Int64.not_lt, -Int64.not_le, T_History_init_15, T_History_init_43, R_History_init, C_History_init, M_History_init, HH_History_init, KB_7, KI_0, KI_1, -Int32.reduceOfInt, -Int8.reduceOfInt, -Int16.reduceOfInt, -Int32.ofInt_neg, TY_2_0, TY_2_0n, O_History_init_House_init, C_House_init, M_House_init, W45_House_init, rx_House_init, F1, F2]
  try simp (disch := omega) [-Int64.not_lt, -Int64.not_le, -Int32.not_lt, -Int32.not_le, nI_z, nI_ltI, nI_leI, nI_1, nI_clamp, q_vp, nI_pos', rget_k, rset_k, lget_k, hup_hup, F1, F2]
  refine s_anew (v := 7) (N := 7) (by decide +kernel) (by decide +kernel) (by decide) (by decide) (by decide) (by decide +kernel) (by decide +kernel) ?_
  have n1 : a ≠ a + 1 := by omega
  refine exB_ok (t := [(.putfield 11, 3, 2, 0, 0, 0), (.iconst 0, 1, 0, 0, 0, 0), (.istore_n 1, 1, 0, 0, 0, 0)]) (W45_ok G) (jj := fun q L st h o k n => EX G m_History_init q L st h o k n Q) (fun q L st h o k n hq => hq) (by decide +kernel) ?_
  simp [exB, hJ, exT, stp, lv_args, Value.category, lkL, stL1, stL2, insL, contX, q_ofNat, f4_3, nI_1, -Int32.not_lt, -Int32.not_le, -Int64.not_lt, -Int64.not_le, T_History_init_15, T_History_init_43, R_History_init, C_History_init, M_History_init, HH_History_init, KB_7, KI_0, KI_1, -Int32.reduceOfInt, -Int8.reduceOfInt, -Int16.reduceOfInt, -Int32.ofInt_neg, TY_2_0, TY_2_0n, O_History_init_House_init, C_House_init, M_House_init, W45_House_init, rx_House_init, h1, hup_nq n1, hup_at]
  try simp (disch := omega) [-Int64.not_lt, -Int64.not_le, -Int32.not_lt, -Int32.not_le, nI_z, nI_ltI, nI_leI, nI_1, nI_clamp, q_vp, nI_pos', rget_k, rset_k, lget_k, hup_hup, h1, hup_nq n1, hup_at]
  rw [hS_ini]
  exact loop 7 0 rfl
end CI
def W46 (G : GG) : WF := (wcons 20 rx_History_init (W45 G))
theorem W46_ok (G : GG) : WOK G (W46 G) := (wcons_ok (fun _ _ _ _ hx => r_History_init hx) (W45_ok G))
