/-! h7b: violations, quietest paths, the fraction, the nights until known (by gen/h7b.py) -/
theorem dfJ_0 {p q : Nat → Nat → Int32} {i n : Nat} {c : Int32} (h : ∀ i j, i < n → j < n → p i j = q i j) (hi : i < n) : ∀ k, i + 1 + k ≤ n → dfJ p q i c k = c := by
  intro k
  induction k with
  | zero => intro _; rfl
  | succ k ih =>
    intro hk
    rw [dfJ, if_pos (h i (i + 1 + k) hi (by omega))]
    exact ih (by omega)
theorem dfA_0 {p q : Nat → Nat → Int32} {n : Nat} {c : Int32} (h : ∀ i j, i < n → j < n → p i j = q i j) : ∀ i, i ≤ n → dfA p q n c i = c := by
  intro i
  induction i with
  | zero => intro _; rfl
  | succ i ih =>
    intro hi
    rw [dfA, ih (by omega)]
    exact dfJ_0 h (by omega) _ (by omega)
theorem vi_T {U : HT} {s : Nat → Int32} (h : CPL U s) (f : Nat → Int32) : vc0 U = viT U (msT U U.2.2.2.2.2.2.2.2.2.2.2.1 f) := by
  unfold viT
  refine (dfA_0 (fun i j hi hj => ?_) _ (Nat.le_refl _)).symm
  show ptP _ i j = ptP _ j i
  rw [pt_C h _ _ hi hj, pt_C h _ _ hj hi, (DD_p h _).2]

theorem vc_0 {T : HT} {s : Nat → Int32} (hC : CPL T s) (hE : EXW s) : vc0 T = 0 := by
  have h12 := hC.1.1.2.2.1
  have hr := (geo_n hC.1).1
  unfold vc0
  by_cases c : T.2.2.2.2.2.2.2.2.2.1 = 0
  · exact if_pos c
  · rw [if_neg c]
    obtain ⟨g, hg, eg, e5⟩ := hE.1 (by omega)
    rw [(hC.2.2.2.1.2 (by omega)).1, eg, ctn_k (by omega)]
    have h5 := (ctn_S hC hg).2.2
    rw [e5] at h5
    cases e : bt T.2.2.2.2.2.2.2.2.2.2.2.2.2.2.1 g with
    | true => exact if_pos rfl
    | false => rw [e] at h5; exact absurd h5 (by decide)
theorem fw_le {D : DM} {a b v : Nat} (h : D a b = some v) : ∀ m, ∃ u, u ≤ v ∧ fwN D m a b = some u := by
  intro m
  induction m with
  | zero => exact ⟨v, Nat.le_refl v, h⟩
  | succ m ih =>
    obtain ⟨u, hu, e⟩ := ih
    show ∃ u, u ≤ v ∧ omin (fwN D m a b) (oadd (fwN D m a m) (fwN D m m b)) = some u
    rw [e]
    cases oadd (fwN D m a m) (fwN D m m b) with
    | none => exact ⟨u, hu, rfl⟩
    | some x =>
      refine ⟨if x < u then x else u, ?_, rfl⟩
      split <;> omega
theorem dE_le {T : HT} {s : Nat → Int32} (hC : CPL T s) {d a b n : Nat} (hd : d < T.2.2.2.2.2.2.2.2.2.2.1) (ha : T.2.2.2.2.2.1 d = nI a) (hb : T.2.2.2.2.2.2.1 d = nI b) (hn : T.2.2.2.2.2.2.2.1 d = nI n) (hab : a < b) (hb2 : b < T.2.2.2.2.2.2.2.2.2.1) (hn9 : n ≤ 9) (ho : bt T.2.2.2.2.2.2.2.2.2.2.2.1 d = true) : ∀ e, d < e → e ≤ T.2.2.2.2.2.2.2.2.2.2.1 → dE T T.2.2.2.2.2.2.2.2.2.2.2.1 e a b = some n := by
  have h12 := hC.1.1.2.2.1
  have h24 := hC.1.1.2.2.2
  intro e
  induction e with
  | zero => intro h; omega
  | succ e ih =>
    intro hde he
    rw [dE]
    obtain ⟨a2, b2, n2, g1, g2, g3, g4, g5, g6, -⟩ := drc_n hC (d := e) (by omega)
    by_cases c : d = e
    · subst c
      rw [if_pos ((ctn_k (by omega)).trans ho)]
      rw [if_pos (Or.inl ⟨by rw [ha, cn_nI (by omega)], by rw [hb, cn_nI (by omega)]⟩), hn, cn_nI (by omega)]
    · have ih := ih (by omega) (by omega)
      split
      · dsimp only
        rw [if_neg ?_]
        · exact ih
        · rw [g3, g4, cn_nI (by omega), cn_nI (by omega)]
          rintro (⟨q1, q2⟩ | ⟨q1, q2⟩)
          · exact c (hC.1.2.2 d e hd (by omega) (by rw [ha, g3, q1]) (by rw [hb, g4, q2]))
          · omega
      · exact ih
/-- an open door's own noise bounds the quietest path between its rooms -/
theorem qp_le {T : HT} {s : Nat → Int32} (hC : CPL T s) {d a b : Nat} (hd : d < nD s) (ea : s (120 + 4 * d) = nI a) (eb : s (120 + 4 * d + 1) = nI b) (e3 : s (120 + 4 * d + 3) = 1) (hal : a < nR s) (hbl : b < nR s) (f : Nat → Int32) : ptP (msT T T.2.2.2.2.2.2.2.2.2.2.2.1 f) a b ≤ s (120 + 4 * d + 2) := by
  have h12 := hC.1.1.2.2.1
  rw [(geo_n hC.1).2] at hd
  rw [(geo_n hC.1).1] at hal hbl
  obtain ⟨a2, b2, n, g1, g2, g3, g4, g5, g6, g7, g8, g9⟩ := drc_n hC hd
  obtain rfl : a = a2 := (nI_eq (by omega) (by omega)).mp (ea.symm.trans g7)
  obtain rfl : b = b2 := (nI_eq (by omega) (by omega)).mp (eb.symm.trans g8)
  have ho : bt T.2.2.2.2.2.2.2.2.2.2.2.1 d = true := by
    have h := od_S hC hd
    rw [e3] at h
    cases e : bt T.2.2.2.2.2.2.2.2.2.2.2.1 d with
    | true => rfl
    | false => rw [e] at h; exact absurd h (by decide)
  have h1 := dE_le hC hd g3 g4 g5 g1 g2 g6 ho T.2.2.2.2.2.2.2.2.2.2.1 (by omega) (Nat.le_refl _)
  obtain ⟨u, hu, e⟩ := fw_le h1 T.2.2.2.2.2.2.2.2.2.1
  rw [pt_C hC T.2.2.2.2.2.2.2.2.2.2.2.1 f hal hbl, g9]
  show ptD (fwN (dE T T.2.2.2.2.2.2.2.2.2.2.2.1 T.2.2.2.2.2.2.2.2.2.2.1) T.2.2.2.2.2.2.2.2.2.1 a b) ≤ nI n
  rw [e]
  exact (nI_leI (by omega) (by omega)).mpr hu
def FLE (v : UInt32) : Prop := Op.cmpValue (FP.fcmp v FP.fconst1) .g ≤ 0
theorem fl_dec : (List.range 13).all (fun a => (List.range 12).all fun b => decide (a ≤ b + 1 → Op.cmpValue (FP.fcmp (FP.fdiv (FP.i2f (nI a)) (FP.i2f (nI (b + 1)))) FP.fconst1) .g ≤ 0)) = true := by decide +kernel
theorem fl_ok {a b : Nat} (h : a ≤ b) (hb : 1 ≤ b) (hb2 : b ≤ 12) : FLE (FP.fdiv (FP.i2f (nI a)) (FP.i2f (nI b))) := by
  have h1 := List.all_eq_true.mp fl_dec a (List.mem_range.mpr (by omega))
  have h2 := List.all_eq_true.mp h1 (b - 1) (List.mem_range.mpr (by omega))
  have e : b - 1 + 1 = b := by omega
  rw [e] at h2
  exact of_decide_eq_true h2 h
theorem fl_0 : FLE FP.fconst0 := by unfold FLE; decide +kernel
section LK
variable {G : GG} {as : List Value} {h : HM} {o : Option Nat} {Q : XQ}
def rx_q_viol (as : List Value) (h : HM) (o : Option Nat) (Q : XQ) : Prop := A_r as fun z => LX h z fun h0 s => EXW s ∧ gdL Q h0 z o s 0
set_option maxRecDepth 2000 in
set_option maxHeartbeats 200000 in
theorem r_q_viol (hx : rx_q_viol as h o Q) : Runs G m_G_violations as h o Q := by
  obtain ⟨z, rfl, h0, K, s, rfl, hI, hE, hq⟩ := E_r hx
  refine r_G_violations ?_
  obtain ⟨⟨ok, zh, zd, hz⟩, hC, -, hn, hl⟩ := id hI
  obtain ⟨hg, hse, ⟨hcs, hnn, hgm⟩, hgh, hrm, hmk, hsb⟩ := id hC
  have hr := (geo_n hg).1
  have hd := (geo_n hg).2
  have h12 := hg.1.2.2.1
  have h24 := hg.1.2.2.2
  refine ⟨_, K, rfl, ok, PGE_C hC, ?_⟩
  rw [← vi_T hC, vc_0 hC hE, hG_hG]
  exact hq _ (LIV_pa hI _)
def rx_q_quiet (as : List Value) (h : HM) (o : Option Nat) (Q : XQ) : Prop := A_rii as fun z x y => LX h z fun h0 s => ∃ d a b, (d < nD s ∧ x = nI a ∧ y = nI b ∧ a < nR s ∧ b < nR s ∧ s (120 + 4 * d) = nI a ∧ s (120 + 4 * d + 1) = nI b ∧ s (120 + 4 * d + 3) = 1) ∧ ∀ v, v ≤ s (120 + 4 * d + 2) → gdL Q h0 z o s v
set_option maxRecDepth 2000 in
set_option maxHeartbeats 200000 in
theorem r_q_quiet (hx : rx_q_quiet as h o Q) : Runs G m_G_quietestPath as h o Q := by
  obtain ⟨z, x, y, rfl, h0, K, s, rfl, hI, d, a, b, ⟨hdl, rfl, rfl, ha, hb, ea, eb, e3⟩, hq⟩ := E_rii hx
  refine r_G_quietestPath ?_
  obtain ⟨⟨ok, zh, zd, hz⟩, hC, -, hn, hl⟩ := id hI
  obtain ⟨hg, hse, ⟨hcs, hnn, hgm⟩, hgh, hrm, hmk, hsb⟩ := id hC
  have hr := (geo_n hg).1
  have hd := (geo_n hg).2
  have h12 := hg.1.2.2.1
  have h24 := hg.1.2.2.2
  have hia : inR K.2.2.1.2.2.2.2.2.2.2.2.2.1 (nI a) = true := inR_k (by omega) (by omega)
  have hib : inR K.2.2.1.2.2.2.2.2.2.2.2.2.1 (nI b) = true := inR_k (by omega) (by omega)
  refine ⟨_, K, rfl, ok, fun e => ?_, fun a2 b2 h1 h2 e1 e2 => ?_⟩
  · rw [hia, hib] at e
    rcases e with e | e <;> cases e
  · obtain rfl : a = a2 := (nI_eq (by omega) (by omega)).mp e1
    obtain rfl : b = b2 := (nI_eq (by omega) (by omega)).mp e2
    refine ⟨PGE_C hC, ?_⟩
    have := hq _ (qp_le hC hdl ea eb e3 ha hb K.2.2.2.2.2.2.2.2.2.2.2.2.2.2.2.2.2.2.2.2.2.2.2.1) _ (LIV_pa hI (msT K.2.2.1 K.2.2.1.2.2.2.2.2.2.2.2.2.2.2.1 K.2.2.2.2.2.2.2.2.2.2.2.2.2.2.2.2.2.2.2.2.2.2.2.1))
    rw [hG_hG]
    exact this
def rx_q_frac (as : List Value) (h : HM) (o : Option Nat) (Q : XQ) : Prop := A_r as fun z => LX h z fun h0 s => ∀ v, FLE v → Q (.inl (some (.float v))) h o
set_option maxRecDepth 2000 in
set_option maxHeartbeats 200000 in
theorem r_q_frac (hx : rx_q_frac as h o Q) : Runs G m_G_possibleFraction as h o Q := by
  obtain ⟨z, rfl, h0, K, s, rfl, hI, hq⟩ := E_r hx
  refine r_G_possibleFraction ?_
  obtain ⟨⟨ok, zh, zd, hz⟩, hC, -, hn, hl⟩ := id hI
  obtain ⟨hg, hse, ⟨hcs, hnn, hgm⟩, hgh, hrm, hmk, hsb⟩ := id hC
  have hr := (geo_n hg).1
  have hd := (geo_n hg).2
  have h12 := hg.1.2.2.1
  have h24 := hg.1.2.2.2
  refine ⟨_, K, rfl, ok, fun _ => hq _ fl_0, fun c => ?_⟩
  rw [bc_rc h12 (fun j hj => (hmk.1 j hj).2.2)]
  have hle := fb_ct_le (bt K.2.2.1.2.2.2.2.2.2.2.2.2.2.2.2.2.2.1) K.2.2.1.2.2.2.2.2.2.2.2.2.1
  exact ⟨fd_ok (by omega) (by omega) h12, hq _ (fl_ok hle (by omega) h12)⟩
def rx_q_nuk (as : List Value) (h : HM) (o : Option Nat) (Q : XQ) : Prop := A_r as fun z => LX h z fun h0 s => bcF (orF (poS s) (nR s)) = 1 ∧ gdL Q h0 z o s 0
set_option maxRecDepth 2000 in
set_option maxHeartbeats 200000 in
theorem r_q_nuk (hx : rx_q_nuk as h o Q) : Runs G m_G_nightsUntilKnown as h o Q := by
  obtain ⟨z, rfl, h0, K, s, rfl, hI, hb, hq⟩ := E_r hx
  refine r_G_nightsUntilKnown ?_
  obtain ⟨⟨ok, zh, zd, hz⟩, hC, -, hn, hl⟩ := id hI
  obtain ⟨hg, hse, ⟨hcs, hnn, hgm⟩, hgh, hrm, hmk, hsb⟩ := id hC
  have hr := (geo_n hg).1
  have hd := (geo_n hg).2
  have h12 := hg.1.2.2.1
  have h24 := hg.1.2.2.2
  refine ⟨_, K, rfl, ok, ⟨zh, zd⟩, fun m a b c d e => ?_⟩
  have e0 : (frst 51 fun n => bcF (pasM K.2.2.1 n).2.2.2.2.2.2.2.2.2.2.2.2.2.2.1 == 1) = nI 0 := frst_at (by decide) (by
    show (bcF K.2.2.1.2.2.2.2.2.2.2.2.2.2.2.2.2.2.1 == 1) = true
    rw [← po_S hC, hb]
    rfl) (fun k hk => absurd hk (Nat.not_lt_zero k))
  rw [e0, hG_hG]
  obtain ⟨⟨o1, o2, o3, o4, o5⟩, -⟩ := hI.1
  exact hq _ ⟨⟨⟨o1, pasM_ok o1 m, o3, o4, o5⟩, zh, ZH_pasM o1 zh m, hz⟩, hI.2⟩
end LK
def W78 (G : GG) : WF := (wcons 116 rx_q_nuk (wcons 115 rx_q_frac (wcons 110 rx_q_quiet (wcons 114 rx_q_viol (W77 G)))))
theorem W78_ok (G : GG) : WOK G (W78 G) := (wcons_ok (fun _ _ _ _ hx => r_q_nuk hx) (wcons_ok (fun _ _ _ _ hx => r_q_frac hx) (wcons_ok (fun _ _ _ _ hx => r_q_quiet hx) (wcons_ok (fun _ _ _ _ hx => r_q_viol hx) (W77_ok G)))))
