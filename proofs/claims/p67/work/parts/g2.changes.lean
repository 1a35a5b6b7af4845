/-! g2: the class's changes, as the world's (by gen/g2.py) -/
def W63 (G : GG) : WF := (wcons 125 rx_k_earn (W62 G))
theorem W63_ok (G : GG) : WOK G (W63 G) := (wcons_ok (fun _ _ _ _ hx => r_k_earn hx) (W62_ok G))
theorem w_tI {w : Int32} (h : w = 0 ∨ w = 1) : ∃ q, w = tI q := by
  rcases h with h | h
  · exact ⟨false, h⟩
  · exact ⟨true, h⟩
theorem one_tI (b : Bool) : (1 : Int32) - tI b = tI (!b) := by cases b <;> decide
section LK
variable {G : GG} {as : List Value} {h : HM} {o : Option Nat} {Q : XQ}
def rx_k_mode (as : List Value) (h : HM) (o : Option Nat) (Q : XQ) : Prop := A_ri as fun z v => LX h z fun h0 s => (¬ v < stG 0 (nI 0) ∧ v ≤ stG 1 (nI 0)) ∧ gdL Q h0 z o (upd s 0 v) (s 0)
set_option maxRecDepth 2000 in
set_option maxHeartbeats 200000 in
theorem r_k_mode (hx : rx_k_mode as h o Q) : Runs G m_G_setMode as h o Q := by
  obtain ⟨z, v, rfl, h0, K, s, rfl, hI, ⟨h1, h2⟩, hq⟩ := E_ri hx
  refine r_G_setMode ?_
  obtain ⟨⟨ok, zh, zd, hz⟩, hC, ⟨a, b, ha, hb, eO, eC⟩, hn, hl⟩ := id hI
  obtain ⟨hg, hse, ⟨hcs, hnn, hgm⟩, hgh, hrm, hmk, hsb⟩ := id hC
  have hr := (geo_n hg).1
  have hd := (geo_n hg).2
  have h12 := hg.1.2.2.1
  have h24 := hg.1.2.2.2
  refine ⟨_, K, rfl, ok, a, b, ⟨ha, hb, eO, eC, zh, hz⟩, fun c => (c.elim h1 (fun y => y h2)).elim, fun _ _ => ?_⟩
  rw [hG_hG, hse 0 (by decide)]
  refine hq _ (LIV_ch (K := K) (a := a) (b := b) hI hb ha ?_ ?_ ?_ hn rfl rfl rfl rfl rfl hl)
  · exact (HZ_sw (k := 0) (v := v) ⟨ok.1, zh⟩ (by decide)).1
  · exact (HZ_sw (k := 0) (v := v) ⟨ok.1, zh⟩ (by decide)).2
  · exact CPL_se hC (by decide) (SETB_upd hsb (by decide) (fun y => y.elim h1 (fun y => y h2)))
def rx_k_chill (as : List Value) (h : HM) (o : Option Nat) (Q : XQ) : Prop := A_ri as fun z v => LX h z fun h0 s => (¬ v < stG 0 (nI 1) ∧ v ≤ stG 1 (nI 1)) ∧ gdL Q h0 z o (upd s 1 v) (s 1)
set_option maxRecDepth 2000 in
set_option maxHeartbeats 200000 in
theorem r_k_chill (hx : rx_k_chill as h o Q) : Runs G m_G_setChill as h o Q := by
  obtain ⟨z, v, rfl, h0, K, s, rfl, hI, ⟨h1, h2⟩, hq⟩ := E_ri hx
  refine r_G_setChill ?_
  obtain ⟨⟨ok, zh, zd, hz⟩, hC, ⟨a, b, ha, hb, eO, eC⟩, hn, hl⟩ := id hI
  obtain ⟨hg, hse, ⟨hcs, hnn, hgm⟩, hgh, hrm, hmk, hsb⟩ := id hC
  have hr := (geo_n hg).1
  have hd := (geo_n hg).2
  have h12 := hg.1.2.2.1
  have h24 := hg.1.2.2.2
  refine ⟨_, K, rfl, ok, a, b, ⟨ha, hb, eO, eC, zh, hz⟩, fun c => (c.elim h1 (fun y => y h2)).elim, fun _ _ => ?_⟩
  rw [hG_hG, hse 1 (by decide)]
  refine hq _ (LIV_ch (K := K) (a := a) (b := b) hI hb ha ?_ ?_ ?_ hn rfl rfl rfl rfl rfl hl)
  · exact (HZ_sw (k := 1) (v := v) ⟨ok.1, zh⟩ (by decide)).1
  · exact (HZ_sw (k := 1) (v := v) ⟨ok.1, zh⟩ (by decide)).2
  · exact CPL_se hC (by decide) (SETB_upd hsb (by decide) (fun y => y.elim h1 (fun y => y h2)))
def rx_k_hear (as : List Value) (h : HM) (o : Option Nat) (Q : XQ) : Prop := A_ri as fun z v => LX h z fun h0 s => (¬ v < stG 0 (nI 2) ∧ v ≤ stG 1 (nI 2)) ∧ gdL Q h0 z o (upd s 2 v) (s 2)
set_option maxRecDepth 2000 in
set_option maxHeartbeats 200000 in
theorem r_k_hear (hx : rx_k_hear as h o Q) : Runs G m_G_setHearingThreshold as h o Q := by
  obtain ⟨z, v, rfl, h0, K, s, rfl, hI, ⟨h1, h2⟩, hq⟩ := E_ri hx
  refine r_G_setHearingThreshold ?_
  obtain ⟨⟨ok, zh, zd, hz⟩, hC, ⟨a, b, ha, hb, eO, eC⟩, hn, hl⟩ := id hI
  obtain ⟨hg, hse, ⟨hcs, hnn, hgm⟩, hgh, hrm, hmk, hsb⟩ := id hC
  have hr := (geo_n hg).1
  have hd := (geo_n hg).2
  have h12 := hg.1.2.2.1
  have h24 := hg.1.2.2.2
  refine ⟨_, K, rfl, ok, a, b, ⟨ha, hb, eO, eC, zh, hz⟩, fun c => (c.elim h1 (fun y => y h2)).elim, fun _ _ => ?_⟩
  rw [hG_hG, hse 2 (by decide)]
  refine hq _ (LIV_ch (K := K) (a := a) (b := b) hI hb ha ?_ ?_ ?_ hn rfl rfl rfl rfl rfl hl)
  · exact (HZ_sw (k := 2) (v := v) ⟨ok.1, zh⟩ (by decide)).1
  · exact (HZ_sw (k := 2) (v := v) ⟨ok.1, zh⟩ (by decide)).2
  · exact CPL_se hC (by decide) (SETB_upd hsb (by decide) (fun y => y.elim h1 (fun y => y h2)))
def rx_k_price (as : List Value) (h : HM) (o : Option Nat) (Q : XQ) : Prop := A_ri as fun z v => LX h z fun h0 s => (¬ v < stG 0 (nI 3) ∧ v ≤ stG 1 (nI 3)) ∧ gdL Q h0 z o (upd s 3 v) (s 3)
set_option maxRecDepth 2000 in
set_option maxHeartbeats 200000 in
theorem r_k_price (hx : rx_k_price as h o Q) : Runs G m_G_setSeancePrice as h o Q := by
  obtain ⟨z, v, rfl, h0, K, s, rfl, hI, ⟨h1, h2⟩, hq⟩ := E_ri hx
  refine r_G_setSeancePrice ?_
  obtain ⟨⟨ok, zh, zd, hz⟩, hC, ⟨a, b, ha, hb, eO, eC⟩, hn, hl⟩ := id hI
  obtain ⟨hg, hse, ⟨hcs, hnn, hgm⟩, hgh, hrm, hmk, hsb⟩ := id hC
  have hr := (geo_n hg).1
  have hd := (geo_n hg).2
  have h12 := hg.1.2.2.1
  have h24 := hg.1.2.2.2
  refine ⟨_, K, rfl, ok, a, b, ⟨ha, hb, eO, eC, zh, hz⟩, fun c => (c.elim h1 (fun y => y h2)).elim, fun _ _ => ?_⟩
  rw [hG_hG, hse 3 (by decide)]
  refine hq _ (LIV_ch (K := K) (a := a) (b := b) hI hb ha ?_ ?_ ?_ hn rfl rfl rfl rfl rfl hl)
  · exact (HZ_sw (k := 3) (v := v) ⟨ok.1, zh⟩ (by decide)).1
  · exact (HZ_sw (k := 3) (v := v) ⟨ok.1, zh⟩ (by decide)).2
  · exact CPL_se hC (by decide) (SETB_upd hsb (by decide) (fun y => y.elim h1 (fun y => y h2)))
def rx_k_rand (as : List Value) (h : HM) (o : Option Nat) (Q : XQ) : Prop := A_ri as fun z v => LX h z fun h0 s => (¬ v < stG 0 (nI 4) ∧ v ≤ stG 1 (nI 4)) ∧ gdL Q h0 z o (upd s 4 v) (s 4)
set_option maxRecDepth 2000 in
set_option maxHeartbeats 200000 in
theorem r_k_rand (hx : rx_k_rand as h o Q) : Runs G m_G_setRandomState as h o Q := by
  obtain ⟨z, v, rfl, h0, K, s, rfl, hI, ⟨h1, h2⟩, hq⟩ := E_ri hx
  refine r_G_setRandomState ?_
  obtain ⟨⟨ok, zh, zd, hz⟩, hC, ⟨a, b, ha, hb, eO, eC⟩, hn, hl⟩ := id hI
  obtain ⟨hg, hse, ⟨hcs, hnn, hgm⟩, hgh, hrm, hmk, hsb⟩ := id hC
  have hr := (geo_n hg).1
  have hd := (geo_n hg).2
  have h12 := hg.1.2.2.1
  have h24 := hg.1.2.2.2
  refine ⟨_, K, rfl, ok, a, b, ⟨ha, hb, eO, eC, zh, hz⟩, fun c => (c.elim h1 (fun y => y h2)).elim, fun _ _ => ?_⟩
  rw [hG_hG, hse 4 (by decide)]
  refine hq _ (LIV_ch (K := K) (a := a) (b := b) hI hb ha ?_ ?_ ?_ hn rfl rfl rfl rfl rfl hl)
  · exact (HZ_sw (k := 4) (v := v) ⟨ok.1, zh⟩ (by decide)).1
  · exact (HZ_sw (k := 4) (v := v) ⟨ok.1, zh⟩ (by decide)).2
  · exact CPL_se hC (by decide) (SETB_upd hsb (by decide) (fun y => y.elim h1 (fun y => y h2)))
def rx_k_therm (as : List Value) (h : HM) (o : Option Nat) (Q : XQ) : Prop := A_rii as fun z i w => LX h z fun h0 s => ∃ k : Nat, (k < nR s ∧ i = nI k ∧ (w = 0 ∨ w = 1) ∧ s (12 + 9 * k + 3) = 1 - w) ∧ gdL Q h0 z o (upd s (12 + 9 * k + 3) w) (cntS (upd s (12 + 9 * k + 3) w) 3 (nR s))
set_option maxRecDepth 2000 in
set_option maxHeartbeats 200000 in
theorem r_k_therm (hx : rx_k_therm as h o Q) : Runs G m_G_setThermometer as h o Q := by
  obtain ⟨z, i, w, rfl, h0, K, s, rfl, hI, k, ⟨hk, rfl, hw, h3⟩, hq⟩ := E_rii hx
  obtain ⟨q, rfl⟩ := w_tI hw
  rw [one_tI] at h3
  refine r_G_setThermometer ?_
  obtain ⟨⟨ok, zh, zd, hz⟩, hC, ⟨a, b, ha, hb, eO, eC⟩, hn, hl⟩ := id hI
  obtain ⟨hg, hse, ⟨hcs, hnn, hgm⟩, hgh, hrm, hmk, hsb⟩ := id hC
  have hr := (geo_n hg).1
  have hd := (geo_n hg).2
  have h12 := hg.1.2.2.1
  have h24 := hg.1.2.2.2
  rw [hr] at hk
  have hin : inR K.2.2.1.2.2.2.2.2.2.2.2.2.1 (nI k) = true := inR_k hk (by omega)
  have hb3 : bt K.2.2.1.2.2.2.2.2.2.2.2.2.2.2.2.1 k = !q := by
    have e := (hrm k hk).2.2.1.symm.trans h3
    revert e
    cases bt K.2.2.1.2.2.2.2.2.2.2.2.2.2.2.2.1 k <;> cases q <;> decide
  have hV : CPL (K.2.2.1.1, K.2.2.1.2.1, K.2.2.1.2.2.1, K.2.2.1.2.2.2.1, K.2.2.1.2.2.2.2.1, K.2.2.1.2.2.2.2.2.1, K.2.2.1.2.2.2.2.2.2.1, K.2.2.1.2.2.2.2.2.2.2.1, K.2.2.1.2.2.2.2.2.2.2.2.1, K.2.2.1.2.2.2.2.2.2.2.2.2.1, K.2.2.1.2.2.2.2.2.2.2.2.2.2.1, K.2.2.1.2.2.2.2.2.2.2.2.2.2.2.1, K.2.2.1.2.2.2.2.2.2.2.2.2.2.2.2.1 ^^^ cbit (nI k), K.2.2.1.2.2.2.2.2.2.2.2.2.2.2.2.2.1, K.2.2.1.2.2.2.2.2.2.2.2.2.2.2.2.2.2.1, K.2.2.1.2.2.2.2.2.2.2.2.2.2.2.2.2.2.2.1, K.2.2.1.2.2.2.2.2.2.2.2.2.2.2.2.2.2.2.2.1, K.2.2.1.2.2.2.2.2.2.2.2.2.2.2.2.2.2.2.2.2.1, K.2.2.1.2.2.2.2.2.2.2.2.2.2.2.2.2.2.2.2.2.2) (upd s (12 + 9 * k + 3) (tI q)) := by
    have e : q = !(bt K.2.2.1.2.2.2.2.2.2.2.2.2.2.2.2.1 k) := by rw [hb3]; cases q <;> rfl
    rw [e]
    exact CPL_th hC hk (fun j => bt_xor_k (by omega) j)
  have hval : cntS (upd s (12 + 9 * k + 3) (tI q)) 3 (nR s) = bcF (K.2.2.1.2.2.2.2.2.2.2.2.2.2.2.2.1 ^^^ cbit (nI k)) := by
    have h1 := cntS_T hV (w := 3) (x := K.2.2.1.2.2.2.2.2.2.2.2.2.2.2.2.1 ^^^ cbit (nI k)) (fun j hj => (hV.2.2.2.2.1 j hj).2.2.1) (fun j hj => (hV.2.2.2.2.2.1.1 j hj).1)
    rw [(geo_n hV.1).1] at h1
    rw [hr]
    exact h1
  refine ⟨_, K, rfl, ok, a, b, ⟨ha, hb, eO, eC, zh, hz⟩, fun c => ?_, fun _ c => ?_, fun _ _ => ?_⟩
  · rw [hin] at c; cases c
  · rw [ctn_k (by omega), hb3] at c
    exfalso; revert c; cases q <;> decide
  · rw [hG_hG, ← hval]
    exact hq _ (LIV_ch (K := K) (a := a) (b := b) hI hb ha ok.1 zh hV hn rfl rfl rfl rfl rfl hl)
def rx_k_micro (as : List Value) (h : HM) (o : Option Nat) (Q : XQ) : Prop := A_rii as fun z i w => LX h z fun h0 s => ∃ k : Nat, (k < nR s ∧ i = nI k ∧ (w = 0 ∨ w = 1) ∧ s (12 + 9 * k + 4) = 1 - w) ∧ gdL Q h0 z o (upd s (12 + 9 * k + 4) w) (cntS (upd s (12 + 9 * k + 4) w) 4 (nR s))
set_option maxRecDepth 2000 in
set_option maxHeartbeats 200000 in
theorem r_k_micro (hx : rx_k_micro as h o Q) : Runs G m_G_setMicrophone as h o Q := by
  obtain ⟨z, i, w, rfl, h0, K, s, rfl, hI, k, ⟨hk, rfl, hw, h3⟩, hq⟩ := E_rii hx
  obtain ⟨q, rfl⟩ := w_tI hw
  rw [one_tI] at h3
  refine r_G_setMicrophone ?_
  obtain ⟨⟨ok, zh, zd, hz⟩, hC, ⟨a, b, ha, hb, eO, eC⟩, hn, hl⟩ := id hI
  obtain ⟨hg, hse, ⟨hcs, hnn, hgm⟩, hgh, hrm, hmk, hsb⟩ := id hC
  have hr := (geo_n hg).1
  have hd := (geo_n hg).2
  have h12 := hg.1.2.2.1
  have h24 := hg.1.2.2.2
  rw [hr] at hk
  have hin : inR K.2.2.1.2.2.2.2.2.2.2.2.2.1 (nI k) = true := inR_k hk (by omega)
  have hb3 : bt K.2.2.1.2.2.2.2.2.2.2.2.2.2.2.2.2.1 k = !q := by
    have e := (hrm k hk).2.2.2.1.symm.trans h3
    revert e
    cases bt K.2.2.1.2.2.2.2.2.2.2.2.2.2.2.2.2.1 k <;> cases q <;> decide
  have hV : CPL (K.2.2.1.1, K.2.2.1.2.1, K.2.2.1.2.2.1, K.2.2.1.2.2.2.1, K.2.2.1.2.2.2.2.1, K.2.2.1.2.2.2.2.2.1, K.2.2.1.2.2.2.2.2.2.1, K.2.2.1.2.2.2.2.2.2.2.1, K.2.2.1.2.2.2.2.2.2.2.2.1, K.2.2.1.2.2.2.2.2.2.2.2.2.1, K.2.2.1.2.2.2.2.2.2.2.2.2.2.1, K.2.2.1.2.2.2.2.2.2.2.2.2.2.2.1, K.2.2.1.2.2.2.2.2.2.2.2.2.2.2.2.1, K.2.2.1.2.2.2.2.2.2.2.2.2.2.2.2.2.1 ^^^ cbit (nI k), K.2.2.1.2.2.2.2.2.2.2.2.2.2.2.2.2.2.1, K.2.2.1.2.2.2.2.2.2.2.2.2.2.2.2.2.2.2.1, K.2.2.1.2.2.2.2.2.2.2.2.2.2.2.2.2.2.2.2.1, K.2.2.1.2.2.2.2.2.2.2.2.2.2.2.2.2.2.2.2.2.1, K.2.2.1.2.2.2.2.2.2.2.2.2.2.2.2.2.2.2.2.2.2) (upd s (12 + 9 * k + 4) (tI q)) := by
    have e : q = !(bt K.2.2.1.2.2.2.2.2.2.2.2.2.2.2.2.2.1 k) := by rw [hb3]; cases q <;> rfl
    rw [e]
    exact CPL_mi hC hk (fun j => bt_xor_k (by omega) j)
  have hval : cntS (upd s (12 + 9 * k + 4) (tI q)) 4 (nR s) = bcF (K.2.2.1.2.2.2.2.2.2.2.2.2.2.2.2.2.1 ^^^ cbit (nI k)) := by
    have h1 := cntS_T hV (w := 4) (x := K.2.2.1.2.2.2.2.2.2.2.2.2.2.2.2.2.1 ^^^ cbit (nI k)) (fun j hj => (hV.2.2.2.2.1 j hj).2.2.2.1) (fun j hj => (hV.2.2.2.2.2.1.1 j hj).2.1)
    rw [(geo_n hV.1).1] at h1
    rw [hr]
    exact h1
  refine ⟨_, K, rfl, ok, a, b, ⟨ha, hb, eO, eC, zh, hz⟩, fun c => ?_, fun _ c => ?_, fun _ _ => ?_⟩
  · rw [hin] at c; cases c
  · rw [ctn_k (by omega), hb3] at c
    exfalso; revert c; cases q <;> decide
  · rw [hG_hG, ← hval]
    exact hq _ (LIV_ch (K := K) (a := a) (b := b) hI hb ha ok.1 zh hV hn rfl rfl rfl rfl rfl hl)
def rx_k_door (as : List Value) (h : HM) (o : Option Nat) (Q : XQ) : Prop := A_rii as fun z i w => LX h z fun h0 s => ∃ d : Nat, (d < nD s ∧ i = nI d ∧ (w = 0 ∨ w = 1) ∧ s (120 + 4 * d + 3) = 1 - w) ∧ gdL Q h0 z o (upd s (120 + 4 * d + 3) w) (opnS (upd s (120 + 4 * d + 3) w) (nD s))
set_option maxRecDepth 2000 in
set_option maxHeartbeats 200000 in
theorem r_k_door (hx : rx_k_door as h o Q) : Runs G m_G_setDoorOpen as h o Q := by
  obtain ⟨z, i, w, rfl, h0, K, s, rfl, hI, d, ⟨hk, rfl, hw, h3⟩, hq⟩ := E_rii hx
  obtain ⟨q, rfl⟩ := w_tI hw
  rw [one_tI] at h3
  refine r_G_setDoorOpen ?_
  obtain ⟨⟨ok, zh, zd, hz⟩, hC, ⟨a, b, ha, hb, eO, eC⟩, hn, hl⟩ := id hI
  obtain ⟨hg, hse, ⟨hcs, hnn, hgm⟩, hgh, hrm, hmk, hsb⟩ := id hC
  have hr := (geo_n hg).1
  have hd := (geo_n hg).2
  have h12 := hg.1.2.2.1
  have h24 := hg.1.2.2.2
  rw [hd] at hk
  have hin : inR K.2.2.1.2.2.2.2.2.2.2.2.2.2.1 (nI d) = true := inR_k hk (by omega)
  have hb3 : bt K.2.2.1.2.2.2.2.2.2.2.2.2.2.2.1 d = !q := by
    have e := (od_S hC hk).symm.trans h3
    revert e
    cases bt K.2.2.1.2.2.2.2.2.2.2.2.2.2.2.1 d <;> cases q <;> decide
  have hV : CPL (K.2.2.1.1, K.2.2.1.2.1, K.2.2.1.2.2.1, K.2.2.1.2.2.2.1, K.2.2.1.2.2.2.2.1, K.2.2.1.2.2.2.2.2.1, K.2.2.1.2.2.2.2.2.2.1, K.2.2.1.2.2.2.2.2.2.2.1, K.2.2.1.2.2.2.2.2.2.2.2.1, K.2.2.1.2.2.2.2.2.2.2.2.2.1, K.2.2.1.2.2.2.2.2.2.2.2.2.2.1, K.2.2.1.2.2.2.2.2.2.2.2.2.2.2.1 ^^^ cbit (nI d), K.2.2.1.2.2.2.2.2.2.2.2.2.2.2.2.1, K.2.2.1.2.2.2.2.2.2.2.2.2.2.2.2.2.1, K.2.2.1.2.2.2.2.2.2.2.2.2.2.2.2.2.2.1, K.2.2.1.2.2.2.2.2.2.2.2.2.2.2.2.2.2.2.1, K.2.2.1.2.2.2.2.2.2.2.2.2.2.2.2.2.2.2.2.1, K.2.2.1.2.2.2.2.2.2.2.2.2.2.2.2.2.2.2.2.2.1, K.2.2.1.2.2.2.2.2.2.2.2.2.2.2.2.2.2.2.2.2.2) (upd s (120 + 4 * d + 3) (tI q)) := by
    have e : q = !(bt K.2.2.1.2.2.2.2.2.2.2.2.2.2.2.1 d) := by rw [hb3]; cases q <;> rfl
    rw [e]
    exact CPL_od hC hk (fun j => bt_xor_k (by omega) j)
  have hval : opnS (upd s (120 + 4 * d + 3) (tI q)) (nD s) = bcF (K.2.2.1.2.2.2.2.2.2.2.2.2.2.2.1 ^^^ cbit (nI d)) := by
    have h1 := opn_T hV
    rw [(geo_n hV.1).2] at h1
    rw [hd, bc_24 h24 (x := K.2.2.1.2.2.2.2.2.2.2.2.2.2.2.1 ^^^ cbit (nI d)) (fun j hj => (hV.2.2.2.2.2.1.2 j hj))]
    exact h1
  refine ⟨_, K, rfl, ok, a, b, ⟨ha, hb, eO, eC, zh, hz⟩, fun c => ?_, fun _ c => ?_, fun _ _ => ?_⟩
  · rw [hin] at c; cases c
  · rw [ctn_k (by omega), hb3] at c
    exfalso; revert c; cases q <;> decide
  · rw [hG_hG, ← hval]
    exact hq _ (LIV_ch (K := K) (a := a) (b := b) hI hb ha ok.1 zh hV hn rfl rfl rfl rfl rfl hl)
def rx_k_warm (as : List Value) (h : HM) (o : Option Nat) (Q : XQ) : Prop := A_rii as fun z i x => LX h z fun h0 s => ∃ k n c : Nat, (k < nR s ∧ i = nI k ∧ x = nI n ∧ 1 ≤ n ∧ n ≤ c ∧ c ≤ 99 ∧ s (12 + 9 * k + 2) = nI c) ∧ gdL Q h0 z o (upd s (12 + 9 * k + 2) (nI (c - n))) (nI (c - n))
set_option maxRecDepth 2000 in
set_option maxHeartbeats 200000 in
theorem r_k_warm (hx : rx_k_warm as h o Q) : Runs G m_G_warm as h o Q := by
  obtain ⟨z, i, x, rfl, h0, K, s, rfl, hI, k, n, c, ⟨hk, rfl, rfl, h1, h3, h99, h4⟩, hq⟩ := E_rii hx
  refine r_G_warm ?_
  obtain ⟨⟨ok, zh, zd, hz⟩, hC, ⟨a, b, ha, hb, eO, eC⟩, hn, hl⟩ := id hI
  obtain ⟨hg, hse, ⟨hcs, hnn, hgm⟩, hgh, hrm, hmk, hsb⟩ := id hC
  have hr := (geo_n hg).1
  have hd := (geo_n hg).2
  have h12 := hg.1.2.2.1
  have h24 := hg.1.2.2.2
  rw [hr] at hk
  have hin : inR K.2.2.1.2.2.2.2.2.2.2.2.2.1 (nI k) = true := inR_k hk (by omega)
  have ec : K.2.2.1.2.1 k = nI c := (hrm k hk).1.trans h4
  have g1 : ¬ nI n < 1 := fun e => absurd ((nI_ltI (b := 1) (by omega) (by decide)).mp e) (by omega)
  have g2 : nI n ≤ 99 := (nI_leI (b := 99) (by omega) (by decide)).mpr (by omega)
  have g3 : nI n ≤ nI c := (nI_leI (by omega) (by omega)).mpr h3
  refine ⟨_, K, rfl, ok, a, b, ⟨ha, hb, eO, eC, zh, hz⟩, fun c => ?_, fun j hj e => ?_⟩
  · rw [hin] at c; cases c
  · have ej : k = j := (nI_eq (by omega) (by omega)).mp e
    subst ej
    rw [ec, nI_subN h3]
    have hZ := HZ_co (k := k) (v := nI (c - n)) ⟨ok.1, zh⟩ (by omega)
    refine ⟨fun y => (y.elim g1 (fun y => y g2)).elim, fun _ _ y => (y g3).elim, fun _ _ _ => ?_⟩
    rw [hG_hG]
    refine hq _ ?_
    refine LIV_ch (K := K) (a := a) (b := b) hI hb ha ?_ ?_ ?_ hn rfl rfl rfl rfl rfl hl
    · exact hZ.1
    · exact hZ.2
    · exact CPL_co hC hk (by omega)
def rx_k_addDoor (as : List Value) (h : HM) (o : Option Nat) (Q : XQ) : Prop := A_riii as fun z x y v => LX h z fun h0 s => ∃ i j n : Nat, (i < nR s ∧ j < nR s ∧ i ≠ j ∧ x = nI i ∧ y = nI j ∧ v = nI n ∧ n ≤ 9 ∧ btw s (nI i) (nI j) = -1 ∧ nD s < 24) ∧ gdL Q h0 z o (addD s (nI i) (nI j) (nI n)) (nI (nD s))
set_option maxRecDepth 2000 in
set_option maxHeartbeats 200000 in
theorem r_k_addDoor (hx : rx_k_addDoor as h o Q) : Runs G m_G_addDoor as h o Q := by
  obtain ⟨z, x, y, v, rfl, h0, K, s, rfl, hI, i, j, n, ⟨hi, hj, hij, rfl, rfl, rfl, h9, hbt, hdl⟩, hq⟩ := E_riii hx
  refine r_G_addDoor ?_
  obtain ⟨⟨ok, zh, zd, hz⟩, hC, ⟨a, b, ha, hb, eO, eC⟩, hn, hl⟩ := id hI
  obtain ⟨hg, hse, ⟨hcs, hnn, hgm⟩, hgh, hrm, hmk, hsb⟩ := id hC
  have hr := (geo_n hg).1
  have hd := (geo_n hg).2
  have h12 := hg.1.2.2.1
  have h24 := hg.1.2.2.2
  rw [hr] at hi hj
  rw [hd] at hdl hq
  have hii : inR K.2.2.1.2.2.2.2.2.2.2.2.2.1 (nI i) = true := inR_k hi (by omega)
  have hjj : inR K.2.2.1.2.2.2.2.2.2.2.2.2.1 (nI j) = true := inR_k hj (by omega)
  have hno : frst K.2.2.1.2.2.2.2.2.2.2.2.2.2.1 (doP K.2.2.1.2.2.2.2.2.1 K.2.2.1.2.2.2.2.2.2.1 (nI i) (nI j)) = -1 := (geo_btw hg (nI i) (nI j)).symm.trans hbt
  have g1 : ¬ nI n < 0 := nI_nng (by omega)
  have g2 : nI n ≤ 9 := (nI_leI (b := 9) (by omega) (by decide)).mpr h9
  have g3 : ¬ nI i = nI j := fun e => hij ((nI_eq (by omega) (by omega)).mp e)
  have hZ := HZ_apD (a := nI i) (b := nI j) (c := nI n) ⟨ok.1, zh⟩ hdl
  refine ⟨_, K, rfl, ok, a, b, ⟨ha, hb, eO, eC, zh, hz⟩, fun c => ?_, fun _ _ c => ?_, fun _ _ _ _ _ c => ?_, fun _ _ _ _ _ _ _ => ?_⟩
  · rw [hii, hjj] at c; rcases c with c | c <;> cases c
  · exact (c.elim (fun y => y.elim g1 (fun y => y g2)) g3).elim
  · exact (c.elim (fun y => y hno) (fun y => y hdl)).elim
  · rw [hG_hG]
    exact hq _ (LIV_ch (K := K) (a := a) (b := b) hI hb ha hZ.1 hZ.2 (CPL_apD hC hdl hi hj hij hno h9) hn rfl rfl rfl rfl rfl hl)
def nS (s : Nat → Int32) : Nat → Int32 := n5 s (fun _ => 0) (fun _ => 0)
def nSk (s : Nat → Int32) : Nat → (Nat → Int32)
  | 0 => s
  | k + 1 => nS (nSk s k)
theorem CPL_nSk {T : HT} {s : Nat → Int32} (hC : CPL T s) (h0 : 0 < T.2.2.2.2.2.2.2.2.2.1) : ∀ k, CPL (pasN T k) (nSk s k) := by
  intro k
  induction k with
  | zero => exact hC
  | succ k ih => exact (night_C (fun _ => 0) (fun _ => 0) ih (by rw [(pasN_rd T k).1]; exact h0)).2
theorem pasN_nm (T : HT) : ∀ k, (pasN T k).1 = T.1 := by
  intro k
  induction k with
  | zero => rfl
  | succ k ih =>
    have : (pasN T (k + 1)).1 = (pasN T k).1 := rfl
    rw [this]; exact ih
def poW (s : Nat → Int32) : Int32 := orF (poS s) (nR s)
def rx_k_pass (as : List Value) (h : HM) (o : Option Nat) (Q : XQ) : Prop := A_ri as fun z x => LX h z fun h0 s => ∃ n m : Nat, (1 ≤ n ∧ n ≤ 50 ∧ x = nI n ∧ 0 < nR s ∧ s 7 = nI m ∧ m + n ≤ 9999) ∧ gdL Q h0 z o (nSk s n) (bcF (poW (nSk s n)))
set_option maxRecDepth 2000 in
set_option maxHeartbeats 200000 in
theorem r_k_pass (hx : rx_k_pass as h o Q) : Runs G m_G_passNights as h o Q := by
  obtain ⟨z, x, rfl, h0, K, s, rfl, hI, n, m, ⟨h1, h2, rfl, hr0, e7, h3⟩, hq⟩ := E_ri hx
  refine r_G_passNights ?_
  obtain ⟨⟨ok, zh, zd, hz⟩, hC, ⟨a, b, ha, hb, eO, eC⟩, hn, hl⟩ := id hI
  obtain ⟨hg, hse, ⟨hcs, hnn, hgm⟩, hgh, hrm, hmk, hsb⟩ := id hC
  have hr := (geo_n hg).1
  have hd := (geo_n hg).2
  have h12 := hg.1.2.2.1
  have h24 := hg.1.2.2.2
  rw [hr] at hr0
  have g1 : ¬ nI n < 1 := fun e => absurd ((nI_ltI (b := 1) (by omega) (by decide)).mp e) (by omega)
  have g2 : nI n ≤ 50 := (nI_leI (b := 50) (by omega) (by decide)).mpr h2
  have g3 : K.2.2.1.2.2.2.2.2.2.2.2.2.2.2.2.2.2.2.2.1 + nI n ≤ 9999 := by rw [hnn, e7, nI_add]; exact (nI_leI (b := 9999) (by omega) (by decide)).mpr h3
  have hZ := HZ_pasN ⟨ok.1, zh⟩ (show ¬ K.2.2.1.2.2.2.2.2.2.2.2.2.1 = 0 by omega) n
  have hCn := CPL_nSk hC hr0 n
  have hpo : poW (nSk s n) = (pasN K.2.2.1 n).2.2.2.2.2.2.2.2.2.2.2.2.2.2.1 := po_S hCn
  have hNn : NMS (pasN K.2.2.1 n) := fun k hk => by
    rw [(pasN_rd K.2.2.1 n).1] at hk
    rw [pasN_nm]
    exact hn k hk
  refine ⟨_, K, rfl, ok, a, b, ⟨ha, hb, eO, eC, zh, hz⟩, fun c => (c.elim g1 (fun y => y g2)).elim, fun _ _ c => absurd c (by omega), fun _ _ _ c => (c g3).elim, fun _ _ _ _ n1 n2 n3 n4 n5 => ?_⟩
  rw [hG_hG, nI_clamp (by omega), ← hpo]
  exact hq _ (LIV_ch (K := K) (a := a) (b := b) hI hb ha hZ.1 hZ.2 hCn hNn rfl rfl rfl rfl rfl hl)
def rx_k_ask (as : List Value) (h : HM) (o : Option Nat) (Q : XQ) : Prop := A_ri as fun z x => LX h z fun h0 s => casB s x = true ∧ gdL Q h0 z o (asF s x) (tI (hasF x (s 11)))
set_option maxRecDepth 2000 in
set_option maxHeartbeats 200000 in
theorem r_k_ask (hx : rx_k_ask as h o Q) : Runs G m_G_holdSeance as h o Q := by
  obtain ⟨z, x, rfl, h0, K, s, rfl, hI, hcs2, hq⟩ := E_ri hx
  refine r_G_holdSeance ?_
  obtain ⟨⟨ok, zh, zd, hz⟩, hC, ⟨a, b, ha, hb, eO, eC⟩, hn, hl⟩ := id hI
  obtain ⟨hg, hse, ⟨hcs, hnn, hgm⟩, hgh, hrm, hmk, hsb⟩ := id hC
  have hr := (geo_n hg).1
  have hd := (geo_n hg).2
  have h12 := hg.1.2.2.1
  have h24 := hg.1.2.2.2
  obtain ⟨g1, g2, g3⟩ := (casB_T hC x).mp hcs2
  have hr0 : 0 < K.2.2.1.2.2.2.2.2.2.2.2.2.1 := by
    rcases Nat.eq_zero_or_pos K.2.2.1.2.2.2.2.2.2.2.2.2.1 with e | e
    · exfalso
      refine g1 ?_
      refine b_ext fun j hj => ?_
      rw [b_and, (hmk.1 j (by omega)).2.2, Bool.false_and, bt_z]
    · exact e
  obtain ⟨egh, g, hgl, e11⟩ := hgh.2 hr0
  have hv : tI (hasF x (s 11)) = tI (ctn x K.2.2.1.2.2.2.2.2.2.2.2.2.2.2.2.2.2.2.1) := by
    rw [egh, e11, has_bt x (by omega), ctn_k (by omega)]
  have hZ := HZ_ask (x := x) ⟨ok.1, zh⟩
  refine ⟨_, K, rfl, ok, a, b, ⟨ha, hb, eO, eC, zh, hz⟩, fun c => (g1 c).elim, fun _ c => (g2 c).elim, fun _ _ c => (c g3).elim, fun _ _ _ => ?_⟩
  rw [hG_hG, ← hv]
  exact hq _ (LIV_ch (K := K) (a := a) (b := b) hI hb ha hZ.1 hZ.2 (CPL_ask hC hr0 g3) hn rfl rfl rfl rfl rfl hl)
theorem NMC_ne {j k : Nat} (hj : j < 12) (hk : k < 12) (h : j ≠ k) : ¬ NMC j = NMC k := fun e => h (by
  have := (lN_eq (by omega) (by omega)).mp e
  omega)
theorem NMC_r {k : Nat} (hk : k < 12) : NMR (NMC k) (lN (18 * 32 + (1 + k))) := by
  have := NMR_mk (l := [18, 1 + k]) ⟨fun v hv => (by
    rcases List.mem_cons.mp hv with rfl | hv
    · decide
    · rcases List.mem_cons.mp hv with rfl | hv
      · omega
      · cases hv), (show 1 ≤ 2 by decide), (show 2 ≤ 8 by decide)⟩
  have e1 : vl 256 96 [18, 1 + k] = 114 * 256 + (97 + k) := by simp [vl]; omega
  have e2 : vl 32 0 [18, 1 + k] = 18 * 32 + (1 + k) := by simp [vl]
  rw [e1, e2] at this
  exact this
theorem wn_2 {f : Nat → Int32} {k : Nat} (hk : k < 12) (h0 : f 0 = 114) (h1 : f 1 = nI (97 + k)) : wnC f 2 = NMC k := by
  have key : ∀ k, k < 12 → isLet 114 = true ∧ isLet (nI (97 + k)) = true ∧ ((((0 : Int64) <<< ((8 : Int32).toInt64 &&& 63)) ||| (114 : Int32).toInt64) <<< ((8 : Int32).toInt64 &&& 63)) ||| (nI (97 + k)).toInt64 = NMC k ∧ ¬ NMC k = 0 := by decide +kernel
  obtain ⟨k1, k2, k3, -⟩ := key k hk
  unfold wnC
  rw [if_neg (by decide), frst_no (fun j hj => by
    have : j = 0 ∨ j = 1 := by omega
    rcases this with rfl | rfl
    · rw [h0, k1]; rfl
    · rw [h1, k2]; rfl), if_pos rfl]
  show ((w8 f 0 1) <<< _) ||| (f (0 + 1)).toInt64 = _
  show ((((0 : Int64) <<< _) ||| (f (0 + 0)).toInt64) <<< _) ||| (f (0 + 1)).toInt64 = _
  rw [show f (0 + 0) = 114 from h0, show f (0 + 1) = nI (97 + k) from h1]
  exact k3
def LY (h : HM) (z : Nat) (P : HM → KT → (Nat → Int32) → Prop) : Prop := ∃ h0 K s, h = hG h0 z K ∧ P h0 K s
def rx_k_addRoom (as : List Value) (h : HM) (o : Option Nat) (Q : XQ) : Prop := A_ri as fun z v => LY h z fun h0 K s => ∃ n, (LIV (K.1, K.2.1, K.2.2.1, K.2.2.2.1, K.2.2.2.2.1, K.2.2.2.2.2.1, K.2.2.2.2.2.2.1, K.2.2.2.2.2.2.2.1, K.2.2.2.2.2.2.2.2.1, 0, K.2.2.2.2.2.2.2.2.2.2.1, K.2.2.2.2.2.2.2.2.2.2.2.1, K.2.2.2.2.2.2.2.2.2.2.2.2.1, K.2.2.2.2.2.2.2.2.2.2.2.2.2.1, K.2.2.2.2.2.2.2.2.2.2.2.2.2.2.1, K.2.2.2.2.2.2.2.2.2.2.2.2.2.2.2.1, K.2.2.2.2.2.2.2.2.2.2.2.2.2.2.2.2.1, K.2.2.2.2.2.2.2.2.2.2.2.2.2.2.2.2.2.1, K.2.2.2.2.2.2.2.2.2.2.2.2.2.2.2.2.2.2.1, K.2.2.2.2.2.2.2.2.2.2.2.2.2.2.2.2.2.2.2.1, K.2.2.2.2.2.2.2.2.2.2.2.2.2.2.2.2.2.2.2.2.1, K.2.2.2.2.2.2.2.2.2.2.2.2.2.2.2.2.2.2.2.2.2.1, K.2.2.2.2.2.2.2.2.2.2.2.2.2.2.2.2.2.2.2.2.2.2.1, K.2.2.2.2.2.2.2.2.2.2.2.2.2.2.2.2.2.2.2.2.2.2.2.1, K.2.2.2.2.2.2.2.2.2.2.2.2.2.2.2.2.2.2.2.2.2.2.2.2.1, K.2.2.2.2.2.2.2.2.2.2.2.2.2.2.2.2.2.2.2.2.2.2.2.2.2.1, K.2.2.2.2.2.2.2.2.2.2.2.2.2.2.2.2.2.2.2.2.2.2.2.2.2.2.1, K.2.2.2.2.2.2.2.2.2.2.2.2.2.2.2.2.2.2.2.2.2.2.2.2.2.2.2.1, K.2.2.2.2.2.2.2.2.2.2.2.2.2.2.2.2.2.2.2.2.2.2.2.2.2.2.2.2.1, K.2.2.2.2.2.2.2.2.2.2.2.2.2.2.2.2.2.2.2.2.2.2.2.2.2.2.2.2.2.1, K.2.2.2.2.2.2.2.2.2.2.2.2.2.2.2.2.2.2.2.2.2.2.2.2.2.2.2.2.2.2.1, K.2.2.2.2.2.2.2.2.2.2.2.2.2.2.2.2.2.2.2.2.2.2.2.2.2.2.2.2.2.2.2.1, K.2.2.2.2.2.2.2.2.2.2.2.2.2.2.2.2.2.2.2.2.2.2.2.2.2.2.2.2.2.2.2.2.1, K.2.2.2.2.2.2.2.2.2.2.2.2.2.2.2.2.2.2.2.2.2.2.2.2.2.2.2.2.2.2.2.2.2) s ∧ K.2.2.2.2.2.2.2.2.2.1 = nI 2 ∧ K.2.2.2.2.2.2.2.2.2.2.1 0 = 114 ∧ K.2.2.2.2.2.2.2.2.2.2.1 1 = nI (97 + nR s) ∧ nR s < 12 ∧ v = nI n ∧ n ≤ 99) ∧ gdL Q h0 z o (adR s (lN (18 * 32 + (1 + nR s))) v (if nR s = 0 then 1 else 0)) (nI (nR s))
set_option maxRecDepth 2000 in
set_option maxHeartbeats 200000 in
theorem r_k_addRoom (hx : rx_k_addRoom as h o Q) : Runs G m_G_addRoom as h o Q := by
  obtain ⟨z, v, rfl, h0, K, s, rfl, n, ⟨hI, hf, hk0, hk1, hlt, rfl, h99⟩, hq⟩ := E_ri hx
  refine r_G_addRoom ?_
  obtain ⟨⟨ok, zh, zd, hz⟩, hC, ⟨a, b, ha, hb, eO, eC⟩, hn, hl⟩ := id hI
  obtain ⟨hg, hse, ⟨hcs, hnn, hgm⟩, hgh, hrm, hmk, hsb⟩ := id hC
  have hr := (geo_n hg).1
  have hd := (geo_n hg).2
  have h12 := hg.1.2.2.1
  have h24 := hg.1.2.2.2
  rw [hr] at hlt hk1 hq
  have hlt : K.2.2.1.2.2.2.2.2.2.2.2.2.1 < 12 := hlt
  have hwn : wnC K.2.2.2.2.2.2.2.2.2.2.1 2 = NMC K.2.2.1.2.2.2.2.2.2.2.2.2.1 := wn_2 hlt hk0 hk1
  have h0n : ¬ NMC K.2.2.1.2.2.2.2.2.2.2.2.2.1 = 0 := fun e => by
    have : lN (114 * 256 + (97 + K.2.2.1.2.2.2.2.2.2.2.2.2.1)) = lN 0 := e
    have := (lN_eq (by omega) (by decide)).mp this
    omega
  have hno : (frst K.2.2.1.2.2.2.2.2.2.2.2.2.1 fun k => K.2.2.1.1 k == NMC K.2.2.1.2.2.2.2.2.2.2.2.2.1) = -1 := frst_no (fun j hj => by
    rw [hn j hj]
    exact beq_eq_false_iff_ne.mpr (NMC_ne (by omega) hlt (by omega)))
  have g1 : ¬ nI n < 0 := nI_nng (by omega)
  have g2 : nI n ≤ 99 := (nI_leI (b := 99) (by omega) (by decide)).mpr h99
  have hZ := HZ_apR (x := NMC K.2.2.1.2.2.2.2.2.2.2.2.2.1) (c := nI n) (b := if K.2.2.1.2.2.2.2.2.2.2.2.2.1 = 0 then 1 else 0) ⟨ok.1, zh⟩ hlt
  have hb01 : (if K.2.2.1.2.2.2.2.2.2.2.2.2.1 = 0 then (1 : Int32) else 0) = 0 ∨ (if K.2.2.1.2.2.2.2.2.2.2.2.2.1 = 0 then (1 : Int32) else 0) = 1 := by split <;> simp
  have hCn := CPL_apR (c := n) hC hlt (NMC_r hlt) h99 hb01 (fun e => if_pos e)
  refine ⟨_, K, rfl, ok, a, b, 2, ⟨⟨ha, hb, eO, eC, zh, hz⟩, by decide, hf⟩, fun c => (c.elim g1 (fun y => y g2)).elim, fun _ _ c => ?_, fun _ _ _ _ _ => ?_⟩
  · rw [hwn] at c
    exact (c.elim h0n (fun y => y.elim (fun y => y hno) (fun y => y hlt))).elim
  · rw [hG_hG, hwn]
    refine hq _ (LIV_ch (K := (K.1, K.2.1, K.2.2.1, K.2.2.2.1, K.2.2.2.2.1, K.2.2.2.2.2.1, K.2.2.2.2.2.2.1, K.2.2.2.2.2.2.2.1, K.2.2.2.2.2.2.2.2.1, 0, K.2.2.2.2.2.2.2.2.2.2.1, K.2.2.2.2.2.2.2.2.2.2.2.1, K.2.2.2.2.2.2.2.2.2.2.2.2.1, K.2.2.2.2.2.2.2.2.2.2.2.2.2.1, K.2.2.2.2.2.2.2.2.2.2.2.2.2.2.1, K.2.2.2.2.2.2.2.2.2.2.2.2.2.2.2.1, K.2.2.2.2.2.2.2.2.2.2.2.2.2.2.2.2.1, K.2.2.2.2.2.2.2.2.2.2.2.2.2.2.2.2.2.1, K.2.2.2.2.2.2.2.2.2.2.2.2.2.2.2.2.2.2.1, K.2.2.2.2.2.2.2.2.2.2.2.2.2.2.2.2.2.2.2.1, K.2.2.2.2.2.2.2.2.2.2.2.2.2.2.2.2.2.2.2.2.1, K.2.2.2.2.2.2.2.2.2.2.2.2.2.2.2.2.2.2.2.2.2.1, K.2.2.2.2.2.2.2.2.2.2.2.2.2.2.2.2.2.2.2.2.2.2.1, K.2.2.2.2.2.2.2.2.2.2.2.2.2.2.2.2.2.2.2.2.2.2.2.1, K.2.2.2.2.2.2.2.2.2.2.2.2.2.2.2.2.2.2.2.2.2.2.2.2.1, K.2.2.2.2.2.2.2.2.2.2.2.2.2.2.2.2.2.2.2.2.2.2.2.2.2.1, K.2.2.2.2.2.2.2.2.2.2.2.2.2.2.2.2.2.2.2.2.2.2.2.2.2.2.1, K.2.2.2.2.2.2.2.2.2.2.2.2.2.2.2.2.2.2.2.2.2.2.2.2.2.2.2.1, K.2.2.2.2.2.2.2.2.2.2.2.2.2.2.2.2.2.2.2.2.2.2.2.2.2.2.2.2.1, K.2.2.2.2.2.2.2.2.2.2.2.2.2.2.2.2.2.2.2.2.2.2.2.2.2.2.2.2.2.1, K.2.2.2.2.2.2.2.2.2.2.2.2.2.2.2.2.2.2.2.2.2.2.2.2.2.2.2.2.2.2.1, K.2.2.2.2.2.2.2.2.2.2.2.2.2.2.2.2.2.2.2.2.2.2.2.2.2.2.2.2.2.2.2.1, K.2.2.2.2.2.2.2.2.2.2.2.2.2.2.2.2.2.2.2.2.2.2.2.2.2.2.2.2.2.2.2.2.1, K.2.2.2.2.2.2.2.2.2.2.2.2.2.2.2.2.2.2.2.2.2.2.2.2.2.2.2.2.2.2.2.2.2)) (a := a) (b := b) hI hb ha hZ.1 hZ.2 hCn ?_ rfl rfl rfl rfl rfl rfl)
    intro k hk
    have hk : k < K.2.2.1.2.2.2.2.2.2.2.2.2.1 + 1 := hk
    show vp_updL K.2.2.1.1 K.2.2.1.2.2.2.2.2.2.2.2.2.1 (NMC K.2.2.1.2.2.2.2.2.2.2.2.2.1) k = NMC k
    unfold vp_updL
    by_cases c : k = K.2.2.1.2.2.2.2.2.2.2.2.2.1
    · rw [if_pos c, c]
    · rw [if_neg c]
      exact hn k (show k < K.2.2.1.2.2.2.2.2.2.2.2.2.1 by omega)
end LK
def W64 (G : GG) : WF := (wcons 117 rx_k_addRoom (wcons 124 rx_k_ask (wcons 123 rx_k_pass (wcons 118 rx_k_addDoor (wcons 122 rx_k_warm (wcons 119 rx_k_door (wcons 121 rx_k_micro (wcons 120 rx_k_therm (wcons 130 rx_k_rand (wcons 129 rx_k_price (wcons 128 rx_k_hear (wcons 127 rx_k_chill (wcons 126 rx_k_mode (W63 G))))))))))))))
theorem W64_ok (G : GG) : WOK G (W64 G) := (wcons_ok (fun _ _ _ _ hx => r_k_addRoom hx) (wcons_ok (fun _ _ _ _ hx => r_k_ask hx) (wcons_ok (fun _ _ _ _ hx => r_k_pass hx) (wcons_ok (fun _ _ _ _ hx => r_k_addDoor hx) (wcons_ok (fun _ _ _ _ hx => r_k_warm hx) (wcons_ok (fun _ _ _ _ hx => r_k_door hx) (wcons_ok (fun _ _ _ _ hx => r_k_micro hx) (wcons_ok (fun _ _ _ _ hx => r_k_therm hx) (wcons_ok (fun _ _ _ _ hx => r_k_rand hx) (wcons_ok (fun _ _ _ _ hx => r_k_price hx) (wcons_ok (fun _ _ _ _ hx => r_k_hear hx) (wcons_ok (fun _ _ _ _ hx => r_k_chill hx) (wcons_ok (fun _ _ _ _ hx => r_k_mode hx) (W63_ok G))))))))))))))
