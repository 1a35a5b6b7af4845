/-! h7: the class's answers, as the world's (by gen/h7.py) -/
/-- the class's state keeps its meaning where only the path tables change -/
theorem LIV_pa {K : KT} {s : Nat → Int32} (hI : LIV K s) (f : Nat → Int32) : LIV (K.1, K.2.1, K.2.2.1, K.2.2.2.1, K.2.2.2.2.1, K.2.2.2.2.2.1, K.2.2.2.2.2.2.1, K.2.2.2.2.2.2.2.1, K.2.2.2.2.2.2.2.2.1, K.2.2.2.2.2.2.2.2.2.1, K.2.2.2.2.2.2.2.2.2.2.1, K.2.2.2.2.2.2.2.2.2.2.2.1, K.2.2.2.2.2.2.2.2.2.2.2.2.1, K.2.2.2.2.2.2.2.2.2.2.2.2.2.1, K.2.2.2.2.2.2.2.2.2.2.2.2.2.2.1, K.2.2.2.2.2.2.2.2.2.2.2.2.2.2.2.1, K.2.2.2.2.2.2.2.2.2.2.2.2.2.2.2.2.1, K.2.2.2.2.2.2.2.2.2.2.2.2.2.2.2.2.2.1, K.2.2.2.2.2.2.2.2.2.2.2.2.2.2.2.2.2.2.1, K.2.2.2.2.2.2.2.2.2.2.2.2.2.2.2.2.2.2.2.1, K.2.2.2.2.2.2.2.2.2.2.2.2.2.2.2.2.2.2.2.2.1, K.2.2.2.2.2.2.2.2.2.2.2.2.2.2.2.2.2.2.2.2.2.1, K.2.2.2.2.2.2.2.2.2.2.2.2.2.2.2.2.2.2.2.2.2.2.1, f, K.2.2.2.2.2.2.2.2.2.2.2.2.2.2.2.2.2.2.2.2.2.2.2.2.1, K.2.2.2.2.2.2.2.2.2.2.2.2.2.2.2.2.2.2.2.2.2.2.2.2.2.1, K.2.2.2.2.2.2.2.2.2.2.2.2.2.2.2.2.2.2.2.2.2.2.2.2.2.2.1, K.2.2.2.2.2.2.2.2.2.2.2.2.2.2.2.2.2.2.2.2.2.2.2.2.2.2.2.1, K.2.2.2.2.2.2.2.2.2.2.2.2.2.2.2.2.2.2.2.2.2.2.2.2.2.2.2.2.1, K.2.2.2.2.2.2.2.2.2.2.2.2.2.2.2.2.2.2.2.2.2.2.2.2.2.2.2.2.2.1, K.2.2.2.2.2.2.2.2.2.2.2.2.2.2.2.2.2.2.2.2.2.2.2.2.2.2.2.2.2.2.1, K.2.2.2.2.2.2.2.2.2.2.2.2.2.2.2.2.2.2.2.2.2.2.2.2.2.2.2.2.2.2.2.1, K.2.2.2.2.2.2.2.2.2.2.2.2.2.2.2.2.2.2.2.2.2.2.2.2.2.2.2.2.2.2.2.2.1, K.2.2.2.2.2.2.2.2.2.2.2.2.2.2.2.2.2.2.2.2.2.2.2.2.2.2.2.2.2.2.2.2.2) s := hI
theorem ctn_S {T : HT} {s : Nat → Int32} (hC : CPL T s) {k : Nat} (hk : k < nR s) : s (12 + 9 * k + 3) = tI (bt T.2.2.2.2.2.2.2.2.2.2.2.2.1 k) ∧ s (12 + 9 * k + 4) = tI (bt T.2.2.2.2.2.2.2.2.2.2.2.2.2.1 k) ∧ s (12 + 9 * k + 5) = tI (bt T.2.2.2.2.2.2.2.2.2.2.2.2.2.2.1 k) := by
  rw [(geo_n hC.1).1] at hk
  obtain ⟨-, -, a3, a4, a5, -⟩ := hC.2.2.2.2.1 k hk
  exact ⟨a3, a4, a5⟩
section LK
variable {G : GG} {as : List Value} {h : HM} {o : Option Nat} {Q : XQ}
def rx_q_mode (as : List Value) (h : HM) (o : Option Nat) (Q : XQ) : Prop := A_r as fun z => LX h z fun h0 s => Q (.inl (some (.int (s 0)))) h o
set_option maxRecDepth 2000 in
set_option maxHeartbeats 200000 in
theorem r_q_mode (hx : rx_q_mode as h o Q) : Runs G m_G_mode as h o Q := by
  obtain ⟨z, rfl, h0, K, s, rfl, hI, hq⟩ := E_r hx
  refine r_G_mode ?_
  obtain ⟨⟨ok, zh, zd, hz⟩, hC, -, hn, hl⟩ := id hI
  obtain ⟨hg, hse, ⟨hcs, hnn, hgm⟩, hgh, hrm, hmk, hsb⟩ := id hC
  have hr := (geo_n hg).1
  have hd := (geo_n hg).2
  have h12 := hg.1.2.2.1
  have h24 := hg.1.2.2.2
  refine ⟨_, K, rfl, ok, ?_⟩
  dsimp only
  rw [hse 0 (by decide)]
  exact hq
def rx_q_chill (as : List Value) (h : HM) (o : Option Nat) (Q : XQ) : Prop := A_r as fun z => LX h z fun h0 s => Q (.inl (some (.int (s 1)))) h o
set_option maxRecDepth 2000 in
set_option maxHeartbeats 200000 in
theorem r_q_chill (hx : rx_q_chill as h o Q) : Runs G m_G_chill as h o Q := by
  obtain ⟨z, rfl, h0, K, s, rfl, hI, hq⟩ := E_r hx
  refine r_G_chill ?_
  obtain ⟨⟨ok, zh, zd, hz⟩, hC, -, hn, hl⟩ := id hI
  obtain ⟨hg, hse, ⟨hcs, hnn, hgm⟩, hgh, hrm, hmk, hsb⟩ := id hC
  have hr := (geo_n hg).1
  have hd := (geo_n hg).2
  have h12 := hg.1.2.2.1
  have h24 := hg.1.2.2.2
  refine ⟨_, K, rfl, ok, ?_⟩
  dsimp only
  rw [hse 1 (by decide)]
  exact hq
def rx_q_hearingThreshold (as : List Value) (h : HM) (o : Option Nat) (Q : XQ) : Prop := A_r as fun z => LX h z fun h0 s => Q (.inl (some (.int (s 2)))) h o
set_option maxRecDepth 2000 in
set_option maxHeartbeats 200000 in
theorem r_q_hearingThreshold (hx : rx_q_hearingThreshold as h o Q) : Runs G m_G_hearingThreshold as h o Q := by
  obtain ⟨z, rfl, h0, K, s, rfl, hI, hq⟩ := E_r hx
  refine r_G_hearingThreshold ?_
  obtain ⟨⟨ok, zh, zd, hz⟩, hC, -, hn, hl⟩ := id hI
  obtain ⟨hg, hse, ⟨hcs, hnn, hgm⟩, hgh, hrm, hmk, hsb⟩ := id hC
  have hr := (geo_n hg).1
  have hd := (geo_n hg).2
  have h12 := hg.1.2.2.1
  have h24 := hg.1.2.2.2
  refine ⟨_, K, rfl, ok, ?_⟩
  dsimp only
  rw [hse 2 (by decide)]
  exact hq
def rx_q_seancePrice (as : List Value) (h : HM) (o : Option Nat) (Q : XQ) : Prop := A_r as fun z => LX h z fun h0 s => Q (.inl (some (.int (s 3)))) h o
set_option maxRecDepth 2000 in
set_option maxHeartbeats 200000 in
theorem r_q_seancePrice (hx : rx_q_seancePrice as h o Q) : Runs G m_G_seancePrice as h o Q := by
  obtain ⟨z, rfl, h0, K, s, rfl, hI, hq⟩ := E_r hx
  refine r_G_seancePrice ?_
  obtain ⟨⟨ok, zh, zd, hz⟩, hC, -, hn, hl⟩ := id hI
  obtain ⟨hg, hse, ⟨hcs, hnn, hgm⟩, hgh, hrm, hmk, hsb⟩ := id hC
  have hr := (geo_n hg).1
  have hd := (geo_n hg).2
  have h12 := hg.1.2.2.1
  have h24 := hg.1.2.2.2
  refine ⟨_, K, rfl, ok, ?_⟩
  dsimp only
  rw [hse 3 (by decide)]
  exact hq
def rx_q_randomState (as : List Value) (h : HM) (o : Option Nat) (Q : XQ) : Prop := A_r as fun z => LX h z fun h0 s => Q (.inl (some (.int (s 4)))) h o
set_option maxRecDepth 2000 in
set_option maxHeartbeats 200000 in
theorem r_q_randomState (hx : rx_q_randomState as h o Q) : Runs G m_G_randomState as h o Q := by
  obtain ⟨z, rfl, h0, K, s, rfl, hI, hq⟩ := E_r hx
  refine r_G_randomState ?_
  obtain ⟨⟨ok, zh, zd, hz⟩, hC, -, hn, hl⟩ := id hI
  obtain ⟨hg, hse, ⟨hcs, hnn, hgm⟩, hgh, hrm, hmk, hsb⟩ := id hC
  have hr := (geo_n hg).1
  have hd := (geo_n hg).2
  have h12 := hg.1.2.2.1
  have h24 := hg.1.2.2.2
  refine ⟨_, K, rfl, ok, ?_⟩
  dsimp only
  rw [hse 4 (by decide)]
  exact hq
def rx_q_coins (as : List Value) (h : HM) (o : Option Nat) (Q : XQ) : Prop := A_r as fun z => LX h z fun h0 s => Q (.inl (some (.int (s 5)))) h o
set_option maxRecDepth 2000 in
set_option maxHeartbeats 200000 in
theorem r_q_coins (hx : rx_q_coins as h o Q) : Runs G m_G_coins as h o Q := by
  obtain ⟨z, rfl, h0, K, s, rfl, hI, hq⟩ := E_r hx
  refine r_G_coins ?_
  obtain ⟨⟨ok, zh, zd, hz⟩, hC, -, hn, hl⟩ := id hI
  obtain ⟨hg, hse, ⟨hcs, hnn, hgm⟩, hgh, hrm, hmk, hsb⟩ := id hC
  have hr := (geo_n hg).1
  have hd := (geo_n hg).2
  have h12 := hg.1.2.2.1
  have h24 := hg.1.2.2.2
  refine ⟨_, K, rfl, ok, ?_⟩
  dsimp only
  rw [hse 5 (by decide)]
  exact hq
def rx_q_coinsSpent (as : List Value) (h : HM) (o : Option Nat) (Q : XQ) : Prop := A_r as fun z => LX h z fun h0 s => Q (.inl (some (.int (s 6)))) h o
set_option maxRecDepth 2000 in
set_option maxHeartbeats 200000 in
theorem r_q_coinsSpent (hx : rx_q_coinsSpent as h o Q) : Runs G m_G_coinsSpent as h o Q := by
  obtain ⟨z, rfl, h0, K, s, rfl, hI, hq⟩ := E_r hx
  refine r_G_coinsSpent ?_
  obtain ⟨⟨ok, zh, zd, hz⟩, hC, -, hn, hl⟩ := id hI
  obtain ⟨hg, hse, ⟨hcs, hnn, hgm⟩, hgh, hrm, hmk, hsb⟩ := id hC
  have hr := (geo_n hg).1
  have hd := (geo_n hg).2
  have h12 := hg.1.2.2.1
  have h24 := hg.1.2.2.2
  refine ⟨_, K, rfl, ok, ?_⟩
  dsimp only
  rw [hcs]
  exact hq
def rx_q_nightNumber (as : List Value) (h : HM) (o : Option Nat) (Q : XQ) : Prop := A_r as fun z => LX h z fun h0 s => Q (.inl (some (.int (s 7)))) h o
set_option maxRecDepth 2000 in
set_option maxHeartbeats 200000 in
theorem r_q_nightNumber (hx : rx_q_nightNumber as h o Q) : Runs G m_G_nightNumber as h o Q := by
  obtain ⟨z, rfl, h0, K, s, rfl, hI, hq⟩ := E_r hx
  refine r_G_nightNumber ?_
  obtain ⟨⟨ok, zh, zd, hz⟩, hC, -, hn, hl⟩ := id hI
  obtain ⟨hg, hse, ⟨hcs, hnn, hgm⟩, hgh, hrm, hmk, hsb⟩ := id hC
  have hr := (geo_n hg).1
  have hd := (geo_n hg).2
  have h12 := hg.1.2.2.1
  have h24 := hg.1.2.2.2
  refine ⟨_, K, rfl, ok, ?_⟩
  dsimp only
  rw [hnn]
  exact hq
def rx_q_ghostMoves (as : List Value) (h : HM) (o : Option Nat) (Q : XQ) : Prop := A_r as fun z => LX h z fun h0 s => Q (.inl (some (.int (s 8)))) h o
set_option maxRecDepth 2000 in
set_option maxHeartbeats 200000 in
theorem r_q_ghostMoves (hx : rx_q_ghostMoves as h o Q) : Runs G m_G_ghostMoves as h o Q := by
  obtain ⟨z, rfl, h0, K, s, rfl, hI, hq⟩ := E_r hx
  refine r_G_ghostMoves ?_
  obtain ⟨⟨ok, zh, zd, hz⟩, hC, -, hn, hl⟩ := id hI
  obtain ⟨hg, hse, ⟨hcs, hnn, hgm⟩, hgh, hrm, hmk, hsb⟩ := id hC
  have hr := (geo_n hg).1
  have hd := (geo_n hg).2
  have h12 := hg.1.2.2.1
  have h24 := hg.1.2.2.2
  refine ⟨_, K, rfl, ok, ?_⟩
  dsimp only
  rw [hgm]
  exact hq
def rx_q_roomCount (as : List Value) (h : HM) (o : Option Nat) (Q : XQ) : Prop := A_r as fun z => LX h z fun h0 s => Q (.inl (some (.int (nI (nR s))))) h o
set_option maxRecDepth 2000 in
set_option maxHeartbeats 200000 in
theorem r_q_roomCount (hx : rx_q_roomCount as h o Q) : Runs G m_G_roomCount as h o Q := by
  obtain ⟨z, rfl, h0, K, s, rfl, hI, hq⟩ := E_r hx
  refine r_G_roomCount ?_
  obtain ⟨⟨ok, zh, zd, hz⟩, hC, -, hn, hl⟩ := id hI
  obtain ⟨hg, hse, ⟨hcs, hnn, hgm⟩, hgh, hrm, hmk, hsb⟩ := id hC
  have hr := (geo_n hg).1
  have hd := (geo_n hg).2
  have h12 := hg.1.2.2.1
  have h24 := hg.1.2.2.2
  refine ⟨_, K, rfl, ok, ?_⟩
  dsimp only
  rw [← hr]
  exact hq
def rx_q_doorCount (as : List Value) (h : HM) (o : Option Nat) (Q : XQ) : Prop := A_r as fun z => LX h z fun h0 s => Q (.inl (some (.int (nI (nD s))))) h o
set_option maxRecDepth 2000 in
set_option maxHeartbeats 200000 in
theorem r_q_doorCount (hx : rx_q_doorCount as h o Q) : Runs G m_G_doorCount as h o Q := by
  obtain ⟨z, rfl, h0, K, s, rfl, hI, hq⟩ := E_r hx
  refine r_G_doorCount ?_
  obtain ⟨⟨ok, zh, zd, hz⟩, hC, -, hn, hl⟩ := id hI
  obtain ⟨hg, hse, ⟨hcs, hnn, hgm⟩, hgh, hrm, hmk, hsb⟩ := id hC
  have hr := (geo_n hg).1
  have hd := (geo_n hg).2
  have h12 := hg.1.2.2.1
  have h24 := hg.1.2.2.2
  refine ⟨_, K, rfl, ok, ?_⟩
  dsimp only
  rw [← hd]
  exact hq
def rx_q_possibleRooms (as : List Value) (h : HM) (o : Option Nat) (Q : XQ) : Prop := A_r as fun z => LX h z fun h0 s => Q (.inl (some (.int (orF (poS s) (nR s))))) h o
set_option maxRecDepth 2000 in
set_option maxHeartbeats 200000 in
theorem r_q_possibleRooms (hx : rx_q_possibleRooms as h o Q) : Runs G m_G_possibleRooms as h o Q := by
  obtain ⟨z, rfl, h0, K, s, rfl, hI, hq⟩ := E_r hx
  refine r_G_possibleRooms ?_
  obtain ⟨⟨ok, zh, zd, hz⟩, hC, -, hn, hl⟩ := id hI
  obtain ⟨hg, hse, ⟨hcs, hnn, hgm⟩, hgh, hrm, hmk, hsb⟩ := id hC
  have hr := (geo_n hg).1
  have hd := (geo_n hg).2
  have h12 := hg.1.2.2.1
  have h24 := hg.1.2.2.2
  refine ⟨_, K, rfl, ok, ?_⟩
  dsimp only
  rw [← po_S hC]
  exact hq
def rx_q_ghostRoom (as : List Value) (h : HM) (o : Option Nat) (Q : XQ) : Prop := A_r as fun z => LX h z fun h0 s => Q (.inl (some (.int (if nR s = 0 then -1 else s 11)))) h o
set_option maxRecDepth 2000 in
set_option maxHeartbeats 200000 in
theorem r_q_ghostRoom (hx : rx_q_ghostRoom as h o Q) : Runs G m_G_ghostRoom as h o Q := by
  obtain ⟨z, rfl, h0, K, s, rfl, hI, hq⟩ := E_r hx
  refine r_G_ghostRoom ?_
  obtain ⟨⟨ok, zh, zd, hz⟩, hC, -, hn, hl⟩ := id hI
  obtain ⟨hg, hse, ⟨hcs, hnn, hgm⟩, hgh, hrm, hmk, hsb⟩ := id hC
  have hr := (geo_n hg).1
  have hd := (geo_n hg).2
  have h12 := hg.1.2.2.1
  have h24 := hg.1.2.2.2
  refine ⟨_, K, rfl, ok, ?_⟩
  dsimp only
  by_cases c : nR s = 0
  · rw [if_pos c] at hq
    rw [(hgh.1 (by omega)).1]
    exact hq
  · rw [if_neg c] at hq
    rw [(hgh.2 (by omega)).1]
    exact hq
def rx_q_coldness (as : List Value) (h : HM) (o : Option Nat) (Q : XQ) : Prop := A_ri as fun z x => LX h z fun h0 s => ∃ k, (x = nI k ∧ k < nR s) ∧ Q (.inl (some (.int (s (12 + 9 * k + 2))))) h o
set_option maxRecDepth 2000 in
set_option maxHeartbeats 200000 in
theorem r_q_coldness (hx : rx_q_coldness as h o Q) : Runs G m_G_coldness as h o Q := by
  obtain ⟨z, x, rfl, h0, K, s, rfl, hI, k, ⟨rfl, hk⟩, hq⟩ := E_ri hx
  refine r_G_coldness ?_
  obtain ⟨⟨ok, zh, zd, hz⟩, hC, -, hn, hl⟩ := id hI
  obtain ⟨hg, hse, ⟨hcs, hnn, hgm⟩, hgh, hrm, hmk, hsb⟩ := id hC
  have hr := (geo_n hg).1
  have hd := (geo_n hg).2
  have h12 := hg.1.2.2.1
  have h24 := hg.1.2.2.2
  have hin : inR K.2.2.1.2.2.2.2.2.2.2.2.2.1 (nI k) = true := inR_k (by omega) (by omega)
  refine ⟨_, K, rfl, ok, fun e => (by rw [hin] at e; cases e), fun k2 h2 e => ?_⟩
  obtain rfl : k = k2 := (nI_eq (by omega) (by omega)).mp e
  rw [(hrm k h2).1]
  exact hq
def rx_q_exclusionReason (as : List Value) (h : HM) (o : Option Nat) (Q : XQ) : Prop := A_ri as fun z x => LX h z fun h0 s => ∃ k, (x = nI k ∧ k < nR s) ∧ Q (.inl (some (.int (s (12 + 9 * k + 6))))) h o
set_option maxRecDepth 2000 in
set_option maxHeartbeats 200000 in
theorem r_q_exclusionReason (hx : rx_q_exclusionReason as h o Q) : Runs G m_G_exclusionReason as h o Q := by
  obtain ⟨z, x, rfl, h0, K, s, rfl, hI, k, ⟨rfl, hk⟩, hq⟩ := E_ri hx
  refine r_G_exclusionReason ?_
  obtain ⟨⟨ok, zh, zd, hz⟩, hC, -, hn, hl⟩ := id hI
  obtain ⟨hg, hse, ⟨hcs, hnn, hgm⟩, hgh, hrm, hmk, hsb⟩ := id hC
  have hr := (geo_n hg).1
  have hd := (geo_n hg).2
  have h12 := hg.1.2.2.1
  have h24 := hg.1.2.2.2
  have hin : inR K.2.2.1.2.2.2.2.2.2.2.2.2.1 (nI k) = true := inR_k (by omega) (by omega)
  refine ⟨_, K, rfl, ok, fun e => (by rw [hin] at e; cases e), fun k2 h2 e => ?_⟩
  obtain rfl : k = k2 := (nI_eq (by omega) (by omega)).mp e
  obtain ⟨-, -, -, -, -, e6, e7, e8, -⟩ := hrm k h2
  rw [e6]
  exact hq
def rx_q_exclusionEvidence (as : List Value) (h : HM) (o : Option Nat) (Q : XQ) : Prop := A_ri as fun z x => LX h z fun h0 s => ∃ k, (x = nI k ∧ k < nR s) ∧ Q (.inl (some (.int (s (12 + 9 * k + 7))))) h o
set_option maxRecDepth 2000 in
set_option maxHeartbeats 200000 in
theorem r_q_exclusionEvidence (hx : rx_q_exclusionEvidence as h o Q) : Runs G m_G_exclusionEvidence as h o Q := by
  obtain ⟨z, x, rfl, h0, K, s, rfl, hI, k, ⟨rfl, hk⟩, hq⟩ := E_ri hx
  refine r_G_exclusionEvidence ?_
  obtain ⟨⟨ok, zh, zd, hz⟩, hC, -, hn, hl⟩ := id hI
  obtain ⟨hg, hse, ⟨hcs, hnn, hgm⟩, hgh, hrm, hmk, hsb⟩ := id hC
  have hr := (geo_n hg).1
  have hd := (geo_n hg).2
  have h12 := hg.1.2.2.1
  have h24 := hg.1.2.2.2
  have hin : inR K.2.2.1.2.2.2.2.2.2.2.2.2.1 (nI k) = true := inR_k (by omega) (by omega)
  refine ⟨_, K, rfl, ok, fun e => (by rw [hin] at e; cases e), fun k2 h2 e => ?_⟩
  obtain rfl : k = k2 := (nI_eq (by omega) (by omega)).mp e
  obtain ⟨-, -, -, -, -, e6, e7, e8, -⟩ := hrm k h2
  rw [e7]
  exact hq
def rx_q_exclusionSource (as : List Value) (h : HM) (o : Option Nat) (Q : XQ) : Prop := A_ri as fun z x => LX h z fun h0 s => ∃ k, (x = nI k ∧ k < nR s) ∧ Q (.inl (some (.int (s (12 + 9 * k + 8))))) h o
set_option maxRecDepth 2000 in
set_option maxHeartbeats 200000 in
theorem r_q_exclusionSource (hx : rx_q_exclusionSource as h o Q) : Runs G m_G_exclusionSource as h o Q := by
  obtain ⟨z, x, rfl, h0, K, s, rfl, hI, k, ⟨rfl, hk⟩, hq⟩ := E_ri hx
  refine r_G_exclusionSource ?_
  obtain ⟨⟨ok, zh, zd, hz⟩, hC, -, hn, hl⟩ := id hI
  obtain ⟨hg, hse, ⟨hcs, hnn, hgm⟩, hgh, hrm, hmk, hsb⟩ := id hC
  have hr := (geo_n hg).1
  have hd := (geo_n hg).2
  have h12 := hg.1.2.2.1
  have h24 := hg.1.2.2.2
  have hin : inR K.2.2.1.2.2.2.2.2.2.2.2.2.1 (nI k) = true := inR_k (by omega) (by omega)
  refine ⟨_, K, rfl, ok, fun e => (by rw [hin] at e; cases e), fun k2 h2 e => ?_⟩
  obtain rfl : k = k2 := (nI_eq (by omega) (by omega)).mp e
  obtain ⟨-, -, -, -, -, e6, e7, e8, -⟩ := hrm k h2
  rw [e8]
  exact hq
def rx_q_hasThermometer (as : List Value) (h : HM) (o : Option Nat) (Q : XQ) : Prop := A_ri as fun z x => LX h z fun h0 s => ∃ k, (x = nI k ∧ k < nR s) ∧ Q (.inl (some (.int (s (12 + 9 * k + 3))))) h o
set_option maxRecDepth 2000 in
set_option maxHeartbeats 200000 in
theorem r_q_hasThermometer (hx : rx_q_hasThermometer as h o Q) : Runs G m_G_hasThermometer as h o Q := by
  obtain ⟨z, x, rfl, h0, K, s, rfl, hI, k, ⟨rfl, hk⟩, hq⟩ := E_ri hx
  refine r_G_hasThermometer ?_
  obtain ⟨⟨ok, zh, zd, hz⟩, hC, -, hn, hl⟩ := id hI
  obtain ⟨hg, hse, ⟨hcs, hnn, hgm⟩, hgh, hrm, hmk, hsb⟩ := id hC
  have hr := (geo_n hg).1
  have hd := (geo_n hg).2
  have h12 := hg.1.2.2.1
  have h24 := hg.1.2.2.2
  have hin : inR K.2.2.1.2.2.2.2.2.2.2.2.2.1 (nI k) = true := inR_k (by omega) (by omega)
  refine ⟨_, K, rfl, ok, fun e => (by rw [hin] at e; cases e), fun _ => ?_⟩
  rw [ctn_k (by omega), ← (ctn_S hC hk).1]
  exact hq
def rx_q_hasMicrophone (as : List Value) (h : HM) (o : Option Nat) (Q : XQ) : Prop := A_ri as fun z x => LX h z fun h0 s => ∃ k, (x = nI k ∧ k < nR s) ∧ Q (.inl (some (.int (s (12 + 9 * k + 4))))) h o
set_option maxRecDepth 2000 in
set_option maxHeartbeats 200000 in
theorem r_q_hasMicrophone (hx : rx_q_hasMicrophone as h o Q) : Runs G m_G_hasMicrophone as h o Q := by
  obtain ⟨z, x, rfl, h0, K, s, rfl, hI, k, ⟨rfl, hk⟩, hq⟩ := E_ri hx
  refine r_G_hasMicrophone ?_
  obtain ⟨⟨ok, zh, zd, hz⟩, hC, -, hn, hl⟩ := id hI
  obtain ⟨hg, hse, ⟨hcs, hnn, hgm⟩, hgh, hrm, hmk, hsb⟩ := id hC
  have hr := (geo_n hg).1
  have hd := (geo_n hg).2
  have h12 := hg.1.2.2.1
  have h24 := hg.1.2.2.2
  have hin : inR K.2.2.1.2.2.2.2.2.2.2.2.2.1 (nI k) = true := inR_k (by omega) (by omega)
  refine ⟨_, K, rfl, ok, fun e => (by rw [hin] at e; cases e), fun _ => ?_⟩
  rw [ctn_k (by omega), ← (ctn_S hC hk).2.1]
  exact hq
def rx_q_lowRoom (as : List Value) (h : HM) (o : Option Nat) (Q : XQ) : Prop := A_ri as fun z x => LX h z fun h0 s => ∃ k, (x = nI k ∧ k < nD s) ∧ Q (.inl (some (.int (s (120 + 4 * k))))) h o
set_option maxRecDepth 2000 in
set_option maxHeartbeats 200000 in
theorem r_q_lowRoom (hx : rx_q_lowRoom as h o Q) : Runs G m_G_lowRoom as h o Q := by
  obtain ⟨z, x, rfl, h0, K, s, rfl, hI, k, ⟨rfl, hk⟩, hq⟩ := E_ri hx
  refine r_G_lowRoom ?_
  obtain ⟨⟨ok, zh, zd, hz⟩, hC, -, hn, hl⟩ := id hI
  obtain ⟨hg, hse, ⟨hcs, hnn, hgm⟩, hgh, hrm, hmk, hsb⟩ := id hC
  have hr := (geo_n hg).1
  have hd := (geo_n hg).2
  have h12 := hg.1.2.2.1
  have h24 := hg.1.2.2.2
  have hin : inR K.2.2.1.2.2.2.2.2.2.2.2.2.2.1 (nI k) = true := inR_k (by omega) (by omega)
  refine ⟨_, K, rfl, ok, fun e => (by rw [hin] at e; cases e), fun k2 h2 e => ?_⟩
  obtain rfl : k = k2 := (nI_eq (by omega) (by omega)).mp e
  obtain ⟨a, b, n, -, -, b1, b2, b3, -, c1, c2, c3⟩ := drc_n hC h2
  rw [b1, ← c1]
  exact hq
def rx_q_highRoom (as : List Value) (h : HM) (o : Option Nat) (Q : XQ) : Prop := A_ri as fun z x => LX h z fun h0 s => ∃ k, (x = nI k ∧ k < nD s) ∧ Q (.inl (some (.int (s (120 + 4 * k + 1))))) h o
set_option maxRecDepth 2000 in
set_option maxHeartbeats 200000 in
theorem r_q_highRoom (hx : rx_q_highRoom as h o Q) : Runs G m_G_highRoom as h o Q := by
  obtain ⟨z, x, rfl, h0, K, s, rfl, hI, k, ⟨rfl, hk⟩, hq⟩ := E_ri hx
  refine r_G_highRoom ?_
  obtain ⟨⟨ok, zh, zd, hz⟩, hC, -, hn, hl⟩ := id hI
  obtain ⟨hg, hse, ⟨hcs, hnn, hgm⟩, hgh, hrm, hmk, hsb⟩ := id hC
  have hr := (geo_n hg).1
  have hd := (geo_n hg).2
  have h12 := hg.1.2.2.1
  have h24 := hg.1.2.2.2
  have hin : inR K.2.2.1.2.2.2.2.2.2.2.2.2.2.1 (nI k) = true := inR_k (by omega) (by omega)
  refine ⟨_, K, rfl, ok, fun e => (by rw [hin] at e; cases e), fun k2 h2 e => ?_⟩
  obtain rfl : k = k2 := (nI_eq (by omega) (by omega)).mp e
  obtain ⟨a, b, n, -, -, b1, b2, b3, -, c1, c2, c3⟩ := drc_n hC h2
  rw [b2, ← c2]
  exact hq
def rx_q_noise (as : List Value) (h : HM) (o : Option Nat) (Q : XQ) : Prop := A_ri as fun z x => LX h z fun h0 s => ∃ k, (x = nI k ∧ k < nD s) ∧ Q (.inl (some (.int (s (120 + 4 * k + 2))))) h o
set_option maxRecDepth 2000 in
set_option maxHeartbeats 200000 in
theorem r_q_noise (hx : rx_q_noise as h o Q) : Runs G m_G_noise as h o Q := by
  obtain ⟨z, x, rfl, h0, K, s, rfl, hI, k, ⟨rfl, hk⟩, hq⟩ := E_ri hx
  refine r_G_noise ?_
  obtain ⟨⟨ok, zh, zd, hz⟩, hC, -, hn, hl⟩ := id hI
  obtain ⟨hg, hse, ⟨hcs, hnn, hgm⟩, hgh, hrm, hmk, hsb⟩ := id hC
  have hr := (geo_n hg).1
  have hd := (geo_n hg).2
  have h12 := hg.1.2.2.1
  have h24 := hg.1.2.2.2
  have hin : inR K.2.2.1.2.2.2.2.2.2.2.2.2.2.1 (nI k) = true := inR_k (by omega) (by omega)
  refine ⟨_, K, rfl, ok, fun e => (by rw [hin] at e; cases e), fun k2 h2 e => ?_⟩
  obtain rfl : k = k2 := (nI_eq (by omega) (by omega)).mp e
  obtain ⟨a, b, n, -, -, b1, b2, b3, -, c1, c2, c3⟩ := drc_n hC h2
  rw [b3, ← c3]
  exact hq
def rx_q_isOpen (as : List Value) (h : HM) (o : Option Nat) (Q : XQ) : Prop := A_ri as fun z x => LX h z fun h0 s => ∃ k, (x = nI k ∧ k < nD s) ∧ Q (.inl (some (.int (s (120 + 4 * k + 3))))) h o
set_option maxRecDepth 2000 in
set_option maxHeartbeats 200000 in
theorem r_q_isOpen (hx : rx_q_isOpen as h o Q) : Runs G m_G_isOpen as h o Q := by
  obtain ⟨z, x, rfl, h0, K, s, rfl, hI, k, ⟨rfl, hk⟩, hq⟩ := E_ri hx
  refine r_G_isOpen ?_
  obtain ⟨⟨ok, zh, zd, hz⟩, hC, -, hn, hl⟩ := id hI
  obtain ⟨hg, hse, ⟨hcs, hnn, hgm⟩, hgh, hrm, hmk, hsb⟩ := id hC
  have hr := (geo_n hg).1
  have hd := (geo_n hg).2
  have h12 := hg.1.2.2.1
  have h24 := hg.1.2.2.2
  have hin : inR K.2.2.1.2.2.2.2.2.2.2.2.2.2.1 (nI k) = true := inR_k (by omega) (by omega)
  refine ⟨_, K, rfl, ok, fun e => (by rw [hin] at e; cases e), fun _ => ?_⟩
  rw [ctn_k (by omega), ← od_S hC (d := k) (by omega)]
  exact hq
def rx_q_doorBetween (as : List Value) (h : HM) (o : Option Nat) (Q : XQ) : Prop := A_rii as fun z x y => LX h z fun h0 s => ∃ a b, (x = nI a ∧ y = nI b ∧ a < nR s ∧ b < nR s) ∧ Q (.inl (some (.int (btw s (nI a) (nI b))))) h o
set_option maxRecDepth 2000 in
set_option maxHeartbeats 200000 in
theorem r_q_doorBetween (hx : rx_q_doorBetween as h o Q) : Runs G m_G_doorBetween as h o Q := by
  obtain ⟨z, x, y, rfl, h0, K, s, rfl, hI, a, b, ⟨rfl, rfl, ha, hb⟩, hq⟩ := E_rii hx
  refine r_G_doorBetween ?_
  obtain ⟨⟨ok, zh, zd, hz⟩, hC, -, hn, hl⟩ := id hI
  obtain ⟨hg, hse, ⟨hcs, hnn, hgm⟩, hgh, hrm, hmk, hsb⟩ := id hC
  have hr := (geo_n hg).1
  have hd := (geo_n hg).2
  have h12 := hg.1.2.2.1
  have h24 := hg.1.2.2.2
  have hia : inR K.2.2.1.2.2.2.2.2.2.2.2.2.1 (nI a) = true := inR_k (by omega) (by omega)
  have hib : inR K.2.2.1.2.2.2.2.2.2.2.2.2.1 (nI b) = true := inR_k (by omega) (by omega)
  rw [geo_btw hg] at hq
  refine ⟨_, K, rfl, ok, fun e => ?_, fun _ _ => hq⟩
  rw [hia, hib] at e
  rcases e with e | e <;> cases e
def rx_q_neighbors (as : List Value) (h : HM) (o : Option Nat) (Q : XQ) : Prop := A_ri as fun z x => LX h z fun h0 s => ∃ a, (x = nI a ∧ a < nR s) ∧ ∀ v, (∀ b, b < 24 → bt v b = adj s (nI a) (nI b)) → Q (.inl (some (.int v))) h o
set_option maxRecDepth 2000 in
set_option maxHeartbeats 200000 in
theorem r_q_neighbors (hx : rx_q_neighbors as h o Q) : Runs G m_G_neighbors as h o Q := by
  obtain ⟨z, x, rfl, h0, K, s, rfl, hI, a, ⟨rfl, ha⟩, hq⟩ := E_ri hx
  refine r_G_neighbors ?_
  obtain ⟨⟨ok, zh, zd, hz⟩, hC, -, hn, hl⟩ := id hI
  obtain ⟨hg, hse, ⟨hcs, hnn, hgm⟩, hgh, hrm, hmk, hsb⟩ := id hC
  have hr := (geo_n hg).1
  have hd := (geo_n hg).2
  have h12 := hg.1.2.2.1
  have h24 := hg.1.2.2.2
  have hia : inR K.2.2.1.2.2.2.2.2.2.2.2.2.1 (nI a) = true := inR_k (by omega) (by omega)
  refine ⟨_, K, rfl, ok, fun e => (by rw [hia] at e; cases e), fun _ => hq _ fun b hb => ?_⟩
  have e1 := nb_T hg (a := a) (b := b) (by omega) hb
  have e2 := adj_T hg (a := a) (b := b) (by omega) hb
  have e3 := e1.trans e2.symm
  cases h1 : bt (orF (nbF K.2.2.1.2.2.2.2.2.1 K.2.2.1.2.2.2.2.2.2.1 K.2.2.1.2.2.2.2.2.2.2.2.2.2.2.1 (nI a)) K.2.2.1.2.2.2.2.2.2.2.2.2.2.1) b with
  | true => exact (e3.mp h1).symm
  | false =>
    cases h2 : adj s (nI a) (nI b) with
    | false => rfl
    | true => exact absurd (e3.mpr h2) (by rw [h1]; decide)
def rx_q_rank (as : List Value) (h : HM) (o : Option Nat) (Q : XQ) : Prop := A_ri as fun z x => LX h z fun h0 s => Q (.inl (some (.int (wrk s x)))) h o
set_option maxRecDepth 2000 in
set_option maxHeartbeats 200000 in
theorem r_q_rank (hx : rx_q_rank as h o Q) : Runs G m_G_roomByColdness as h o Q := by
  obtain ⟨z, x, rfl, h0, K, s, rfl, hI, hq⟩ := E_ri hx
  refine r_G_roomByColdness ?_
  obtain ⟨⟨ok, zh, zd, hz⟩, hC, -, hn, hl⟩ := id hI
  obtain ⟨hg, hse, ⟨hcs, hnn, hgm⟩, hgh, hrm, hmk, hsb⟩ := id hC
  have hr := (geo_n hg).1
  have hd := (geo_n hg).2
  have h12 := hg.1.2.2.1
  have h24 := hg.1.2.2.2
  rw [wrk_T hC] at hq
  exact ⟨_, K, rfl, ok, hq⟩
end LK
/-- the room of a rank -/
theorem wrk_at {T : HT} {s : Nat → Int32} (h : CPL T s) {i : Nat} (hi : i < T.2.2.2.2.2.2.2.2.2.1) : ∃ j, j < T.2.2.2.2.2.2.2.2.2.1 ∧ wrk s (nI i) = nI j ∧ fb_ct (fun k => RKR T.2.1 j k) T.2.2.2.2.2.2.2.2.2.1 = i := by
  have hrc := h.1.1.2.2.1
  obtain ⟨j, g1, g2⟩ := rk_sur (RKR_ir T.2.1) (RKR_tr T.2.1) (RKR_tt T.2.1) T.2.2.2.2.2.2.2.2.2.1 i hi
  refine ⟨j, g1, ?_, g2⟩
  rw [wrk_T h]
  refine frst_at g1 ?_ fun k hk => ?_
  · rw [rnk_ct hrc g1, g2]
    exact beq_self_eq_true _
  · rw [rnk_ct hrc (by omega), beq_eq_false_iff_ne]
    intro e
    have hk2 : fb_ct (fun q => RKR T.2.1 k q) T.2.2.2.2.2.2.2.2.2.1 ≤ T.2.2.2.2.2.2.2.2.2.1 := fb_ct_le _ _
    have e2 := (nI_eq (by omega) (by omega)).mp e
    exact rk_inj (RKR_ir T.2.1) (RKR_tr T.2.1) (RKR_tt T.2.1) (show k < T.2.2.2.2.2.2.2.2.2.1 by omega) g1 (by omega) (e2.trans g2.symm)
theorem wrk_no {T : HT} {s : Nat → Int32} (h : CPL T s) : wrk s (nI (nR s)) = -1 := by
  have hrc := h.1.1.2.2.1
  rw [wrk_T h, (geo_n h.1).1]
  refine frst_no fun k hk => ?_
  rw [rnk_ct hrc hk, beq_eq_false_iff_ne]
  intro e
  have h1 := ct_lt (p := fun q => RKR T.2.1 k q) (q := fun _ => true) hk (RKR_ir T.2.1 k) rfl (fun _ _ _ => rfl)
  have h2 : fb_ct (fun _ => true) T.2.2.2.2.2.2.2.2.2.1 ≤ T.2.2.2.2.2.2.2.2.2.1 := fb_ct_le _ _
  have e2 := (nI_eq (by omega) (by omega)).mp e
  omega
theorem wrk_le {T : HT} {s : Nat → Int32} (h : CPL T s) {i : Nat} (hi : i + 1 < nR s) : ∃ a b, a < nR s ∧ b < nR s ∧ wrk s (nI i) = nI a ∧ wrk s (nI (i + 1)) = nI b ∧ s (12 + 9 * b + 2) ≤ s (12 + 9 * a + 2) := by
  rw [(geo_n h.1).1] at hi ⊢
  obtain ⟨a, a1, a2, a3⟩ := wrk_at h (i := i) (by omega)
  obtain ⟨b, b1, b2, b3⟩ := wrk_at h (i := i + 1) hi
  refine ⟨a, b, a1, b1, a2, b2, ?_⟩
  rw [← (h.2.2.2.2.1 a a1).1, ← (h.2.2.2.2.1 b b1).1]
  refine Int32.not_lt.mp fun c => ?_
  have := ct_lt (p := fun k => RKR T.2.1 b k) (q := fun k => RKR T.2.1 a k) b1 (RKR_ir T.2.1 b) (RKR_t.mpr (Or.inl c)) (fun k _ hx => RKR_tr T.2.1 a b k (RKR_t.mpr (Or.inl c)) hx)
  omega
def W77 (G : GG) : WF := (wcons 104 rx_q_rank (wcons 103 rx_q_neighbors (wcons 109 rx_q_doorBetween (wcons 108 rx_q_isOpen (wcons 107 rx_q_noise (wcons 106 rx_q_highRoom (wcons 105 rx_q_lowRoom (wcons 102 rx_q_hasMicrophone (wcons 101 rx_q_hasThermometer (wcons 113 rx_q_exclusionSource (wcons 112 rx_q_exclusionEvidence (wcons 111 rx_q_exclusionReason (wcons 100 rx_q_coldness (wcons 98 rx_q_ghostRoom (wcons 99 rx_q_possibleRooms (wcons 97 rx_q_doorCount (wcons 96 rx_q_roomCount (wcons 95 rx_q_ghostMoves (wcons 94 rx_q_nightNumber (wcons 93 rx_q_coinsSpent (wcons 92 rx_q_coins (wcons 91 rx_q_randomState (wcons 90 rx_q_seancePrice (wcons 89 rx_q_hearingThreshold (wcons 88 rx_q_chill (wcons 87 rx_q_mode (W76 G)))))))))))))))))))))))))))
theorem W77_ok (G : GG) : WOK G (W77 G) := (wcons_ok (fun _ _ _ _ hx => r_q_rank hx) (wcons_ok (fun _ _ _ _ hx => r_q_neighbors hx) (wcons_ok (fun _ _ _ _ hx => r_q_doorBetween hx) (wcons_ok (fun _ _ _ _ hx => r_q_isOpen hx) (wcons_ok (fun _ _ _ _ hx => r_q_noise hx) (wcons_ok (fun _ _ _ _ hx => r_q_highRoom hx) (wcons_ok (fun _ _ _ _ hx => r_q_lowRoom hx) (wcons_ok (fun _ _ _ _ hx => r_q_hasMicrophone hx) (wcons_ok (fun _ _ _ _ hx => r_q_hasThermometer hx) (wcons_ok (fun _ _ _ _ hx => r_q_exclusionSource hx) (wcons_ok (fun _ _ _ _ hx => r_q_exclusionEvidence hx) (wcons_ok (fun _ _ _ _ hx => r_q_exclusionReason hx) (wcons_ok (fun _ _ _ _ hx => r_q_coldness hx) (wcons_ok (fun _ _ _ _ hx => r_q_ghostRoom hx) (wcons_ok (fun _ _ _ _ hx => r_q_possibleRooms hx) (wcons_ok (fun _ _ _ _ hx => r_q_doorCount hx) (wcons_ok (fun _ _ _ _ hx => r_q_roomCount hx) (wcons_ok (fun _ _ _ _ hx => r_q_ghostMoves hx) (wcons_ok (fun _ _ _ _ hx => r_q_nightNumber hx) (wcons_ok (fun _ _ _ _ hx => r_q_coinsSpent hx) (wcons_ok (fun _ _ _ _ hx => r_q_coins hx) (wcons_ok (fun _ _ _ _ hx => r_q_randomState hx) (wcons_ok (fun _ _ _ _ hx => r_q_seancePrice hx) (wcons_ok (fun _ _ _ _ hx => r_q_hearingThreshold hx) (wcons_ok (fun _ _ _ _ hx => r_q_chill hx) (wcons_ok (fun _ _ _ _ hx => r_q_mode hx) (W76_ok G)))))))))))))))))))))))))))
