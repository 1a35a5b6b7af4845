/-! g1: what holds of class and world between two calls of the law; the class's changes, as the world's -/
def NMC (k : Nat) : Int64 := lN (114 * 256 + (97 + k))
def NMS (T : HT) : Prop := ∀ k, k < T.2.2.2.2.2.2.2.2.2.1 → T.1 k = NMC k
def LIV (K : KT) (s : Nat → Int32) : Prop := (GOK K ∧ ZH K.2.2.1 ∧ ZH K.2.2.2.1 ∧ HZ K) ∧ CPL K.2.2.1 s ∧ (∃ a b, a < 7 ∧ b ≤ 6 ∧ K.2.2.2.2.2.2.2.2.2.2.2.2.2.2.2.2.2.2.2.2.1 = nI a ∧ K.2.2.2.2.2.2.2.2.2.2.2.2.2.2.2.2.2.2.2.2.2.1 = nI b) ∧ NMS K.2.2.1 ∧ K.2.2.2.2.2.2.2.2.2.1 = 0
theorem LIV_ch {K K2 : KT} {s s2 : Nat → Int32} {a b : Nat} (hI : LIV K s) (hb : b ≤ 6) (ha : a < 7) (v1 : HOK K2.2.2.1) (v2 : ZH K2.2.2.1) (v3 : CPL K2.2.2.1 s2) (v4 : NMS K2.2.2.1) (c1 : K2.2.2.2.1 = K.2.2.2.1) (c2 : K2.2.2.2.2.2.2.2.2.2.2.2.2.2.2.2.2.2.2.2.1 = K.2.2.2.2.2.2.2.2.2.2.2.2.2.2.2.2.2.2.2.1)
    (k1 : K2.2.2.2.2.2.2.2.2.2.2.2.2.2.2.2.2.2.2.2.2.1 = (if b < 6 then nI a else nI ((a + 1) % 7))) (k2 : K2.2.2.2.2.2.2.2.2.2.2.2.2.2.2.2.2.2.2.2.2.2.1 = (if b < 6 then nI (b + 1) else nI b)) (k3 : K2.2.2.2.2.2.2.2.2.2.2.2.2.2.2.2.2.2.2.2.2.2.2.1 = updH K.2.2.2.2.2.2.2.2.2.2.2.2.2.2.2.2.2.2.2.2.2.2.1 ((a + b) % 7) K.2.2.1) (k4 : K2.2.2.2.2.2.2.2.2.2.1 = 0) : LIV K2 s2 := by
  obtain ⟨⟨⟨o1, o2, o3, o4, o5⟩, zh, zd, hz⟩, hC, -, hn, hl⟩ := hI
  have hm : (a + b) % 7 < 7 := Nat.mod_lt _ (by decide)
  obtain ⟨m, em⟩ : ∃ m, m = (a + b) % 7 := ⟨_, rfl⟩
  rw [← em] at hm k3
  refine ⟨⟨⟨v1, by rw [c1]; exact o2, by rw [c2]; exact o3, fun i => by rw [k3]; exact HOK_up (o4 i) o1, fun i hi => by rw [k3]; exact H0_up hm hi (o5 i hi)⟩, v2, by rw [c1]; exact zd, fun i hi => by rw [k3]; exact ZH_up (hz i hi) zh⟩, v3, ?_, v4, k4⟩
  by_cases c : b < 6
  · rw [if_pos c] at k1 k2
    exact ⟨a, b + 1, ha, by omega, k1, k2⟩
  · rw [if_neg c] at k1 k2
    exact ⟨(a + 1) % 7, b, Nat.mod_lt _ (by decide), hb, k1, k2⟩
def gdL (Q : XQ) (h0 : HM) (z : Nat) (o : Option Nat) (s2 : Nat → Int32) (v : Int32) : Prop := ∀ K2, LIV K2 s2 → Q (.inl (some (.int v))) (hG h0 z K2) o
def LX (h : HM) (z : Nat) (P : HM → (Nat → Int32) → Prop) : Prop := ∃ h0 K s, h = hG h0 z K ∧ LIV K s ∧ P h0 s
section LK
variable {G : GG} {as : List Value} {h : HM} {o : Option Nat} {Q : XQ}
def rx_k_earn (as : List Value) (h : HM) (o : Option Nat) (Q : XQ) : Prop := A_ri as fun z x => LX h z fun h0 s => ∃ n c, (1 ≤ n ∧ n ≤ 99 ∧ x = nI n ∧ s 5 = nI c ∧ c + n ≤ 999) ∧ gdL Q h0 z o (upd s 5 (nI (c + n))) (nI (c + n))
set_option maxRecDepth 2000 in
set_option maxHeartbeats 200000 in
theorem r_k_earn (hx : rx_k_earn as h o Q) : Runs G m_G_earnCoins as h o Q := by
  obtain ⟨z, x, rfl, h0, K, s, rfl, hI, n, c, ⟨h1, h2, rfl, e5, h3⟩, hq⟩ := E_ri hx
  refine r_G_earnCoins ?_
  obtain ⟨⟨ok, zh, zd, hz⟩, hC, ⟨a, b, ha, hb, eO, eC⟩, hn, hl⟩ := id hI
  obtain ⟨hg, hse, -, -, -, -, hsb⟩ := id hC
  have es := (hse 5 (by decide)).trans e5
  have g1 : ¬ nI n < 1 := fun e => absurd ((nI_ltI (b := 1) (by omega) (by decide)).mp e) (by omega)
  have g2 : nI n ≤ 99 := (nI_leI (b := 99) (by omega) (by decide)).mpr h2
  have g3 : K.2.2.1.2.2.2.2.2.2.2.2.1 5 + nI n ≤ 999 := by rw [es, nI_add]; exact (nI_leI (b := 999) (by omega) (by decide)).mpr h3
  refine ⟨_, K, rfl, ok, a, b, ⟨ha, hb, eO, eC, zh, hz⟩, fun c => (c.elim g1 (fun y => y g2)).elim, fun _ _ c => (c g3).elim, fun _ _ _ => ?_⟩
  rw [hG_hG, es, nI_add]
  refine hq _ (LIV_ch (K := K) (a := a) (b := b) hI hb ha ?_ ?_ ?_ hn rfl rfl rfl rfl rfl hl)
  · exact (HZ_sw (k := 5) (v := nI (c + n)) ⟨ok.1, zh⟩ (by decide)).1
  · exact (HZ_sw (k := 5) (v := nI (c + n)) ⟨ok.1, zh⟩ (by decide)).2
  · exact CPL_se hC (by decide) (SETB_5 hsb (nI_nng (by omega)) ((nI_leI (by omega) (by decide)).mpr h3))
end LK
