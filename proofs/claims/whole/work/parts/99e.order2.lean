/-! 99e: what a read command takes -/
theorem kNum_2 {β : Type} {a b : Int32} {K : KT} {f : Int32 → KT → KT ⊕ β} {r : β} (h : kNum a b K f = .inr r) : ¬ K.2.2.2.2.2.2.2.2.2.2.2.2.2.2.1 = 0 := by
  unfold kNum at h
  split at h
  · exact absurd h (by simp)
  · rename_i h2
    rw [Classical.not_not.mp h2]; decide
theorem kRoom_1 {β : Type} {U : HT} {K : KT} {f : Int32 → KT → KT ⊕ β} {r : β} (h : kRoom U K f = .inr r) : ¬ K.2.2.2.2.2.2.2.2.2.2.2.2.2.2.1 = 0 := by
  unfold kRoom at h
  split at h
  · exact absurd h (by simp)
  · rename_i h2
    rw [Classical.not_not.mp h2]; decide
theorem ORD_tkRs : ∀ f s K r, TKI K → tkRs f s K = .inr r → ORD K r.2 := by
  intro f
  induction f with
  | zero => intro s K r hK h; rw [tkRs] at h; rw [← Sum.inr.inj h]; exact ORD_rfl hK
  | succ f ih =>
    intro s K r hK h
    rw [tkRs] at h
    split at h
    · rw [← Sum.inr.inj h]; exact ORD_rfl hK
    · have h2 := kRoom_inr h
      exact ORD_trans (ORD_adv hK) (ih _ _ r (adv_tk hK) h2)
theorem ORD_kN {K : KT} {r : Int32 × KT} (hK : TKI K) (h : kN K = .inr r) : ¬ K.2.2.2.2.2.2.2.2.2.2.2.2.2.2.1 = 0 ∧ ORD K r.2 := by
  unfold kN at h
  have h2 := kNum_inr h
  have h3 := Sum.inr.inj h2
  refine ⟨kNum_2 h, ?_⟩
  rw [← h3]
  exact ORD_adv hK
theorem ORD_tkSet {K : KT} {r : Int32 × KT} (hK : TKI K) (h : tkSet K = .inr r) : ¬ K.2.2.2.2.2.2.2.2.2.2.2.2.2.2.1 = 0 ∧ ORD K r.2 := by
  unfold tkSet at h
  have h2 := kRoom_inr h
  unfold tkSet1 at h2
  exact ⟨kRoom_1 h, ORD_trans (ORD_adv hK) (ORD_tkRs 600 _ _ r (adv_tk hK) h2)⟩
theorem ORD_tkDr {K : KT} {r : Int32 × KT} (hK : TKI K) (h : tkDr K = .inr r) : ¬ K.2.2.2.2.2.2.2.2.2.2.2.2.2.2.1 = 0 ∧ ORD K r.2 := by
  unfold tkDr at h
  have h2 := kRoom_inr h
  refine ⟨kRoom_1 h, ?_⟩
  unfold tkDr2 at h2
  split at h2
  · exact absurd h2 (by simp)
  unfold tkDr3 at h2
  split at h2
  · exact absurd h2 (by simp)
  unfold tkDr4 at h2
  split at h2
  · exact absurd h2 (by simp)
  have h3 := Sum.inr.inj h2
  rw [← h3]
  exact ORD_trans (ORD_adv hK) (ORD_adv (adv_tk hK))
theorem ORD_tkSw {K : KT} {r : Int32 × KT} (hK : TKI K) (h : tkSw K = .inr r) : ORD K r.2 := by
  unfold tkSw at h
  split at h
  · rw [← Sum.inr.inj h]; exact ORD_adv hK
  split at h
  · rw [← Sum.inr.inj h]; exact ORD_adv hK
  · exact absurd h (by simp)
theorem ORD_rrF {c : Int32} {K : KT} {r : (Int32 × Int32) × KT} (hK : TKI K) (h : rrF c K = .inr r) : ¬ K.2.2.2.2.2.2.2.2.2.2.2.2.2.2.1 = 0 ∧ ORD K r.2 := by
  have hA := ORD_adv hK
  unfold rrF at h
  split at h
  · refine ⟨kNum_2 h, ?_⟩
    have h2 := kNum_inr h
    unfold rrRp at h2
    split at h2
    · exact absurd h2 (by simp)
    · rw [← Sum.inr.inj h2]; exact ORD_trans hA (ORD_adv hA.1)
  split at h
  · obtain ⟨x, h1, h2⟩ := bnd_inr h
    unfold rr0 at h2
    rw [← Sum.inr.inj h2]; exact ORD_tkSet hK h1
  split at h
  · obtain ⟨x, h1, h2⟩ := bnd_inr h
    unfold rr0 at h2
    rw [← Sum.inr.inj h2]; exact ORD_tkDr hK h1
  split at h
  · refine ⟨kRoom_1 h, ?_⟩
    have h3 := kRoom_inr h
    unfold rrSw at h3
    obtain ⟨x, h1, h2⟩ := bnd_inr h3
    unfold rrB at h2
    rw [← Sum.inr.inj h2]; exact ORD_trans hA (ORD_tkSw hA.1 h1)
  split at h
  · refine ⟨kRoom_1 h, ?_⟩
    have h3 := kRoom_inr h
    unfold rrWm at h3
    obtain ⟨x, h1, h2⟩ := bnd_inr h3
    unfold rrB at h2
    rw [← Sum.inr.inj h2]; exact ORD_trans hA (ORD_kN hA.1 h1).2
  · obtain ⟨x, h1, h2⟩ := bnd_inr h
    unfold rr0 at h2
    rw [← Sum.inr.inj h2]; exact ORD_kN hK h1
theorem scC_tk {K : KT} (h : TKI K) : TKI (scC K) := h
theorem scC_pk (K : KT) : PK (scC K) = PK K := rfl
/-- a read command takes a byte or more -/
theorem cmX_pk {K K8 : KT} {cc a b : Int32} (hK : TKI K) (h : cmX K = .inr (cc, (a, b), K8)) : TKI K8 ∧ PK K < PK K8 := by
  unfold cmX at h
  obtain ⟨⟨c1, K1⟩, h1, h2⟩ := bnd_inr h
  unfold cmX2 at h2
  obtain ⟨⟨⟨a2, b2⟩, K2⟩, h3, h4⟩ := bnd_inr h2
  have h4 := Sum.inr.inj h4
  have e4 : K2 = K8 := congrArg (fun q => q.2.2) h4
  subst e4
  unfold tcW at h1
  split at h1
  · exact absurd h1 (by simp)
  unfold tcW2 at h1
  split at h1
  · exact absurd h1 (by simp)
  split at h1
  · exact absurd h1 (by simp)
  have h1 := Sum.inr.inj h1
  have e2 : adv (scC K) = K1 := congrArg Prod.snd h1
  dsimp only at h3
  rw [← e2] at h3
  have hA := PK_adv (scC_tk hK)
  obtain ⟨g1, g2⟩ := ORD_rrF (adv_tk (scC_tk hK)) h3
  have g3 := hA.2 g1
  rw [scC_pk] at g3
  exact ⟨g2.1, Nat.lt_of_lt_of_le g3 g2.2⟩
