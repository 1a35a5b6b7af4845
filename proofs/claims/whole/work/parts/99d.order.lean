/-! 99d: a command, in the two orders of reading -/
theorem bnd_num {α β : Type} {a b : Int32} {K : KT} {f : Int32 → KT → KT ⊕ α} {g : α → KT ⊕ β} : bnd (kNum a b K f) g = kNum a b K (fun v K2 => bnd (f v K2) g) := by
  unfold kNum
  split
  · rfl
  split
  · rfl
  · rfl
theorem bnd_room {α β : Type} {U : HT} {K : KT} {f : Int32 → KT → KT ⊕ α} {g : α → KT ⊕ β} : bnd (kRoom U K f) g = kRoom U K (fun v K2 => bnd (f v K2) g) := by
  unfold kRoom
  split
  · rfl
  split
  · rfl
  · rfl
def cmG (q : Int32 × (Int32 × Int32) × KT) : KT ⊕ KT := if q.1 = 18 then .inr (opK (addK 18 q.2.1.1 q.2.1.2 q.2.2)) else enR2 (addK q.1 q.2.1.1 q.2.1.2 q.2.2)
theorem rcR_eq (c : Int32) (K : KT) : rcR c K = bnd (rrF c K) (fun q => cmG (c, q.1, q.2)) := by
  unfold rcR rrF
  by_cases c18 : c = 18
  · subst c18
    rw [if_pos rfl, if_pos rfl, bnd_num]
    unfold bgR
    congr 1
    funext v K2
    unfold bgR2 rrRp
    split
    · rfl
    · rfl
  have hg : ∀ q : (Int32 × Int32) × KT, cmG (c, q.1, q.2) = enR2 (addK c q.1.1 q.1.2 q.2) := fun q => if_neg c18
  rw [if_neg c18, if_neg c18]
  split
  · rw [bnd_bnd]
    congr 1
    funext r
    exact (hg ((r.1, 0), r.2)).symm
  split
  · rw [bnd_bnd]
    congr 1
    funext r
    exact (hg ((r.1, 0), r.2)).symm
  split
  · rw [bnd_room]
    congr 1
    funext v K2
    unfold rcSw rrSw
    rw [bnd_bnd]
    congr 1
    funext r
    exact (hg ((v, r.1), r.2)).symm
  split
  · rw [bnd_room]
    congr 1
    funext v K2
    unfold rcWm rrWm
    rw [bnd_bnd]
    congr 1
    funext r
    exact (hg ((v, r.1), r.2)).symm
  · rw [bnd_bnd]
    congr 1
    funext r
    exact (hg ((r.1, 0), r.2)).symm
theorem rcC_eq (K : KT) : rcC K = bnd (cmX K) cmG := by
  unfold rcC cmX
  rw [bnd_bnd]
  congr 1
  funext r
  unfold rcX cmX2
  rw [rcR_eq, bnd_bnd]
  rfl
theorem kNum_V {β : Type} {a b : Int32} {K : KT} {f : Int32 → KT → KT ⊕ β} {r : β} (h : kNum a b K f = .inr r) : ¬ (K.2.2.2.2.2.2.2.2.2.2.2.2.2.2.2.2.1 < a ∨ ¬ K.2.2.2.2.2.2.2.2.2.2.2.2.2.2.2.2.1 ≤ b) ∧ f K.2.2.2.2.2.2.2.2.2.2.2.2.2.2.2.2.1 (adv K) = .inr r := by
  refine ⟨?_, kNum_inr h⟩
  unfold kNum at h
  split at h
  · exact absurd h (by simp)
  split at h
  · exact absurd h (by simp)
  · assumption
theorem cmX_ok {K K8 : KT} {cc a b : Int32} (h : cmX K = .inr (cc, (a, b), K8)) : KF K K8 ∧ CCV cc ∧ K.2.2.2.2.2.2.2.2.2.2.2.2.2.2.2.2.2.2.2.2.2.2.2.2.2.2.1 < 30 ∧ (cc = 18 → K.2.2.2.2.2.2.2.2.2.2.2.2.2.2.2.2.2.2.2.2.2.2.2.2.2.2.2.1 < 2 ∧ b = K.2.2.2.2.2.2.2.2.2.2.2.2.2.2.2.2.2.2.2.2.2.2.2.2.2.2.2.2.1 ∧ ∃ r, (1 ≤ r ∧ r ≤ 20) ∧ a = nI r) ∧ (¬ cc = 18 → suV2 K.2.2.1 cc a b) := by
  unfold cmX at h
  obtain ⟨⟨c1, K1⟩, h1, h2⟩ := bnd_inr h
  unfold cmX2 at h2
  obtain ⟨⟨⟨a2, b2⟩, K2⟩, h3, h4⟩ := bnd_inr h2
  have h4 := Sum.inr.inj h4
  have e1 : c1 = cc := congrArg (fun q => q.1) h4
  have e2 : a2 = a := congrArg (fun q => q.2.1.1) h4
  have e3 : b2 = b := congrArg (fun q => q.2.1.2) h4
  have e4 : K2 = K8 := congrArg (fun q => q.2.2) h4
  subst e1 e2 e3 e4
  clear h h2 h4
  unfold tcW at h1
  split at h1
  · exact absurd h1 (by simp)
  rename_i hne
  obtain ⟨-, hcc⟩ := cmK_1 hne
  unfold tcW2 at h1
  split at h1
  · exact absurd h1 (by simp)
  rename_i h18
  split at h1
  · exact absurd h1 (by simp)
  rename_i h30
  have h1 := Sum.inr.inj h1
  have e1 : cmK K = c1 := congrArg Prod.fst h1
  have e2 : adv (scC K) = K1 := congrArg Prod.snd h1
  subst e1 e2
  dsimp only at h3
  have ht := TKR_rrF (cmK K) (adv (scC K))
  rw [h3] at ht
  have hk := KF_of (show TKE (adv (scC K)) K2 from ht)
  refine ⟨hk, hcc, Classical.not_not.mp h30, fun c => ?_, fun c => ?_⟩
  · refine ⟨Classical.not_not.mp fun x => h18 ⟨c, x⟩, ?_⟩
    rw [c] at h3
    unfold rrF at h3
    rw [if_pos rfl] at h3
    obtain ⟨hv, h5⟩ := kNum_V h3
    unfold rrRp at h5
    split at h5
    · exact absurd h5 (by simp)
    have h5 := Sum.inr.inj h5
    have ea : (adv (scC K)).2.2.2.2.2.2.2.2.2.2.2.2.2.2.2.2.1 = a2 := congrArg (fun q => q.1.1) h5
    have eb : K.2.2.2.2.2.2.2.2.2.2.2.2.2.2.2.2.2.2.2.2.2.2.2.2.2.2.2.2.1 = b2 := congrArg (fun q => q.1.2) h5
    refine ⟨eb.symm, ?_⟩
    rw [ea] at hv
    obtain ⟨r, hr1, hr2, er⟩ := rngI1 (m := 20) (by decide) (fun x => hv (Or.inl x)) (Classical.not_not.mp fun x => hv (Or.inr x))
    exact ⟨r, ⟨hr1, hr2⟩, er⟩
  · have h9 := rrF_V hcc c h3
    rw [scC_hs] at h9
    exact h9
