/-! 99a: what a read script is: its rows, its open repeats -/
def tkM (X C : KT) : KT := (X.1, X.2.1, X.2.2.1, X.2.2.2.1, X.2.2.2.2.1, X.2.2.2.2.2.1, X.2.2.2.2.2.2.1, X.2.2.2.2.2.2.2.1, X.2.2.2.2.2.2.2.2.1, X.2.2.2.2.2.2.2.2.2.1, X.2.2.2.2.2.2.2.2.2.2.1, X.2.2.2.2.2.2.2.2.2.2.2.1, C.2.2.2.2.2.2.2.2.2.2.2.2.1, C.2.2.2.2.2.2.2.2.2.2.2.2.2.1, C.2.2.2.2.2.2.2.2.2.2.2.2.2.2.1, C.2.2.2.2.2.2.2.2.2.2.2.2.2.2.2.1, C.2.2.2.2.2.2.2.2.2.2.2.2.2.2.2.2.1, C.2.2.2.2.2.2.2.2.2.2.2.2.2.2.2.2.2.1, C.2.2.2.2.2.2.2.2.2.2.2.2.2.2.2.2.2.2.1, X.2.2.2.2.2.2.2.2.2.2.2.2.2.2.2.2.2.2.2.1, X.2.2.2.2.2.2.2.2.2.2.2.2.2.2.2.2.2.2.2.2.1, X.2.2.2.2.2.2.2.2.2.2.2.2.2.2.2.2.2.2.2.2.2.1, X.2.2.2.2.2.2.2.2.2.2.2.2.2.2.2.2.2.2.2.2.2.2.1, X.2.2.2.2.2.2.2.2.2.2.2.2.2.2.2.2.2.2.2.2.2.2.2.1, X.2.2.2.2.2.2.2.2.2.2.2.2.2.2.2.2.2.2.2.2.2.2.2.2.1, X.2.2.2.2.2.2.2.2.2.2.2.2.2.2.2.2.2.2.2.2.2.2.2.2.2.1, X.2.2.2.2.2.2.2.2.2.2.2.2.2.2.2.2.2.2.2.2.2.2.2.2.2.2.1, X.2.2.2.2.2.2.2.2.2.2.2.2.2.2.2.2.2.2.2.2.2.2.2.2.2.2.2.1, X.2.2.2.2.2.2.2.2.2.2.2.2.2.2.2.2.2.2.2.2.2.2.2.2.2.2.2.2.1, X.2.2.2.2.2.2.2.2.2.2.2.2.2.2.2.2.2.2.2.2.2.2.2.2.2.2.2.2.2.1, X.2.2.2.2.2.2.2.2.2.2.2.2.2.2.2.2.2.2.2.2.2.2.2.2.2.2.2.2.2.2.1, X.2.2.2.2.2.2.2.2.2.2.2.2.2.2.2.2.2.2.2.2.2.2.2.2.2.2.2.2.2.2.2.1, X.2.2.2.2.2.2.2.2.2.2.2.2.2.2.2.2.2.2.2.2.2.2.2.2.2.2.2.2.2.2.2.2.1, X.2.2.2.2.2.2.2.2.2.2.2.2.2.2.2.2.2.2.2.2.2.2.2.2.2.2.2.2.2.2.2.2.2)
def TKE (X C : KT) : Prop := tkM X C = C
theorem TKE_rfl (X : KT) : TKE X X := rfl
theorem TKE_trans {A B C : KT} (h1 : TKE A B) (h2 : TKE B C) : TKE A C := by
  have e : tkM A C = tkM (tkM A B) C := rfl
  unfold TKE at *
  rw [e, h1, h2]
theorem TKE_adv (K : KT) : TKE K (adv K) := rfl
theorem TKE_err (K : KT) (c : Int32) : TKE K (errT K c) := rfl
def TKR {α : Type} (K : KT) (g : α → KT) (r : KT ⊕ α) : Prop := match r with
  | .inl K2 => TKE K K2
  | .inr x => TKE K (g x)
theorem TKR_tr {α : Type} {K K2 : KT} {g : α → KT} {r : KT ⊕ α} (h : TKE K K2) (h2 : TKR K2 g r) : TKR K g r := by
  cases r with
  | inl x => exact TKE_trans h h2
  | inr x => exact TKE_trans h h2
theorem TKR_num {α : Type} {K : KT} {g : α → KT} {a b : Int32} {f : Int32 → KT → KT ⊕ α} (h : ∀ v, TKR (adv K) g (f v (adv K))) : TKR K g (kNum a b K f) := by
  unfold kNum
  split
  · exact TKE_err K 1
  split
  · exact TKE_err K 2
  · exact TKR_tr (TKE_adv K) (h _)
theorem TKR_room {α : Type} {K : KT} {U : HT} {g : α → KT} {f : Int32 → KT → KT ⊕ α} (h : ∀ v, TKR (adv K) g (f v (adv K))) : TKR K g (kRoom U K f) := by
  unfold kRoom
  split
  · exact TKE_err K 1
  split
  · exact TKE_err K 4
  · exact TKR_tr (TKE_adv K) (h _)
theorem TKR_bnd {α β : Type} {K : KT} {g : α → KT} {g2 : β → KT} {r : KT ⊕ α} {f : α → KT ⊕ β} (h : TKR K g r) (h2 : ∀ x, TKR (g x) g2 (f x)) : TKR K g2 (bnd r f) := by
  cases r with
  | inl x => exact h
  | inr x => exact TKR_tr h (h2 x)
theorem TKR_kN (K : KT) : TKR K Prod.snd (kN K) := TKR_num fun _ => TKE_rfl _
theorem TKR_tkRs : ∀ f s K, TKR K Prod.snd (tkRs f s K) := by
  intro f
  induction f with
  | zero => intro s K; exact TKE_rfl _
  | succ f ih =>
    intro s K
    rw [tkRs]
    split
    · exact TKE_rfl _
    · exact TKR_room fun v => ih _ _
theorem TKR_tkSet (K : KT) : TKR K Prod.snd (tkSet K) := TKR_room fun v => TKR_tkRs 600 _ _
theorem TKR_tkDr (K : KT) : TKR K Prod.snd (tkDr K) := by
  refine TKR_room fun v => ?_
  unfold tkDr2
  split
  · exact TKE_err _ 1
  unfold tkDr3
  split
  · exact TKE_err _ 4
  unfold tkDr4
  split
  · exact TKE_err _ 6
  · exact TKE_adv _
theorem TKR_tkSw (K : KT) : TKR K Prod.snd (tkSw K) := by
  unfold tkSw
  split
  · exact TKE_adv _
  split
  · exact TKE_adv _
  · exact TKE_err _ 1
theorem TKR_rrF (c : Int32) (K : KT) : TKR K Prod.snd (rrF c K) := by
  unfold rrF
  split
  · refine TKR_num fun v => ?_
    unfold rrRp
    split
    · exact TKE_err _ 1
    · exact TKE_adv _
  split
  · exact TKR_bnd (TKR_tkSet K) fun x => TKE_rfl _
  split
  · exact TKR_bnd (TKR_tkDr K) fun x => TKE_rfl _
  split
  · exact TKR_room fun v => TKR_bnd (TKR_tkSw _) fun x => TKE_rfl _
  split
  · exact TKR_room fun v => TKR_bnd (TKR_kN _) fun x => TKE_rfl _
  · exact TKR_bnd (TKR_kN K) fun x => TKE_rfl _
/-- the kinds, the arguments that a read command has -/
theorem bnd_inr {α β : Type} {r : KT ⊕ α} {f : α → KT ⊕ β} {y : β} (h : bnd r f = .inr y) : ∃ x, r = .inr x ∧ f x = .inr y := by
  cases r with
  | inl x => exact absurd h (by simp [bnd])
  | inr x => exact ⟨x, rfl, h⟩
theorem kRoom_k {β : Type} {U : HT} {K : KT} {f : Int32 → KT → KT ⊕ β} {r : β} (h : kRoom U K f = .inr r) : ∃ k, k < U.2.2.2.2.2.2.2.2.2.1 ∧ f (nI k) (adv K) = .inr r := by
  have h2 := kRoom_inr h
  unfold kRoom at h
  split at h
  · exact absurd h (by simp)
  split at h
  · exact absurd h (by simp)
  · rename_i hn
    obtain ⟨k, hk, ek⟩ := fnd_k hn
    rw [ek] at h2
    exact ⟨k, hk, h2⟩
theorem rrF_V1 {c a b : Int32} {K K2 : KT} (hc : CCV c) (h18 : ¬ c = 18) (h : rrF c K = .inr ((a, b), K2)) : sucV K.2.2.1 c a b := by
  unfold rrF at h
  rw [if_neg h18] at h
  rcases hc with ⟨x, hx, rfl⟩ | rfl | rfl | rfl | rfl | rfl | rfl | rfl | rfl | rfl
  · exact Or.inl ⟨x, hx, rfl⟩
  · exact Or.inr (Or.inl rfl)
  · exact Or.inr (Or.inr (Or.inl rfl))
  · rw [if_neg (by decide), if_pos (by decide)] at h
    obtain ⟨⟨d, K9⟩, h1, h2⟩ := bnd_inr h
    unfold rr0 at h2
    have h2 := Sum.inr.inj h2
    obtain ⟨k, hk, h3⟩ := kRoom_k h1
    have hd : ∃ e, e < K.2.2.1.2.2.2.2.2.2.2.2.2.2.1 ∧ d = nI e := by
      unfold tkDr2 at h3
      split at h3
      · exact absurd h3 (by simp)
      unfold tkDr3 at h3
      split at h3
      · exact absurd h3 (by simp)
      unfold tkDr4 at h3
      split at h3
      · exact absurd h3 (by simp)
      · rename_i hn
        obtain ⟨e, he, ee⟩ := dro_k hn
        have h3 := Sum.inr.inj h3
        have := congrArg Prod.fst h3
        exact ⟨e, he, by rw [← ee]; exact this.symm⟩
    obtain ⟨e, he, ee⟩ := hd
    have ea : a = d := (congrArg (fun q => q.1.1) h2).symm
    exact Or.inr (Or.inr (Or.inr (Or.inl ⟨Or.inl rfl, e, he, ea.trans ee⟩)))
  · rw [if_neg (by decide), if_pos (by decide)] at h
    obtain ⟨⟨d, K9⟩, h1, h2⟩ := bnd_inr h
    unfold rr0 at h2
    have h2 := Sum.inr.inj h2
    obtain ⟨k, hk, h3⟩ := kRoom_k h1
    have hd : ∃ e, e < K.2.2.1.2.2.2.2.2.2.2.2.2.2.1 ∧ d = nI e := by
      unfold tkDr2 at h3
      split at h3
      · exact absurd h3 (by simp)
      unfold tkDr3 at h3
      split at h3
      · exact absurd h3 (by simp)
      unfold tkDr4 at h3
      split at h3
      · exact absurd h3 (by simp)
      · rename_i hn
        obtain ⟨e, he, ee⟩ := dro_k hn
        have h3 := Sum.inr.inj h3
        have := congrArg Prod.fst h3
        exact ⟨e, he, by rw [← ee]; exact this.symm⟩
    obtain ⟨e, he, ee⟩ := hd
    have ea : a = d := (congrArg (fun q => q.1.1) h2).symm
    exact Or.inr (Or.inr (Or.inr (Or.inl ⟨Or.inr rfl, e, he, ea.trans ee⟩)))
  · rw [if_neg (by decide), if_neg (by decide), if_pos (by decide)] at h
    obtain ⟨k, hk, h3⟩ := kRoom_k h
    unfold rrSw at h3
    obtain ⟨r9, h4, h5⟩ := bnd_inr h3
    unfold rrB at h5
    have h5 := Sum.inr.inj h5
    have ea : a = nI k := (congrArg (fun q => q.1.1) h5).symm
    exact Or.inr (Or.inr (Or.inr (Or.inr (Or.inl ⟨Or.inl rfl, k, hk, ea⟩))))
  · rw [if_neg (by decide), if_neg (by decide), if_pos (by decide)] at h
    obtain ⟨k, hk, h3⟩ := kRoom_k h
    unfold rrSw at h3
    obtain ⟨r9, h4, h5⟩ := bnd_inr h3
    unfold rrB at h5
    have h5 := Sum.inr.inj h5
    have ea : a = nI k := (congrArg (fun q => q.1.1) h5).symm
    exact Or.inr (Or.inr (Or.inr (Or.inr (Or.inl ⟨Or.inr (Or.inl rfl), k, hk, ea⟩))))
  · rw [if_neg (by decide), if_neg (by decide), if_neg (by decide), if_pos rfl] at h
    obtain ⟨k, hk, h3⟩ := kRoom_k h
    unfold rrWm at h3
    obtain ⟨r9, h4, h5⟩ := bnd_inr h3
    unfold rrB at h5
    have h5 := Sum.inr.inj h5
    have ea : a = nI k := (congrArg (fun q => q.1.1) h5).symm
    exact Or.inr (Or.inr (Or.inr (Or.inr (Or.inl ⟨Or.inr (Or.inr rfl), k, hk, ea⟩))))
  · exact Or.inr (Or.inr (Or.inr (Or.inr (Or.inr rfl))))
  · exact absurd rfl h18
theorem rrF_B {c a b : Int32} {K K2 : KT} (hc : c = 14 ∨ c = 15) (h : rrF c K = .inr ((a, b), K2)) : b = 0 ∨ b = 1 := by
  have h18 : ¬ c = 18 := by rcases hc with rfl | rfl <;> decide
  have h11 : ¬ c = 11 := by rcases hc with rfl | rfl <;> decide
  have h12 : ¬ (c = 12 ∨ c = 13) := by rcases hc with rfl | rfl <;> decide
  unfold rrF at h
  rw [if_neg h18, if_neg h11, if_neg h12, if_pos hc] at h
  obtain ⟨k, hk, h3⟩ := kRoom_k h
  unfold rrSw at h3
  obtain ⟨r9, h4, h5⟩ := bnd_inr h3
  unfold rrB at h5
  have h5 := Sum.inr.inj h5
  have eb : r9.1 = b := congrArg (fun q => q.1.2) h5
  unfold tkSw at h4
  split at h4
  · right
    have h6 := congrArg Prod.fst (Sum.inr.inj h4)
    rw [← eb]; exact h6.symm
  split at h4
  · left
    have h6 := congrArg Prod.fst (Sum.inr.inj h4)
    rw [← eb]; exact h6.symm
  · exact absurd h4 (by simp)
def suV2 (U : HT) (c a b : Int32) : Prop := sucV U c a b ∧ ((c = 14 ∨ c = 15) → (b = 0 ∨ b = 1))
theorem rrF_V {c a b : Int32} {K K2 : KT} (hc : CCV c) (h18 : ¬ c = 18) (h : rrF c K = .inr ((a, b), K2)) : suV2 K.2.2.1 c a b := ⟨rrF_V1 hc h18 h, fun x => rrF_B x h⟩
def CODE (K : KT) (M : MT) (k : Nat) : Prop := M.2.2.2.2.2.2.2.2.2.2.2.2.2.2.2.2.2.2.2.2.2.2.2.2.1 k = cdK (K.2.2.2.2.2.2.2.2.2.2.2.2.2.2.2.2.2.2.2.2.2.2.2.2.2.2.2.2.2.1 k) ∧ (K.2.2.2.2.2.2.2.2.2.2.2.2.2.2.2.2.2.2.2.2.2.2.2.2.2.2.2.2.2.1 k = 19 ∨ M.2.2.2.2.2.2.2.2.2.2.2.2.2.2.2.2.2.2.2.2.2.2.2.2.2.1 k = K.2.2.2.2.2.2.2.2.2.2.2.2.2.2.2.2.2.2.2.2.2.2.2.2.2.2.2.2.2.2.1 k) ∧ ((K.2.2.2.2.2.2.2.2.2.2.2.2.2.2.2.2.2.2.2.2.2.2.2.2.2.2.2.2.2.1 k = 14 ∨ K.2.2.2.2.2.2.2.2.2.2.2.2.2.2.2.2.2.2.2.2.2.2.2.2.2.2.2.2.2.1 k = 15 ∨ K.2.2.2.2.2.2.2.2.2.2.2.2.2.2.2.2.2.2.2.2.2.2.2.2.2.2.2.2.2.1 k = 16) → M.2.2.2.2.2.2.2.2.2.2.2.2.2.2.2.2.2.2.2.2.2.2.2.2.2.2.1 k = K.2.2.2.2.2.2.2.2.2.2.2.2.2.2.2.2.2.2.2.2.2.2.2.2.2.2.2.2.2.2.2.1 k)
def PVK (K : KT) (k : Nat) : Prop := (K.2.2.2.2.2.2.2.2.2.2.2.2.2.2.2.2.2.2.2.2.2.2.2.2.2.2.2.2.2.1 k = 18 ∧ ∃ r, 1 ≤ r ∧ r ≤ 20 ∧ K.2.2.2.2.2.2.2.2.2.2.2.2.2.2.2.2.2.2.2.2.2.2.2.2.2.2.2.2.2.2.1 k = nI r) ∨ (K.2.2.2.2.2.2.2.2.2.2.2.2.2.2.2.2.2.2.2.2.2.2.2.2.2.2.2.2.2.1 k = 19 ∧ ∃ b, b < k ∧ K.2.2.2.2.2.2.2.2.2.2.2.2.2.2.2.2.2.2.2.2.2.2.2.2.2.2.2.2.2.2.1 k = nI b) ∨ (CCV (K.2.2.2.2.2.2.2.2.2.2.2.2.2.2.2.2.2.2.2.2.2.2.2.2.2.2.2.2.2.1 k) ∧ ¬ K.2.2.2.2.2.2.2.2.2.2.2.2.2.2.2.2.2.2.2.2.2.2.2.2.2.2.2.2.2.1 k = 18 ∧ suV2 K.2.2.1 (K.2.2.2.2.2.2.2.2.2.2.2.2.2.2.2.2.2.2.2.2.2.2.2.2.2.2.2.2.2.1 k) (K.2.2.2.2.2.2.2.2.2.2.2.2.2.2.2.2.2.2.2.2.2.2.2.2.2.2.2.2.2.2.1 k) (K.2.2.2.2.2.2.2.2.2.2.2.2.2.2.2.2.2.2.2.2.2.2.2.2.2.2.2.2.2.2.2.1 k))
/-- the open repeats ahead of each step -/
def STK (kk ff : Nat → Int32) (st : Nat → List Nat) (n : Nat) : Prop := st 0 = [] ∧ ∀ k, k < n → (kk k = 18 → st (k + 1) = st k ++ [k]) ∧ (kk k = 19 → ∃ l b, b < k ∧ st k = l ++ [b] ∧ ff k = nI b ∧ st (k + 1) = l ∧ st (b + 1) = l ++ [b]) ∧ (¬ kk k = 18 → ¬ kk k = 19 → st (k + 1) = st k)
def OPN (K : KT) (n d : Nat) (st : Nat → List Nat) : Prop := (d = 0 ∧ st n = [] ∧ K.2.2.2.2.2.2.2.2.2.2.2.2.2.2.2.2.2.2.2.2.2.2.2.2.2.2.2.2.1 = -1) ∨ (d = 1 ∧ ∃ b, b < n ∧ st n = [b] ∧ K.2.2.2.2.2.2.2.2.2.2.2.2.2.2.2.2.2.2.2.2.2.2.2.2.2.2.2.2.1 = nI b ∧ K.2.2.2.2.2.2.2.2.2.2.2.2.2.2.2.2.2.2.2.2.2.2.2.2.2.2.2.2.2.2.2.1 b = -1 ∧ st (b + 1) = [b]) ∨ (d = 2 ∧ ∃ b e, b < n ∧ e < n ∧ st n = [b, e] ∧ K.2.2.2.2.2.2.2.2.2.2.2.2.2.2.2.2.2.2.2.2.2.2.2.2.2.2.2.2.1 = nI e ∧ K.2.2.2.2.2.2.2.2.2.2.2.2.2.2.2.2.2.2.2.2.2.2.2.2.2.2.2.2.2.2.2.1 e = nI b ∧ K.2.2.2.2.2.2.2.2.2.2.2.2.2.2.2.2.2.2.2.2.2.2.2.2.2.2.2.2.2.2.2.1 b = -1 ∧ st (b + 1) = [b] ∧ st (e + 1) = [b, e])
def PRG (K : KT) (M : MT) (n c d : Nat) : Prop := (K.2.2.2.2.2.2.2.2.2.2.2.2.2.2.2.2.2.2.2.2.2.2.2.2.2.1 = nI n ∧ M.2.2.2.2.2.2.2.2.2.2.2.2.2.2.2.2.2.2.2.2.2.2.2.2.2.2.2.2.2.1 = nI n) ∧ (K.2.2.2.2.2.2.2.2.2.2.2.2.2.2.2.2.2.2.2.2.2.2.2.2.2.2.1 = nI c ∧ M.2.2.2.2.2.2.2.2.2.2.2.2.2.2.2.2.2.2.2.2.2.2.2.2.2.2.2.2.2.2.1 = nI c) ∧ (K.2.2.2.2.2.2.2.2.2.2.2.2.2.2.2.2.2.2.2.2.2.2.2.2.2.2.2.1 = nI d ∧ M.2.2.2.2.2.2.2.2.2.2.2.2.2.2.2.2.2.2.2.2.2.2.2.2.2.2.2.2.2.2.2.1 = nI d) ∧ (c ≤ 30 ∧ n + d ≤ 2 * c) ∧ (∀ k, k < n → CODE K M k) ∧ (∀ k, k < n → PVK K k) ∧ ∃ st, (STK K.2.2.2.2.2.2.2.2.2.2.2.2.2.2.2.2.2.2.2.2.2.2.2.2.2.2.2.2.2.1 K.2.2.2.2.2.2.2.2.2.2.2.2.2.2.2.2.2.2.2.2.2.2.2.2.2.2.2.2.2.2.1 st n ∧ ∀ k, k ≤ n → (st k).length ≤ 2) ∧ OPN K n d st
def KF (K K2 : KT) : Prop := K2.2.2.2.2.2.2.2.2.2.2.2.2.2.2.2.2.2.2.2.2.2.2.2.2.2.2.2.2.2.1 = K.2.2.2.2.2.2.2.2.2.2.2.2.2.2.2.2.2.2.2.2.2.2.2.2.2.2.2.2.2.1 ∧ K2.2.2.2.2.2.2.2.2.2.2.2.2.2.2.2.2.2.2.2.2.2.2.2.2.2.2.2.2.2.2.1 = K.2.2.2.2.2.2.2.2.2.2.2.2.2.2.2.2.2.2.2.2.2.2.2.2.2.2.2.2.2.2.1 ∧ K2.2.2.2.2.2.2.2.2.2.2.2.2.2.2.2.2.2.2.2.2.2.2.2.2.2.2.2.2.2.2.2.1 = K.2.2.2.2.2.2.2.2.2.2.2.2.2.2.2.2.2.2.2.2.2.2.2.2.2.2.2.2.2.2.2.1 ∧ K2.2.2.2.2.2.2.2.2.2.2.2.2.2.2.2.2.2.2.2.2.2.2.2.2.2.1 = K.2.2.2.2.2.2.2.2.2.2.2.2.2.2.2.2.2.2.2.2.2.2.2.2.2.1 ∧ K2.2.2.2.2.2.2.2.2.2.2.2.2.2.2.2.2.2.2.2.2.2.2.2.2.2.2.1 = K.2.2.2.2.2.2.2.2.2.2.2.2.2.2.2.2.2.2.2.2.2.2.2.2.2.2.1 + 1 ∧ K2.2.2.2.2.2.2.2.2.2.2.2.2.2.2.2.2.2.2.2.2.2.2.2.2.2.2.2.1 = K.2.2.2.2.2.2.2.2.2.2.2.2.2.2.2.2.2.2.2.2.2.2.2.2.2.2.2.1 ∧ K2.2.2.2.2.2.2.2.2.2.2.2.2.2.2.2.2.2.2.2.2.2.2.2.2.2.2.2.2.1 = K.2.2.2.2.2.2.2.2.2.2.2.2.2.2.2.2.2.2.2.2.2.2.2.2.2.2.2.2.1 ∧ K2.2.2.1 = K.2.2.1
theorem KF_of {K K2 : KT} (h : TKE (adv (scC K)) K2) : KF K K2 := by
  unfold TKE at h
  rw [← h]
  exact ⟨rfl, rfl, rfl, rfl, rfl, rfl, rfl, rfl⟩
theorem PRG_d {K : KT} {M : MT} {n c d : Nat} (h : PRG K M n c d) : d ≤ 2 ∧ n ≤ 60 := by
  obtain ⟨-, -, -, ⟨h1, h2⟩, -, -, st, -, h3⟩ := h
  rcases h3 with ⟨rfl, -⟩ | ⟨rfl, -⟩ | ⟨rfl, -⟩ <;> omega
def stU (st : Nat → List Nat) (n : Nat) (l : List Nat) : Nat → List Nat := fun i => if i = n then l else st i
theorem stU_at (st : Nat → List Nat) (n : Nat) (l : List Nat) : stU st n l n = l := if_pos rfl
theorem stU_ne {st : Nat → List Nat} {n i : Nat} {l : List Nat} (h : i ≠ n) : stU st n l i = st i := if_neg h
theorem STK_ext {kk ff : Nat → Int32} {st : Nat → List Nat} {n : Nat} {x y : Int32} {l : List Nat} (h : STK kk ff st n) (h2 : (x = 18 → l = st n ++ [n]) ∧ (x = 19 → ∃ l2 b, b < n ∧ st n = l2 ++ [b] ∧ y = nI b ∧ l = l2 ∧ st (b + 1) = l2 ++ [b]) ∧ (¬ x = 18 → ¬ x = 19 → l = st n)) : STK (upd kk n x) (upd ff n y) (stU st (n + 1) l) (n + 1) := by
  obtain ⟨h0, hs⟩ := h
  refine ⟨(stU_ne (by omega)).trans h0, fun k hk => ?_⟩
  by_cases e : k = n
  · subst e
    have ek : upd kk k x k = x := if_pos rfl
    have ef : upd ff k y k = y := if_pos rfl
    rw [ek, ef, stU_at, stU_ne (by omega)]
    obtain ⟨a1, a2, a3⟩ := h2
    refine ⟨a1, fun hx => ?_, a3⟩
    obtain ⟨l2, b, b1, b2, b3, b4, b5⟩ := a2 hx
    exact ⟨l2, b, b1, b2, b3, b4, by rw [stU_ne (by omega)]; exact b5⟩
  · have ek : upd kk n x k = kk k := if_neg e
    have ef : upd ff n y k = ff k := if_neg e
    obtain ⟨a1, a2, a3⟩ := hs k (by omega)
    rw [ek, ef, stU_ne (by omega), stU_ne (by omega)]
    refine ⟨a1, fun hx => ?_, a3⟩
    obtain ⟨l2, b, b1, b2, b3, b4, b5⟩ := a2 hx
    exact ⟨l2, b, b1, b2, b3, b4, by rw [stU_ne (by omega)]; exact b5⟩
theorem LEN_ext {st : Nat → List Nat} {n : Nat} {l : List Nat} (h : ∀ k, k ≤ n → (st k).length ≤ 2) (h2 : l.length ≤ 2) : ∀ k, k ≤ n + 1 → (stU st (n + 1) l k).length ≤ 2 := by
  intro k hk
  by_cases e : k = n + 1
  · subst e; rw [stU_at]; exact h2
  · rw [stU_ne e]; exact h k (by omega)
theorem addK_f {K : KT} {c a b : Int32} {n : Nat} (hz : K.2.2.2.2.2.2.2.2.2.2.2.2.2.2.2.2.2.2.2.2.2.2.2.2.2.1 = nI n) (hn : n < 60) : (addK c a b K).2.2.2.2.2.2.2.2.2.2.2.2.2.2.2.2.2.2.2.2.2.2.2.2.2.2.2.2.2.1 = upd K.2.2.2.2.2.2.2.2.2.2.2.2.2.2.2.2.2.2.2.2.2.2.2.2.2.2.2.2.2.1 n c ∧ (addK c a b K).2.2.2.2.2.2.2.2.2.2.2.2.2.2.2.2.2.2.2.2.2.2.2.2.2.2.2.2.2.2.1 = upd K.2.2.2.2.2.2.2.2.2.2.2.2.2.2.2.2.2.2.2.2.2.2.2.2.2.2.2.2.2.2.1 n a ∧ (addK c a b K).2.2.2.2.2.2.2.2.2.2.2.2.2.2.2.2.2.2.2.2.2.2.2.2.2.2.2.2.2.2.2.1 = upd K.2.2.2.2.2.2.2.2.2.2.2.2.2.2.2.2.2.2.2.2.2.2.2.2.2.2.2.2.2.2.2.1 n b ∧ (addK c a b K).2.2.2.2.2.2.2.2.2.2.2.2.2.2.2.2.2.2.2.2.2.2.2.2.2.1 = nI (n + 1) := by
  unfold addK
  dsimp only
  rw [hz]
  refine ⟨rset_k hn (by decide), rset_k hn (by decide), rset_k hn (by decide), ?_⟩
  exact nI_add n 1
