/-! b2: what reading a text, a script leaves alone -/
def fr (K : KT) : Int32 × Int32 × HT × (Nat → Int32) × Int32 × HT × Int32 × Int32 × (Nat → HT) × (Nat → Int32) × (Nat → Int32) × (Nat → Int32) := (K.1, K.2.1, K.2.2.1, K.2.2.2.2.2.2.2.2.2.2.1, K.2.2.2.2.2.2.2.2.2.1, K.2.2.2.2.2.2.2.2.2.2.2.2.2.2.2.2.2.2.2.1, K.2.2.2.2.2.2.2.2.2.2.2.2.2.2.2.2.2.2.2.2.1, K.2.2.2.2.2.2.2.2.2.2.2.2.2.2.2.2.2.2.2.2.2.1, K.2.2.2.2.2.2.2.2.2.2.2.2.2.2.2.2.2.2.2.2.2.2.1, K.2.2.2.2.2.2.2.2.2.2.2.2.2.2.2.2.2.2.2.2.2.2.2.1, K.2.2.2.2.2.2.2.2.2.2.2.2.2.2.2.2.2.2.2.2.2.2.2.2.1, K.2.2.2.2.2.2.2.2.2.2.2.2.2.2.2.2.2.2.2.2.2.2.2.2.2.2.2.2.2.2.2.2.2)
def eK (r : KT ⊕ KT) : KT := match r with
  | .inl K => K
  | .inr K => K
def DKS (K0 K : KT) : Prop := (HOK K.2.2.2.1 ∧ ZH K.2.2.2.1) ∧ fr K = fr K0
theorem DKS_adv {K0 K : KT} (h : DKS K0 K) : DKS K0 (adv K) := h
theorem DKS_err {K0 K : KT} {c : Int32} (h : DKS K0 K) : DKS K0 (errT K c) := h
theorem DKS_dr {K0 K : KT} {U : HT} (h : DKS K0 K) (u : HOK U ∧ ZH U) : DKS K0 (drT K U) := ⟨u, h.2⟩
theorem DKS_num {K0 K : KT} {a b : Int32} {f : Int32 → KT → KT ⊕ KT} (h : DKS K0 K) (hf : ∀ v, DKS K0 (eK (f v (adv K)))) : DKS K0 (eK (kNum a b K f)) := by
  unfold kNum
  split
  · exact DKS_err h
  split
  · exact DKS_err h
  · exact hf _
theorem DKS_room {K0 K : KT} {U : HT} {f : Int32 → KT → KT ⊕ KT} (h : DKS K0 K) (hf : ∀ v, DKS K0 (eK (f v (adv K)))) : DKS K0 (eK (kRoom U K f)) := by
  unfold kRoom
  split
  · exact DKS_err h
  split
  · exact DKS_err h
  · exact hf _
theorem DKS_fl {K0 K : KT} {k : Nat} {f : HT → HT} (h : DKS K0 K) (hf : ∀ U, HOK U ∧ ZH U → HOK (f U) ∧ ZH (f U)) : DKS K0 (flT k f K) := by
  unfold flT
  split
  · exact DKS_dr (DKS_adv h) (hf _ h.1)
  · exact h
theorem HZ_apR {U : HT} {x : Int64} {c b : Int32} (h : HOK U ∧ ZH U) (hr : U.2.2.2.2.2.2.2.2.2.1 < 12) : HOK (apR U x c b) ∧ ZH (apR U x c b) := by
  obtain ⟨⟨h1, h2⟩, z1, z2, z3⟩ := h
  refine ⟨⟨?_, h2⟩, fun i hi => ?_, z2, z3⟩
  · show U.2.2.2.2.2.2.2.2.2.1 + 1 ≤ 12
    omega
  · obtain ⟨a1, a2, a3, a4, a5⟩ := z1 i hi
    have u : ∀ (f : Nat → Int32) (v : Int32), upd f U.2.2.2.2.2.2.2.2.2.1 v i = f i := fun f v => if_neg (by omega)
    refine ⟨?_, (u _ _).trans a2, (u _ _).trans a3, (u _ _).trans a4, (u _ _).trans a5⟩
    show vp_updL U.1 U.2.2.2.2.2.2.2.2.2.1 x i = 0
    unfold vp_updL
    rw [if_neg (by omega)]
    exact a1
theorem HZ_apD {U : HT} {a b c : Int32} (h : HOK U ∧ ZH U) (hr : U.2.2.2.2.2.2.2.2.2.2.1 < 24) : HOK (apD U a b c) ∧ ZH (apD U a b c) := by
  obtain ⟨⟨h1, h2⟩, z1, z2, z3⟩ := h
  refine ⟨⟨h1, ?_⟩, z1, fun i hi => ?_, z3⟩
  · show U.2.2.2.2.2.2.2.2.2.2.1 + 1 ≤ 24
    omega
  · obtain ⟨a1, a2, a3⟩ := z2 i hi
    have u : ∀ (f : Nat → Int32) (v : Int32), upd f U.2.2.2.2.2.2.2.2.2.2.1 v i = f i := fun f v => if_neg (by omega)
    exact ⟨(u _ _).trans a1, (u _ _).trans a2, (u _ _).trans a3⟩
theorem HZ_pas {U : HT} (h : HOK U ∧ ZH U) (h0 : ¬ U.2.2.2.2.2.2.2.2.2.1 = 0) : HOK (pasT U) ∧ ZH (pasT U) := by
  refine ⟨⟨h.1.1, h.1.2⟩, ?_⟩
  have := ZH_pas h.1 h.2
  unfold pasG at this
  rw [if_neg h0] at this
  exact this
theorem HZ_se {U : HT} {x v : Int32} (h : HOK U ∧ ZH U) : HOK (seU x v U) ∧ ZH (seU x v U) := by
  obtain ⟨⟨h1, h2⟩, z1, z2, z3⟩ := h
  refine ⟨⟨h1, h2⟩, z1, z2, fun i hi => ?_⟩
  show rset 6 U.2.2.2.2.2.2.2.2.1 x v i = 0
  cases hb : inR 6 x with
  | true =>
    obtain ⟨k, hk, rfl⟩ := inR_t hb (by decide)
    rw [rset_k hk (by decide)]
    exact (if_neg (by omega)).trans (z3 i hi)
  | false =>
    unfold inR at hb
    unfold rset
    by_cases c1 : x < 0
    · rw [if_pos c1]; exact z3 i hi
    · rw [if_neg c1] at hb ⊢
      by_cases c2 : nI 6 ≤ x
      · rw [if_pos c2]; exact z3 i hi
      · rw [if_pos (Int32.not_le.mp c2)] at hb; cases hb
theorem HZ_clr {U : HT} (h : ZH U) : HOK (clrT U) ∧ ZH (clrT U) := by
  obtain ⟨z1, z2, z3⟩ := h
  refine ⟨⟨Nat.zero_le _, Nat.zero_le _⟩, z1, z2, fun i hi => ?_⟩
  have e : (clrT U).2.2.2.2.2.2.2.2.1 = fa_fill (fun d => stG 2 (nI d)) U.2.2.2.2.2.2.2.2.1 6 := rfl
  rw [e]
  exact (fa_fill_out hi).trans (z3 i hi)
theorem DKS_rdRoom {K0 K : KT} (h : DKS K0 K) : DKS K0 (eK (rdRoom K)) := by
  unfold rdRoom
  split
  · exact DKS_err h
  rename_i c
  have hr : K.2.2.2.1.2.2.2.2.2.2.2.2.2.1 < 12 := Nat.not_le.mp fun x => c ((nI_leI (a := 12) (by decide) (by have := h.1.1.1; omega)).mpr x)
  have h := DKS_adv h
  have hr : (adv K).2.2.2.1.2.2.2.2.2.2.2.2.2.1 < 12 := hr
  generalize adv K = K1 at *
  unfold rdRoom1
  split
  · exact DKS_err h
  split
  · exact DKS_err h
  have h := DKS_adv h
  have hr : (adv K1).2.2.2.1.2.2.2.2.2.2.2.2.2.1 < 12 := hr
  generalize K1.2.2.2.2.2.2.2.2.2.2.2.2.2.2.2.1 = x
  generalize adv K1 = K2 at *
  unfold rdRoom2
  refine DKS_num h fun v => ?_
  have h := DKS_adv h
  have hr : (adv K2).2.2.2.1.2.2.2.2.2.2.2.2.2.1 < 12 := hr
  generalize adv K2 = K3 at *
  unfold rdRoom3
  have h2 := DKS_dr h (HZ_apR (x := x) (c := v) (b := 1) h.1 hr)
  exact DKS_fl (DKS_fl h2 fun U u => u) fun U u => u
theorem DKS_rdDoor {K0 K : KT} (h : DKS K0 K) : DKS K0 (eK (rdDoor K)) := by
  unfold rdDoor
  split
  · exact DKS_err h
  rename_i c
  have hr : K.2.2.2.1.2.2.2.2.2.2.2.2.2.2.1 < 24 := Nat.not_le.mp fun x => c ((nI_leI (a := 24) (by decide) (by have := h.1.1.2; omega)).mpr x)
  have h := DKS_adv h
  have hr : (adv K).2.2.2.1.2.2.2.2.2.2.2.2.2.2.1 < 24 := hr
  generalize adv K = K1 at *
  unfold rdDoor1
  refine DKS_room h fun r => ?_
  have h := DKS_adv h
  have hr : (adv K1).2.2.2.1.2.2.2.2.2.2.2.2.2.2.1 < 24 := hr
  generalize adv K1 = K2 at *
  unfold rdDoor2
  split
  · exact DKS_err h
  generalize fnd K2.2.2.2.1 K2.2.2.2.2.2.2.2.2.2.2.2.2.2.2.2.1 = q
  unfold rdDoor3
  split
  · exact DKS_err h
  split
  · exact DKS_err h
  split
  · exact DKS_err h
  have h := DKS_adv h
  have hr : (adv K2).2.2.2.1.2.2.2.2.2.2.2.2.2.2.1 < 24 := hr
  generalize adv K2 = K3 at *
  unfold rdDoor4
  refine DKS_num h fun v => ?_
  have h := DKS_adv h
  have hr : (adv K3).2.2.2.1.2.2.2.2.2.2.2.2.2.2.1 < 24 := hr
  generalize adv K3 = K4 at *
  unfold rdDoor5
  have h2 := DKS_dr h (HZ_apD (a := r) (b := q) (c := v) h.1 hr)
  exact DKS_fl h2 fun U u => u
theorem DKS_rdGhost {K0 K : KT} (h : DKS K0 K) : DKS K0 (eK (rdGhost K)) := by
  unfold rdGhost
  have h := DKS_adv h
  generalize adv K = K1 at *
  unfold rdGhost1
  split
  · exact DKS_err h
  unfold rdGhost2
  split
  · exact DKS_err h
  split
  · exact DKS_err h
  · exact DKS_dr (DKS_adv h) h.1
theorem DKS_pasK {K0 K : KT} (h : DKS K0 K) (h0 : ¬ K.2.2.2.1.2.2.2.2.2.2.2.2.2.1 = 0) (k : Nat) : DKS K0 (pasK K k) := by
  induction k with
  | zero => exact h
  | succ k ih =>
    have hr := pasK_rc (T := K) k
    rw [pasK]
    generalize pasK K k = X at *
    exact ⟨HZ_pas ih.1 (by rw [hr]; exact h0), ih.2⟩
theorem DKS_rdNights {K0 K : KT} (h : DKS K0 K) : DKS K0 (eK (rdNights K)) := by
  unfold rdNights
  split
  · exact DKS_err h
  rename_i c
  have h0 : ¬ K.2.2.2.1.2.2.2.2.2.2.2.2.2.1 = 0 := fun x => c (by rw [x]; rfl)
  have h := DKS_adv h
  have h0 : ¬ (adv K).2.2.2.1.2.2.2.2.2.2.2.2.2.1 = 0 := h0
  generalize adv K = K1 at *
  unfold rdNights1
  refine DKS_num h fun v => ?_
  have h := DKS_adv h
  have h0 : ¬ (adv K1).2.2.2.1.2.2.2.2.2.2.2.2.2.1 = 0 := h0
  generalize adv K1 = K2 at *
  unfold rdNights2
  exact DKS_pasK h h0 _
theorem DKS_rdSet {K0 K : KT} (h : DKS K0 K) : DKS K0 (eK (rdSet K)) := by
  unfold rdSet
  split
  · exact DKS_err h
  have h := DKS_adv h
  generalize setN K = x
  generalize adv K = K1 at *
  unfold rdSet1
  refine DKS_num h fun v => ?_
  have h := DKS_adv h
  generalize adv K1 = K2 at *
  unfold rdSet2
  exact DKS_dr h (HZ_se h.1)
theorem DKS_rdStmt {K0 K : KT} (h : DKS K0 K) : DKS K0 (eK (rdStmt K)) := by
  unfold rdStmt
  split
  · exact DKS_rdRoom h
  split
  · exact DKS_rdDoor h
  split
  · exact DKS_rdGhost h
  split
  · exact DKS_rdNights h
  · exact DKS_rdSet h
theorem DKS_rdLoop {K0 : KT} : ∀ (f : Nat) (K : KT), DKS K0 K → DKS K0 (eK (rdLoop f K)) := by
  intro f
  induction f with
  | zero => intro K h; exact h
  | succ f ih =>
    intro K h
    rw [rdLoop]
    split
    · exact h
    have h2 := DKS_rdStmt h
    cases hs : rdStmt K with
    | inl K9 => rw [hs] at h2; exact h2
    | inr K9 =>
      rw [hs] at h2
      have h2 : DKS K0 K9 := h2
      dsimp only
      split
      · exact DKS_err h2
      · exact ih _ (DKS_adv h2)
theorem DKS_text {K0 K : KT} (h : DKS K0 K) : DKS K0 (eK (rdText0 K)) := by
  unfold rdText0
  split
  · have h := DKS_adv h
    generalize adv K = K1 at *
    unfold rdText1
    split
    · exact DKS_err h
    · exact DKS_rdLoop 600 _ (DKS_adv h)
  · exact DKS_err h
theorem fr_beg (T : KT) (U : HT) : fr (begT (drT T U)) = (T.1, T.2.1, T.2.2.1, T.2.2.2.2.2.2.2.2.2.2.1, 0, T.2.2.2.2.2.2.2.2.2.2.2.2.2.2.2.2.2.2.2.1, T.2.2.2.2.2.2.2.2.2.2.2.2.2.2.2.2.2.2.2.2.1, T.2.2.2.2.2.2.2.2.2.2.2.2.2.2.2.2.2.2.2.2.2.1, T.2.2.2.2.2.2.2.2.2.2.2.2.2.2.2.2.2.2.2.2.2.2.1, T.2.2.2.2.2.2.2.2.2.2.2.2.2.2.2.2.2.2.2.2.2.2.2.1, T.2.2.2.2.2.2.2.2.2.2.2.2.2.2.2.2.2.2.2.2.2.2.2.2.1, T.2.2.2.2.2.2.2.2.2.2.2.2.2.2.2.2.2.2.2.2.2.2.2.2.2.2.2.2.2.2.2.2.2) := rfl
theorem rdText_fr {T : KT} (h : ZH T.2.2.2.1) : (HOK (eK (rdText T)).2.2.2.1 ∧ ZH (eK (rdText T)).2.2.2.1) ∧ fr (eK (rdText T)) = (T.1, T.2.1, T.2.2.1, T.2.2.2.2.2.2.2.2.2.2.1, 0, T.2.2.2.2.2.2.2.2.2.2.2.2.2.2.2.2.2.2.2.1, T.2.2.2.2.2.2.2.2.2.2.2.2.2.2.2.2.2.2.2.2.1, T.2.2.2.2.2.2.2.2.2.2.2.2.2.2.2.2.2.2.2.2.2.1, T.2.2.2.2.2.2.2.2.2.2.2.2.2.2.2.2.2.2.2.2.2.2.1, T.2.2.2.2.2.2.2.2.2.2.2.2.2.2.2.2.2.2.2.2.2.2.2.1, T.2.2.2.2.2.2.2.2.2.2.2.2.2.2.2.2.2.2.2.2.2.2.2.2.1, T.2.2.2.2.2.2.2.2.2.2.2.2.2.2.2.2.2.2.2.2.2.2.2.2.2.2.2.2.2.2.2.2.2) := by
  have e := fr_beg T (clrT T.2.2.2.1)
  have h2 : HOK (begT (drT T (clrT T.2.2.2.1))).2.2.2.1 ∧ ZH (begT (drT T (clrT T.2.2.2.1))).2.2.2.1 := by
    rw [begT_dr]
    exact HZ_clr h
  unfold rdText
  generalize begT (drT T (clrT T.2.2.2.1)) = K at *
  have h3 := DKS_text (K0 := K) (K := K) ⟨h2, rfl⟩
  exact ⟨h3.1, h3.2.trans e⟩
-- scripts
def FRK (A B : KT) : Prop := fr B = fr A ∧ B.2.2.2.1 = A.2.2.2.1
theorem FRK_rfl (A : KT) : FRK A A := ⟨rfl, rfl⟩
theorem FRK_trans {A B C : KT} (h1 : FRK A B) (h2 : FRK B C) : FRK A C := ⟨h2.1.trans h1.1, h2.2.trans h1.2⟩
theorem FRK_TKE {A B : KT} (h : TKE A B) : FRK A B := by
  unfold TKE at h
  rw [← h]
  exact ⟨rfl, rfl⟩
theorem FRK_adv (K : KT) : FRK K (adv K) := ⟨rfl, rfl⟩
theorem FRK_err (K : KT) (c : Int32) : FRK K (errT K c) := ⟨rfl, rfl⟩
theorem FRK_add (K : KT) (c a b : Int32) : FRK K (addK c a b K) := ⟨rfl, rfl⟩
theorem FRK_cl (K : KT) : FRK K (clK K) := ⟨rfl, rfl⟩
theorem FRK_op (K : KT) : FRK K (opK K) := ⟨rfl, rfl⟩
theorem FRK_sc (K : KT) : FRK K (scC K) := ⟨rfl, rfl⟩
theorem FRK_enR2 (K : KT) : FRK K (eK (enR2 K)) := by
  unfold enR2
  split
  · exact FRK_err K 1
  · exact FRK_adv K
theorem FRK_enR (K : KT) : FRK K (eK (enR K)) := by
  unfold enR
  exact FRK_trans (FRK_trans (FRK_add K 19 K.2.2.2.2.2.2.2.2.2.2.2.2.2.2.2.2.2.2.2.2.2.2.2.2.2.2.2.2.1 0) (FRK_trans (FRK_cl _) (FRK_adv _))) (FRK_enR2 _)
def eX (r : KT ⊕ (Int32 × (Int32 × Int32) × KT)) : KT := match r with
  | .inl K => K
  | .inr x => x.2.2
theorem FRK_cmX (K : KT) : FRK K (eX (cmX K)) := by
  unfold cmX tcW
  split
  · exact FRK_err K 1
  unfold tcW2
  split
  · exact FRK_err K 3
  split
  · exact FRK_err K 5
  have ht := TKR_rrF (cmK K) (adv (scC K))
  have h1 := FRK_trans (FRK_sc K) (FRK_adv (scC K))
  show FRK K (eX (bnd (rrF (cmK K) (adv (scC K))) fun q => .inr (cmK K, q.1, q.2)))
  generalize adv (scC K) = K1 at *
  cases hr : rrF (cmK K) K1 with
  | inl K2 => rw [hr] at ht; exact FRK_trans h1 (FRK_TKE ht)
  | inr x => rw [hr] at ht; exact FRK_trans h1 (FRK_TKE ht)
theorem FRK_cmG (q : Int32 × (Int32 × Int32) × KT) : FRK q.2.2 (eK (cmG q)) := by
  unfold cmG
  split
  · exact FRK_trans (FRK_add _ 18 _ _) (FRK_op _)
  · exact FRK_trans (FRK_add _ _ _ _) (FRK_enR2 _)
theorem FRK_rcC (K : KT) : FRK K (eK (rcC K)) := by
  rw [rcC_eq]
  have h := FRK_cmX K
  cases hr : cmX K with
  | inl K2 => rw [hr] at h; exact h
  | inr q => rw [hr] at h; exact FRK_trans h (FRK_cmG q)
theorem FRK_psL : ∀ (f : Nat) (K : KT), FRK K (eK (psL f K)) := by
  intro f
  induction f with
  | zero => intro K; exact FRK_rfl K
  | succ f ih =>
    intro K
    rw [psL]
    split
    · exact FRK_rfl K
    split
    · have h := FRK_enR K
      cases hr : enR K with
      | inl K2 => rw [hr] at h; exact h
      | inr K2 => rw [hr] at h; exact FRK_trans h (ih K2)
    · have h := FRK_rcC K
      cases hr : rcC K with
      | inl K2 => rw [hr] at h; exact h
      | inr K2 => rw [hr] at h; exact FRK_trans h (ih K2)
theorem fr_begZ (T : KT) : fr (begT (psZ T)) = (T.1, T.2.1, T.2.2.1, T.2.2.2.2.2.2.2.2.2.2.1, 0, T.2.2.2.2.2.2.2.2.2.2.2.2.2.2.2.2.2.2.2.1, T.2.2.2.2.2.2.2.2.2.2.2.2.2.2.2.2.2.2.2.2.1, T.2.2.2.2.2.2.2.2.2.2.2.2.2.2.2.2.2.2.2.2.2.1, T.2.2.2.2.2.2.2.2.2.2.2.2.2.2.2.2.2.2.2.2.2.2.1, T.2.2.2.2.2.2.2.2.2.2.2.2.2.2.2.2.2.2.2.2.2.2.2.1, T.2.2.2.2.2.2.2.2.2.2.2.2.2.2.2.2.2.2.2.2.2.2.2.2.1, T.2.2.2.2.2.2.2.2.2.2.2.2.2.2.2.2.2.2.2.2.2.2.2.2.2.2.2.2.2.2.2.2.2) ∧ (begT (psZ T)).2.2.2.1 = T.2.2.2.1 := ⟨rfl, rfl⟩
theorem psS_fr (T : KT) : fr (eK (psS T)) = (T.1, T.2.1, T.2.2.1, T.2.2.2.2.2.2.2.2.2.2.1, 0, T.2.2.2.2.2.2.2.2.2.2.2.2.2.2.2.2.2.2.2.1, T.2.2.2.2.2.2.2.2.2.2.2.2.2.2.2.2.2.2.2.2.1, T.2.2.2.2.2.2.2.2.2.2.2.2.2.2.2.2.2.2.2.2.2.1, T.2.2.2.2.2.2.2.2.2.2.2.2.2.2.2.2.2.2.2.2.2.2.1, T.2.2.2.2.2.2.2.2.2.2.2.2.2.2.2.2.2.2.2.2.2.2.2.1, T.2.2.2.2.2.2.2.2.2.2.2.2.2.2.2.2.2.2.2.2.2.2.2.2.1, T.2.2.2.2.2.2.2.2.2.2.2.2.2.2.2.2.2.2.2.2.2.2.2.2.2.2.2.2.2.2.2.2.2) ∧ (eK (psS T)).2.2.2.1 = T.2.2.2.1 := by
  obtain ⟨e1, e2⟩ := fr_begZ T
  unfold psS
  generalize begT (psZ T) = K at *
  have h := FRK_psL 600 K
  cases hr : psL 600 K with
  | inl K2 =>
    rw [hr] at h
    exact ⟨h.1.trans e1, h.2.trans e2⟩
  | inr K2 =>
    rw [hr] at h
    show fr (eK (psE K2)) = _ ∧ (eK (psE K2)).2.2.2.1 = _
    unfold psE
    split
    · exact ⟨h.1.trans e1, h.2.trans e2⟩
    · exact ⟨h.1.trans e1, h.2.trans e2⟩
