/-! b1: what a read script is, and what reading leaves alone, on the class's side -/
def setAR (M : MT) (n : Nat) (cc a b : Int32) : MT := (M.1, M.2.1, M.2.2.1, M.2.2.2.1, M.2.2.2.2.1, M.2.2.2.2.2.1, M.2.2.2.2.2.2.1, M.2.2.2.2.2.2.2.1, M.2.2.2.2.2.2.2.2.1, M.2.2.2.2.2.2.2.2.2.1, M.2.2.2.2.2.2.2.2.2.2.1, M.2.2.2.2.2.2.2.2.2.2.2.1, M.2.2.2.2.2.2.2.2.2.2.2.2.1, M.2.2.2.2.2.2.2.2.2.2.2.2.2.1, M.2.2.2.2.2.2.2.2.2.2.2.2.2.2.1, M.2.2.2.2.2.2.2.2.2.2.2.2.2.2.2.1, M.2.2.2.2.2.2.2.2.2.2.2.2.2.2.2.2.1, M.2.2.2.2.2.2.2.2.2.2.2.2.2.2.2.2.2.1, M.2.2.2.2.2.2.2.2.2.2.2.2.2.2.2.2.2.2.1, M.2.2.2.2.2.2.2.2.2.2.2.2.2.2.2.2.2.2.2.1, M.2.2.2.2.2.2.2.2.2.2.2.2.2.2.2.2.2.2.2.2.1, M.2.2.2.2.2.2.2.2.2.2.2.2.2.2.2.2.2.2.2.2.2.1, M.2.2.2.2.2.2.2.2.2.2.2.2.2.2.2.2.2.2.2.2.2.2.1, M.2.2.2.2.2.2.2.2.2.2.2.2.2.2.2.2.2.2.2.2.2.2.2.1, upd M.2.2.2.2.2.2.2.2.2.2.2.2.2.2.2.2.2.2.2.2.2.2.2.2.1 n (cdK cc), upd M.2.2.2.2.2.2.2.2.2.2.2.2.2.2.2.2.2.2.2.2.2.2.2.2.2.1 n a, upd M.2.2.2.2.2.2.2.2.2.2.2.2.2.2.2.2.2.2.2.2.2.2.2.2.2.2.1 n b, M.2.2.2.2.2.2.2.2.2.2.2.2.2.2.2.2.2.2.2.2.2.2.2.2.2.2.2.1, M.2.2.2.2.2.2.2.2.2.2.2.2.2.2.2.2.2.2.2.2.2.2.2.2.2.2.2.2.1, nI (n + 1), M.2.2.2.2.2.2.2.2.2.2.2.2.2.2.2.2.2.2.2.2.2.2.2.2.2.2.2.2.2.2.1 + 1, (if cc = 18 then M.2.2.2.2.2.2.2.2.2.2.2.2.2.2.2.2.2.2.2.2.2.2.2.2.2.2.2.2.2.2.2.1 + 1 else M.2.2.2.2.2.2.2.2.2.2.2.2.2.2.2.2.2.2.2.2.2.2.2.2.2.2.2.2.2.2.2.1), M.2.2.2.2.2.2.2.2.2.2.2.2.2.2.2.2.2.2.2.2.2.2.2.2.2.2.2.2.2.2.2.2.1, M.2.2.2.2.2.2.2.2.2.2.2.2.2.2.2.2.2.2.2.2.2.2.2.2.2.2.2.2.2.2.2.2.2.1, M.2.2.2.2.2.2.2.2.2.2.2.2.2.2.2.2.2.2.2.2.2.2.2.2.2.2.2.2.2.2.2.2.2.2)
theorem setAR_ok (M : MT) (n : Nat) (cc a b : Int32) : AR2 M (setAR M n cc a b) n a b cc := ⟨rfl, rfl, rfl, rfl, rfl, fun _ hj => if_neg hj, fun _ => if_pos rfl⟩
theorem PRG_cl {K : KT} {M : MT} {n c d : Nat} (h : PRG K M n c (d + 1)) : ∃ M', PRG (clK (addK 19 K.2.2.2.2.2.2.2.2.2.2.2.2.2.2.2.2.2.2.2.2.2.2.2.2.2.2.2.2.1 0 K)) M' (n + 1) c d := by
  obtain ⟨g1, g2, g3, g4, g5, g6⟩ := setCl_f M (upd M.2.2.2.2.2.2.2.2.2.2.2.2.2.2.2.2.2.2.2.2.2.2.2.2.1 n 14) (nI (n + 1)) (nI d)
  exact ⟨setCl M (upd M.2.2.2.2.2.2.2.2.2.2.2.2.2.2.2.2.2.2.2.2.2.2.2.2.1 n 14) (nI (n + 1)) (nI d), PRG_end h g1 g2 g4 g3 g5 g6⟩
theorem enR2_inr {K K2 : KT} (h : enR2 K = .inr K2) : K2 = adv K := by
  unfold enR2 at h
  split at h
  · exact absurd h (by simp)
  · exact (Sum.inr.inj h).symm
theorem addK_h (c a b : Int32) (K : KT) : (addK c a b K).2.2.1 = K.2.2.1 ∧ (clK K).2.2.1 = K.2.2.1 ∧ (opK K).2.2.1 = K.2.2.1 ∧ (adv K).2.2.1 = K.2.2.1 := ⟨rfl, rfl, rfl, rfl⟩
theorem PRG_enR {K K2 : KT} {M : MT} {n c d : Nat} (h : PRG K M n c d) (hd : ¬ K.2.2.2.2.2.2.2.2.2.2.2.2.2.2.2.2.2.2.2.2.2.2.2.2.2.2.2.1 ≤ 0) (e : enR K = .inr K2) : (∃ M' n' c' d', PRG K2 M' n' c' d') ∧ K2.2.2.1 = K.2.2.1 := by
  have hd2 := PRG_d h
  have v1 := h.2.2.1.1
  obtain ⟨d1, rfl⟩ : ∃ d1, d = d1 + 1 := by
    refine ⟨d - 1, ?_⟩
    have : ¬ d = 0 := fun y => hd (by rw [v1, y]; decide)
    omega
  obtain ⟨M', h'⟩ := PRG_cl h
  unfold enR at e
  have e2 := enR2_inr e
  have e3 := (addK_h 19 K.2.2.2.2.2.2.2.2.2.2.2.2.2.2.2.2.2.2.2.2.2.2.2.2.2.2.2.2.1 0 K).1
  generalize addK 19 K.2.2.2.2.2.2.2.2.2.2.2.2.2.2.2.2.2.2.2.2.2.2.2.2.2.2.2.2.1 0 K = A at *
  have e4 := (addK_h 0 0 0 A).2.1
  generalize clK A = B at *
  have e5 := (addK_h 0 0 0 B).2.2.2
  have h2 := PRG_K h' (TKE_adv B)
  generalize adv B = C at *
  have e6 := (addK_h 0 0 0 C).2.2.2
  have h3 := PRG_K h2 (TKE_adv C)
  rw [← e2] at h3 e6
  exact ⟨⟨_, _, _, _, h3⟩, e6.trans (e5.trans (e4.trans e3))⟩
theorem PRG_rcC {K K2 : KT} {M : MT} {n c d : Nat} (h : PRG K M n c d) (e : rcC K = .inr K2) : (∃ M' n' c' d', PRG K2 M' n' c' d') ∧ K2.2.2.1 = K.2.2.1 := by
  rw [rcC_eq] at e
  obtain ⟨⟨cc, ⟨a, b⟩, K8⟩, h1, h2⟩ := bnd_inr e
  obtain ⟨hk, hcc, h30, h18, hv⟩ := cmX_ok h1
  have w1 := h.2.1.1
  have v1 := h.2.2.1.1
  have hcd := h.2.2.2.1
  have hd2 := PRG_d h
  have hc30 : c < 30 := by rw [w1] at h30; exact (nI_ltI (b := 30) (by omega) (by decide)).mp h30
  have k8 : K8.2.2.1 = K.2.2.1 := hk.2.2.2.2.2.2.2
  have hA := setAR_ok M n cc a b
  by_cases c18 : cc = 18
  · subst c18
    obtain ⟨hd, hb, r, hrr, ea⟩ := h18 rfl
    have hd1 : d < 2 := by rw [v1] at hd; exact (nI_ltI (b := 2) (by omega) (by decide)).mp hd
    have P9 := PRG_rep h hk hc30 hd1 hrr ea hb hA
    have hcg : cmG (18, (a, b), K8) = .inr (opK (addK 18 a b K8)) := if_pos rfl
    rw [hcg] at h2
    have h2 := Sum.inr.inj h2
    have e3 := (addK_h 18 a b K8).1
    generalize addK 18 a b K8 = A at *
    have e4 := (addK_h 0 0 0 A).2.2.1
    rw [h2] at P9 e4
    exact ⟨⟨_, _, _, _, P9⟩, e4.trans (e3.trans k8)⟩
  · have P9 := PRG_cmd h hk hc30 hcc c18 (hv c18) hA
    have hcg : cmG (cc, (a, b), K8) = enR2 (addK cc a b K8) := if_neg c18
    rw [hcg] at h2
    have e2 := enR2_inr h2
    have e3 := (addK_h cc a b K8).1
    generalize addK cc a b K8 = A at *
    have e4 := (addK_h 0 0 0 A).2.2.2
    have P10 := PRG_K P9 (TKE_adv A)
    rw [← e2] at P10 e4
    exact ⟨⟨_, _, _, _, P10⟩, e4.trans (e3.trans k8)⟩
theorem PRG_psL : ∀ (f : Nat) (K K2 : KT) (M : MT) (n c d : Nat), PRG K M n c d → psL f K = .inr K2 → (∃ M' n' c' d', PRG K2 M' n' c' d') ∧ K2.2.2.1 = K.2.2.1 := by
  intro f
  induction f with
  | zero =>
    intro K K2 M n c d h e
    have e : (Sum.inr K : KT ⊕ KT) = .inr K2 := e
    have e := Sum.inr.inj e
    subst e
    exact ⟨⟨M, n, c, d, h⟩, rfl⟩
  | succ f ih =>
    intro K K2 M n c d h e
    rw [psL] at e
    by_cases c0 : K.2.2.2.2.2.2.2.2.2.2.2.2.2.2.1 = 0
    · rw [if_pos c0] at e
      have e := Sum.inr.inj e
      subst e
      exact ⟨⟨M, n, c, d, h⟩, rfl⟩
    rw [if_neg c0] at e
    by_cases c1 : (¬ K.2.2.2.2.2.2.2.2.2.2.2.2.2.2.2.2.2.2.2.2.2.2.2.2.2.2.2.1 ≤ 0 ∧ K.2.2.2.2.2.2.2.2.2.2.2.2.2.2.1 = 41)
    · rw [if_pos c1] at e
      obtain ⟨x, h1, h2⟩ := bnd_inr e
      obtain ⟨⟨M', n', c', d', h3⟩, h4⟩ := PRG_enR h c1.1 h1
      obtain ⟨h5, h6⟩ := ih x K2 M' n' c' d' h3 h2
      exact ⟨h5, h6.trans h4⟩
    · rw [if_neg c1] at e
      obtain ⟨x, h1, h2⟩ := bnd_inr e
      obtain ⟨⟨M', n', c', d', h3⟩, h4⟩ := PRG_rcC h h1
      obtain ⟨h5, h6⟩ := ih x K2 M' n' c' d' h3 h2
      exact ⟨h5, h6.trans h4⟩
theorem PRG_0x {K : KT} (e1 : K.2.2.2.2.2.2.2.2.2.2.2.2.2.2.2.2.2.2.2.2.2.2.2.2.2.1 = 0) (e3 : K.2.2.2.2.2.2.2.2.2.2.2.2.2.2.2.2.2.2.2.2.2.2.2.2.2.2.1 = 0) (e5 : K.2.2.2.2.2.2.2.2.2.2.2.2.2.2.2.2.2.2.2.2.2.2.2.2.2.2.2.1 = 0) (e7 : K.2.2.2.2.2.2.2.2.2.2.2.2.2.2.2.2.2.2.2.2.2.2.2.2.2.2.2.2.1 = -1) : ∃ M : MT, PRG K M 0 0 0 := by
  have M0 : MT := by repeat' first | exact (0 : Int32) | exact (0 : Int64) | exact (fun _ : Nat => (0 : Int32)) | constructor
  exact ⟨setZ M0, PRG_0 e1 rfl e3 rfl e5 rfl e7⟩
/-- a read script: its steps and their kinds -/
theorem psS_ok {K K2 : KT} (e : psS K = .inr K2) : (∃ n, n ≤ 60 ∧ K2.2.2.2.2.2.2.2.2.2.2.2.2.2.2.2.2.2.2.2.2.2.2.2.2.2.1 = nI n ∧ PVAL K2 n) ∧ K2.2.2.1 = K.2.2.1 := by
  unfold psS at e
  obtain ⟨x, h1, h2⟩ := bnd_inr e
  obtain ⟨y1, y2, y3, y4, y5⟩ := begT_z K
  obtain ⟨M, hP⟩ := PRG_0x y2 y3 y4 y5
  obtain ⟨⟨M', n, c, d, hP2⟩, hh⟩ := PRG_psL 600 _ _ _ _ _ _ hP h1
  unfold psE at h2
  split at h2
  · exact absurd h2 (by simp)
  have h2 := Sum.inr.inj h2
  subst h2
  refine ⟨⟨n, (PRG_d hP2).2, hP2.1.1, fun k hk => ?_⟩, hh.trans y1⟩
  rcases hP2.2.2.2.2.2.1 k hk with ⟨a, -⟩ | ⟨a, b⟩ | ⟨a, b, c9⟩
  · exact Or.inl a
  · exact Or.inr (Or.inl ⟨a, b⟩)
  · exact Or.inr (Or.inr ⟨b, CCV_19 a, c9.1⟩)
