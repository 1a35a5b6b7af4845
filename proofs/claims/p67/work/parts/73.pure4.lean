/-! 73: what a night leaves possible, and why not (pure) -/
def DX (dc : Nat) (x : Int32) : Prop := x = -1 ∨ ∃ d, d < dc ∧ x = nI d
theorem bt_cbx {dc : Nat} {x : Int32} (hx : DX dc x) (hdc : dc ≤ 24) {j : Nat} (hj : j < 32) : bt (cbit x) j = decide (x = nI j) := by
  rcases hx with rfl | ⟨d, hd, rfl⟩
  · rw [cbit_m1, b_0]
    exact (decide_eq_false (fun e => nI_m1 (by omega) e.symm)).symm
  · rw [bt_cbit (by omega)]
    exact decide_eq_decide.mpr (nI_eq (by omega) (by omega)).symm
section PU4
variable {T : HT} {W rp bf : Nat → Int32} {tm mo be : Int32} {g : Nat} {pas : Int32}
def SNS (T : HT) (W rp bf : Nat → Int32) (tm mo be : Int32) (g : Nat) (pas : Int32) : Prop := GEO T W ∧ g < T.2.2.2.2.2.2.2.2.2.1 ∧ DX T.2.2.2.2.2.2.2.2.2.2.1 pas ∧ (∀ t, t < T.2.2.2.2.2.2.2.2.2.1 → rp t = tI (bt tm t)) ∧ (∀ t, T.2.2.2.2.2.2.2.2.2.1 ≤ t → bt tm t = false) ∧ (∀ t, t < T.2.2.2.2.2.2.2.2.2.1 → bf t = tI (bt be t)) ∧ (∀ t, T.2.2.2.2.2.2.2.2.2.1 ≤ t → bt be t = false) ∧ (∀ d, d < T.2.2.2.2.2.2.2.2.2.2.1 → bt mo d = hrd W d) ∧ (∀ d, T.2.2.2.2.2.2.2.2.2.2.1 ≤ d → bt mo d = false)
theorem btw_DX (h : GEO T W) {a b : Nat} (ha : a < 24) (hb : b < 24) : DX T.2.2.2.2.2.2.2.2.2.2.1 (btw W (nI a) (nI b)) := by
  rcases door_at h ha hb with ⟨e, -⟩ | ⟨d, hd, e, -⟩
  · exact Or.inl e
  · exact Or.inr ⟨d, hd, e⟩
theorem btw_same (h : GEO T W) {a : Nat} (ha : a < 24) : btw W (nI a) (nI a) = -1 := by
  rcases door_at h ha ha with ⟨e, -⟩ | ⟨d, hd, -, e⟩
  · exact e
  · exact absurd rfl (ED_rc h ha ha hd e).2.2
theorem wc_low (h : SNS T W rp bf tm mo be g pas) {q : Nat} (hq : q < 24) : low (tm &&& (cbit (nI q) ^^^ cbit (nI g))) = wcl W rp (nI g) (nI q) ∧ (tm &&& (cbit (nI q) ^^^ cbit (nI g)) = 0 ↔ wcl W rp (nI g) (nI q) = -1) := by
  obtain ⟨hG, hg, -, h1, h2, -⟩ := h
  have hr := hG.1.2.2.1
  have e : ∀ k, k < T.2.2.2.2.2.2.2.2.2.1 → bt (tm &&& (cbit (nI q) ^^^ cbit (nI g))) k = wcP rp (nI g) (nI q) k := by
    intro k hk
    rw [b_and, b_xor, bt_cbit hq, bt_cbit (by omega)]
    unfold wcP
    rw [h1 k hk]
    have k1 := nI_eq (a := k) (b := g) (by omega) (by omega)
    have k2 := nI_eq (a := k) (b := q) (by omega) (by omega)
    simp only [k1, k2]
    cases bt tm k with
    | false => rfl
    | true =>
      rw [if_pos tI_t]
      by_cases c1 : k = g
      · by_cases c2 : k = q
        · simp [← c1, ← c2]
        · have c3 : ¬ q = k := fun e => c2 e.symm
          simp [← c1, c2, c3]
      · have c4 : ¬ g = k := fun e => c1 e.symm
        by_cases c2 : k = q
        · simp [c4, ← c2, c1]
        · have c3 : ¬ q = k := fun e => c2 e.symm
          simp [c1, c2, c3, c4]
  have e2 : ∀ k, T.2.2.2.2.2.2.2.2.2.1 ≤ k → bt (tm &&& (cbit (nI q) ^^^ cbit (nI g))) k = false := fun k hk => by rw [b_and, h2 k hk, Bool.false_and]
  unfold wcl
  rw [(geo_n hG).1]
  exact ⟨low_frst (by omega) e e2, zero_frst (by omega) e e2⟩
theorem dc_low (h : SNS T W rp bf tm mo be g pas) {d0 : Int32} (hd0 : DX T.2.2.2.2.2.2.2.2.2.2.1 d0) : low (mo &&& (cbit d0 ^^^ cbit pas)) = frst T.2.2.2.2.2.2.2.2.2.2.1 (dcP W pas d0) ∧ (mo &&& (cbit d0 ^^^ cbit pas) = 0 ↔ frst T.2.2.2.2.2.2.2.2.2.2.1 (dcP W pas d0) = -1) := by
  obtain ⟨hG, hg, hp, -, -, -, -, h1, h2⟩ := h
  have hdc := hG.1.2.2.2
  have e : ∀ k, k < T.2.2.2.2.2.2.2.2.2.2.1 → bt (mo &&& (cbit d0 ^^^ cbit pas)) k = dcP W pas d0 k := by
    intro k hk
    rw [b_and, b_xor, bt_cbx hd0 hdc (by omega), bt_cbx hp hdc (by omega), h1 k hk]
    unfold dcP
    cases hrd W k with
    | false => rfl
    | true =>
      rw [if_neg (by simp)]
      by_cases c1 : nI k = pas
      · by_cases c2 : nI k = d0
        · simp [c1, ← c2]
        · have c3 : ¬ d0 = nI k := fun e => c2 e.symm
          simp [← c1, c2, c3]
      · have c4 : ¬ pas = nI k := fun e => c1 e.symm
        by_cases c2 : nI k = d0
        · simp [c4, ← c2, c1]
        · have c3 : ¬ d0 = nI k := fun e => c2 e.symm
          simp [c1, c2, c3, c4]
  have e2 : ∀ k, T.2.2.2.2.2.2.2.2.2.2.1 ≤ k → bt (mo &&& (cbit d0 ^^^ cbit pas)) k = false := fun k hk => by rw [b_and, h2 k hk, Bool.false_and]
  exact ⟨low_frst hdc e e2, zero_frst hdc e e2⟩
theorem and_cbit {x : Int32} {k : Nat} (hk : k < 24) : x &&& cbit (nI k) = 0 ↔ bt x k = false := by
  rw [z_bits]
  constructor
  · intro hz
    have := hz k (by omega)
    rw [b_and, bt_cbit hk] at this
    simpa using this
  · intro e i hi
    rw [b_and, bt_cbit hk]
    by_cases c : k = i
    · subst c; rw [e]; rfl
    · simp [c]
theorem fit_T (h : SNS T W rp bf tm mo be g pas) {q : Nat} {d0 : Int32} (hq : q < 24) (hd0 : DX T.2.2.2.2.2.2.2.2.2.2.1 d0) : fitB be (cbit (nI g)) (cbit pas) tm mo (cbit (nI q)) (cbit d0) = true ↔ bt be q = true ∧ wcl W rp (nI g) (nI q) = -1 ∧ frst T.2.2.2.2.2.2.2.2.2.2.1 (dcP W pas d0) = -1 := by
  unfold fitB
  simp only [and_cbit hq]
  cases hb : bt be q with
  | false => simp
  | true =>
    rw [if_neg (by simp)]
    by_cases c1 : tm &&& (cbit (nI q) ^^^ cbit (nI g)) = 0
    · rw [if_pos c1]
      have e1 := (wc_low h hq).2.mp c1
      by_cases c2 : mo &&& (cbit d0 ^^^ cbit pas) = 0
      · rw [if_pos c2]
        exact ⟨fun _ => ⟨rfl, e1, (dc_low h hd0).2.mp c2⟩, fun _ => rfl⟩
      · rw [if_neg c2]
        exact ⟨fun x => (by cases x), fun x => absurd ((dc_low h hd0).2.mpr x.2.2) c2⟩
    · rw [if_neg c1]
      exact ⟨fun x => (by cases x), fun x => absurd ((wc_low h hq).2.mpr x.2.1) c1⟩
def MV (T : HT) (W rp : Nat → Int32) (be : Int32) (g : Nat) (pas : Int32) (q r : Nat) : Prop := bt be q = true ∧ (q = r ∨ adj W (nI q) (nI r) = true) ∧ wcl W rp (nI g) (nI q) = -1 ∧ frst T.2.2.2.2.2.2.2.2.2.2.1 (dcP W pas (btw W (nI q) (nI r))) = -1
theorem bt_ite0 {c : Prop} [Decidable c] {x : Int32} {j : Nat} : bt (if c then 0 else x) j = true ↔ ¬ c ∧ bt x j = true := by
  split
  · rename_i h; simp [b_0, h]
  · rename_i h; simp [h]
theorem bt_raD (lo hi : Nat → Int32) (od be lr pd tm mo A : Int32) (r : Nat) : ∀ d, d ≤ 24 → (bt (raD lo hi od be lr pd tm mo A d) r = true ↔ bt A r = true ∨ ∃ e, e < d ∧ bt od e = true ∧ ((fitB be lr pd tm mo (cbit (lo e)) (cbit (nI e)) = true ∧ bt (cbit (hi e)) r = true) ∨ (fitB be lr pd tm mo (cbit (hi e)) (cbit (nI e)) = true ∧ bt (cbit (lo e)) r = true))) := by
  intro d
  induction d with
  | zero => intro _; simp [raD]
  | succ d ih =>
    intro hd
    have hcom : cbit (nI d) &&& od = od &&& cbit (nI d) := by
      refine b_ext fun i hi => ?_
      rw [b_and, b_and, Bool.and_comm]
    rw [raD, hcom]
    simp only [and_cbit (show d < 24 by omega)]
    cases ho : bt od d with
    | false =>
      rw [if_pos rfl, ih (by omega)]
      constructor
      · rintro (h | ⟨e, h1, h2⟩)
        · exact Or.inl h
        · exact Or.inr ⟨e, by omega, h2⟩
      · rintro (h | ⟨e, h1, h2⟩)
        · exact Or.inl h
        · by_cases c : e = d
          · subst c; rw [ho] at h2; cases h2.1
          · exact Or.inr ⟨e, by omega, h2⟩
    | true =>
      have ew : od &&& cbit (nI d) = cbit (nI d) := by
        refine b_ext fun i hi => ?_
        rw [b_and, bt_cbit (by omega)]
        by_cases c : d = i
        · subst c; rw [ho]; rfl
        · simp [c]
      rw [if_neg (by simp), ew, b_or, b_or, Bool.or_eq_true, Bool.or_eq_true, ih (by omega), bt_ite0, bt_ite0]
      simp only [Bool.not_eq_false]
      constructor
      · rintro (((h | ⟨e, h1, h2⟩) | h) | h)
        · exact Or.inl h
        · exact Or.inr ⟨e, by omega, h2⟩
        · exact Or.inr ⟨d, by omega, ho, Or.inl h⟩
        · exact Or.inr ⟨d, by omega, ho, Or.inr h⟩
      · rintro (h | ⟨e, h1, h2⟩)
        · exact Or.inl (Or.inl (Or.inl h))
        · by_cases c : e = d
          · subst c
            rcases h2.2 with h3 | h3
            · exact Or.inl (Or.inr h3)
            · exact Or.inr h3
          · exact Or.inl (Or.inl (Or.inr ⟨e, by omega, h2⟩))
theorem ra_T (h : SNS T W rp bf tm mo be g pas) {r : Nat} (hr : r < 24) : bt (raF T.2.2.2.2.2.2.2.2.2.1 T.2.2.2.2.2.2.2.2.2.2.1 T.2.2.2.2.2.1 T.2.2.2.2.2.2.1 T.2.2.2.2.2.2.2.2.2.2.2.1 be (cbit (nI g)) (cbit pas) tm mo) r = true ↔ ∃ q, q < T.2.2.2.2.2.2.2.2.2.1 ∧ MV T W rp be g pas q r := by
  obtain ⟨hG, hg, hp, -⟩ := id h
  have hrc := hG.1.2.2.1
  have hdc := hG.1.2.2.2
  have f0 := fun q (hq : q < 24) => fit_T h (q := q) (d0 := -1) hq (Or.inl rfl)
  rw [cbit_m1] at f0
  unfold raF
  rw [bt_raD _ _ _ _ _ _ _ _ _ _ _ hdc, bt_orF]
  constructor
  · rintro (⟨k, hk, h1⟩ | ⟨e, he, ho, h1⟩)
    · unfold raR at h1
      rw [bt_ite0, bt_cbit (by omega)] at h1
      simp only [Bool.not_eq_false, decide_eq_true_eq] at h1
      obtain ⟨h1, rfl⟩ := h1
      obtain ⟨a1, a2, a3⟩ := (f0 k hr).mp h1
      exact ⟨k, hk, a1, Or.inl rfl, a2, by rw [btw_same hG hr]; exact a3⟩
    · obtain ⟨a, b, n, h2, h3, h4, h5, -⟩ := hG.2.1 e he
      have fe := fun q (hq : q < 24) => fit_T h (q := q) (d0 := nI e) hq (Or.inr ⟨e, he, rfl⟩)
      rw [h4, h5, bt_cbit (by omega), bt_cbit (by omega)] at h1
      rcases h1 with ⟨h1, h6⟩ | ⟨h1, h6⟩
      · obtain rfl := of_decide_eq_true h6
        obtain ⟨a1, a2, a3⟩ := (fe a (by omega)).mp h1
        have hE : ED T e a b := Or.inl ⟨h4, h5⟩
        exact ⟨a, by omega, a1, Or.inr ((adj_T hG (by omega) hr).mpr ⟨e, he, ho, hE⟩), a2, by rw [door_is hG (by omega) hr he hE]; exact a3⟩
      · obtain rfl := of_decide_eq_true h6
        obtain ⟨a1, a2, a3⟩ := (fe b (by omega)).mp h1
        have hE : ED T e b a := Or.inr ⟨h4, h5⟩
        exact ⟨b, by omega, a1, Or.inr ((adj_T hG (by omega) hr).mpr ⟨e, he, ho, hE⟩), a2, by rw [door_is hG (by omega) hr he hE]; exact a3⟩
  · rintro ⟨q, hq, a1, a2, a3, a4⟩
    rcases a2 with rfl | a2
    · refine Or.inl ⟨q, hq, ?_⟩
      unfold raR
      rw [bt_ite0, bt_cbit (by omega)]
      rw [btw_same hG hr] at a4
      refine ⟨fun e => ?_, decide_eq_true rfl⟩
      rw [(f0 q hr).mpr ⟨a1, a3, a4⟩] at e
      cases e
    · obtain ⟨e, he, ho, hE⟩ := (adj_T hG (by omega) hr).mp a2
      rw [door_is hG (by omega) hr he hE] at a4
      have hf := (fit_T h (q := q) (d0 := nI e) (by omega) (Or.inr ⟨e, he, rfl⟩)).mpr ⟨a1, a3, a4⟩
      refine Or.inr ⟨e, he, ho, ?_⟩
      rcases hE with ⟨h4, h5⟩ | ⟨h4, h5⟩
      · exact Or.inl ⟨by rw [h4]; exact hf, by rw [h5, bt_cbit hr]; exact decide_eq_true rfl⟩
      · exact Or.inr ⟨by rw [h5]; exact hf, by rw [h4, bt_cbit hr]; exact decide_eq_true rfl⟩
theorem src_T (h : SNS T W rp bf tm mo be g pas) {q r : Nat} (hq : q < T.2.2.2.2.2.2.2.2.2.1) (hr : r < 24) : src W bf (nI q) (nI r) = true ↔ bt be q = true ∧ (q = r ∨ adj W (nI q) (nI r) = true) := by
  obtain ⟨hG, hg, hp, -, -, h1, -⟩ := h
  have hrc := hG.1.2.2.1
  unfold src
  rw [nI_clamp (by omega), h1 q hq]
  simp only [nI_eq (show q < 2 ^ 31 by omega) (show r < 2 ^ 31 by omega)]
  cases bt be q with
  | false => simp [tI]
  | true =>
    rw [if_pos tI_t]
    by_cases c : q = r
    · simp [c]
    · simp [c]
theorem sty_T (h : SNS T W rp bf tm mo be g pas) {r : Nat} (hr : r < 24) : sty W rp bf (nI g) pas (nI r) = true ↔ ∃ q, q < T.2.2.2.2.2.2.2.2.2.1 ∧ MV T W rp be g pas q r := by
  have hG := h.1
  have hrc := hG.1.2.2.1
  have key : ∀ q, q < T.2.2.2.2.2.2.2.2.2.1 → (styP W rp bf (nI g) pas (nI r) q = true ↔ MV T W rp be g pas q r) := by
    intro q hq
    unfold styP agr MV dcl
    rw [(geo_n hG).2]
    have hs := src_T h hq hr
    cases hsr : src W bf (nI q) (nI r) with
    | false =>
      rw [hsr] at hs
      rw [if_pos rfl]
      refine ⟨fun x => (by cases x), fun x => ?_⟩
      have := hs.mpr ⟨x.1, x.2.1⟩
      cases this
    | true =>
      obtain ⟨a1, a2⟩ := hs.mp hsr
      rw [if_neg (by simp)]
      by_cases c1 : wcl W rp (nI g) (nI q) = -1
      · rw [if_pos c1]
        by_cases c2 : frst T.2.2.2.2.2.2.2.2.2.2.1 (dcP W pas (btw W (nI q) (nI r))) = -1
        · rw [if_pos c2]; exact ⟨fun _ => ⟨a1, a2, c1, c2⟩, fun _ => rfl⟩
        · rw [if_neg c2]; exact ⟨fun x => (by cases x), fun x => absurd x.2.2.2 c2⟩
      · rw [if_neg c1]; exact ⟨fun x => (by cases x), fun x => absurd x.2.2.1 c1⟩
  unfold sty
  rw [(geo_n hG).1]
  rcases frst_cases (styP W rp bf (nI g) pas (nI r)) T.2.2.2.2.2.2.2.2.2.1 with ⟨e, h1⟩ | ⟨q, hq, e, h1, -⟩
  · rw [e, if_pos rfl]
    refine ⟨fun x => (by cases x), ?_⟩
    rintro ⟨q, hq, h2⟩
    have := (key q hq).mpr h2
    rw [h1 q hq] at this
    cases this
  · rw [e, if_neg (nI_m1 (by omega))]
    exact ⟨fun _ => ⟨q, hq, (key q hq).mp h1⟩, fun _ => rfl⟩
theorem fsr_T (h : SNS T W rp bf tm mo be g pas) {r : Nat} (hr : r < T.2.2.2.2.2.2.2.2.2.1) : low (be &&& (cbit (nI r) ||| orF (nbF T.2.2.2.2.2.1 T.2.2.2.2.2.2.1 T.2.2.2.2.2.2.2.2.2.2.2.1 (nI r)) T.2.2.2.2.2.2.2.2.2.2.1)) = fsr W bf (nI r) := by
  obtain ⟨hG, hg, hp, -, -, -, hbe, -⟩ := id h
  have hrc := hG.1.2.2.1
  unfold fsr
  rw [(geo_n hG).1]
  refine low_frst (by omega) (fun q hq => ?_) fun q hq => ?_
  · rw [Bool.eq_iff_iff, src_T h hq (by omega), b_and, b_or, bt_cbit (by omega), nb_adj hG (by omega) (by omega), adj_sym hG (a := r) (b := q) (by omega) (by omega)]
    simp only [Bool.and_eq_true, Bool.or_eq_true, decide_eq_true_eq]
    constructor
    · rintro ⟨a, b⟩; exact ⟨a, b.imp Eq.symm id⟩
    · rintro ⟨a, b⟩; exact ⟨a, b.imp Eq.symm id⟩
  · rw [b_and, hbe q hq, Bool.false_and]
theorem senV_t {r : Nat} (hs : sty W rp bf (nI g) pas (nI r) = true) : senV W rp bf (nI g) pas r 6 = 0 ∧ senV W rp bf (nI g) pas r 7 = -1 ∧ senV W rp bf (nI g) pas r 8 = -1 ∧ senV W rp bf (nI g) pas r 5 = 1 := by
  unfold senV; rw [hs]; exact ⟨rfl, rfl, rfl, rfl⟩
theorem senV_f {r : Nat} (hs : sty W rp bf (nI g) pas (nI r) = false) : senV W rp bf (nI g) pas r 6 = (exS W rp bf (nI g) pas (nI r)).1 ∧ senV W rp bf (nI g) pas r 7 = (exS W rp bf (nI g) pas (nI r)).2.1 ∧ senV W rp bf (nI g) pas r 8 = (exS W rp bf (nI g) pas (nI r)).2.2 ∧ senV W rp bf (nI g) pas r 5 = 0 := by
  unfold senV; rw [hs]; exact ⟨rfl, rfl, rfl, rfl⟩
theorem xpl_T (h : SNS T W rp bf tm mo be g pas) {r : Nat} (hr : r < T.2.2.2.2.2.2.2.2.2.1) {po : Int32} (hpo : bt po r = sty W rp bf (nI g) pas (nI r)) : xpl T.2.2.2.2.2.2.2.2.2.2.1 T.2.2.2.2.2.1 T.2.2.2.2.2.2.1 T.2.2.2.2.2.2.2.2.2.2.2.1 po be (cbit (nI g)) (cbit pas) tm mo (nI r) = (senV W rp bf (nI g) pas r 6, senV W rp bf (nI g) pas r 7, senV W rp bf (nI g) pas r 8) ∧ senV W rp bf (nI g) pas r 5 = tI (bt po r) := by
  have hG := h.1
  have hrc := hG.1.2.2.1
  unfold xpl
  rw [ctn_k (by omega), hpo]
  cases hs : sty W rp bf (nI g) pas (nI r) with
  | true =>
    obtain ⟨e6, e7, e8, e5⟩ := senV_t hs
    rw [e6, e7, e8, e5]
    exact ⟨rfl, rfl⟩
  | false =>
    obtain ⟨e6, e7, e8, e5⟩ := senV_f hs
    rw [e6, e7, e8, e5, if_pos rfl, fsr_T h hr]
    refine ⟨?_, rfl⟩
    show _ = exS W rp bf (nI g) pas (nI r)
    unfold exS
    rcases frst_cases (fun q => src W bf (nI q) (nI r)) (nR W) with ⟨e, -⟩ | ⟨q, hq, e, -⟩
    · rw [show fsr W bf (nI r) = -1 from e, if_pos rfl, if_pos rfl]
    · rw [(geo_n hG).1] at hq
      rw [show fsr W bf (nI r) = nI q from e, if_neg (nI_m1 (by omega)), if_neg (nI_m1 (by omega))]
      have hw := wc_low h (q := q) (by omega)
      have hd := dc_low h (btw_DX hG (a := q) (b := r) (by omega) (by omega))
      rw [geo_btw hG] at hd
      unfold dcl
      rw [(geo_n hG).2, geo_btw hG, ← hd.1]
      by_cases c : tm &&& (cbit (nI q) ^^^ cbit (nI g)) = 0
      · rw [if_pos c, if_pos (hw.2.mp c)]
      · rw [if_neg c, if_neg (fun e => c (hw.2.mpr e)), hw.1]
end PU4
