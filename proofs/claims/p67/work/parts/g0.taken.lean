/-! g0: pure rows of the whole claim, taken over (by gen/g0.py) -/
theorem not_nt {p : Prop} (h : ¬ ¬ p) : p := Classical.not_not.mp h
theorem rngI {v : Int32} {m : Nat} (hm : m < 1000) (a : ¬ v < 0) (b : v ≤ nI m) : ∃ c, c ≤ m ∧ v = nI c := by
  have hh : inR (m + 1) v = true := inR_in a (Int32.lt_of_le_of_lt b (nI_lt (Nat.lt_succ_self m) (by omega)))
  obtain ⟨k, hk, e⟩ := inR_t hh (by omega)
  exact ⟨k, by omega, e⟩
theorem rngI1 {v : Int32} {m : Nat} (hm : m < 1000) (a : ¬ v < 1) (b : v ≤ nI m) : ∃ c, 1 ≤ c ∧ c ≤ m ∧ v = nI c := by
  obtain ⟨c, hc, e⟩ := rngI hm (fun x => a (Int32.lt_trans x (by decide))) b
  refine ⟨c, ?_, hc, e⟩
  apply Nat.pos_of_ne_zero
  rintro rfl
  exact a (by rw [e]; decide)
theorem SETB_0 {se : Nat → Int32} (h : SETB se) {v : Int32} (h1 : ¬ v < 0) (h2 : v ≤ nI 2) : SETB (upd se 0 v) := by
  obtain ⟨s0, s1, s2, s3, s4, s5⟩ := h
  have u0 : upd se 0 v 0 = v := if_pos rfl
  have u1 : upd se 0 v 1 = se 1 := if_neg (by decide)
  have u2 : upd se 0 v 2 = se 2 := if_neg (by decide)
  have u3 : upd se 0 v 3 = se 3 := if_neg (by decide)
  have u4 : upd se 0 v 4 = se 4 := if_neg (by decide)
  have u5 : upd se 0 v 5 = se 5 := if_neg (by decide)
  unfold SETB
  rw [u0, u1, u2, u3, u4, u5]
  exact ⟨rngI (by decide) h1 h2, s1, s2, s3, s4, s5⟩
theorem SETB_1 {se : Nat → Int32} (h : SETB se) {v : Int32} (h1 : ¬ v < 1) (h2 : v ≤ nI 9) : SETB (upd se 1 v) := by
  obtain ⟨s0, s1, s2, s3, s4, s5⟩ := h
  have u0 : upd se 1 v 0 = se 0 := if_neg (by decide)
  have u1 : upd se 1 v 1 = v := if_pos rfl
  have u2 : upd se 1 v 2 = se 2 := if_neg (by decide)
  have u3 : upd se 1 v 3 = se 3 := if_neg (by decide)
  have u4 : upd se 1 v 4 = se 4 := if_neg (by decide)
  have u5 : upd se 1 v 5 = se 5 := if_neg (by decide)
  unfold SETB
  rw [u0, u1, u2, u3, u4, u5]
  exact ⟨s0, rngI1 (by decide) h1 h2, s2, s3, s4, s5⟩
theorem SETB_2 {se : Nat → Int32} (h : SETB se) {v : Int32} (h1 : ¬ v < 0) (h2 : v ≤ nI 9) : SETB (upd se 2 v) := by
  obtain ⟨s0, s1, s2, s3, s4, s5⟩ := h
  have u0 : upd se 2 v 0 = se 0 := if_neg (by decide)
  have u1 : upd se 2 v 1 = se 1 := if_neg (by decide)
  have u2 : upd se 2 v 2 = v := if_pos rfl
  have u3 : upd se 2 v 3 = se 3 := if_neg (by decide)
  have u4 : upd se 2 v 4 = se 4 := if_neg (by decide)
  have u5 : upd se 2 v 5 = se 5 := if_neg (by decide)
  unfold SETB
  rw [u0, u1, u2, u3, u4, u5]
  exact ⟨s0, s1, rngI (by decide) h1 h2, s3, s4, s5⟩
theorem SETB_3 {se : Nat → Int32} (h : SETB se) {v : Int32} (h1 : ¬ v < 1) (h2 : v ≤ nI 9) : SETB (upd se 3 v) := by
  obtain ⟨s0, s1, s2, s3, s4, s5⟩ := h
  have u0 : upd se 3 v 0 = se 0 := if_neg (by decide)
  have u1 : upd se 3 v 1 = se 1 := if_neg (by decide)
  have u2 : upd se 3 v 2 = se 2 := if_neg (by decide)
  have u3 : upd se 3 v 3 = v := if_pos rfl
  have u4 : upd se 3 v 4 = se 4 := if_neg (by decide)
  have u5 : upd se 3 v 5 = se 5 := if_neg (by decide)
  unfold SETB
  rw [u0, u1, u2, u3, u4, u5]
  exact ⟨s0, s1, s2, rngI1 (by decide) h1 h2, s4, s5⟩
theorem SETB_4 {se : Nat → Int32} (h : SETB se) {v : Int32} (h1 : ¬ v < 0) (h2 : v ≤ nI 15) : SETB (upd se 4 v) := by
  obtain ⟨s0, s1, s2, s3, s4, s5⟩ := h
  have u0 : upd se 4 v 0 = se 0 := if_neg (by decide)
  have u1 : upd se 4 v 1 = se 1 := if_neg (by decide)
  have u2 : upd se 4 v 2 = se 2 := if_neg (by decide)
  have u3 : upd se 4 v 3 = se 3 := if_neg (by decide)
  have u4 : upd se 4 v 4 = v := if_pos rfl
  have u5 : upd se 4 v 5 = se 5 := if_neg (by decide)
  unfold SETB
  rw [u0, u1, u2, u3, u4, u5]
  exact ⟨s0, s1, s2, s3, rngI (by decide) h1 h2, s5⟩
theorem SETB_5 {se : Nat → Int32} (h : SETB se) {v : Int32} (h1 : ¬ v < 0) (h2 : v ≤ nI 999) : SETB (upd se 5 v) := by
  obtain ⟨s0, s1, s2, s3, s4, s5⟩ := h
  have u0 : upd se 5 v 0 = se 0 := if_neg (by decide)
  have u1 : upd se 5 v 1 = se 1 := if_neg (by decide)
  have u2 : upd se 5 v 2 = se 2 := if_neg (by decide)
  have u3 : upd se 5 v 3 = se 3 := if_neg (by decide)
  have u4 : upd se 5 v 4 = se 4 := if_neg (by decide)
  have u5 : upd se 5 v 5 = v := if_pos rfl
  unfold SETB
  rw [u0, u1, u2, u3, u4, u5]
  exact ⟨s0, s1, s2, s3, s4, rngI (by decide) h1 h2⟩
theorem SETB_upd {se : Nat → Int32} (h : SETB se) {x : Nat} (hx : x < 6) {v : Int32} (hv : ¬ (v < stG 0 (nI x) ∨ ¬ v ≤ stG 1 (nI x))) : SETB (upd se x v) := by
  have h1 : ¬ v < stG 0 (nI x) := fun y => hv (Or.inl y)
  have h2 : v ≤ stG 1 (nI x) := not_nt fun y => hv (Or.inr y)
  clear hv
  have hc : x = 0 ∨ x = 1 ∨ x = 2 ∨ x = 3 ∨ x = 4 ∨ x = 5 := by omega
  rcases hc with rfl | rfl | rfl | rfl | rfl | rfl
  · rw [show stG 0 (nI 0) = 0 by decide] at h1
    rw [show stG 1 (nI 0) = nI 2 by decide] at h2
    exact SETB_0 h h1 h2
  · rw [show stG 0 (nI 1) = 1 by decide] at h1
    rw [show stG 1 (nI 1) = nI 9 by decide] at h2
    exact SETB_1 h h1 h2
  · rw [show stG 0 (nI 2) = 0 by decide] at h1
    rw [show stG 1 (nI 2) = nI 9 by decide] at h2
    exact SETB_2 h h1 h2
  · rw [show stG 0 (nI 3) = 1 by decide] at h1
    rw [show stG 1 (nI 3) = nI 9 by decide] at h2
    exact SETB_3 h h1 h2
  · rw [show stG 0 (nI 4) = 0 by decide] at h1
    rw [show stG 1 (nI 4) = nI 15 by decide] at h2
    exact SETB_4 h h1 h2
  · rw [show stG 0 (nI 5) = 0 by decide] at h1
    rw [show stG 1 (nI 5) = nI 999 by decide] at h2
    exact SETB_5 h h1 h2
def coW (k : Nat) (v : Int32) (U : HT) : HT := (U.1, upd U.2.1 k v, U.2.2.1, U.2.2.2.1, U.2.2.2.2.1, U.2.2.2.2.2.1, U.2.2.2.2.2.2.1, U.2.2.2.2.2.2.2.1, U.2.2.2.2.2.2.2.2.1, U.2.2.2.2.2.2.2.2.2.1, U.2.2.2.2.2.2.2.2.2.2.1, U.2.2.2.2.2.2.2.2.2.2.2.1, U.2.2.2.2.2.2.2.2.2.2.2.2.1, U.2.2.2.2.2.2.2.2.2.2.2.2.2.1, U.2.2.2.2.2.2.2.2.2.2.2.2.2.2.1, U.2.2.2.2.2.2.2.2.2.2.2.2.2.2.2.1, U.2.2.2.2.2.2.2.2.2.2.2.2.2.2.2.2.1, U.2.2.2.2.2.2.2.2.2.2.2.2.2.2.2.2.2.1, U.2.2.2.2.2.2.2.2.2.2.2.2.2.2.2.2.2.2)
def seW (k : Nat) (v : Int32) (U : HT) : HT := (U.1, U.2.1, U.2.2.1, U.2.2.2.1, U.2.2.2.2.1, U.2.2.2.2.2.1, U.2.2.2.2.2.2.1, U.2.2.2.2.2.2.2.1, upd U.2.2.2.2.2.2.2.2.1 k v, U.2.2.2.2.2.2.2.2.2.1, U.2.2.2.2.2.2.2.2.2.2.1, U.2.2.2.2.2.2.2.2.2.2.2.1, U.2.2.2.2.2.2.2.2.2.2.2.2.1, U.2.2.2.2.2.2.2.2.2.2.2.2.2.1, U.2.2.2.2.2.2.2.2.2.2.2.2.2.2.1, U.2.2.2.2.2.2.2.2.2.2.2.2.2.2.2.1, U.2.2.2.2.2.2.2.2.2.2.2.2.2.2.2.2.1, U.2.2.2.2.2.2.2.2.2.2.2.2.2.2.2.2.2.1, U.2.2.2.2.2.2.2.2.2.2.2.2.2.2.2.2.2.2)
theorem pasM_rc (U : HT) (k : Nat) : (pasM U k).2.2.2.2.2.2.2.2.2.1 = U.2.2.2.2.2.2.2.2.2.1 := by
  induction k with
  | zero => rfl
  | succ k ih =>
    rw [pasM]
    unfold pasG
    split
    · exact ih
    · exact ih
theorem pasM_N {U : HT} (h : ¬ U.2.2.2.2.2.2.2.2.2.1 = 0) (k : Nat) : pasM U k = pasN U k := by
  induction k with
  | zero => rfl
  | succ k ih =>
    rw [pasM, pasN, ih]
    unfold pasG
    rw [← ih, pasM_rc, if_neg h]
theorem od_S {U : HT} {s : Nat → Int32} (h : CPL U s) {d : Nat} (hd : d < U.2.2.2.2.2.2.2.2.2.2.1) : s (120 + 4 * d + 3) = tI (bt U.2.2.2.2.2.2.2.2.2.2.2.1 d) := by
  obtain ⟨a, b, n, -, -, -, -, -, -, -, -, -, h⟩ := h.1.2.1 d hd
  exact h
theorem opn_T {V : HT} {s : Nat → Int32} (h : CPL V s) : opnS s (nD s) = nI (fb_ct (bt V.2.2.2.2.2.2.2.2.2.2.2.1) V.2.2.2.2.2.2.2.2.2.2.1) := by
  rw [(geo_n h.1).2]
  have : ∀ d, d ≤ V.2.2.2.2.2.2.2.2.2.2.1 → opnS s d = nI (fb_ct (bt V.2.2.2.2.2.2.2.2.2.2.2.1) d) := by
    intro d
    induction d with
    | zero => intro _; rfl
    | succ d ih =>
      intro hd
      rw [opnS, ih (by omega), od_S h (by omega), fb_ct_succ]
      cases bt V.2.2.2.2.2.2.2.2.2.2.2.1 d with
      | true => exact nI_add _ 1
      | false => exact nI_add _ 0
  exact this V.2.2.2.2.2.2.2.2.2.2.1 (Nat.le_refl _)
theorem HZ_apR {U : HT} {x : Int64} {c b : Int32} (h : HOK U ∧ ZH U) (hr : U.2.2.2.2.2.2.2.2.2.1 < 12) : HOK (apR U x c b) ∧ ZH (apR U x c b) := by
  obtain ⟨⟨h1, h2⟩, z1, z2, z3⟩ := h
  refine ⟨⟨?_, h2⟩, fun i hi => ?_, z2, z3⟩
  · show U.2.2.2.2.2.2.2.2.2.1 + 1 ≤ 12
    omega
  · obtain ⟨a1, a2, a3, a4, a5⟩ := z1 i hi
    have u : ∀ (f : Nat → Int32) (v : Int32), upd f U.2.2.2.2.2.2.2.2.2.1 v i = f i := fun f v => if_neg (by omega)
    refine ⟨?_, (u _ _).trans a2, (u _ _).trans a3, (u _ _).trans a4, (u _ _).trans a5⟩
    show vp_updL U.1 U.2.2.2.2.2.2.2.2.2.1 x i = 0
    unfold vp_updL
    rw [if_neg (by omega)]
    exact a1
theorem HZ_apD {U : HT} {a b c : Int32} (h : HOK U ∧ ZH U) (hr : U.2.2.2.2.2.2.2.2.2.2.1 < 24) : HOK (apD U a b c) ∧ ZH (apD U a b c) := by
  obtain ⟨⟨h1, h2⟩, z1, z2, z3⟩ := h
  refine ⟨⟨h1, ?_⟩, z1, fun i hi => ?_, z3⟩
  · show U.2.2.2.2.2.2.2.2.2.2.1 + 1 ≤ 24
    omega
  · obtain ⟨a1, a2, a3⟩ := z2 i hi
    have u : ∀ (f : Nat → Int32) (v : Int32), upd f U.2.2.2.2.2.2.2.2.2.2.1 v i = f i := fun f v => if_neg (by omega)
    exact ⟨(u _ _).trans a1, (u _ _).trans a2, (u _ _).trans a3⟩
theorem HZ_pas {U : HT} (h : HOK U ∧ ZH U) (h0 : ¬ U.2.2.2.2.2.2.2.2.2.1 = 0) : HOK (pasT U) ∧ ZH (pasT U) := by
  refine ⟨⟨h.1.1, h.1.2⟩, ?_⟩
  have := ZH_pas h.1 h.2
  unfold pasG at this
  rw [if_neg h0] at this
  exact this
theorem HZ_clr {U : HT} (h : ZH U) : HOK (clrT U) ∧ ZH (clrT U) := by
  obtain ⟨z1, z2, z3⟩ := h
  refine ⟨⟨Nat.zero_le _, Nat.zero_le _⟩, z1, z2, fun i hi => ?_⟩
  have e : (clrT U).2.2.2.2.2.2.2.2.1 = fa_fill (fun d => stG 2 (nI d)) U.2.2.2.2.2.2.2.2.1 6 := rfl
  rw [e]
  exact (fa_fill_out hi).trans (z3 i hi)
theorem HZ_ask {U : HT} {x : Int32} (h : HOK U ∧ ZH U) : HOK (askT U x) ∧ ZH (askT U x) := by
  obtain ⟨⟨h1, h2⟩, z1, z2, z3⟩ := h
  refine ⟨⟨h1, h2⟩, fun i hi => ?_, z2, fun i hi => ?_⟩
  · obtain ⟨a1, a2, a3, a4, a5⟩ := z1 i hi
    refine ⟨a1, a2, ?_, ?_, ?_⟩
    · unfold askT; dsimp only
      rw [fa_fill_out (by omega)]; exact a3
    · unfold askT; dsimp only
      rw [fa_fill_out (by omega)]; exact a4
    · unfold askT; dsimp only
      rw [fa_fill_out (by omega)]; exact a5
  · exact (if_neg (show ¬ i = 5 by omega)).trans (z3 i hi)
theorem HZ_pasN {U : HT} (h : HOK U ∧ ZH U) (h0 : ¬ U.2.2.2.2.2.2.2.2.2.1 = 0) (n : Nat) : HOK (pasN U n) ∧ ZH (pasN U n) := by
  rw [← pasM_N h0]
  exact ⟨pasM_ok h.1 n, ZH_pasM h.1 h.2 n⟩
theorem HZ_co {U : HT} {k : Nat} {v : Int32} (h : HOK U ∧ ZH U) (hk : k < 12) : HOK (coW k v U) ∧ ZH (coW k v U) := by
  obtain ⟨h1, z1, z2, z3⟩ := h
  refine ⟨h1, fun i hi => ?_, z2, z3⟩
  obtain ⟨a1, a2, a3, a4, a5⟩ := z1 i hi
  exact ⟨a1, (if_neg (show ¬ i = k by omega)).trans a2, a3, a4, a5⟩
theorem HZ_sw {U : HT} {k : Nat} {v : Int32} (h : HOK U ∧ ZH U) (hk : k < 6) : HOK (seW k v U) ∧ ZH (seW k v U) := by
  obtain ⟨h1, z1, z2, z3⟩ := h
  exact ⟨h1, z1, z2, fun i hi => (if_neg (show ¬ i = k by omega)).trans (z3 i hi)⟩
theorem HOK_up {khs : Nat → HT} {U : HT} {m i : Nat} (h : HOK (khs i)) (h2 : HOK U) : HOK (updH khs m U i) := by
  unfold updH
  split
  · exact h2
  · exact h
theorem ZH_up {khs : Nat → HT} {U : HT} {m i : Nat} (h : ZH (khs i)) (h2 : ZH U) : ZH (updH khs m U i) := by
  unfold updH
  split
  · exact h2
  · exact h
theorem H0_up {khs : Nat → HT} {U : HT} {m i : Nat} (hm : m < 7) (hi : 7 ≤ i) (h : khs i = H0) : updH khs m U i = H0 := by
  unfold updH
  rw [if_neg (by omega)]
  exact h
theorem PGE_C {U : HT} {s : Nat → Int32} (h : CPL U s) : PGE U := fun d hd => by
  obtain ⟨a, b, n, hab, hb, e1, e2, -⟩ := drc_n h hd
  have := h.1.1.2.2.1
  exact ⟨a, b, by omega, by omega, e1, e2⟩
theorem nI_nng {k : Nat} (hk : k < 2 ^ 31) : ¬ nI k < 0 := fun y => by
  have := (nI_ltI (b := 0) hk (by decide)).mp y
  omega
