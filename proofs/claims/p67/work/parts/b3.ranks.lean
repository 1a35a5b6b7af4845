/-! b3: ranks, the ring of undone rows, counts -/
theorem cnt_ct (p : Nat → Bool) (n : Nat) : fa_cnt p n = fb_ct p n := by
  induction n with
  | zero => rfl
  | succ n ih => show fa_cnt p n + _ = fb_ct p n + _; rw [ih]
theorem ct_lt {p q : Nat → Bool} {n j : Nat} (hj : j < n) (hp : p j = false) (hq : q j = true) (h : ∀ k, k < n → p k = true → q k = true) : fb_ct p n + 1 ≤ fb_ct q n := by
  have h1 := fb_ct_upd p true hj
  rw [hp] at h1
  have h2 := fb_ct_sub (p := fun k => if k = j then true else p k) (q := q) (n := n) (fun k hk hx => by
    by_cases e : k = j
    · rw [e]; exact hq
    · try dsimp only at hx
      rw [if_neg e] at hx
      exact h k hk hx)
  have h3 : fb_ct (fun k => if k = j then true else p k) n = fb_ct p n + 1 := by simpa using h1
  omega
theorem rk_sur {R : Nat → Nat → Bool} (ir : ∀ j, R j j = false) (tr : ∀ a b c, R a b = true → R b c = true → R a c = true) (tt : ∀ a b, a ≠ b → R a b = true ∨ R b a = true) : ∀ n i, i < n → ∃ j, j < n ∧ fb_ct (fun k => R j k) n = i := by
  intro n
  induction n with
  | zero => intro i hi; omega
  | succ n ih =>
    intro i hi
    have ht := fb_ct_le (fun k => R n k) n
    by_cases c1 : i = fb_ct (fun k => R n k) n
    · refine ⟨n, Nat.lt_succ_self n, ?_⟩
      rw [fb_ct_succ, ir n, c1]
      rfl
    by_cases c2 : i < fb_ct (fun k => R n k) n
    · obtain ⟨j, hj, ej⟩ := ih i (by omega)
      refine ⟨j, by omega, ?_⟩
      cases hR : R j n with
      | true =>
        have := fb_ct_sub (p := fun k => R n k) (q := fun k => R j k) (n := n) (fun k _ hx => tr j n k hR hx)
        omega
      | false => rw [fb_ct_succ, ej, hR]; rfl
    · obtain ⟨j, hj, ej⟩ := ih (i - 1) (by omega)
      refine ⟨j, by omega, ?_⟩
      cases hR : R j n with
      | true => rw [fb_ct_succ, ej, hR, if_pos rfl]; omega
      | false =>
        have h2 := (tt j n (by omega)).resolve_left (by rw [hR]; decide)
        have := ct_lt (p := fun k => R j k) (q := fun k => R n k) hj (ir j) h2 (fun k _ hx => tr n j k h2 hx)
        omega
theorem rk_inj {R : Nat → Nat → Bool} (ir : ∀ j, R j j = false) (tr : ∀ a b c, R a b = true → R b c = true → R a c = true) (tt : ∀ a b, a ≠ b → R a b = true ∨ R b a = true) {n a b : Nat} (ha : a < n) (hb : b < n) (h : a ≠ b) : fb_ct (fun k => R a k) n ≠ fb_ct (fun k => R b k) n := by
  rcases tt a b h with h2 | h2
  · have := ct_lt (p := fun k => R b k) (q := fun k => R a k) hb (ir b) h2 (fun k _ hx => tr a b k h2 hx)
    omega
  · have := ct_lt (p := fun k => R a k) (q := fun k => R b k) ha (ir a) h2 (fun k _ hx => tr b a k h2 hx)
    omega
def RKR (co : Nat → Int32) (j k : Nat) : Bool := decide (co j < co k) || (decide (co k = co j) && decide (k < j))
theorem RKR_t {co : Nat → Int32} {j k : Nat} : RKR co j k = true ↔ co j < co k ∨ (co k = co j ∧ k < j) := by
  unfold RKR
  simp
theorem RKR_ir (co : Nat → Int32) (j : Nat) : RKR co j j = false := by
  rw [Bool.eq_false_iff]
  intro h
  rcases RKR_t.mp h with h | h
  · exact Int32.lt_irrefl h
  · omega
theorem RKR_tr (co : Nat → Int32) (a b c : Nat) (h1 : RKR co a b = true) (h2 : RKR co b c = true) : RKR co a c = true := by
  rw [RKR_t] at *
  rcases h1 with h1 | ⟨h1, h3⟩
  · rcases h2 with h2 | ⟨h2, h4⟩
    · exact Or.inl (Int32.lt_trans h1 h2)
    · exact Or.inl (by rw [h2]; exact h1)
  · rcases h2 with h2 | ⟨h2, h4⟩
    · exact Or.inl (by rw [← h1]; exact h2)
    · exact Or.inr ⟨h2.trans h1, by omega⟩
theorem RKR_tt (co : Nat → Int32) (a b : Nat) (h : a ≠ b) : RKR co a b = true ∨ RKR co b a = true := by
  rw [RKR_t, RKR_t]
  by_cases c1 : co a < co b
  · exact Or.inl (Or.inl c1)
  by_cases c2 : co b < co a
  · exact Or.inr (Or.inl c2)
  have e : co a = co b := Int32.le_antisymm (Int32.not_lt.mp c2) (Int32.not_lt.mp c1)
  by_cases c3 : b < a
  · exact Or.inl (Or.inr ⟨e.symm, c3⟩)
  · exact Or.inr (Or.inr ⟨e, by omega⟩)
theorem rnk_ct {co : Nat → Int32} {rc j : Nat} (hr : rc ≤ 12) (hj : j < rc) : rnk rc co (nI j) = nI (fb_ct (fun k => RKR co j k) rc) := by
  unfold rnk
  rw [cnt_ct]
  congr 1
  refine fb_ct_cong fun k hk => ?_
  unfold rkP RKR
  rw [rget_k (by omega) (by decide)]
  have e : (nI j ≤ nI k) ↔ j ≤ k := nI_leI (by omega) (by omega)
  have e2 : (!decide (nI j ≤ nI k)) = decide (k < j) := by
    by_cases c : k < j
    · rw [decide_eq_true c, decide_eq_false (fun x => by have := e.mp x; omega)]; rfl
    · rw [decide_eq_false c, decide_eq_true (e.mpr (by omega))]; rfl
  rw [e2]
theorem rnS_ct {U : HT} {s : Nat → Int32} (h : CPL U s) {i : Nat} (hi : i < U.2.2.2.2.2.2.2.2.2.1) : ∀ n, n ≤ U.2.2.2.2.2.2.2.2.2.1 → rnS s i n = nI (fb_ct (fun k => RKR U.2.1 i k) n) := by
  have hrc := h.1.1.2.2.1
  intro n
  induction n with
  | zero => intro _; rfl
  | succ n ih =>
    intro hn
    rw [rnS, ih (by omega), fb_ct_succ]
    have e1 : U.2.1 i = s (12 + 9 * i + 2) := (h.2.2.2.2.1 i hi).1
    have e2 : U.2.1 n = s (12 + 9 * n + 2) := (h.2.2.2.2.1 n (by omega)).1
    have e : rnP s i n = RKR U.2.1 i n := by
      unfold rnP RKR
      rw [e1, e2]
      have e3 : (nI i ≤ nI n) ↔ i ≤ n := nI_leI (by omega) (by omega)
      by_cases c1 : s (12 + 9 * i + 2) < s (12 + 9 * n + 2)
      · rw [if_pos c1, decide_eq_true c1]; rfl
      rw [if_neg c1, decide_eq_false c1, Bool.false_or]
      by_cases c2 : s (12 + 9 * n + 2) = s (12 + 9 * i + 2)
      · rw [if_pos c2, decide_eq_true c2, Bool.true_and]
        by_cases c3 : n < i
        · rw [if_neg (fun x => by have := e3.mp x; omega), decide_eq_true c3]
        · rw [if_pos (e3.mpr (by omega)), decide_eq_false c3]
      · rw [if_neg c2, decide_eq_false c2, Bool.false_and]
    rw [e]
    cases RKR U.2.1 i n with
    | true => exact nI_add _ 1
    | false => exact nI_add _ 0
/-- the room of a rank, in both -/
theorem wrk_T {U : HT} {s : Nat → Int32} (h : CPL U s) (x : Int32) : wrk s x = frst U.2.2.2.2.2.2.2.2.2.1 fun j => rnk U.2.2.2.2.2.2.2.2.2.1 U.2.1 (nI j) == x := by
  have hrc := h.1.1.2.2.1
  unfold wrk
  rw [(geo_n h.1).1]
  refine frst_cong fun j hj => ?_
  rw [rnS_ct h hj U.2.2.2.2.2.2.2.2.2.1 (Nat.le_refl _), rnk_ct hrc hj]
theorem rho_T {U : HT} {s : Nat → Int32} (h : CPL U s) : ∃ ρ : Nat → Nat, ∀ i, i < U.2.2.2.2.2.2.2.2.2.1 → ρ i < U.2.2.2.2.2.2.2.2.2.1 ∧ (frst U.2.2.2.2.2.2.2.2.2.1 fun j => rnk U.2.2.2.2.2.2.2.2.2.1 U.2.1 (nI j) == nI i) = nI (ρ i) := by
  have hrc := h.1.1.2.2.1
  have hs := rk_sur (RKR_ir U.2.1) (RKR_tr U.2.1) (RKR_tt U.2.1) U.2.2.2.2.2.2.2.2.2.1
  refine ⟨fun i => if c : i < U.2.2.2.2.2.2.2.2.2.1 then Classical.choose (hs i c) else 0, fun i hi => ?_⟩
  dsimp only
  rw [dif_pos hi]
  obtain ⟨g1, g2⟩ := Classical.choose_spec (hs i hi)
  generalize Classical.choose (hs i hi) = j at *
  refine ⟨g1, frst_at g1 ?_ fun k hk => ?_⟩
  · rw [rnk_ct hrc g1, g2]
    exact beq_self_eq_true _
  · rw [rnk_ct hrc (by omega), beq_eq_false_iff_ne]
    intro e
    have hk2 : fb_ct (fun q => RKR U.2.1 k q) U.2.2.2.2.2.2.2.2.2.1 ≤ U.2.2.2.2.2.2.2.2.2.1 := fb_ct_le _ _
    have e2 := (nI_eq (by omega) (by omega)).mp e
    exact rk_inj (RKR_ir U.2.1) (RKR_tr U.2.1) (RKR_tt U.2.1) (show k < U.2.2.2.2.2.2.2.2.2.1 by omega) g1 (by omega) (e2.trans g2.symm)
-- counts
theorem bc_rc {x : Int32} {n : Nat} (hn : n ≤ 12) (h : ∀ j, n ≤ j → bt x j = false) : bcF x = nI (fb_ct (bt x) n) := by
  obtain ⟨m, hm, e⟩ := small_of (x := x) (m := 12) (by decide) (fun j hj => h j (by omega))
  have e2 : fb_ct (bt x) 12 = fb_ct (bt x) n := by
    have h1 := fb_ct_split (bt x) n (12 - n)
    rw [show n + (12 - n) = 12 by omega] at h1
    have h2 : fb_ct (fun k => bt x (n + k)) (12 - n) = 0 := fb_ct_zero.mpr fun k _ => h _ (by omega)
    omega
  rw [← e2, ← sizF_ct x 12 (by decide)]
  rw [e]
  exact bc_siz (Nat.lt_of_lt_of_le hm (by decide))
theorem cntS_T {U : HT} {s : Nat → Int32} (h : CPL U s) {w : Nat} {x : Int32} (hw : ∀ k, k < U.2.2.2.2.2.2.2.2.2.1 → s (12 + 9 * k + w) = tI (bt x k)) (hx : ∀ j, U.2.2.2.2.2.2.2.2.2.1 ≤ j → bt x j = false) : cntS s w (nR s) = bcF x := by
  have hrc := h.1.1.2.2.1
  rw [(geo_n h.1).1, bc_rc hrc hx]
  have : ∀ n, n ≤ U.2.2.2.2.2.2.2.2.2.1 → cntS s w n = nI (fb_ct (bt x) n) := by
    intro n
    induction n with
    | zero => intro _; rfl
    | succ n ih =>
      intro hn
      rw [cntS, ih (by omega), hw n (by omega), fb_ct_succ]
      cases bt x n with
      | true => exact nI_add _ 1
      | false => exact nI_add _ 0
  exact this U.2.2.2.2.2.2.2.2.2.1 (Nat.le_refl _)
theorem smF_T {U : HT} {s : Nat → Int32} (h : CPL U s) : cntS s 2 (nR s) = smF U.2.1 U.2.2.2.2.2.2.2.2.2.1 := by
  rw [(geo_n h.1).1]
  have : ∀ n, n ≤ U.2.2.2.2.2.2.2.2.2.1 → cntS s 2 n = smF U.2.1 n := by
    intro n
    induction n with
    | zero => intro _; rfl
    | succ n ih =>
      intro hn
      rw [cntS, smF, ih (by omega), (h.2.2.2.2.1 n (by omega)).1]
  exact this U.2.2.2.2.2.2.2.2.2.1 (Nat.le_refl _)
-- the ring
