/-! j8: a seance by halves -/
def pP (s : Nat → Int32) (j : Nat) : Bool := decide (s (12 + 9 * j + 5) = 1)
theorem pP_T {T : HT} {s : Nat → Int32} (hC : CPL T s) {j : Nat} (hj : j < nR s) : pP s j = bt T.2.2.2.2.2.2.2.2.2.2.2.2.2.2.1 j := by
  unfold pP
  rw [(ctn_S hC hj).2.2]
  cases bt T.2.2.2.2.2.2.2.2.2.2.2.2.2.2.1 j <;> decide
theorem po_bt {T : HT} {s : Nat → Int32} (hC : CPL T s) (j : Nat) : bt (orF (poS s) (nR s)) j = (decide (j < nR s) && pP s j) := by
  rw [po_S hC]
  by_cases c : j < nR s
  · rw [decide_eq_true c, Bool.true_and, pP_T hC c]
  · rw [decide_eq_false c, Bool.false_and]
    exact (hC.2.2.2.2.2.1.1 j (by rw [← (geo_n hC.1).1]; omega)).2.2
theorem po_ct {T : HT} {s : Nat → Int32} (hC : CPL T s) : bcF (orF (poS s) (nR s)) = nI (fb_ct (pP s) (nR s)) := by
  have h12 := (geo_RW hC.1).2.1
  rw [bc_24 (n := nR s) (by omega) (fun j hj => by rw [po_bt hC, decide_eq_false (by omega), Bool.false_and])]
  congr 1
  exact fb_ct_cong (fun k hk => by rw [po_bt hC, decide_eq_true hk, Bool.true_and])
/-- the mask m holds the first H possible rooms ahead of k -/
def hfM (s : Nat → Int32) (H k : Nat) (m : Int32) : Prop := ∀ j, bt m j = (decide (j < k) && (pP s j && decide (fb_ct (pP s) j < H)))
theorem hfM_0 (s : Nat → Int32) (H : Nat) : hfM s H 0 0 := fun j => by
  rw [b_0 j, decide_eq_false (Nat.not_lt_zero j), Bool.false_and]
theorem hfM_no {s : Nat → Int32} {H k : Nat} {m : Int32} (h : hfM s H k m) (hk : pP s k = false ∨ H ≤ fb_ct (pP s) k) : hfM s H (k + 1) m := fun j => by
  rw [h j]
  by_cases c : j = k
  · subst c
    rw [decide_eq_false (Nat.lt_irrefl j), Bool.false_and]
    rcases hk with e | e
    · rw [e, Bool.false_and, Bool.and_false]
    · rw [decide_eq_false (show ¬ fb_ct (pP s) j < H by omega), Bool.and_false, Bool.and_false]
  · rw [show decide (j < k + 1) = decide (j < k) from decide_eq_decide.mpr (by omega)]
theorem hfM_yes {s : Nat → Int32} {H k : Nat} {m : Int32} (h : hfM s H k m) (hk : pP s k = true) (hH : fb_ct (pP s) k < H) (h24 : k < 24) : hfM s H (k + 1) (m ||| (1 <<< (nI k &&& 31))) := fun j => by
  rw [← cbit_k h24, bt_or_k h24, h j]
  by_cases c : j = k
  · subst c
    rw [if_pos rfl, decide_eq_true (Nat.lt_succ_self j), hk, decide_eq_true hH]
    rfl
  · rw [if_neg c, show decide (j < k + 1) = decide (j < k) from decide_eq_decide.mpr (by omega)]
theorem cas_half {T : HT} {s : Nat → Int32} {H : Nat} {m : Int32} (hC : CPL T s) (hm : hfM s H (nR s) m) (h1 : 1 ≤ H) (h2 : H < fb_ct (pP s) (nR s)) : casB s m = false → s 5 < s 3 := by
  intro hc
  unfold casB at hc
  obtain ⟨j0, i0, p0, q0⟩ := ct_ex (p := pP s) (nR s) 1 (Nat.le_refl _) (by omega)
  obtain ⟨j1, i1, p1, q1⟩ := ct_ex (p := pP s) (nR s) (H + 1) (by omega) (by omega)
  rw [if_neg (fun e => by
    have := congrArg (fun x => bt x j0) e
    simp only [b_and, b_0, po_bt hC, hm j0, decide_eq_true i0, p0, decide_eq_true (show fb_ct (pP s) j0 < H by omega), Bool.and_self] at this
    cases this), if_neg (fun e => by
    have := congrArg (fun x => bt x j1) e
    simp only [b_and, po_bt hC, hm j1, decide_eq_true i1, p1, decide_eq_false (show ¬ fb_ct (pP s) j1 < H by omega), Bool.and_self, Bool.and_false] at this
    cases this)] at hc
  by_cases c : s 5 < s 3
  · exact c
  · rw [if_neg c] at hc
    cases hc
theorem coin_ok {T : HT} {s : Nat → Int32} (hC : CPL T s) (h : s 5 < s 3) : ¬ (900 : Int32) < s 5 := fun e => by
  obtain ⟨-, hse, -, -, -, -, hsb⟩ := hC
  obtain ⟨-, -, -, ⟨c, c1, c2, e3⟩, -, c5, h5, e5⟩ := hsb
  rw [hse 3 (by decide)] at e3
  rw [hse 5 (by decide)] at e5
  rw [e3, e5] at h
  rw [e5] at e
  have a := (nI_ltI (by omega) (by omega)).mp h
  have b := (nI_ltI (a := 900) (by decide) (by omega)).mp e
  omega
/-- one room is possible: the ghost's -/
theorem one_is {T : HT} {s : Nat → Int32} (hC : CPL T s) (hE : EXW s) (h1 : fb_ct (pP s) (nR s) = 1) : ∃ g, g < nR s ∧ s 11 = nI g ∧ orF (poS s) (nR s) = 1 <<< (nI g &&& 31) := by
  have h12 := (geo_RW hC.1).2.1
  have h0 : 0 < nR s := by
    rcases Nat.eq_zero_or_pos (nR s) with e | e
    · rw [e] at h1; cases h1
    · exact e
  obtain ⟨g, hg, e11, e5⟩ := hE.1 h0
  have pg : pP s g = true := decide_eq_true e5
  refine ⟨g, hg, e11, ?_⟩
  rw [← cbit_k (by omega)]
  refine b_ext (fun j hj => ?_)
  rw [po_bt hC, bt_cbit (by omega)]
  have two : ∀ a b, a < b → b < nR s → pP s a = true → pP s b = true → False := fun a b hab hb pa pb => by
    have m1 := fb_ct_mono (pP s) (show a + 1 ≤ b by omega)
    have m2 := fb_ct_mono (pP s) (show b + 1 ≤ nR s by omega)
    rw [fb_ct_succ, pa, if_pos rfl] at m1
    rw [fb_ct_succ, pb, if_pos rfl] at m2
    omega
  by_cases c : g = j
  · subst c
    rw [decide_eq_true hg, pg, decide_eq_true rfl]
    rfl
  · rw [decide_eq_false c]
    by_cases d : j < nR s
    · cases hp : pP s j with
      | false => rw [Bool.and_false]
      | true =>
        exfalso
        rcases Nat.lt_or_gt_of_ne c with x | x
        · exact two g j x d pg hp
        · exact two j g x hg hp pg
    · rw [decide_eq_false d, Bool.false_and]
