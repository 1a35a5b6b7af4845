/-! 22: the layer of a house: an object at p, its names at p + 1, its rows at p + 2 + 2 k -/
/-! a layer: a house -/
abbrev HT : Type := (Nat → Int64) × (Nat → Int32) × (Nat → Int32) × (Nat → Int32) × (Nat → Int32) × (Nat → Int32) × (Nat → Int32) × (Nat → Int32) × (Nat → Int32) × (Nat) × (Nat) × (Int32) × (Int32) × (Int32) × (Int32) × (Int32) × (Int32) × (Int32) × (Int32)
def cH (p : Nat) (T : HT) (k : Nat) : AE := match k with
  | 0 => .inr (3, [.ref (p + 1), .ref (p + 2), .ref (p + 4), .ref (p + 6), .ref (p + 8), .ref (p + 10), .ref (p + 12), .ref (p + 14), .ref (p + 16), .int (nI (T.2.2.2.2.2.2.2.2.2.1)), .int (nI (T.2.2.2.2.2.2.2.2.2.2.1)), .int (T.2.2.2.2.2.2.2.2.2.2.2.1), .int (T.2.2.2.2.2.2.2.2.2.2.2.2.1), .int (T.2.2.2.2.2.2.2.2.2.2.2.2.2.1), .int (T.2.2.2.2.2.2.2.2.2.2.2.2.2.2.1), .int (T.2.2.2.2.2.2.2.2.2.2.2.2.2.2.2.1), .int (T.2.2.2.2.2.2.2.2.2.2.2.2.2.2.2.2.1), .int (T.2.2.2.2.2.2.2.2.2.2.2.2.2.2.2.2.2.1), .int (T.2.2.2.2.2.2.2.2.2.2.2.2.2.2.2.2.2.2)])
  | 1 => longs 12 (T.1)
  | 2 => .inr (7, [.ref (p + 3)])
  | 3 => ints 12 (T.2.1)
  | 4 => .inr (7, [.ref (p + 5)])
  | 5 => ints 12 (T.2.2.1)
  | 6 => .inr (7, [.ref (p + 7)])
  | 7 => ints 12 (T.2.2.2.1)
  | 8 => .inr (7, [.ref (p + 9)])
  | 9 => ints 12 (T.2.2.2.2.1)
  | 10 => .inr (7, [.ref (p + 11)])
  | 11 => ints 24 (T.2.2.2.2.2.1)
  | 12 => .inr (7, [.ref (p + 13)])
  | 13 => ints 24 (T.2.2.2.2.2.2.1)
  | 14 => .inr (7, [.ref (p + 15)])
  | 15 => ints 24 (T.2.2.2.2.2.2.2.1)
  | 16 => .inr (7, [.ref (p + 17)])
  | _ => ints 6 (T.2.2.2.2.2.2.2.2.1)
def hH (h : HM) (p : Nat) (T : HT) : HM := fun x => if p ≤ x ∧ x < p + 18 then some (cH p T (x - p)) else h x
section HL
variable {h : HM} {p : Nat} {T T2 : HT}
theorem hH_at {k : Nat} (hk : k < 18) : hH h p T (p + k) = some (cH p T k) := by
  unfold hH; rw [if_pos (by omega), Nat.add_sub_cancel_left]
theorem hH_0 : hH h p T p = some (.inr (3, [.ref (p + 1), .ref (p + 2), .ref (p + 4), .ref (p + 6), .ref (p + 8), .ref (p + 10), .ref (p + 12), .ref (p + 14), .ref (p + 16), .int (nI (T.2.2.2.2.2.2.2.2.2.1)), .int (nI (T.2.2.2.2.2.2.2.2.2.2.1)), .int (T.2.2.2.2.2.2.2.2.2.2.2.1), .int (T.2.2.2.2.2.2.2.2.2.2.2.2.1), .int (T.2.2.2.2.2.2.2.2.2.2.2.2.2.1), .int (T.2.2.2.2.2.2.2.2.2.2.2.2.2.2.1), .int (T.2.2.2.2.2.2.2.2.2.2.2.2.2.2.2.1), .int (T.2.2.2.2.2.2.2.2.2.2.2.2.2.2.2.2.1), .int (T.2.2.2.2.2.2.2.2.2.2.2.2.2.2.2.2.2.1), .int (T.2.2.2.2.2.2.2.2.2.2.2.2.2.2.2.2.2.2)])) := hH_at (k := 0) (by decide)
theorem hH_1 : hH h p T (p + 1) = some (longs 12 (T.1)) := hH_at (k := 1) (by decide)
theorem hH_2 : hH h p T (p + 2) = some (.inr (7, [.ref (p + 3)])) := hH_at (k := 2) (by decide)
theorem hH_3 : hH h p T (p + 3) = some (ints 12 (T.2.1)) := hH_at (k := 3) (by decide)
theorem hH_4 : hH h p T (p + 4) = some (.inr (7, [.ref (p + 5)])) := hH_at (k := 4) (by decide)
theorem hH_5 : hH h p T (p + 5) = some (ints 12 (T.2.2.1)) := hH_at (k := 5) (by decide)
theorem hH_6 : hH h p T (p + 6) = some (.inr (7, [.ref (p + 7)])) := hH_at (k := 6) (by decide)
theorem hH_7 : hH h p T (p + 7) = some (ints 12 (T.2.2.2.1)) := hH_at (k := 7) (by decide)
theorem hH_8 : hH h p T (p + 8) = some (.inr (7, [.ref (p + 9)])) := hH_at (k := 8) (by decide)
theorem hH_9 : hH h p T (p + 9) = some (ints 12 (T.2.2.2.2.1)) := hH_at (k := 9) (by decide)
theorem hH_10 : hH h p T (p + 10) = some (.inr (7, [.ref (p + 11)])) := hH_at (k := 10) (by decide)
theorem hH_11 : hH h p T (p + 11) = some (ints 24 (T.2.2.2.2.2.1)) := hH_at (k := 11) (by decide)
theorem hH_12 : hH h p T (p + 12) = some (.inr (7, [.ref (p + 13)])) := hH_at (k := 12) (by decide)
theorem hH_13 : hH h p T (p + 13) = some (ints 24 (T.2.2.2.2.2.2.1)) := hH_at (k := 13) (by decide)
theorem hH_14 : hH h p T (p + 14) = some (.inr (7, [.ref (p + 15)])) := hH_at (k := 14) (by decide)
theorem hH_15 : hH h p T (p + 15) = some (ints 24 (T.2.2.2.2.2.2.2.1)) := hH_at (k := 15) (by decide)
theorem hH_16 : hH h p T (p + 16) = some (.inr (7, [.ref (p + 17)])) := hH_at (k := 16) (by decide)
theorem hH_17 : hH h p T (p + 17) = some (ints 6 (T.2.2.2.2.2.2.2.2.1)) := hH_at (k := 17) (by decide)
theorem hH_out {x : Nat} (hx : ¬ (p ≤ x ∧ x < p + 18)) : hH h p T x = h x := if_neg hx
theorem hH_hH : hH (hH h p T) p T2 = hH h p T2 := by
  funext x; unfold hH; split <;> rfl
theorem hH_up {k : Nat} {e : AE} (hk : k < 18) (h1 : cH p T2 k = e) (h2 : ∀ j, j < 18 → j ≠ k → cH p T2 j = cH p T j) : hup (hH h p T) (p + k) e = hH h p T2 := by
  funext x
  by_cases hx : x = p + k
  · subst hx; rw [hup_at, hH_at hk, h1]
  · rw [hup_nq hx]
    by_cases hy : p ≤ x ∧ x < p + 18
    · obtain ⟨j, rfl⟩ : ∃ j, x = p + j := ⟨x - p, by omega⟩
      rw [hH_at (by omega), hH_at (by omega), h2 j (by omega) (by omega)]
    · rw [hH_out hy, hH_out hy]
theorem hH_up0 {v_rc : Nat} {v_dc : Nat} {v_od : Int32} {v_th : Int32} {v_mi : Int32} {v_po : Int32} {v_gh : Int32} {v_nn : Int32} {v_gm : Int32} {v_cs : Int32} : hup (hH h p T) p (.inr (3, [.ref (p + 1), .ref (p + 2), .ref (p + 4), .ref (p + 6), .ref (p + 8), .ref (p + 10), .ref (p + 12), .ref (p + 14), .ref (p + 16), .int (nI v_rc), .int (nI v_dc), .int v_od, .int v_th, .int v_mi, .int v_po, .int v_gh, .int v_nn, .int v_gm, .int v_cs])) = hH h p (T.1, T.2.1, T.2.2.1, T.2.2.2.1, T.2.2.2.2.1, T.2.2.2.2.2.1, T.2.2.2.2.2.2.1, T.2.2.2.2.2.2.2.1, T.2.2.2.2.2.2.2.2.1, v_rc, v_dc, v_od, v_th, v_mi, v_po, v_gh, v_nn, v_gm, v_cs) := hH_up (k := 0) (by decide) rfl (fun j hj h0 => by
  match j, hj with
  | 0, _ => exact absurd rfl h0
  | 1, _ => rfl
  | 2, _ => rfl
  | 3, _ => rfl
  | 4, _ => rfl
  | 5, _ => rfl
  | 6, _ => rfl
  | 7, _ => rfl
  | 8, _ => rfl
  | 9, _ => rfl
  | 10, _ => rfl
  | 11, _ => rfl
  | 12, _ => rfl
  | 13, _ => rfl
  | 14, _ => rfl
  | 15, _ => rfl
  | 16, _ => rfl
  | 17, _ => rfl
  | q + 18, hj => exact absurd hj (by omega))
theorem hH_up1 {v_nm : Nat → Int64} : hup (hH h p T) (p + 1) (longs 12 v_nm) = hH h p (v_nm, T.2.1, T.2.2.1, T.2.2.2.1, T.2.2.2.2.1, T.2.2.2.2.2.1, T.2.2.2.2.2.2.1, T.2.2.2.2.2.2.2.1, T.2.2.2.2.2.2.2.2.1, T.2.2.2.2.2.2.2.2.2.1, T.2.2.2.2.2.2.2.2.2.2.1, T.2.2.2.2.2.2.2.2.2.2.2.1, T.2.2.2.2.2.2.2.2.2.2.2.2.1, T.2.2.2.2.2.2.2.2.2.2.2.2.2.1, T.2.2.2.2.2.2.2.2.2.2.2.2.2.2.1, T.2.2.2.2.2.2.2.2.2.2.2.2.2.2.2.1, T.2.2.2.2.2.2.2.2.2.2.2.2.2.2.2.2.1, T.2.2.2.2.2.2.2.2.2.2.2.2.2.2.2.2.2.1, T.2.2.2.2.2.2.2.2.2.2.2.2.2.2.2.2.2.2) := hH_up (k := 1) (by decide) rfl (fun j hj h0 => by
  match j, hj with
  | 0, _ => rfl
  | 1, _ => exact absurd rfl h0
  | 2, _ => rfl
  | 3, _ => rfl
  | 4, _ => rfl
  | 5, _ => rfl
  | 6, _ => rfl
  | 7, _ => rfl
  | 8, _ => rfl
  | 9, _ => rfl
  | 10, _ => rfl
  | 11, _ => rfl
  | 12, _ => rfl
  | 13, _ => rfl
  | 14, _ => rfl
  | 15, _ => rfl
  | 16, _ => rfl
  | 17, _ => rfl
  | q + 18, hj => exact absurd hj (by omega))
theorem hH_up3 {v_co : Nat → Int32} : hup (hH h p T) (p + 3) (ints 12 v_co) = hH h p (T.1, v_co, T.2.2.1, T.2.2.2.1, T.2.2.2.2.1, T.2.2.2.2.2.1, T.2.2.2.2.2.2.1, T.2.2.2.2.2.2.2.1, T.2.2.2.2.2.2.2.2.1, T.2.2.2.2.2.2.2.2.2.1, T.2.2.2.2.2.2.2.2.2.2.1, T.2.2.2.2.2.2.2.2.2.2.2.1, T.2.2.2.2.2.2.2.2.2.2.2.2.1, T.2.2.2.2.2.2.2.2.2.2.2.2.2.1, T.2.2.2.2.2.2.2.2.2.2.2.2.2.2.1, T.2.2.2.2.2.2.2.2.2.2.2.2.2.2.2.1, T.2.2.2.2.2.2.2.2.2.2.2.2.2.2.2.2.1, T.2.2.2.2.2.2.2.2.2.2.2.2.2.2.2.2.2.1, T.2.2.2.2.2.2.2.2.2.2.2.2.2.2.2.2.2.2) := hH_up (k := 3) (by decide) rfl (fun j hj h0 => by
  match j, hj with
  | 0, _ => rfl
  | 1, _ => rfl
  | 2, _ => rfl
  | 3, _ => exact absurd rfl h0
  | 4, _ => rfl
  | 5, _ => rfl
  | 6, _ => rfl
  | 7, _ => rfl
  | 8, _ => rfl
  | 9, _ => rfl
  | 10, _ => rfl
  | 11, _ => rfl
  | 12, _ => rfl
  | 13, _ => rfl
  | 14, _ => rfl
  | 15, _ => rfl
  | 16, _ => rfl
  | 17, _ => rfl
  | q + 18, hj => exact absurd hj (by omega))
theorem hH_up5 {v_re : Nat → Int32} : hup (hH h p T) (p + 5) (ints 12 v_re) = hH h p (T.1, T.2.1, v_re, T.2.2.2.1, T.2.2.2.2.1, T.2.2.2.2.2.1, T.2.2.2.2.2.2.1, T.2.2.2.2.2.2.2.1, T.2.2.2.2.2.2.2.2.1, T.2.2.2.2.2.2.2.2.2.1, T.2.2.2.2.2.2.2.2.2.2.1, T.2.2.2.2.2.2.2.2.2.2.2.1, T.2.2.2.2.2.2.2.2.2.2.2.2.1, T.2.2.2.2.2.2.2.2.2.2.2.2.2.1, T.2.2.2.2.2.2.2.2.2.2.2.2.2.2.1, T.2.2.2.2.2.2.2.2.2.2.2.2.2.2.2.1, T.2.2.2.2.2.2.2.2.2.2.2.2.2.2.2.2.1, T.2.2.2.2.2.2.2.2.2.2.2.2.2.2.2.2.2.1, T.2.2.2.2.2.2.2.2.2.2.2.2.2.2.2.2.2.2) := hH_up (k := 5) (by decide) rfl (fun j hj h0 => by
  match j, hj with
  | 0, _ => rfl
  | 1, _ => rfl
  | 2, _ => rfl
  | 3, _ => rfl
  | 4, _ => rfl
  | 5, _ => exact absurd rfl h0
  | 6, _ => rfl
  | 7, _ => rfl
  | 8, _ => rfl
  | 9, _ => rfl
  | 10, _ => rfl
  | 11, _ => rfl
  | 12, _ => rfl
  | 13, _ => rfl
  | 14, _ => rfl
  | 15, _ => rfl
  | 16, _ => rfl
  | 17, _ => rfl
  | q + 18, hj => exact absurd hj (by omega))
theorem hH_up7 {v_ev : Nat → Int32} : hup (hH h p T) (p + 7) (ints 12 v_ev) = hH h p (T.1, T.2.1, T.2.2.1, v_ev, T.2.2.2.2.1, T.2.2.2.2.2.1, T.2.2.2.2.2.2.1, T.2.2.2.2.2.2.2.1, T.2.2.2.2.2.2.2.2.1, T.2.2.2.2.2.2.2.2.2.1, T.2.2.2.2.2.2.2.2.2.2.1, T.2.2.2.2.2.2.2.2.2.2.2.1, T.2.2.2.2.2.2.2.2.2.2.2.2.1, T.2.2.2.2.2.2.2.2.2.2.2.2.2.1, T.2.2.2.2.2.2.2.2.2.2.2.2.2.2.1, T.2.2.2.2.2.2.2.2.2.2.2.2.2.2.2.1, T.2.2.2.2.2.2.2.2.2.2.2.2.2.2.2.2.1, T.2.2.2.2.2.2.2.2.2.2.2.2.2.2.2.2.2.1, T.2.2.2.2.2.2.2.2.2.2.2.2.2.2.2.2.2.2) := hH_up (k := 7) (by decide) rfl (fun j hj h0 => by
  match j, hj with
  | 0, _ => rfl
  | 1, _ => rfl
  | 2, _ => rfl
  | 3, _ => rfl
  | 4, _ => rfl
  | 5, _ => rfl
  | 6, _ => rfl
  | 7, _ => exact absurd rfl h0
  | 8, _ => rfl
  | 9, _ => rfl
  | 10, _ => rfl
  | 11, _ => rfl
  | 12, _ => rfl
  | 13, _ => rfl
  | 14, _ => rfl
  | 15, _ => rfl
  | 16, _ => rfl
  | 17, _ => rfl
  | q + 18, hj => exact absurd hj (by omega))
theorem hH_up9 {v_so : Nat → Int32} : hup (hH h p T) (p + 9) (ints 12 v_so) = hH h p (T.1, T.2.1, T.2.2.1, T.2.2.2.1, v_so, T.2.2.2.2.2.1, T.2.2.2.2.2.2.1, T.2.2.2.2.2.2.2.1, T.2.2.2.2.2.2.2.2.1, T.2.2.2.2.2.2.2.2.2.1, T.2.2.2.2.2.2.2.2.2.2.1, T.2.2.2.2.2.2.2.2.2.2.2.1, T.2.2.2.2.2.2.2.2.2.2.2.2.1, T.2.2.2.2.2.2.2.2.2.2.2.2.2.1, T.2.2.2.2.2.2.2.2.2.2.2.2.2.2.1, T.2.2.2.2.2.2.2.2.2.2.2.2.2.2.2.1, T.2.2.2.2.2.2.2.2.2.2.2.2.2.2.2.2.1, T.2.2.2.2.2.2.2.2.2.2.2.2.2.2.2.2.2.1, T.2.2.2.2.2.2.2.2.2.2.2.2.2.2.2.2.2.2) := hH_up (k := 9) (by decide) rfl (fun j hj h0 => by
  match j, hj with
  | 0, _ => rfl
  | 1, _ => rfl
  | 2, _ => rfl
  | 3, _ => rfl
  | 4, _ => rfl
  | 5, _ => rfl
  | 6, _ => rfl
  | 7, _ => rfl
  | 8, _ => rfl
  | 9, _ => exact absurd rfl h0
  | 10, _ => rfl
  | 11, _ => rfl
  | 12, _ => rfl
  | 13, _ => rfl
  | 14, _ => rfl
  | 15, _ => rfl
  | 16, _ => rfl
  | 17, _ => rfl
  | q + 18, hj => exact absurd hj (by omega))
theorem hH_up11 {v_lo : Nat → Int32} : hup (hH h p T) (p + 11) (ints 24 v_lo) = hH h p (T.1, T.2.1, T.2.2.1, T.2.2.2.1, T.2.2.2.2.1, v_lo, T.2.2.2.2.2.2.1, T.2.2.2.2.2.2.2.1, T.2.2.2.2.2.2.2.2.1, T.2.2.2.2.2.2.2.2.2.1, T.2.2.2.2.2.2.2.2.2.2.1, T.2.2.2.2.2.2.2.2.2.2.2.1, T.2.2.2.2.2.2.2.2.2.2.2.2.1, T.2.2.2.2.2.2.2.2.2.2.2.2.2.1, T.2.2.2.2.2.2.2.2.2.2.2.2.2.2.1, T.2.2.2.2.2.2.2.2.2.2.2.2.2.2.2.1, T.2.2.2.2.2.2.2.2.2.2.2.2.2.2.2.2.1, T.2.2.2.2.2.2.2.2.2.2.2.2.2.2.2.2.2.1, T.2.2.2.2.2.2.2.2.2.2.2.2.2.2.2.2.2.2) := hH_up (k := 11) (by decide) rfl (fun j hj h0 => by
  match j, hj with
  | 0, _ => rfl
  | 1, _ => rfl
  | 2, _ => rfl
  | 3, _ => rfl
  | 4, _ => rfl
  | 5, _ => rfl
  | 6, _ => rfl
  | 7, _ => rfl
  | 8, _ => rfl
  | 9, _ => rfl
  | 10, _ => rfl
  | 11, _ => exact absurd rfl h0
  | 12, _ => rfl
  | 13, _ => rfl
  | 14, _ => rfl
  | 15, _ => rfl
  | 16, _ => rfl
  | 17, _ => rfl
  | q + 18, hj => exact absurd hj (by omega))
theorem hH_up13 {v_hi : Nat → Int32} : hup (hH h p T) (p + 13) (ints 24 v_hi) = hH h p (T.1, T.2.1, T.2.2.1, T.2.2.2.1, T.2.2.2.2.1, T.2.2.2.2.2.1, v_hi, T.2.2.2.2.2.2.2.1, T.2.2.2.2.2.2.2.2.1, T.2.2.2.2.2.2.2.2.2.1, T.2.2.2.2.2.2.2.2.2.2.1, T.2.2.2.2.2.2.2.2.2.2.2.1, T.2.2.2.2.2.2.2.2.2.2.2.2.1, T.2.2.2.2.2.2.2.2.2.2.2.2.2.1, T.2.2.2.2.2.2.2.2.2.2.2.2.2.2.1, T.2.2.2.2.2.2.2.2.2.2.2.2.2.2.2.1, T.2.2.2.2.2.2.2.2.2.2.2.2.2.2.2.2.1, T.2.2.2.2.2.2.2.2.2.2.2.2.2.2.2.2.2.1, T.2.2.2.2.2.2.2.2.2.2.2.2.2.2.2.2.2.2) := hH_up (k := 13) (by decide) rfl (fun j hj h0 => by
  match j, hj with
  | 0, _ => rfl
  | 1, _ => rfl
  | 2, _ => rfl
  | 3, _ => rfl
  | 4, _ => rfl
  | 5, _ => rfl
  | 6, _ => rfl
  | 7, _ => rfl
  | 8, _ => rfl
  | 9, _ => rfl
  | 10, _ => rfl
  | 11, _ => rfl
  | 12, _ => rfl
  | 13, _ => exact absurd rfl h0
  | 14, _ => rfl
  | 15, _ => rfl
  | 16, _ => rfl
  | 17, _ => rfl
  | q + 18, hj => exact absurd hj (by omega))
theorem hH_up15 {v_no : Nat → Int32} : hup (hH h p T) (p + 15) (ints 24 v_no) = hH h p (T.1, T.2.1, T.2.2.1, T.2.2.2.1, T.2.2.2.2.1, T.2.2.2.2.2.1, T.2.2.2.2.2.2.1, v_no, T.2.2.2.2.2.2.2.2.1, T.2.2.2.2.2.2.2.2.2.1, T.2.2.2.2.2.2.2.2.2.2.1, T.2.2.2.2.2.2.2.2.2.2.2.1, T.2.2.2.2.2.2.2.2.2.2.2.2.1, T.2.2.2.2.2.2.2.2.2.2.2.2.2.1, T.2.2.2.2.2.2.2.2.2.2.2.2.2.2.1, T.2.2.2.2.2.2.2.2.2.2.2.2.2.2.2.1, T.2.2.2.2.2.2.2.2.2.2.2.2.2.2.2.2.1, T.2.2.2.2.2.2.2.2.2.2.2.2.2.2.2.2.2.1, T.2.2.2.2.2.2.2.2.2.2.2.2.2.2.2.2.2.2) := hH_up (k := 15) (by decide) rfl (fun j hj h0 => by
  match j, hj with
  | 0, _ => rfl
  | 1, _ => rfl
  | 2, _ => rfl
  | 3, _ => rfl
  | 4, _ => rfl
  | 5, _ => rfl
  | 6, _ => rfl
  | 7, _ => rfl
  | 8, _ => rfl
  | 9, _ => rfl
  | 10, _ => rfl
  | 11, _ => rfl
  | 12, _ => rfl
  | 13, _ => rfl
  | 14, _ => rfl
  | 15, _ => exact absurd rfl h0
  | 16, _ => rfl
  | 17, _ => rfl
  | q + 18, hj => exact absurd hj (by omega))
theorem hH_up17 {v_se : Nat → Int32} : hup (hH h p T) (p + 17) (ints 6 v_se) = hH h p (T.1, T.2.1, T.2.2.1, T.2.2.2.1, T.2.2.2.2.1, T.2.2.2.2.2.1, T.2.2.2.2.2.2.1, T.2.2.2.2.2.2.2.1, v_se, T.2.2.2.2.2.2.2.2.2.1, T.2.2.2.2.2.2.2.2.2.2.1, T.2.2.2.2.2.2.2.2.2.2.2.1, T.2.2.2.2.2.2.2.2.2.2.2.2.1, T.2.2.2.2.2.2.2.2.2.2.2.2.2.1, T.2.2.2.2.2.2.2.2.2.2.2.2.2.2.1, T.2.2.2.2.2.2.2.2.2.2.2.2.2.2.2.1, T.2.2.2.2.2.2.2.2.2.2.2.2.2.2.2.2.1, T.2.2.2.2.2.2.2.2.2.2.2.2.2.2.2.2.2.1, T.2.2.2.2.2.2.2.2.2.2.2.2.2.2.2.2.2.2) := hH_up (k := 17) (by decide) rfl (fun j hj h0 => by
  match j, hj with
  | 0, _ => rfl
  | 1, _ => rfl
  | 2, _ => rfl
  | 3, _ => rfl
  | 4, _ => rfl
  | 5, _ => rfl
  | 6, _ => rfl
  | 7, _ => rfl
  | 8, _ => rfl
  | 9, _ => rfl
  | 10, _ => rfl
  | 11, _ => rfl
  | 12, _ => rfl
  | 13, _ => rfl
  | 14, _ => rfl
  | 15, _ => rfl
  | 16, _ => rfl
  | 17, _ => exact absurd rfl h0
  | q + 18, hj => exact absurd hj (by omega))
def HOK (T : HT) : Prop := T.2.2.2.2.2.2.2.2.2.1 ≤ 12 ∧ T.2.2.2.2.2.2.2.2.2.2.1 ≤ 24
theorem hH_inj {h2 : HM} (e : hH h p T = hH h2 p T2) (b : HOK T) (b2 : HOK T2) : T = T2 := by
  have c0 := congrFun e p
  rw [hH_0, hH_0] at c0
  have c1 := congrFun e (p + 1)
  rw [hH_1, hH_1] at c1
  have c3 := congrFun e (p + 3)
  rw [hH_3, hH_3] at c3
  have c5 := congrFun e (p + 5)
  rw [hH_5, hH_5] at c5
  have c7 := congrFun e (p + 7)
  rw [hH_7, hH_7] at c7
  have c9 := congrFun e (p + 9)
  rw [hH_9, hH_9] at c9
  have c11 := congrFun e (p + 11)
  rw [hH_11, hH_11] at c11
  have c13 := congrFun e (p + 13)
  rw [hH_13, hH_13] at c13
  have c15 := congrFun e (p + 15)
  rw [hH_15, hH_15] at c15
  have c17 := congrFun e (p + 17)
  rw [hH_17, hH_17] at c17
  obtain ⟨a_nm, a_co, a_re, a_ev, a_so, a_lo, a_hi, a_no, a_se, a_rc, a_dc, a_od, a_th, a_mi, a_po, a_gh, a_nn, a_gm, a_cs⟩ := T
  obtain ⟨b_nm, b_co, b_re, b_ev, b_so, b_lo, b_hi, b_no, b_se, b_rc, b_dc, b_od, b_th, b_mi, b_po, b_gh, b_nn, b_gm, b_cs⟩ := T2
  obtain ⟨u0, u1⟩ := b
  obtain ⟨w0, w1⟩ := b2
  simp only [Option.some.injEq, Sum.inl.injEq, Sum.inr.injEq, Prod.mk.injEq, List.cons.injEq, Value.int.injEq, Value.long.injEq, true_and, and_true] at c0 c1 c3 c5 c7 c9 c11 c13 c15 c17 u0 w0 u1 w1
  simp only [Prod.mk.injEq]
  obtain ⟨e_rc, e_dc, e_od, e_th, e_mi, e_po, e_gh, e_nn, e_gm, e_cs⟩ := c0
  exact ⟨c1, c3, c5, c7, c9, c11, c13, c15, c17, (nI_eq (by omega) (by omega)).mp e_rc, (nI_eq (by omega) (by omega)).mp e_dc, e_od, e_th, e_mi, e_po, e_gh, e_nn, e_gm, e_cs⟩
def HX (h : HM) (p : Nat) (P : HT → Prop) : Prop := ∃ h0 T, h = hH h0 p T ∧ HOK T ∧ P T
theorem HX_eq {P : HT → Prop} (hT : HOK T) : HX (hH h p T) p P = P T := by
  apply propext
  constructor
  · rintro ⟨h0, T', e, hT', hP⟩
    rw [hH_inj e hT hT']
    exact hP
  · intro hP
    exact ⟨h, T, rfl, hT, hP⟩
theorem HX_up {P : HT → Prop} {q : Nat} {e : AE} (hq : ¬ (p ≤ q ∧ q < p + 18)) (hx : HX h p P) : HX (hup h q e) p P := by
  obtain ⟨h0, T, rfl, hT, hP⟩ := hx
  refine ⟨hup h0 q e, T, ?_, hT, hP⟩
  funext x
  by_cases hy : x = q
  · subst hy; rw [hup_at, hH_out hq, hup_at]
  · rw [hup_nq hy]
    unfold hH
    split
    · rfl
    · rw [hup_nq hy]
theorem hH_hup {q : Nat} {e : AE} (hq : ¬ (p ≤ q ∧ q < p + 18)) : hH (hup h q e) p T = hup (hH h p T) q e := by
  funext x
  by_cases hy : x = q
  · subst hy; rw [hup_at, hH_out hq, hup_at]
  · rw [hup_nq hy]
    unfold hH
    split
    · rfl
    · rw [hup_nq hy]
end HL
