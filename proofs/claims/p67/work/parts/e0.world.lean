/-! e0: the world of the law: a layer over the row s (settings, counters, rooms from 12 by nine, doors from 120 by four) (by gen/e0.py) -/
def wRow (s : Nat → Int32) (i : Nat) : Nat → Int32 := fun j => if j < 7 then s (12 + 9 * i + 2 + j) else 0
def wDor (s : Nat → Int32) (i : Nat) : Nat → Int32 := fun j => if j < 4 then s (120 + 4 * i + j) else 0
def wSet (s : Nat → Int32) : Nat → Int32 := fun j => if j < 6 then s j else 0
def rfs (b : Nat) : Nat → Option Nat := fun i => some (b + i)
abbrev rows4 (n b : Nat) : AE := .inl (4, n, .inr (.inr (.inr (.inr (rfs b)))))
def cW (w : Nat) (s : Nat → Int32) (c : Int32) (k : Nat) : AE := if k = 0 then .inr (11, [.int (s 9), .int (s 10), .int (s 11), .int (s 7), .int (s 8), .int (s 6), .int c, .ref (w + 1), .ref (w + 2), .ref (w + 15), .ref (w + 40)]) else if k = 1 then ints 6 (wSet s) else if k = 2 then rows4 12 (w + 3) else if k < 15 then ints 7 (wRow s (k - 3)) else if k = 15 then rows4 24 (w + 16) else ints 4 (wDor s (k - 16))
def hW (h : HM) (w : Nat) (s : Nat → Int32) (c : Int32) : HM := fun x => if w ≤ x ∧ x < w + 40 then some (cW w s c (x - w)) else h x
def WX (h : HM) (w : Nat) (P : (Nat → Int32) → Int32 → Prop) : Prop := ∃ h0 s c, h = hW h0 w s c ∧ P s c
section HW
variable {h : HM} {w : Nat} {s t : Nat → Int32} {c d : Int32}
theorem hW_at {k : Nat} (hk : k < 40) : hW h w s c (w + k) = some (cW w s c k) := by
  unfold hW; rw [if_pos (by omega), Nat.add_sub_cancel_left]
theorem hW_out {x : Nat} (hx : ¬ (w ≤ x ∧ x < w + 40)) : hW h w s c x = h x := if_neg hx
theorem hW_0 : hW h w s c w = some (.inr (11, [.int (s 9), .int (s 10), .int (s 11), .int (s 7), .int (s 8), .int (s 6), .int c, .ref (w + 1), .ref (w + 2), .ref (w + 15), .ref (w + 40)])) := hW_at (k := 0) (by decide)
theorem hW_1 : hW h w s c (w + 1) = some (ints 6 (wSet s)) := hW_at (k := 1) (by decide)
theorem hW_2 : hW h w s c (w + 2) = some (rows4 12 (w + 3)) := hW_at (k := 2) (by decide)
theorem hW_15 : hW h w s c (w + 15) = some (rows4 24 (w + 16)) := hW_at (k := 15) (by decide)
theorem hW_r {k : Nat} (hk : k < 12) : hW h w s c (w + 3 + k) = some (ints 7 (wRow s k)) := by
  rw [Nat.add_assoc, hW_at (by omega)]
  unfold cW
  rw [if_neg (by omega), if_neg (by omega), if_neg (by omega), if_pos (by omega), Nat.add_sub_cancel_left]
theorem hW_d {k : Nat} (hk : k < 24) : hW h w s c (w + 16 + k) = some (ints 4 (wDor s k)) := by
  rw [Nat.add_assoc, hW_at (by omega)]
  unfold cW
  rw [if_neg (by omega), if_neg (by omega), if_neg (by omega), if_neg (by omega), if_neg (by omega), Nat.add_sub_cancel_left]
theorem hW_hW : hW (hW h w s c) w t d = hW h w t d := by
  funext x; unfold hW; split <;> rfl
theorem hW_hup {q : Nat} {e : AE} (hq : ¬ (w ≤ q ∧ q < w + 40)) : hW (hup h q e) w s c = hup (hW h w s c) q e := by
  funext x
  by_cases hy : x = q
  · subst hy; rw [hup_at, hW_out hq, hup_at]
  · rw [hup_nq hy]
    unfold hW
    split
    · rfl
    · rw [hup_nq hy]
/-- one cell of the layer changes -/
theorem hW_upg {k : Nat} {e : AE} (hk : k < 40) (h1 : cW w t d k = e) (h2 : ∀ j, j < 40 → j ≠ k → cW w t d j = cW w s c j) : hup (hW h w s c) (w + k) e = hW h w t d := by
  funext x
  by_cases hx : x = w + k
  · subst hx; rw [hup_at, hW_at hk, h1]
  · rw [hup_nq hx]
    by_cases hy : w ≤ x ∧ x < w + 40
    · obtain ⟨j, rfl⟩ : ∃ j, x = w + j := ⟨x - w, by omega⟩
      rw [hW_at (by omega), hW_at (by omega), h2 j (by omega) (by omega)]
    · rw [hW_out hy, hW_out hy]
theorem wRow_ne {i j : Nat} {v : Int32} (h : ¬ (12 + 9 * i + 2 ≤ j ∧ j < 12 + 9 * i + 9)) : wRow (upd s j v) i = wRow s i := by
  funext x; unfold wRow upd
  split
  · rw [if_neg (by omega)]
  · rfl
theorem wDor_ne {i j : Nat} {v : Int32} (h : ¬ (120 + 4 * i ≤ j ∧ j < 120 + 4 * i + 4)) : wDor (upd s j v) i = wDor s i := by
  funext x; unfold wDor upd
  split
  · rw [if_neg (by omega)]
  · rfl
theorem wSet_ne {j : Nat} {v : Int32} (h : 6 ≤ j) : wSet (upd s j v) = wSet s := by
  funext x; unfold wSet upd
  split
  · rw [if_neg (by omega)]
  · rfl
theorem wRow_at {i j : Nat} {v : Int32} (h : j < 7) : wRow (upd s (12 + 9 * i + 2 + j) v) i = upd (wRow s i) j v := by
  funext x; unfold wRow upd
  by_cases e : x = j
  · subst e; simp [h]
  · rw [if_neg e]
    by_cases hx : x < 7
    · simp only [if_pos hx]; rw [if_neg (by omega)]
    · simp only [if_neg hx]
theorem wDor_at {i j : Nat} {v : Int32} (h : j < 4) : wDor (upd s (120 + 4 * i + j) v) i = upd (wDor s i) j v := by
  funext x; unfold wDor upd
  by_cases e : x = j
  · subst e; simp [h]
  · rw [if_neg e]
    by_cases hx : x < 4
    · simp only [if_pos hx]; rw [if_neg (by omega)]
    · simp only [if_neg hx]
theorem wSet_at {j : Nat} {v : Int32} (h : j < 6) : wSet (upd s j v) = upd (wSet s) j v := by
  funext x; unfold wSet upd
  by_cases e : x = j
  · subst e; simp [h]
  · rw [if_neg e]
    by_cases hx : x < 6
    · simp only [if_pos hx, if_neg e]
    · simp only [if_neg hx, if_neg e]
theorem upd_o {f : Nat → Int32} {i j : Nat} {v : Int32} (h : j ≠ i) : upd f i v j = f j := if_neg h
/-- cells of the layer under a change of s at place j -/
theorem cW_ne {k j : Nat} {v : Int32} (h0 : k = 0 → c = d ∧ (j < 6 ∨ 12 ≤ j)) (h1 : k = 1 → 6 ≤ j) (h2 : 3 ≤ k → k < 15 → ¬ (12 + 9 * (k - 3) + 2 ≤ j ∧ j < 12 + 9 * (k - 3) + 9)) (h3 : 16 ≤ k → ¬ (120 + 4 * (k - 16) ≤ j ∧ j < 120 + 4 * (k - 16) + 4)) : cW w (upd s j v) d k = cW w s c k := by
  unfold cW
  split
  · rename_i e
    obtain ⟨rfl, hj⟩ := h0 e
    rw [upd_o (by omega), upd_o (by omega), upd_o (by omega), upd_o (by omega), upd_o (by omega), upd_o (by omega)]
  · split
    · rename_i e; rw [wSet_ne (h1 e)]
    · split
      · rfl
      · split
        · rw [wRow_ne (h2 (by omega) (by omega))]
        · split
          · rfl
          · rw [wDor_ne (h3 (by omega))]
theorem hW_upr {k j : Nat} {v : Int32} (hk : k < 12) (hj : j < 7) : hup (hW h w s c) (w + 3 + k) (ints 7 (upd (wRow s k) j v)) = hW h w (upd s (12 + 9 * k + 2 + j) v) c := by
  rw [Nat.add_assoc]
  refine hW_upg (by omega) ?_ (fun x hx hn => cW_ne (fun _ => ⟨rfl, by omega⟩) (fun _ => by omega) (fun _ _ => by omega) (fun _ => by omega))
  unfold cW
  rw [if_neg (by omega), if_neg (by omega), if_neg (by omega), if_pos (by omega), Nat.add_sub_cancel_left, wRow_at hj]
theorem hW_updg {k j : Nat} {v : Int32} (hk : k < 24) (hj : j < 4) : hup (hW h w s c) (w + 16 + k) (ints 4 (upd (wDor s k) j v)) = hW h w (upd s (120 + 4 * k + j) v) c := by
  rw [Nat.add_assoc]
  refine hW_upg (by omega) ?_ (fun x hx hn => cW_ne (fun _ => ⟨rfl, by omega⟩) (fun _ => by omega) (fun _ _ => by omega) (fun _ => by omega))
  unfold cW
  rw [if_neg (by omega), if_neg (by omega), if_neg (by omega), if_neg (by omega), if_neg (by omega), Nat.add_sub_cancel_left, wDor_at hj]
theorem hW_upsg {j : Nat} {v : Int32} (hj : j < 6) : hup (hW h w s c) (w + 1) (ints 6 (upd (wSet s) j v)) = hW h w (upd s j v) c := by
  refine hW_upg (by omega) ?_ (fun x hx hn => cW_ne (fun _ => ⟨rfl, by omega⟩) (fun _ => by omega) (fun _ _ => by omega) (fun _ => by omega))
  unfold cW
  rw [if_neg (by omega), if_pos rfl, wSet_at hj]
theorem cW_0c {k : Nat} (h : k ≠ 0) : cW w s d k = cW w s c k := by
  unfold cW; rw [if_neg h, if_neg h]
theorem wR_0 {k : Nat} : wRow s k 0 = s (12 + 9 * k + 2) := rfl
theorem hW_r0 {k : Nat} {v : Int32} (hk : k < 12) : hup (hW h w s c) (w + 3 + k) (ints 7 (upd (wRow s k) 0 v)) = hW h w (upd s (12 + 9 * k + 2) v) c := hW_upr hk (by decide)
theorem wR_1 {k : Nat} : wRow s k 1 = s (12 + 9 * k + 3) := rfl
theorem hW_r1 {k : Nat} {v : Int32} (hk : k < 12) : hup (hW h w s c) (w + 3 + k) (ints 7 (upd (wRow s k) 1 v)) = hW h w (upd s (12 + 9 * k + 3) v) c := hW_upr hk (by decide)
theorem wR_2 {k : Nat} : wRow s k 2 = s (12 + 9 * k + 4) := rfl
theorem hW_r2 {k : Nat} {v : Int32} (hk : k < 12) : hup (hW h w s c) (w + 3 + k) (ints 7 (upd (wRow s k) 2 v)) = hW h w (upd s (12 + 9 * k + 4) v) c := hW_upr hk (by decide)
theorem wR_3 {k : Nat} : wRow s k 3 = s (12 + 9 * k + 5) := rfl
theorem hW_r3 {k : Nat} {v : Int32} (hk : k < 12) : hup (hW h w s c) (w + 3 + k) (ints 7 (upd (wRow s k) 3 v)) = hW h w (upd s (12 + 9 * k + 5) v) c := hW_upr hk (by decide)
theorem wR_4 {k : Nat} : wRow s k 4 = s (12 + 9 * k + 6) := rfl
theorem hW_r4 {k : Nat} {v : Int32} (hk : k < 12) : hup (hW h w s c) (w + 3 + k) (ints 7 (upd (wRow s k) 4 v)) = hW h w (upd s (12 + 9 * k + 6) v) c := hW_upr hk (by decide)
theorem wR_5 {k : Nat} : wRow s k 5 = s (12 + 9 * k + 7) := rfl
theorem hW_r5 {k : Nat} {v : Int32} (hk : k < 12) : hup (hW h w s c) (w + 3 + k) (ints 7 (upd (wRow s k) 5 v)) = hW h w (upd s (12 + 9 * k + 7) v) c := hW_upr hk (by decide)
theorem wR_6 {k : Nat} : wRow s k 6 = s (12 + 9 * k + 8) := rfl
theorem hW_r6 {k : Nat} {v : Int32} (hk : k < 12) : hup (hW h w s c) (w + 3 + k) (ints 7 (upd (wRow s k) 6 v)) = hW h w (upd s (12 + 9 * k + 8) v) c := hW_upr hk (by decide)
theorem wD_0 {k : Nat} : wDor s k 0 = s (120 + 4 * k) := rfl
theorem hW_d0 {k : Nat} {v : Int32} (hk : k < 24) : hup (hW h w s c) (w + 16 + k) (ints 4 (upd (wDor s k) 0 v)) = hW h w (upd s (120 + 4 * k) v) c := hW_updg hk (by decide)
theorem wD_1 {k : Nat} : wDor s k 1 = s (120 + 4 * k + 1) := rfl
theorem hW_d1 {k : Nat} {v : Int32} (hk : k < 24) : hup (hW h w s c) (w + 16 + k) (ints 4 (upd (wDor s k) 1 v)) = hW h w (upd s (120 + 4 * k + 1) v) c := hW_updg hk (by decide)
theorem wD_2 {k : Nat} : wDor s k 2 = s (120 + 4 * k + 2) := rfl
theorem hW_d2 {k : Nat} {v : Int32} (hk : k < 24) : hup (hW h w s c) (w + 16 + k) (ints 4 (upd (wDor s k) 2 v)) = hW h w (upd s (120 + 4 * k + 2) v) c := hW_updg hk (by decide)
theorem wD_3 {k : Nat} : wDor s k 3 = s (120 + 4 * k + 3) := rfl
theorem hW_d3 {k : Nat} {v : Int32} (hk : k < 24) : hup (hW h w s c) (w + 16 + k) (ints 4 (upd (wDor s k) 3 v)) = hW h w (upd s (120 + 4 * k + 3) v) c := hW_updg hk (by decide)
theorem wS_0 : wSet s 0 = s 0 := rfl
theorem hW_s0 {v : Int32} : hup (hW h w s c) (w + 1) (ints 6 (upd (wSet s) 0 v)) = hW h w (upd s 0 v) c := hW_upsg (by decide)
theorem wS_1 : wSet s 1 = s 1 := rfl
theorem hW_s1 {v : Int32} : hup (hW h w s c) (w + 1) (ints 6 (upd (wSet s) 1 v)) = hW h w (upd s 1 v) c := hW_upsg (by decide)
theorem wS_2 : wSet s 2 = s 2 := rfl
theorem hW_s2 {v : Int32} : hup (hW h w s c) (w + 1) (ints 6 (upd (wSet s) 2 v)) = hW h w (upd s 2 v) c := hW_upsg (by decide)
theorem wS_3 : wSet s 3 = s 3 := rfl
theorem hW_s3 {v : Int32} : hup (hW h w s c) (w + 1) (ints 6 (upd (wSet s) 3 v)) = hW h w (upd s 3 v) c := hW_upsg (by decide)
theorem wS_4 : wSet s 4 = s 4 := rfl
theorem hW_s4 {v : Int32} : hup (hW h w s c) (w + 1) (ints 6 (upd (wSet s) 4 v)) = hW h w (upd s 4 v) c := hW_upsg (by decide)
theorem wS_5 : wSet s 5 = s 5 := rfl
theorem hW_s5 {v : Int32} : hup (hW h w s c) (w + 1) (ints 6 (upd (wSet s) 5 v)) = hW h w (upd s 5 v) c := hW_upsg (by decide)
theorem hW_f9 {v : Int32} : hup (hW h w s c) w (.inr (11, [.int v, .int (s 10), .int (s 11), .int (s 7), .int (s 8), .int (s 6), .int c, .ref (w + 1), .ref (w + 2), .ref (w + 15), .ref (w + 40)])) = hW h w (upd s 9 v) c := hW_upg (k := 0) (by decide) rfl (fun x hx hn => cW_ne (fun e => absurd e hn) (fun _ => by omega) (fun _ _ => by omega) (fun _ => by omega))
theorem hW_f10 {v : Int32} : hup (hW h w s c) w (.inr (11, [.int (s 9), .int v, .int (s 11), .int (s 7), .int (s 8), .int (s 6), .int c, .ref (w + 1), .ref (w + 2), .ref (w + 15), .ref (w + 40)])) = hW h w (upd s 10 v) c := hW_upg (k := 0) (by decide) rfl (fun x hx hn => cW_ne (fun e => absurd e hn) (fun _ => by omega) (fun _ _ => by omega) (fun _ => by omega))
theorem hW_f11 {v : Int32} : hup (hW h w s c) w (.inr (11, [.int (s 9), .int (s 10), .int v, .int (s 7), .int (s 8), .int (s 6), .int c, .ref (w + 1), .ref (w + 2), .ref (w + 15), .ref (w + 40)])) = hW h w (upd s 11 v) c := hW_upg (k := 0) (by decide) rfl (fun x hx hn => cW_ne (fun e => absurd e hn) (fun _ => by omega) (fun _ _ => by omega) (fun _ => by omega))
theorem hW_f7 {v : Int32} : hup (hW h w s c) w (.inr (11, [.int (s 9), .int (s 10), .int (s 11), .int v, .int (s 8), .int (s 6), .int c, .ref (w + 1), .ref (w + 2), .ref (w + 15), .ref (w + 40)])) = hW h w (upd s 7 v) c := hW_upg (k := 0) (by decide) rfl (fun x hx hn => cW_ne (fun e => absurd e hn) (fun _ => by omega) (fun _ _ => by omega) (fun _ => by omega))
theorem hW_f8 {v : Int32} : hup (hW h w s c) w (.inr (11, [.int (s 9), .int (s 10), .int (s 11), .int (s 7), .int v, .int (s 6), .int c, .ref (w + 1), .ref (w + 2), .ref (w + 15), .ref (w + 40)])) = hW h w (upd s 8 v) c := hW_upg (k := 0) (by decide) rfl (fun x hx hn => cW_ne (fun e => absurd e hn) (fun _ => by omega) (fun _ _ => by omega) (fun _ => by omega))
theorem hW_f6 {v : Int32} : hup (hW h w s c) w (.inr (11, [.int (s 9), .int (s 10), .int (s 11), .int (s 7), .int (s 8), .int v, .int c, .ref (w + 1), .ref (w + 2), .ref (w + 15), .ref (w + 40)])) = hW h w (upd s 6 v) c := hW_upg (k := 0) (by decide) rfl (fun x hx hn => cW_ne (fun e => absurd e hn) (fun _ => by omega) (fun _ _ => by omega) (fun _ => by omega))
theorem hW_fc {v : Int32} : hup (hW h w s c) w (.inr (11, [.int (s 9), .int (s 10), .int (s 11), .int (s 7), .int (s 8), .int (s 6), .int v, .ref (w + 1), .ref (w + 2), .ref (w + 15), .ref (w + 40)])) = hW h w s v := hW_upg (k := 0) (by decide) rfl (fun x hx hn => cW_0c hn)
theorem vv4_0 : vp_in 0 4 = True := q_vp (k := 0) (by decide) (by decide)
theorem vv4_1 : vp_in 1 4 = True := q_vp (k := 1) (by decide) (by decide)
theorem vv4_2 : vp_in 2 4 = True := q_vp (k := 2) (by decide) (by decide)
theorem vv4_3 : vp_in 3 4 = True := q_vp (k := 3) (by decide) (by decide)
theorem vv6_0 : vp_in 0 6 = True := q_vp (k := 0) (by decide) (by decide)
theorem vv6_1 : vp_in 1 6 = True := q_vp (k := 1) (by decide) (by decide)
theorem vv6_2 : vp_in 2 6 = True := q_vp (k := 2) (by decide) (by decide)
theorem vv6_3 : vp_in 3 6 = True := q_vp (k := 3) (by decide) (by decide)
theorem vv6_4 : vp_in 4 6 = True := q_vp (k := 4) (by decide) (by decide)
theorem vv6_5 : vp_in 5 6 = True := q_vp (k := 5) (by decide) (by decide)
theorem vv7_0 : vp_in 0 7 = True := q_vp (k := 0) (by decide) (by decide)
theorem vv7_1 : vp_in 1 7 = True := q_vp (k := 1) (by decide) (by decide)
theorem vv7_2 : vp_in 2 7 = True := q_vp (k := 2) (by decide) (by decide)
theorem vv7_3 : vp_in 3 7 = True := q_vp (k := 3) (by decide) (by decide)
theorem vv7_4 : vp_in 4 7 = True := q_vp (k := 4) (by decide) (by decide)
theorem vv7_5 : vp_in 5 7 = True := q_vp (k := 5) (by decide) (by decide)
theorem vv7_6 : vp_in 6 7 = True := q_vp (k := 6) (by decide) (by decide)
theorem vv12_0 : vp_in 0 12 = True := q_vp (k := 0) (by decide) (by decide)
theorem vv12_1 : vp_in 1 12 = True := q_vp (k := 1) (by decide) (by decide)
theorem vv24_0 : vp_in 0 24 = True := q_vp (k := 0) (by decide) (by decide)
theorem vv24_1 : vp_in 1 24 = True := q_vp (k := 1) (by decide) (by decide)
theorem vv13_0 : vp_in 0 13 = True := q_vp (k := 0) (by decide) (by decide)
theorem vv13_1 : vp_in 1 13 = True := q_vp (k := 1) (by decide) (by decide)
theorem vv3_0 : vp_in 0 3 = True := q_vp (k := 0) (by decide) (by decide)
theorem vv3_1 : vp_in 1 3 = True := q_vp (k := 1) (by decide) (by decide)
theorem vv3_2 : vp_in 2 3 = True := q_vp (k := 2) (by decide) (by decide)
theorem vv5_0 : vp_in 0 5 = True := q_vp (k := 0) (by decide) (by decide)
theorem vv5_1 : vp_in 1 5 = True := q_vp (k := 1) (by decide) (by decide)
theorem vv5_2 : vp_in 2 5 = True := q_vp (k := 2) (by decide) (by decide)
theorem vv5_3 : vp_in 3 5 = True := q_vp (k := 3) (by decide) (by decide)
theorem vv5_4 : vp_in 4 5 = True := q_vp (k := 4) (by decide) (by decide)
theorem cl_0 : Int32.toNatClampNeg 0 = 0 := by decide
theorem cl_1 : Int32.toNatClampNeg 1 = 1 := by decide
theorem cl_2 : Int32.toNatClampNeg 2 = 2 := by decide
theorem cl_3 : Int32.toNatClampNeg 3 = 3 := by decide
theorem cl_4 : Int32.toNatClampNeg 4 = 4 := by decide
theorem cl_5 : Int32.toNatClampNeg 5 = 5 := by decide
theorem cl_6 : Int32.toNatClampNeg 6 = 6 := by decide
end HW
theorem rfs_at {b i : Nat} : va_rf (rfs b i) = .ref (b + i) := rfl
/-- a state's heap knows that what it holds lies below the next cell -/
theorem EX.below {G : GG} {i pc : Nat} {L : List (Nat × Value)} {st : List Value} {h : HM} {z k n : Nat} {Q : XQ} (hx : (∀ a e, h a = some e → a < z) → EX G i pc L st h (some z) k n Q) : EX G i pc L st h (some z) k n Q := by
  intro p l e s m args below meth c H locs ls C hl hR hS
  refine hx (fun a e ha => ?_) p l e s m args below meth c H locs ls C hl hR hS
  have h1 := hR.1 z rfl
  have h2 := (hR.2.2 a e ha).2
  have h3 := h2.lt
  dsimp only at h3
  omega
/-- a heap that says less -/
theorem EX.less {G : GG} {i pc : Nat} {L : List (Nat × Value)} {st : List Value} {h h2 : HM} {o : Option Nat} {k n : Nat} {Q : XQ} (hs : ∀ a e, h2 a = some e → h a = some e) (hx : EX G i pc L st h2 o k n Q) : EX G i pc L st h o k n Q := by
  intro p l e s m args below meth c H locs ls C hl hR hS
  exact hx p l e s m args below meth c H locs ls C hl ⟨hR.1, hR.2.1, fun a e ha => hR.2.2 a e (hs a e ha)⟩ hS
theorem EX.drop {G : GG} {i pc : Nat} {L : List (Nat × Value)} {st : List Value} {h : HM} {o : Option Nat} {k n z : Nat} {e : AE} {Q : XQ} (hz : h z = none) (hx : EX G i pc L st h o k n Q) : EX G i pc L st (hup h z e) o k n Q := EX.less (fun a e' ha => by
  by_cases c : a = z
  · subst c; rw [hz] at ha; cases ha
  · rw [hup_nq c]; exact ha) hx
