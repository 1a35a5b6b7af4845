/-! 63: the layer of the class: its whole graph of objects, from z on -/
abbrev KT : Type := (Int32) × (Int32) × (HT) × (HT) × (Int32) × (Int32) × (Int32) × (Int32) × (Int32) × (Int32) × (Nat → Int32) × (Int32) × (Int32) × (Int32) × (Int32) × (Int64) × (Int32) × (Int32) × (Int32) × (HT) × (Int32) × (Int32) × (Nat → HT) × (Nat → Int32) × (Nat → Int32) × (Int32) × (Int32) × (Int32) × (Int32) × (Nat → Int32) × (Nat → Int32) × (Nat → Int32) × (Nat → Int32) × (Nat → Int32)
def slF (z : Nat) (i : Nat) : Option Nat := if i < 7 then some (z + 63 + 18 * i) else none
def cG1 (z : Nat) (T : KT) (k : Nat) : AE := match k with
  | 0 => .inr (5, [.int (T.2.2.2.2.1), .int (T.2.2.2.2.2.1), .int (T.2.2.2.2.2.2.1), .int (T.2.2.2.2.2.2.2.1), .int (T.2.2.2.2.2.2.2.2.1)])
  | 1 => .inr (0, [.ref (z + 1), .ref (z + 37)])
  | 2 => .inr (4, [.ref (z + 40), .int (T.2.2.2.2.2.2.2.2.2.1)])
  | 3 => .inr (7, [.ref (z + 41)])
  | 4 => ints 600 (T.2.2.2.2.2.2.2.2.2.2.1)
  | _ => .inr (9, [.ref (z + 39), .int (T.2.2.2.2.2.2.2.2.2.2.2.1), .int (T.2.2.2.2.2.2.2.2.2.2.2.2.1), .int (T.2.2.2.2.2.2.2.2.2.2.2.2.2.1), .int (T.2.2.2.2.2.2.2.2.2.2.2.2.2.2.1), .long (T.2.2.2.2.2.2.2.2.2.2.2.2.2.2.2.1), .int (T.2.2.2.2.2.2.2.2.2.2.2.2.2.2.2.2.1), .int (T.2.2.2.2.2.2.2.2.2.2.2.2.2.2.2.2.2.1), .int (T.2.2.2.2.2.2.2.2.2.2.2.2.2.2.2.2.2.2.1)])
def cG2 (z : Nat) (T : KT) (k : Nat) : AE := match k with
  | 0 => .inr (2, [.ref (z + 62), .int (T.2.2.2.2.2.2.2.2.2.2.2.2.2.2.2.2.2.2.2.2.1), .int (T.2.2.2.2.2.2.2.2.2.2.2.2.2.2.2.2.2.2.2.2.2.1)])
  | _ => .inl (2, 7, .inr (.inr (.inr (.inr (slF z)))))
def cG3 (z : Nat) (T : KT) (k : Nat) : AE := match k with
  | 0 => .inr (6, [.ref (z + 190)])
  | 1 => .inr (7, [.ref (z + 191)])
  | 2 => ints 144 (T.2.2.2.2.2.2.2.2.2.2.2.2.2.2.2.2.2.2.2.2.2.2.2.1)
  | 3 => .inr (6, [.ref (z + 193)])
  | 4 => .inr (7, [.ref (z + 194)])
  | 5 => ints 144 (T.2.2.2.2.2.2.2.2.2.2.2.2.2.2.2.2.2.2.2.2.2.2.2.2.1)
  | 6 => .inr (1, [.ref (z + 42), .ref (z + 19), .ref (z + 37)])
  | 7 => .inr (8, [.ref (z + 42), .ref (z + 1), .ref (z + 38), .ref (z + 197), .ref (z + 199), .ref (z + 201), .ref (z + 203), .int (T.2.2.2.2.2.2.2.2.2.2.2.2.2.2.2.2.2.2.2.2.2.2.2.2.2.1), .int (T.2.2.2.2.2.2.2.2.2.2.2.2.2.2.2.2.2.2.2.2.2.2.2.2.2.2.1), .int (T.2.2.2.2.2.2.2.2.2.2.2.2.2.2.2.2.2.2.2.2.2.2.2.2.2.2.2.1), .int (T.2.2.2.2.2.2.2.2.2.2.2.2.2.2.2.2.2.2.2.2.2.2.2.2.2.2.2.2.1)])
  | 8 => .inr (7, [.ref (z + 198)])
  | 9 => ints 60 (T.2.2.2.2.2.2.2.2.2.2.2.2.2.2.2.2.2.2.2.2.2.2.2.2.2.2.2.2.2.1)
  | 10 => .inr (7, [.ref (z + 200)])
  | 11 => ints 60 (T.2.2.2.2.2.2.2.2.2.2.2.2.2.2.2.2.2.2.2.2.2.2.2.2.2.2.2.2.2.2.1)
  | 12 => .inr (7, [.ref (z + 202)])
  | 13 => ints 60 (T.2.2.2.2.2.2.2.2.2.2.2.2.2.2.2.2.2.2.2.2.2.2.2.2.2.2.2.2.2.2.2.1)
  | 14 => .inr (7, [.ref (z + 204)])
  | 15 => ints 60 (T.2.2.2.2.2.2.2.2.2.2.2.2.2.2.2.2.2.2.2.2.2.2.2.2.2.2.2.2.2.2.2.2.1)
  | 16 => .inr (7, [.ref (z + 206)])
  | _ => ints 192 (T.2.2.2.2.2.2.2.2.2.2.2.2.2.2.2.2.2.2.2.2.2.2.2.2.2.2.2.2.2.2.2.2.2)
def cG (z : Nat) (T : KT) (k : Nat) : AE := if k < 1 then .inr (10, [.ref (z + 1), .ref (z + 19), .ref (z + 43), .int (T.1), .ref (z + 37), .ref (z + 38), .ref (z + 61), .ref (z + 189), .ref (z + 192), .ref (z + 39), .ref (z + 42), .ref (z + 195), .ref (z + 196), .ref (z + 205), .int (T.2.1)]) else if k < 19 then cH (z + 1) T.2.2.1 (k - 1) else if k < 37 then cH (z + 19) T.2.2.2.1 (k - 19) else if k < 43 then cG1 z T (k - 37) else if k < 61 then cH (z + 43) T.2.2.2.2.2.2.2.2.2.2.2.2.2.2.2.2.2.2.2.1 (k - 43) else if k < 63 then cG2 z T (k - 61) else if k < 189 then cH (z + 63 + 18 * ((k - 63) / 18)) (T.2.2.2.2.2.2.2.2.2.2.2.2.2.2.2.2.2.2.2.2.2.2.1 ((k - 63) / 18)) ((k - 63) % 18) else cG3 z T (k - 189)
def hG (h : HM) (z : Nat) (T : KT) : HM := fun x => if z ≤ x ∧ x < z + 207 then some (cG z T (x - z)) else h x
section GL
variable {h : HM} {z : Nat} {T T2 : KT}
theorem hG_at {k : Nat} (hk : k < 207) : hG h z T (z + k) = some (cG z T k) := by
  unfold hG; rw [if_pos (by omega), Nat.add_sub_cancel_left]
theorem hG_out {x : Nat} (hx : ¬ (z ≤ x ∧ x < z + 207)) : hG h z T x = h x := if_neg hx
theorem hG_hG : hG (hG h z T) z T2 = hG h z T2 := by
  funext x; unfold hG; split <;> rfl
theorem hG_up {k : Nat} {e : AE} (hk : k < 207) (h1 : cG z T2 k = e) (h2 : ∀ j, j < 207 → j ≠ k → cG z T2 j = cG z T j) : hup (hG h z T) (z + k) e = hG h z T2 := by
  funext x
  by_cases hx : x = z + k
  · subst hx; rw [hup_at, hG_at hk, h1]
  · rw [hup_nq hx]
    by_cases hy : z ≤ x ∧ x < z + 207
    · obtain ⟨j, rfl⟩ : ∃ j, x = z + j := ⟨x - z, by omega⟩
      rw [hG_at (by omega), hG_at (by omega), h2 j (by omega) (by omega)]
    · rw [hG_out hy, hG_out hy]
/-- another block of cells in its place -/
theorem hG_blk {a n : Nat} {f : Nat → AE} (han : a + n ≤ 207) (h1 : ∀ j, j < n → cG z T2 (a + j) = f j) (h2 : ∀ j, j < 207 → ¬ (a ≤ j ∧ j < a + n) → cG z T2 j = cG z T j) : (fun x => if z + a ≤ x ∧ x < z + a + n then some (f (x - (z + a))) else hG h z T x) = hG h z T2 := by
  funext x
  by_cases hx : z + a ≤ x ∧ x < z + a + n
  · rw [if_pos hx]
    obtain ⟨j, rfl⟩ : ∃ j, x = z + (a + j) := ⟨x - (z + a), by omega⟩
    rw [hG_at (by omega), h1 j (by omega)]
    congr 2
    omega
  · rw [if_neg hx]
    by_cases hy : z ≤ x ∧ x < z + 207
    · obtain ⟨j, rfl⟩ : ∃ j, x = z + j := ⟨x - z, by omega⟩
      rw [hG_at (by omega), hG_at (by omega), h2 j (by omega) (by omega)]
    · rw [hG_out hy, hG_out hy]
theorem hG_0 : hG h z T z = some (.inr (10, [.ref (z + 1), .ref (z + 19), .ref (z + 43), .int (T.1), .ref (z + 37), .ref (z + 38), .ref (z + 61), .ref (z + 189), .ref (z + 192), .ref (z + 39), .ref (z + 42), .ref (z + 195), .ref (z + 196), .ref (z + 205), .int (T.2.1)])) := hG_at (k := 0) (by decide)
theorem hG_37 : hG h z T (z + 37) = some (.inr (5, [.int (T.2.2.2.2.1), .int (T.2.2.2.2.2.1), .int (T.2.2.2.2.2.2.1), .int (T.2.2.2.2.2.2.2.1), .int (T.2.2.2.2.2.2.2.2.1)])) := hG_at (k := 37) (by decide)
theorem hG_38 : hG h z T (z + 38) = some (.inr (0, [.ref (z + 1), .ref (z + 37)])) := hG_at (k := 38) (by decide)
theorem hG_39 : hG h z T (z + 39) = some (.inr (4, [.ref (z + 40), .int (T.2.2.2.2.2.2.2.2.2.1)])) := hG_at (k := 39) (by decide)
theorem hG_40 : hG h z T (z + 40) = some (.inr (7, [.ref (z + 41)])) := hG_at (k := 40) (by decide)
theorem hG_41 : hG h z T (z + 41) = some (ints 600 (T.2.2.2.2.2.2.2.2.2.2.1)) := hG_at (k := 41) (by decide)
theorem hG_42 : hG h z T (z + 42) = some (.inr (9, [.ref (z + 39), .int (T.2.2.2.2.2.2.2.2.2.2.2.1), .int (T.2.2.2.2.2.2.2.2.2.2.2.2.1), .int (T.2.2.2.2.2.2.2.2.2.2.2.2.2.1), .int (T.2.2.2.2.2.2.2.2.2.2.2.2.2.2.1), .long (T.2.2.2.2.2.2.2.2.2.2.2.2.2.2.2.1), .int (T.2.2.2.2.2.2.2.2.2.2.2.2.2.2.2.2.1), .int (T.2.2.2.2.2.2.2.2.2.2.2.2.2.2.2.2.2.1), .int (T.2.2.2.2.2.2.2.2.2.2.2.2.2.2.2.2.2.2.1)])) := hG_at (k := 42) (by decide)
theorem hG_61 : hG h z T (z + 61) = some (.inr (2, [.ref (z + 62), .int (T.2.2.2.2.2.2.2.2.2.2.2.2.2.2.2.2.2.2.2.2.1), .int (T.2.2.2.2.2.2.2.2.2.2.2.2.2.2.2.2.2.2.2.2.2.1)])) := hG_at (k := 61) (by decide)
theorem hG_62 : hG h z T (z + 62) = some (.inl (2, 7, .inr (.inr (.inr (.inr (slF z)))))) := hG_at (k := 62) (by decide)
theorem hG_189 : hG h z T (z + 189) = some (.inr (6, [.ref (z + 190)])) := hG_at (k := 189) (by decide)
theorem hG_190 : hG h z T (z + 190) = some (.inr (7, [.ref (z + 191)])) := hG_at (k := 190) (by decide)
theorem hG_191 : hG h z T (z + 191) = some (ints 144 (T.2.2.2.2.2.2.2.2.2.2.2.2.2.2.2.2.2.2.2.2.2.2.2.1)) := hG_at (k := 191) (by decide)
theorem hG_192 : hG h z T (z + 192) = some (.inr (6, [.ref (z + 193)])) := hG_at (k := 192) (by decide)
theorem hG_193 : hG h z T (z + 193) = some (.inr (7, [.ref (z + 194)])) := hG_at (k := 193) (by decide)
theorem hG_194 : hG h z T (z + 194) = some (ints 144 (T.2.2.2.2.2.2.2.2.2.2.2.2.2.2.2.2.2.2.2.2.2.2.2.2.1)) := hG_at (k := 194) (by decide)
theorem hG_195 : hG h z T (z + 195) = some (.inr (1, [.ref (z + 42), .ref (z + 19), .ref (z + 37)])) := hG_at (k := 195) (by decide)
theorem hG_196 : hG h z T (z + 196) = some (.inr (8, [.ref (z + 42), .ref (z + 1), .ref (z + 38), .ref (z + 197), .ref (z + 199), .ref (z + 201), .ref (z + 203), .int (T.2.2.2.2.2.2.2.2.2.2.2.2.2.2.2.2.2.2.2.2.2.2.2.2.2.1), .int (T.2.2.2.2.2.2.2.2.2.2.2.2.2.2.2.2.2.2.2.2.2.2.2.2.2.2.1), .int (T.2.2.2.2.2.2.2.2.2.2.2.2.2.2.2.2.2.2.2.2.2.2.2.2.2.2.2.1), .int (T.2.2.2.2.2.2.2.2.2.2.2.2.2.2.2.2.2.2.2.2.2.2.2.2.2.2.2.2.1)])) := hG_at (k := 196) (by decide)
theorem hG_197 : hG h z T (z + 197) = some (.inr (7, [.ref (z + 198)])) := hG_at (k := 197) (by decide)
theorem hG_198 : hG h z T (z + 198) = some (ints 60 (T.2.2.2.2.2.2.2.2.2.2.2.2.2.2.2.2.2.2.2.2.2.2.2.2.2.2.2.2.2.1)) := hG_at (k := 198) (by decide)
theorem hG_199 : hG h z T (z + 199) = some (.inr (7, [.ref (z + 200)])) := hG_at (k := 199) (by decide)
theorem hG_200 : hG h z T (z + 200) = some (ints 60 (T.2.2.2.2.2.2.2.2.2.2.2.2.2.2.2.2.2.2.2.2.2.2.2.2.2.2.2.2.2.2.1)) := hG_at (k := 200) (by decide)
theorem hG_201 : hG h z T (z + 201) = some (.inr (7, [.ref (z + 202)])) := hG_at (k := 201) (by decide)
theorem hG_202 : hG h z T (z + 202) = some (ints 60 (T.2.2.2.2.2.2.2.2.2.2.2.2.2.2.2.2.2.2.2.2.2.2.2.2.2.2.2.2.2.2.2.1)) := hG_at (k := 202) (by decide)
theorem hG_203 : hG h z T (z + 203) = some (.inr (7, [.ref (z + 204)])) := hG_at (k := 203) (by decide)
theorem hG_204 : hG h z T (z + 204) = some (ints 60 (T.2.2.2.2.2.2.2.2.2.2.2.2.2.2.2.2.2.2.2.2.2.2.2.2.2.2.2.2.2.2.2.2.1)) := hG_at (k := 204) (by decide)
theorem hG_205 : hG h z T (z + 205) = some (.inr (7, [.ref (z + 206)])) := hG_at (k := 205) (by decide)
theorem hG_206 : hG h z T (z + 206) = some (ints 192 (T.2.2.2.2.2.2.2.2.2.2.2.2.2.2.2.2.2.2.2.2.2.2.2.2.2.2.2.2.2.2.2.2.2)) := hG_at (k := 206) (by decide)
theorem hG_up0 {v_kss : Int32} {v_kol : Int32} : hup (hG h z T) z (.inr (10, [.ref (z + 1), .ref (z + 19), .ref (z + 43), .int v_kss, .ref (z + 37), .ref (z + 38), .ref (z + 61), .ref (z + 189), .ref (z + 192), .ref (z + 39), .ref (z + 42), .ref (z + 195), .ref (z + 196), .ref (z + 205), .int v_kol])) = hG h z (v_kss, v_kol, T.2.2.1, T.2.2.2.1, T.2.2.2.2.1, T.2.2.2.2.2.1, T.2.2.2.2.2.2.1, T.2.2.2.2.2.2.2.1, T.2.2.2.2.2.2.2.2.1, T.2.2.2.2.2.2.2.2.2.1, T.2.2.2.2.2.2.2.2.2.2.1, T.2.2.2.2.2.2.2.2.2.2.2.1, T.2.2.2.2.2.2.2.2.2.2.2.2.1, T.2.2.2.2.2.2.2.2.2.2.2.2.2.1, T.2.2.2.2.2.2.2.2.2.2.2.2.2.2.1, T.2.2.2.2.2.2.2.2.2.2.2.2.2.2.2.1, T.2.2.2.2.2.2.2.2.2.2.2.2.2.2.2.2.1, T.2.2.2.2.2.2.2.2.2.2.2.2.2.2.2.2.2.1, T.2.2.2.2.2.2.2.2.2.2.2.2.2.2.2.2.2.2.1, T.2.2.2.2.2.2.2.2.2.2.2.2.2.2.2.2.2.2.2.1, T.2.2.2.2.2.2.2.2.2.2.2.2.2.2.2.2.2.2.2.2.1, T.2.2.2.2.2.2.2.2.2.2.2.2.2.2.2.2.2.2.2.2.2.1, T.2.2.2.2.2.2.2.2.2.2.2.2.2.2.2.2.2.2.2.2.2.2.1, T.2.2.2.2.2.2.2.2.2.2.2.2.2.2.2.2.2.2.2.2.2.2.2.1, T.2.2.2.2.2.2.2.2.2.2.2.2.2.2.2.2.2.2.2.2.2.2.2.2.1, T.2.2.2.2.2.2.2.2.2.2.2.2.2.2.2.2.2.2.2.2.2.2.2.2.2.1, T.2.2.2.2.2.2.2.2.2.2.2.2.2.2.2.2.2.2.2.2.2.2.2.2.2.2.1, T.2.2.2.2.2.2.2.2.2.2.2.2.2.2.2.2.2.2.2.2.2.2.2.2.2.2.2.1, T.2.2.2.2.2.2.2.2.2.2.2.2.2.2.2.2.2.2.2.2.2.2.2.2.2.2.2.2.1, T.2.2.2.2.2.2.2.2.2.2.2.2.2.2.2.2.2.2.2.2.2.2.2.2.2.2.2.2.2.1, T.2.2.2.2.2.2.2.2.2.2.2.2.2.2.2.2.2.2.2.2.2.2.2.2.2.2.2.2.2.2.1, T.2.2.2.2.2.2.2.2.2.2.2.2.2.2.2.2.2.2.2.2.2.2.2.2.2.2.2.2.2.2.2.1, T.2.2.2.2.2.2.2.2.2.2.2.2.2.2.2.2.2.2.2.2.2.2.2.2.2.2.2.2.2.2.2.2.1, T.2.2.2.2.2.2.2.2.2.2.2.2.2.2.2.2.2.2.2.2.2.2.2.2.2.2.2.2.2.2.2.2.2) := hG_up (k := 0) (by decide) rfl (fun j hj hne => by
  unfold cG
  by_cases c0 : j < 1
  · rw [if_pos c0, if_pos c0]
    omega
  rw [if_neg c0, if_neg c0]
  by_cases c1 : j < 19
  · rw [if_pos c1, if_pos c1]
    try rfl
  rw [if_neg c1, if_neg c1]
  by_cases c2 : j < 37
  · rw [if_pos c2, if_pos c2]
    try rfl
  rw [if_neg c2, if_neg c2]
  by_cases c3 : j < 43
  · rw [if_pos c3, if_pos c3]
    obtain ⟨q, rfl⟩ : ∃ q, j = 37 + q := ⟨j - 37, by omega⟩
    simp only [Nat.add_sub_cancel_left]
    match q, hj with
    | 0, _ => rfl
    | 1, _ => rfl
    | 2, _ => rfl
    | 3, _ => rfl
    | 4, _ => rfl
    | 5, _ => rfl
    | q + 6, h9 => omega
  rw [if_neg c3, if_neg c3]
  by_cases c4 : j < 61
  · rw [if_pos c4, if_pos c4]
    try rfl
  rw [if_neg c4, if_neg c4]
  by_cases c5 : j < 63
  · rw [if_pos c5, if_pos c5]
    obtain ⟨q, rfl⟩ : ∃ q, j = 61 + q := ⟨j - 61, by omega⟩
    simp only [Nat.add_sub_cancel_left]
    match q, hj with
    | 0, _ => rfl
    | 1, _ => rfl
    | q + 2, h9 => omega
  rw [if_neg c5, if_neg c5]
  by_cases c6 : j < 189
  · rw [if_pos c6, if_pos c6]
    try rfl
  rw [if_neg c6, if_neg c6]
  obtain ⟨q, rfl⟩ : ∃ q, j = 189 + q := ⟨j - 189, by omega⟩
  simp only [Nat.add_sub_cancel_left]
  match q, hj with
  | 0, _ => rfl
  | 1, _ => rfl
  | 2, _ => rfl
  | 3, _ => rfl
  | 4, _ => rfl
  | 5, _ => rfl
  | 6, _ => rfl
  | 7, _ => rfl
  | 8, _ => rfl
  | 9, _ => rfl
  | 10, _ => rfl
  | 11, _ => rfl
  | 12, _ => rfl
  | 13, _ => rfl
  | 14, _ => rfl
  | 15, _ => rfl
  | 16, _ => rfl
  | 17, _ => rfl
  | q + 18, h9 => omega)
theorem hG_up37 {v_kn1 : Int32} {v_kn2 : Int32} {v_kn3 : Int32} {v_kn4 : Int32} {v_kn5 : Int32} : hup (hG h z T) (z + 37) (.inr (5, [.int v_kn1, .int v_kn2, .int v_kn3, .int v_kn4, .int v_kn5])) = hG h z (T.1, T.2.1, T.2.2.1, T.2.2.2.1, v_kn1, v_kn2, v_kn3, v_kn4, v_kn5, T.2.2.2.2.2.2.2.2.2.1, T.2.2.2.2.2.2.2.2.2.2.1, T.2.2.2.2.2.2.2.2.2.2.2.1, T.2.2.2.2.2.2.2.2.2.2.2.2.1, T.2.2.2.2.2.2.2.2.2.2.2.2.2.1, T.2.2.2.2.2.2.2.2.2.2.2.2.2.2.1, T.2.2.2.2.2.2.2.2.2.2.2.2.2.2.2.1, T.2.2.2.2.2.2.2.2.2.2.2.2.2.2.2.2.1, T.2.2.2.2.2.2.2.2.2.2.2.2.2.2.2.2.2.1, T.2.2.2.2.2.2.2.2.2.2.2.2.2.2.2.2.2.2.1, T.2.2.2.2.2.2.2.2.2.2.2.2.2.2.2.2.2.2.2.1, T.2.2.2.2.2.2.2.2.2.2.2.2.2.2.2.2.2.2.2.2.1, T.2.2.2.2.2.2.2.2.2.2.2.2.2.2.2.2.2.2.2.2.2.1, T.2.2.2.2.2.2.2.2.2.2.2.2.2.2.2.2.2.2.2.2.2.2.1, T.2.2.2.2.2.2.2.2.2.2.2.2.2.2.2.2.2.2.2.2.2.2.2.1, T.2.2.2.2.2.2.2.2.2.2.2.2.2.2.2.2.2.2.2.2.2.2.2.2.1, T.2.2.2.2.2.2.2.2.2.2.2.2.2.2.2.2.2.2.2.2.2.2.2.2.2.1, T.2.2.2.2.2.2.2.2.2.2.2.2.2.2.2.2.2.2.2.2.2.2.2.2.2.2.1, T.2.2.2.2.2.2.2.2.2.2.2.2.2.2.2.2.2.2.2.2.2.2.2.2.2.2.2.1, T.2.2.2.2.2.2.2.2.2.2.2.2.2.2.2.2.2.2.2.2.2.2.2.2.2.2.2.2.1, T.2.2.2.2.2.2.2.2.2.2.2.2.2.2.2.2.2.2.2.2.2.2.2.2.2.2.2.2.2.1, T.2.2.2.2.2.2.2.2.2.2.2.2.2.2.2.2.2.2.2.2.2.2.2.2.2.2.2.2.2.2.1, T.2.2.2.2.2.2.2.2.2.2.2.2.2.2.2.2.2.2.2.2.2.2.2.2.2.2.2.2.2.2.2.1, T.2.2.2.2.2.2.2.2.2.2.2.2.2.2.2.2.2.2.2.2.2.2.2.2.2.2.2.2.2.2.2.2.1, T.2.2.2.2.2.2.2.2.2.2.2.2.2.2.2.2.2.2.2.2.2.2.2.2.2.2.2.2.2.2.2.2.2) := hG_up (k := 37) (by decide) rfl (fun j hj hne => by
  unfold cG
  by_cases c0 : j < 1
  · rw [if_pos c0, if_pos c0]
    try rfl
  rw [if_neg c0, if_neg c0]
  by_cases c1 : j < 19
  · rw [if_pos c1, if_pos c1]
    try rfl
  rw [if_neg c1, if_neg c1]
  by_cases c2 : j < 37
  · rw [if_pos c2, if_pos c2]
    try rfl
  rw [if_neg c2, if_neg c2]
  by_cases c3 : j < 43
  · rw [if_pos c3, if_pos c3]
    obtain ⟨q, rfl⟩ : ∃ q, j = 37 + q := ⟨j - 37, by omega⟩
    simp only [Nat.add_sub_cancel_left]
    match q, hj, hne with
    | 0, _, h9 => exact absurd rfl h9
    | 1, _, h9 => rfl
    | 2, _, h9 => rfl
    | 3, _, h9 => rfl
    | 4, _, h9 => rfl
    | 5, _, h9 => rfl
    | q + 6, h9, _ => omega
  rw [if_neg c3, if_neg c3]
  by_cases c4 : j < 61
  · rw [if_pos c4, if_pos c4]
    try rfl
  rw [if_neg c4, if_neg c4]
  by_cases c5 : j < 63
  · rw [if_pos c5, if_pos c5]
    obtain ⟨q, rfl⟩ : ∃ q, j = 61 + q := ⟨j - 61, by omega⟩
    simp only [Nat.add_sub_cancel_left]
    match q, hj with
    | 0, _ => rfl
    | 1, _ => rfl
    | q + 2, h9 => omega
  rw [if_neg c5, if_neg c5]
  by_cases c6 : j < 189
  · rw [if_pos c6, if_pos c6]
    try rfl
  rw [if_neg c6, if_neg c6]
  obtain ⟨q, rfl⟩ : ∃ q, j = 189 + q := ⟨j - 189, by omega⟩
  simp only [Nat.add_sub_cancel_left]
  match q, hj with
  | 0, _ => rfl
  | 1, _ => rfl
  | 2, _ => rfl
  | 3, _ => rfl
  | 4, _ => rfl
  | 5, _ => rfl
  | 6, _ => rfl
  | 7, _ => rfl
  | 8, _ => rfl
  | 9, _ => rfl
  | 10, _ => rfl
  | 11, _ => rfl
  | 12, _ => rfl
  | 13, _ => rfl
  | 14, _ => rfl
  | 15, _ => rfl
  | 16, _ => rfl
  | 17, _ => rfl
  | q + 18, h9 => omega)
theorem hG_up39 {v_kil : Int32} : hup (hG h z T) (z + 39) (.inr (4, [.ref (z + 40), .int v_kil])) = hG h z (T.1, T.2.1, T.2.2.1, T.2.2.2.1, T.2.2.2.2.1, T.2.2.2.2.2.1, T.2.2.2.2.2.2.1, T.2.2.2.2.2.2.2.1, T.2.2.2.2.2.2.2.2.1, v_kil, T.2.2.2.2.2.2.2.2.2.2.1, T.2.2.2.2.2.2.2.2.2.2.2.1, T.2.2.2.2.2.2.2.2.2.2.2.2.1, T.2.2.2.2.2.2.2.2.2.2.2.2.2.1, T.2.2.2.2.2.2.2.2.2.2.2.2.2.2.1, T.2.2.2.2.2.2.2.2.2.2.2.2.2.2.2.1, T.2.2.2.2.2.2.2.2.2.2.2.2.2.2.2.2.1, T.2.2.2.2.2.2.2.2.2.2.2.2.2.2.2.2.2.1, T.2.2.2.2.2.2.2.2.2.2.2.2.2.2.2.2.2.2.1, T.2.2.2.2.2.2.2.2.2.2.2.2.2.2.2.2.2.2.2.1, T.2.2.2.2.2.2.2.2.2.2.2.2.2.2.2.2.2.2.2.2.1, T.2.2.2.2.2.2.2.2.2.2.2.2.2.2.2.2.2.2.2.2.2.1, T.2.2.2.2.2.2.2.2.2.2.2.2.2.2.2.2.2.2.2.2.2.2.1, T.2.2.2.2.2.2.2.2.2.2.2.2.2.2.2.2.2.2.2.2.2.2.2.1, T.2.2.2.2.2.2.2.2.2.2.2.2.2.2.2.2.2.2.2.2.2.2.2.2.1, T.2.2.2.2.2.2.2.2.2.2.2.2.2.2.2.2.2.2.2.2.2.2.2.2.2.1, T.2.2.2.2.2.2.2.2.2.2.2.2.2.2.2.2.2.2.2.2.2.2.2.2.2.2.1, T.2.2.2.2.2.2.2.2.2.2.2.2.2.2.2.2.2.2.2.2.2.2.2.2.2.2.2.1, T.2.2.2.2.2.2.2.2.2.2.2.2.2.2.2.2.2.2.2.2.2.2.2.2.2.2.2.2.1, T.2.2.2.2.2.2.2.2.2.2.2.2.2.2.2.2.2.2.2.2.2.2.2.2.2.2.2.2.2.1, T.2.2.2.2.2.2.2.2.2.2.2.2.2.2.2.2.2.2.2.2.2.2.2.2.2.2.2.2.2.2.1, T.2.2.2.2.2.2.2.2.2.2.2.2.2.2.2.2.2.2.2.2.2.2.2.2.2.2.2.2.2.2.2.1, T.2.2.2.2.2.2.2.2.2.2.2.2.2.2.2.2.2.2.2.2.2.2.2.2.2.2.2.2.2.2.2.2.1, T.2.2.2.2.2.2.2.2.2.2.2.2.2.2.2.2.2.2.2.2.2.2.2.2.2.2.2.2.2.2.2.2.2) := hG_up (k := 39) (by decide) rfl (fun j hj hne => by
  unfold cG
  by_cases c0 : j < 1
  · rw [if_pos c0, if_pos c0]
    try rfl
  rw [if_neg c0, if_neg c0]
  by_cases c1 : j < 19
  · rw [if_pos c1, if_pos c1]
    try rfl
  rw [if_neg c1, if_neg c1]
  by_cases c2 : j < 37
  · rw [if_pos c2, if_pos c2]
    try rfl
  rw [if_neg c2, if_neg c2]
  by_cases c3 : j < 43
  · rw [if_pos c3, if_pos c3]
    obtain ⟨q, rfl⟩ : ∃ q, j = 37 + q := ⟨j - 37, by omega⟩
    simp only [Nat.add_sub_cancel_left]
    match q, hj, hne with
    | 0, _, h9 => rfl
    | 1, _, h9 => rfl
    | 2, _, h9 => exact absurd rfl h9
    | 3, _, h9 => rfl
    | 4, _, h9 => rfl
    | 5, _, h9 => rfl
    | q + 6, h9, _ => omega
  rw [if_neg c3, if_neg c3]
  by_cases c4 : j < 61
  · rw [if_pos c4, if_pos c4]
    try rfl
  rw [if_neg c4, if_neg c4]
  by_cases c5 : j < 63
  · rw [if_pos c5, if_pos c5]
    obtain ⟨q, rfl⟩ : ∃ q, j = 61 + q := ⟨j - 61, by omega⟩
    simp only [Nat.add_sub_cancel_left]
    match q, hj with
    | 0, _ => rfl
    | 1, _ => rfl
    | q + 2, h9 => omega
  rw [if_neg c5, if_neg c5]
  by_cases c6 : j < 189
  · rw [if_pos c6, if_pos c6]
    try rfl
  rw [if_neg c6, if_neg c6]
  obtain ⟨q, rfl⟩ : ∃ q, j = 189 + q := ⟨j - 189, by omega⟩
  simp only [Nat.add_sub_cancel_left]
  match q, hj with
  | 0, _ => rfl
  | 1, _ => rfl
  | 2, _ => rfl
  | 3, _ => rfl
  | 4, _ => rfl
  | 5, _ => rfl
  | 6, _ => rfl
  | 7, _ => rfl
  | 8, _ => rfl
  | 9, _ => rfl
  | 10, _ => rfl
  | 11, _ => rfl
  | 12, _ => rfl
  | 13, _ => rfl
  | 14, _ => rfl
  | 15, _ => rfl
  | 16, _ => rfl
  | 17, _ => rfl
  | q + 18, h9 => omega)
theorem hG_up41 {v_kib : Nat → Int32} : hup (hG h z T) (z + 41) (ints 600 v_kib) = hG h z (T.1, T.2.1, T.2.2.1, T.2.2.2.1, T.2.2.2.2.1, T.2.2.2.2.2.1, T.2.2.2.2.2.2.1, T.2.2.2.2.2.2.2.1, T.2.2.2.2.2.2.2.2.1, T.2.2.2.2.2.2.2.2.2.1, v_kib, T.2.2.2.2.2.2.2.2.2.2.2.1, T.2.2.2.2.2.2.2.2.2.2.2.2.1, T.2.2.2.2.2.2.2.2.2.2.2.2.2.1, T.2.2.2.2.2.2.2.2.2.2.2.2.2.2.1, T.2.2.2.2.2.2.2.2.2.2.2.2.2.2.2.1, T.2.2.2.2.2.2.2.2.2.2.2.2.2.2.2.2.1, T.2.2.2.2.2.2.2.2.2.2.2.2.2.2.2.2.2.1, T.2.2.2.2.2.2.2.2.2.2.2.2.2.2.2.2.2.2.1, T.2.2.2.2.2.2.2.2.2.2.2.2.2.2.2.2.2.2.2.1, T.2.2.2.2.2.2.2.2.2.2.2.2.2.2.2.2.2.2.2.2.1, T.2.2.2.2.2.2.2.2.2.2.2.2.2.2.2.2.2.2.2.2.2.1, T.2.2.2.2.2.2.2.2.2.2.2.2.2.2.2.2.2.2.2.2.2.2.1, T.2.2.2.2.2.2.2.2.2.2.2.2.2.2.2.2.2.2.2.2.2.2.2.1, T.2.2.2.2.2.2.2.2.2.2.2.2.2.2.2.2.2.2.2.2.2.2.2.2.1, T.2.2.2.2.2.2.2.2.2.2.2.2.2.2.2.2.2.2.2.2.2.2.2.2.2.1, T.2.2.2.2.2.2.2.2.2.2.2.2.2.2.2.2.2.2.2.2.2.2.2.2.2.2.1, T.2.2.2.2.2.2.2.2.2.2.2.2.2.2.2.2.2.2.2.2.2.2.2.2.2.2.2.1, T.2.2.2.2.2.2.2.2.2.2.2.2.2.2.2.2.2.2.2.2.2.2.2.2.2.2.2.2.1, T.2.2.2.2.2.2.2.2.2.2.2.2.2.2.2.2.2.2.2.2.2.2.2.2.2.2.2.2.2.1, T.2.2.2.2.2.2.2.2.2.2.2.2.2.2.2.2.2.2.2.2.2.2.2.2.2.2.2.2.2.2.1, T.2.2.2.2.2.2.2.2.2.2.2.2.2.2.2.2.2.2.2.2.2.2.2.2.2.2.2.2.2.2.2.1, T.2.2.2.2.2.2.2.2.2.2.2.2.2.2.2.2.2.2.2.2.2.2.2.2.2.2.2.2.2.2.2.2.1, T.2.2.2.2.2.2.2.2.2.2.2.2.2.2.2.2.2.2.2.2.2.2.2.2.2.2.2.2.2.2.2.2.2) := hG_up (k := 41) (by decide) rfl (fun j hj hne => by
  unfold cG
  by_cases c0 : j < 1
  · rw [if_pos c0, if_pos c0]
    try rfl
  rw [if_neg c0, if_neg c0]
  by_cases c1 : j < 19
  · rw [if_pos c1, if_pos c1]
    try rfl
  rw [if_neg c1, if_neg c1]
  by_cases c2 : j < 37
  · rw [if_pos c2, if_pos c2]
    try rfl
  rw [if_neg c2, if_neg c2]
  by_cases c3 : j < 43
  · rw [if_pos c3, if_pos c3]
    obtain ⟨q, rfl⟩ : ∃ q, j = 37 + q := ⟨j - 37, by omega⟩
    simp only [Nat.add_sub_cancel_left]
    match q, hj, hne with
    | 0, _, h9 => rfl
    | 1, _, h9 => rfl
    | 2, _, h9 => rfl
    | 3, _, h9 => rfl
    | 4, _, h9 => exact absurd rfl h9
    | 5, _, h9 => rfl
    | q + 6, h9, _ => omega
  rw [if_neg c3, if_neg c3]
  by_cases c4 : j < 61
  · rw [if_pos c4, if_pos c4]
    try rfl
  rw [if_neg c4, if_neg c4]
  by_cases c5 : j < 63
  · rw [if_pos c5, if_pos c5]
    obtain ⟨q, rfl⟩ : ∃ q, j = 61 + q := ⟨j - 61, by omega⟩
    simp only [Nat.add_sub_cancel_left]
    match q, hj with
    | 0, _ => rfl
    | 1, _ => rfl
    | q + 2, h9 => omega
  rw [if_neg c5, if_neg c5]
  by_cases c6 : j < 189
  · rw [if_pos c6, if_pos c6]
    try rfl
  rw [if_neg c6, if_neg c6]
  obtain ⟨q, rfl⟩ : ∃ q, j = 189 + q := ⟨j - 189, by omega⟩
  simp only [Nat.add_sub_cancel_left]
  match q, hj with
  | 0, _ => rfl
  | 1, _ => rfl
  | 2, _ => rfl
  | 3, _ => rfl
  | 4, _ => rfl
  | 5, _ => rfl
  | 6, _ => rfl
  | 7, _ => rfl
  | 8, _ => rfl
  | 9, _ => rfl
  | 10, _ => rfl
  | 11, _ => rfl
  | 12, _ => rfl
  | 13, _ => rfl
  | 14, _ => rfl
  | 15, _ => rfl
  | 16, _ => rfl
  | 17, _ => rfl
  | q + 18, h9 => omega)
theorem hG_up42 {v_ktl : Int32} {v_ktp : Int32} {v_kts : Int32} {v_ktk : Int32} {v_ktw : Int64} {v_ktn : Int32} {v_kte : Int32} {v_kto : Int32} : hup (hG h z T) (z + 42) (.inr (9, [.ref (z + 39), .int v_ktl, .int v_ktp, .int v_kts, .int v_ktk, .long v_ktw, .int v_ktn, .int v_kte, .int v_kto])) = hG h z (T.1, T.2.1, T.2.2.1, T.2.2.2.1, T.2.2.2.2.1, T.2.2.2.2.2.1, T.2.2.2.2.2.2.1, T.2.2.2.2.2.2.2.1, T.2.2.2.2.2.2.2.2.1, T.2.2.2.2.2.2.2.2.2.1, T.2.2.2.2.2.2.2.2.2.2.1, v_ktl, v_ktp, v_kts, v_ktk, v_ktw, v_ktn, v_kte, v_kto, T.2.2.2.2.2.2.2.2.2.2.2.2.2.2.2.2.2.2.2.1, T.2.2.2.2.2.2.2.2.2.2.2.2.2.2.2.2.2.2.2.2.1, T.2.2.2.2.2.2.2.2.2.2.2.2.2.2.2.2.2.2.2.2.2.1, T.2.2.2.2.2.2.2.2.2.2.2.2.2.2.2.2.2.2.2.2.2.2.1, T.2.2.2.2.2.2.2.2.2.2.2.2.2.2.2.2.2.2.2.2.2.2.2.1, T.2.2.2.2.2.2.2.2.2.2.2.2.2.2.2.2.2.2.2.2.2.2.2.2.1, T.2.2.2.2.2.2.2.2.2.2.2.2.2.2.2.2.2.2.2.2.2.2.2.2.2.1, T.2.2.2.2.2.2.2.2.2.2.2.2.2.2.2.2.2.2.2.2.2.2.2.2.2.2.1, T.2.2.2.2.2.2.2.2.2.2.2.2.2.2.2.2.2.2.2.2.2.2.2.2.2.2.2.1, T.2.2.2.2.2.2.2.2.2.2.2.2.2.2.2.2.2.2.2.2.2.2.2.2.2.2.2.2.1, T.2.2.2.2.2.2.2.2.2.2.2.2.2.2.2.2.2.2.2.2.2.2.2.2.2.2.2.2.2.1, T.2.2.2.2.2.2.2.2.2.2.2.2.2.2.2.2.2.2.2.2.2.2.2.2.2.2.2.2.2.2.1, T.2.2.2.2.2.2.2.2.2.2.2.2.2.2.2.2.2.2.2.2.2.2.2.2.2.2.2.2.2.2.2.1, T.2.2.2.2.2.2.2.2.2.2.2.2.2.2.2.2.2.2.2.2.2.2.2.2.2.2.2.2.2.2.2.2.1, T.2.2.2.2.2.2.2.2.2.2.2.2.2.2.2.2.2.2.2.2.2.2.2.2.2.2.2.2.2.2.2.2.2) := hG_up (k := 42) (by decide) rfl (fun j hj hne => by
  unfold cG
  by_cases c0 : j < 1
  · rw [if_pos c0, if_pos c0]
    try rfl
  rw [if_neg c0, if_neg c0]
  by_cases c1 : j < 19
  · rw [if_pos c1, if_pos c1]
    try rfl
  rw [if_neg c1, if_neg c1]
  by_cases c2 : j < 37
  · rw [if_pos c2, if_pos c2]
    try rfl
  rw [if_neg c2, if_neg c2]
  by_cases c3 : j < 43
  · rw [if_pos c3, if_pos c3]
    obtain ⟨q, rfl⟩ : ∃ q, j = 37 + q := ⟨j - 37, by omega⟩
    simp only [Nat.add_sub_cancel_left]
    match q, hj, hne with
    | 0, _, h9 => rfl
    | 1, _, h9 => rfl
    | 2, _, h9 => rfl
    | 3, _, h9 => rfl
    | 4, _, h9 => rfl
    | 5, _, h9 => exact absurd rfl h9
    | q + 6, h9, _ => omega
  rw [if_neg c3, if_neg c3]
  by_cases c4 : j < 61
  · rw [if_pos c4, if_pos c4]
    try rfl
  rw [if_neg c4, if_neg c4]
  by_cases c5 : j < 63
  · rw [if_pos c5, if_pos c5]
    obtain ⟨q, rfl⟩ : ∃ q, j = 61 + q := ⟨j - 61, by omega⟩
    simp only [Nat.add_sub_cancel_left]
    match q, hj with
    | 0, _ => rfl
    | 1, _ => rfl
    | q + 2, h9 => omega
  rw [if_neg c5, if_neg c5]
  by_cases c6 : j < 189
  · rw [if_pos c6, if_pos c6]
    try rfl
  rw [if_neg c6, if_neg c6]
  obtain ⟨q, rfl⟩ : ∃ q, j = 189 + q := ⟨j - 189, by omega⟩
  simp only [Nat.add_sub_cancel_left]
  match q, hj with
  | 0, _ => rfl
  | 1, _ => rfl
  | 2, _ => rfl
  | 3, _ => rfl
  | 4, _ => rfl
  | 5, _ => rfl
  | 6, _ => rfl
  | 7, _ => rfl
  | 8, _ => rfl
  | 9, _ => rfl
  | 10, _ => rfl
  | 11, _ => rfl
  | 12, _ => rfl
  | 13, _ => rfl
  | 14, _ => rfl
  | 15, _ => rfl
  | 16, _ => rfl
  | 17, _ => rfl
  | q + 18, h9 => omega)
theorem hG_up61 {v_khO : Int32} {v_khC : Int32} : hup (hG h z T) (z + 61) (.inr (2, [.ref (z + 62), .int v_khO, .int v_khC])) = hG h z (T.1, T.2.1, T.2.2.1, T.2.2.2.1, T.2.2.2.2.1, T.2.2.2.2.2.1, T.2.2.2.2.2.2.1, T.2.2.2.2.2.2.2.1, T.2.2.2.2.2.2.2.2.1, T.2.2.2.2.2.2.2.2.2.1, T.2.2.2.2.2.2.2.2.2.2.1, T.2.2.2.2.2.2.2.2.2.2.2.1, T.2.2.2.2.2.2.2.2.2.2.2.2.1, T.2.2.2.2.2.2.2.2.2.2.2.2.2.1, T.2.2.2.2.2.2.2.2.2.2.2.2.2.2.1, T.2.2.2.2.2.2.2.2.2.2.2.2.2.2.2.1, T.2.2.2.2.2.2.2.2.2.2.2.2.2.2.2.2.1, T.2.2.2.2.2.2.2.2.2.2.2.2.2.2.2.2.2.1, T.2.2.2.2.2.2.2.2.2.2.2.2.2.2.2.2.2.2.1, T.2.2.2.2.2.2.2.2.2.2.2.2.2.2.2.2.2.2.2.1, v_khO, v_khC, T.2.2.2.2.2.2.2.2.2.2.2.2.2.2.2.2.2.2.2.2.2.2.1, T.2.2.2.2.2.2.2.2.2.2.2.2.2.2.2.2.2.2.2.2.2.2.2.1, T.2.2.2.2.2.2.2.2.2.2.2.2.2.2.2.2.2.2.2.2.2.2.2.2.1, T.2.2.2.2.2.2.2.2.2.2.2.2.2.2.2.2.2.2.2.2.2.2.2.2.2.1, T.2.2.2.2.2.2.2.2.2.2.2.2.2.2.2.2.2.2.2.2.2.2.2.2.2.2.1, T.2.2.2.2.2.2.2.2.2.2.2.2.2.2.2.2.2.2.2.2.2.2.2.2.2.2.2.1, T.2.2.2.2.2.2.2.2.2.2.2.2.2.2.2.2.2.2.2.2.2.2.2.2.2.2.2.2.1, T.2.2.2.2.2.2.2.2.2.2.2.2.2.2.2.2.2.2.2.2.2.2.2.2.2.2.2.2.2.1, T.2.2.2.2.2.2.2.2.2.2.2.2.2.2.2.2.2.2.2.2.2.2.2.2.2.2.2.2.2.2.1, T.2.2.2.2.2.2.2.2.2.2.2.2.2.2.2.2.2.2.2.2.2.2.2.2.2.2.2.2.2.2.2.1, T.2.2.2.2.2.2.2.2.2.2.2.2.2.2.2.2.2.2.2.2.2.2.2.2.2.2.2.2.2.2.2.2.1, T.2.2.2.2.2.2.2.2.2.2.2.2.2.2.2.2.2.2.2.2.2.2.2.2.2.2.2.2.2.2.2.2.2) := hG_up (k := 61) (by decide) rfl (fun j hj hne => by
  unfold cG
  by_cases c0 : j < 1
  · rw [if_pos c0, if_pos c0]
    try rfl
  rw [if_neg c0, if_neg c0]
  by_cases c1 : j < 19
  · rw [if_pos c1, if_pos c1]
    try rfl
  rw [if_neg c1, if_neg c1]
  by_cases c2 : j < 37
  · rw [if_pos c2, if_pos c2]
    try rfl
  rw [if_neg c2, if_neg c2]
  by_cases c3 : j < 43
  · rw [if_pos c3, if_pos c3]
    obtain ⟨q, rfl⟩ : ∃ q, j = 37 + q := ⟨j - 37, by omega⟩
    simp only [Nat.add_sub_cancel_left]
    match q, hj with
    | 0, _ => rfl
    | 1, _ => rfl
    | 2, _ => rfl
    | 3, _ => rfl
    | 4, _ => rfl
    | 5, _ => rfl
    | q + 6, h9 => omega
  rw [if_neg c3, if_neg c3]
  by_cases c4 : j < 61
  · rw [if_pos c4, if_pos c4]
    try rfl
  rw [if_neg c4, if_neg c4]
  by_cases c5 : j < 63
  · rw [if_pos c5, if_pos c5]
    obtain ⟨q, rfl⟩ : ∃ q, j = 61 + q := ⟨j - 61, by omega⟩
    simp only [Nat.add_sub_cancel_left]
    match q, hj, hne with
    | 0, _, h9 => exact absurd rfl h9
    | 1, _, h9 => rfl
    | q + 2, h9, _ => omega
  rw [if_neg c5, if_neg c5]
  by_cases c6 : j < 189
  · rw [if_pos c6, if_pos c6]
    try rfl
  rw [if_neg c6, if_neg c6]
  obtain ⟨q, rfl⟩ : ∃ q, j = 189 + q := ⟨j - 189, by omega⟩
  simp only [Nat.add_sub_cancel_left]
  match q, hj with
  | 0, _ => rfl
  | 1, _ => rfl
  | 2, _ => rfl
  | 3, _ => rfl
  | 4, _ => rfl
  | 5, _ => rfl
  | 6, _ => rfl
  | 7, _ => rfl
  | 8, _ => rfl
  | 9, _ => rfl
  | 10, _ => rfl
  | 11, _ => rfl
  | 12, _ => rfl
  | 13, _ => rfl
  | 14, _ => rfl
  | 15, _ => rfl
  | 16, _ => rfl
  | 17, _ => rfl
  | q + 18, h9 => omega)
theorem hG_up191 {v_kpa : Nat → Int32} : hup (hG h z T) (z + 191) (ints 144 v_kpa) = hG h z (T.1, T.2.1, T.2.2.1, T.2.2.2.1, T.2.2.2.2.1, T.2.2.2.2.2.1, T.2.2.2.2.2.2.1, T.2.2.2.2.2.2.2.1, T.2.2.2.2.2.2.2.2.1, T.2.2.2.2.2.2.2.2.2.1, T.2.2.2.2.2.2.2.2.2.2.1, T.2.2.2.2.2.2.2.2.2.2.2.1, T.2.2.2.2.2.2.2.2.2.2.2.2.1, T.2.2.2.2.2.2.2.2.2.2.2.2.2.1, T.2.2.2.2.2.2.2.2.2.2.2.2.2.2.1, T.2.2.2.2.2.2.2.2.2.2.2.2.2.2.2.1, T.2.2.2.2.2.2.2.2.2.2.2.2.2.2.2.2.1, T.2.2.2.2.2.2.2.2.2.2.2.2.2.2.2.2.2.1, T.2.2.2.2.2.2.2.2.2.2.2.2.2.2.2.2.2.2.1, T.2.2.2.2.2.2.2.2.2.2.2.2.2.2.2.2.2.2.2.1, T.2.2.2.2.2.2.2.2.2.2.2.2.2.2.2.2.2.2.2.2.1, T.2.2.2.2.2.2.2.2.2.2.2.2.2.2.2.2.2.2.2.2.2.1, T.2.2.2.2.2.2.2.2.2.2.2.2.2.2.2.2.2.2.2.2.2.2.1, v_kpa, T.2.2.2.2.2.2.2.2.2.2.2.2.2.2.2.2.2.2.2.2.2.2.2.2.1, T.2.2.2.2.2.2.2.2.2.2.2.2.2.2.2.2.2.2.2.2.2.2.2.2.2.1, T.2.2.2.2.2.2.2.2.2.2.2.2.2.2.2.2.2.2.2.2.2.2.2.2.2.2.1, T.2.2.2.2.2.2.2.2.2.2.2.2.2.2.2.2.2.2.2.2.2.2.2.2.2.2.2.1, T.2.2.2.2.2.2.2.2.2.2.2.2.2.2.2.2.2.2.2.2.2.2.2.2.2.2.2.2.1, T.2.2.2.2.2.2.2.2.2.2.2.2.2.2.2.2.2.2.2.2.2.2.2.2.2.2.2.2.2.1, T.2.2.2.2.2.2.2.2.2.2.2.2.2.2.2.2.2.2.2.2.2.2.2.2.2.2.2.2.2.2.1, T.2.2.2.2.2.2.2.2.2.2.2.2.2.2.2.2.2.2.2.2.2.2.2.2.2.2.2.2.2.2.2.1, T.2.2.2.2.2.2.2.2.2.2.2.2.2.2.2.2.2.2.2.2.2.2.2.2.2.2.2.2.2.2.2.2.1, T.2.2.2.2.2.2.2.2.2.2.2.2.2.2.2.2.2.2.2.2.2.2.2.2.2.2.2.2.2.2.2.2.2) := hG_up (k := 191) (by decide) rfl (fun j hj hne => by
  unfold cG
  by_cases c0 : j < 1
  · rw [if_pos c0, if_pos c0]
    try rfl
  rw [if_neg c0, if_neg c0]
  by_cases c1 : j < 19
  · rw [if_pos c1, if_pos c1]
    try rfl
  rw [if_neg c1, if_neg c1]
  by_cases c2 : j < 37
  · rw [if_pos c2, if_pos c2]
    try rfl
  rw [if_neg c2, if_neg c2]
  by_cases c3 : j < 43
  · rw [if_pos c3, if_pos c3]
    obtain ⟨q, rfl⟩ : ∃ q, j = 37 + q := ⟨j - 37, by omega⟩
    simp only [Nat.add_sub_cancel_left]
    match q, hj with
    | 0, _ => rfl
    | 1, _ => rfl
    | 2, _ => rfl
    | 3, _ => rfl
    | 4, _ => rfl
    | 5, _ => rfl
    | q + 6, h9 => omega
  rw [if_neg c3, if_neg c3]
  by_cases c4 : j < 61
  · rw [if_pos c4, if_pos c4]
    try rfl
  rw [if_neg c4, if_neg c4]
  by_cases c5 : j < 63
  · rw [if_pos c5, if_pos c5]
    obtain ⟨q, rfl⟩ : ∃ q, j = 61 + q := ⟨j - 61, by omega⟩
    simp only [Nat.add_sub_cancel_left]
    match q, hj with
    | 0, _ => rfl
    | 1, _ => rfl
    | q + 2, h9 => omega
  rw [if_neg c5, if_neg c5]
  by_cases c6 : j < 189
  · rw [if_pos c6, if_pos c6]
    try rfl
  rw [if_neg c6, if_neg c6]
  obtain ⟨q, rfl⟩ : ∃ q, j = 189 + q := ⟨j - 189, by omega⟩
  simp only [Nat.add_sub_cancel_left]
  match q, hj, hne with
  | 0, _, h9 => rfl
  | 1, _, h9 => rfl
  | 2, _, h9 => exact absurd rfl h9
  | 3, _, h9 => rfl
  | 4, _, h9 => rfl
  | 5, _, h9 => rfl
  | 6, _, h9 => rfl
  | 7, _, h9 => rfl
  | 8, _, h9 => rfl
  | 9, _, h9 => rfl
  | 10, _, h9 => rfl
  | 11, _, h9 => rfl
  | 12, _, h9 => rfl
  | 13, _, h9 => rfl
  | 14, _, h9 => rfl
  | 15, _, h9 => rfl
  | 16, _, h9 => rfl
  | 17, _, h9 => rfl
  | q + 18, h9, _ => omega)
theorem hG_up194 {v_kpb : Nat → Int32} : hup (hG h z T) (z + 194) (ints 144 v_kpb) = hG h z (T.1, T.2.1, T.2.2.1, T.2.2.2.1, T.2.2.2.2.1, T.2.2.2.2.2.1, T.2.2.2.2.2.2.1, T.2.2.2.2.2.2.2.1, T.2.2.2.2.2.2.2.2.1, T.2.2.2.2.2.2.2.2.2.1, T.2.2.2.2.2.2.2.2.2.2.1, T.2.2.2.2.2.2.2.2.2.2.2.1, T.2.2.2.2.2.2.2.2.2.2.2.2.1, T.2.2.2.2.2.2.2.2.2.2.2.2.2.1, T.2.2.2.2.2.2.2.2.2.2.2.2.2.2.1, T.2.2.2.2.2.2.2.2.2.2.2.2.2.2.2.1, T.2.2.2.2.2.2.2.2.2.2.2.2.2.2.2.2.1, T.2.2.2.2.2.2.2.2.2.2.2.2.2.2.2.2.2.1, T.2.2.2.2.2.2.2.2.2.2.2.2.2.2.2.2.2.2.1, T.2.2.2.2.2.2.2.2.2.2.2.2.2.2.2.2.2.2.2.1, T.2.2.2.2.2.2.2.2.2.2.2.2.2.2.2.2.2.2.2.2.1, T.2.2.2.2.2.2.2.2.2.2.2.2.2.2.2.2.2.2.2.2.2.1, T.2.2.2.2.2.2.2.2.2.2.2.2.2.2.2.2.2.2.2.2.2.2.1, T.2.2.2.2.2.2.2.2.2.2.2.2.2.2.2.2.2.2.2.2.2.2.2.1, v_kpb, T.2.2.2.2.2.2.2.2.2.2.2.2.2.2.2.2.2.2.2.2.2.2.2.2.2.1, T.2.2.2.2.2.2.2.2.2.2.2.2.2.2.2.2.2.2.2.2.2.2.2.2.2.2.1, T.2.2.2.2.2.2.2.2.2.2.2.2.2.2.2.2.2.2.2.2.2.2.2.2.2.2.2.1, T.2.2.2.2.2.2.2.2.2.2.2.2.2.2.2.2.2.2.2.2.2.2.2.2.2.2.2.2.1, T.2.2.2.2.2.2.2.2.2.2.2.2.2.2.2.2.2.2.2.2.2.2.2.2.2.2.2.2.2.1, T.2.2.2.2.2.2.2.2.2.2.2.2.2.2.2.2.2.2.2.2.2.2.2.2.2.2.2.2.2.2.1, T.2.2.2.2.2.2.2.2.2.2.2.2.2.2.2.2.2.2.2.2.2.2.2.2.2.2.2.2.2.2.2.1, T.2.2.2.2.2.2.2.2.2.2.2.2.2.2.2.2.2.2.2.2.2.2.2.2.2.2.2.2.2.2.2.2.1, T.2.2.2.2.2.2.2.2.2.2.2.2.2.2.2.2.2.2.2.2.2.2.2.2.2.2.2.2.2.2.2.2.2) := hG_up (k := 194) (by decide) rfl (fun j hj hne => by
  unfold cG
  by_cases c0 : j < 1
  · rw [if_pos c0, if_pos c0]
    try rfl
  rw [if_neg c0, if_neg c0]
  by_cases c1 : j < 19
  · rw [if_pos c1, if_pos c1]
    try rfl
  rw [if_neg c1, if_neg c1]
  by_cases c2 : j < 37
  · rw [if_pos c2, if_pos c2]
    try rfl
  rw [if_neg c2, if_neg c2]
  by_cases c3 : j < 43
  · rw [if_pos c3, if_pos c3]
    obtain ⟨q, rfl⟩ : ∃ q, j = 37 + q := ⟨j - 37, by omega⟩
    simp only [Nat.add_sub_cancel_left]
    match q, hj with
    | 0, _ => rfl
    | 1, _ => rfl
    | 2, _ => rfl
    | 3, _ => rfl
    | 4, _ => rfl
    | 5, _ => rfl
    | q + 6, h9 => omega
  rw [if_neg c3, if_neg c3]
  by_cases c4 : j < 61
  · rw [if_pos c4, if_pos c4]
    try rfl
  rw [if_neg c4, if_neg c4]
  by_cases c5 : j < 63
  · rw [if_pos c5, if_pos c5]
    obtain ⟨q, rfl⟩ : ∃ q, j = 61 + q := ⟨j - 61, by omega⟩
    simp only [Nat.add_sub_cancel_left]
    match q, hj with
    | 0, _ => rfl
    | 1, _ => rfl
    | q + 2, h9 => omega
  rw [if_neg c5, if_neg c5]
  by_cases c6 : j < 189
  · rw [if_pos c6, if_pos c6]
    try rfl
  rw [if_neg c6, if_neg c6]
  obtain ⟨q, rfl⟩ : ∃ q, j = 189 + q := ⟨j - 189, by omega⟩
  simp only [Nat.add_sub_cancel_left]
  match q, hj, hne with
  | 0, _, h9 => rfl
  | 1, _, h9 => rfl
  | 2, _, h9 => rfl
  | 3, _, h9 => rfl
  | 4, _, h9 => rfl
  | 5, _, h9 => exact absurd rfl h9
  | 6, _, h9 => rfl
  | 7, _, h9 => rfl
  | 8, _, h9 => rfl
  | 9, _, h9 => rfl
  | 10, _, h9 => rfl
  | 11, _, h9 => rfl
  | 12, _, h9 => rfl
  | 13, _, h9 => rfl
  | 14, _, h9 => rfl
  | 15, _, h9 => rfl
  | 16, _, h9 => rfl
  | 17, _, h9 => rfl
  | q + 18, h9, _ => omega)
theorem hG_up196 {v_ksz : Int32} {v_ksc : Int32} {v_ksd : Int32} {v_kso : Int32} : hup (hG h z T) (z + 196) (.inr (8, [.ref (z + 42), .ref (z + 1), .ref (z + 38), .ref (z + 197), .ref (z + 199), .ref (z + 201), .ref (z + 203), .int v_ksz, .int v_ksc, .int v_ksd, .int v_kso])) = hG h z (T.1, T.2.1, T.2.2.1, T.2.2.2.1, T.2.2.2.2.1, T.2.2.2.2.2.1, T.2.2.2.2.2.2.1, T.2.2.2.2.2.2.2.1, T.2.2.2.2.2.2.2.2.1, T.2.2.2.2.2.2.2.2.2.1, T.2.2.2.2.2.2.2.2.2.2.1, T.2.2.2.2.2.2.2.2.2.2.2.1, T.2.2.2.2.2.2.2.2.2.2.2.2.1, T.2.2.2.2.2.2.2.2.2.2.2.2.2.1, T.2.2.2.2.2.2.2.2.2.2.2.2.2.2.1, T.2.2.2.2.2.2.2.2.2.2.2.2.2.2.2.1, T.2.2.2.2.2.2.2.2.2.2.2.2.2.2.2.2.1, T.2.2.2.2.2.2.2.2.2.2.2.2.2.2.2.2.2.1, T.2.2.2.2.2.2.2.2.2.2.2.2.2.2.2.2.2.2.1, T.2.2.2.2.2.2.2.2.2.2.2.2.2.2.2.2.2.2.2.1, T.2.2.2.2.2.2.2.2.2.2.2.2.2.2.2.2.2.2.2.2.1, T.2.2.2.2.2.2.2.2.2.2.2.2.2.2.2.2.2.2.2.2.2.1, T.2.2.2.2.2.2.2.2.2.2.2.2.2.2.2.2.2.2.2.2.2.2.1, T.2.2.2.2.2.2.2.2.2.2.2.2.2.2.2.2.2.2.2.2.2.2.2.1, T.2.2.2.2.2.2.2.2.2.2.2.2.2.2.2.2.2.2.2.2.2.2.2.2.1, v_ksz, v_ksc, v_ksd, v_kso, T.2.2.2.2.2.2.2.2.2.2.2.2.2.2.2.2.2.2.2.2.2.2.2.2.2.2.2.2.2.1, T.2.2.2.2.2.2.2.2.2.2.2.2.2.2.2.2.2.2.2.2.2.2.2.2.2.2.2.2.2.2.1, T.2.2.2.2.2.2.2.2.2.2.2.2.2.2.2.2.2.2.2.2.2.2.2.2.2.2.2.2.2.2.2.1, T.2.2.2.2.2.2.2.2.2.2.2.2.2.2.2.2.2.2.2.2.2.2.2.2.2.2.2.2.2.2.2.2.1, T.2.2.2.2.2.2.2.2.2.2.2.2.2.2.2.2.2.2.2.2.2.2.2.2.2.2.2.2.2.2.2.2.2) := hG_up (k := 196) (by decide) rfl (fun j hj hne => by
  unfold cG
  by_cases c0 : j < 1
  · rw [if_pos c0, if_pos c0]
    try rfl
  rw [if_neg c0, if_neg c0]
  by_cases c1 : j < 19
  · rw [if_pos c1, if_pos c1]
    try rfl
  rw [if_neg c1, if_neg c1]
  by_cases c2 : j < 37
  · rw [if_pos c2, if_pos c2]
    try rfl
  rw [if_neg c2, if_neg c2]
  by_cases c3 : j < 43
  · rw [if_pos c3, if_pos c3]
    obtain ⟨q, rfl⟩ : ∃ q, j = 37 + q := ⟨j - 37, by omega⟩
    simp only [Nat.add_sub_cancel_left]
    match q, hj with
    | 0, _ => rfl
    | 1, _ => rfl
    | 2, _ => rfl
    | 3, _ => rfl
    | 4, _ => rfl
    | 5, _ => rfl
    | q + 6, h9 => omega
  rw [if_neg c3, if_neg c3]
  by_cases c4 : j < 61
  · rw [if_pos c4, if_pos c4]
    try rfl
  rw [if_neg c4, if_neg c4]
  by_cases c5 : j < 63
  · rw [if_pos c5, if_pos c5]
    obtain ⟨q, rfl⟩ : ∃ q, j = 61 + q := ⟨j - 61, by omega⟩
    simp only [Nat.add_sub_cancel_left]
    match q, hj with
    | 0, _ => rfl
    | 1, _ => rfl
    | q + 2, h9 => omega
  rw [if_neg c5, if_neg c5]
  by_cases c6 : j < 189
  · rw [if_pos c6, if_pos c6]
    try rfl
  rw [if_neg c6, if_neg c6]
  obtain ⟨q, rfl⟩ : ∃ q, j = 189 + q := ⟨j - 189, by omega⟩
  simp only [Nat.add_sub_cancel_left]
  match q, hj, hne with
  | 0, _, h9 => rfl
  | 1, _, h9 => rfl
  | 2, _, h9 => rfl
  | 3, _, h9 => rfl
  | 4, _, h9 => rfl
  | 5, _, h9 => rfl
  | 6, _, h9 => rfl
  | 7, _, h9 => exact absurd rfl h9
  | 8, _, h9 => rfl
  | 9, _, h9 => rfl
  | 10, _, h9 => rfl
  | 11, _, h9 => rfl
  | 12, _, h9 => rfl
  | 13, _, h9 => rfl
  | 14, _, h9 => rfl
  | 15, _, h9 => rfl
  | 16, _, h9 => rfl
  | 17, _, h9 => rfl
  | q + 18, h9, _ => omega)
theorem hG_up198 {v_ksk : Nat → Int32} : hup (hG h z T) (z + 198) (ints 60 v_ksk) = hG h z (T.1, T.2.1, T.2.2.1, T.2.2.2.1, T.2.2.2.2.1, T.2.2.2.2.2.1, T.2.2.2.2.2.2.1, T.2.2.2.2.2.2.2.1, T.2.2.2.2.2.2.2.2.1, T.2.2.2.2.2.2.2.2.2.1, T.2.2.2.2.2.2.2.2.2.2.1, T.2.2.2.2.2.2.2.2.2.2.2.1, T.2.2.2.2.2.2.2.2.2.2.2.2.1, T.2.2.2.2.2.2.2.2.2.2.2.2.2.1, T.2.2.2.2.2.2.2.2.2.2.2.2.2.2.1, T.2.2.2.2.2.2.2.2.2.2.2.2.2.2.2.1, T.2.2.2.2.2.2.2.2.2.2.2.2.2.2.2.2.1, T.2.2.2.2.2.2.2.2.2.2.2.2.2.2.2.2.2.1, T.2.2.2.2.2.2.2.2.2.2.2.2.2.2.2.2.2.2.1, T.2.2.2.2.2.2.2.2.2.2.2.2.2.2.2.2.2.2.2.1, T.2.2.2.2.2.2.2.2.2.2.2.2.2.2.2.2.2.2.2.2.1, T.2.2.2.2.2.2.2.2.2.2.2.2.2.2.2.2.2.2.2.2.2.1, T.2.2.2.2.2.2.2.2.2.2.2.2.2.2.2.2.2.2.2.2.2.2.1, T.2.2.2.2.2.2.2.2.2.2.2.2.2.2.2.2.2.2.2.2.2.2.2.1, T.2.2.2.2.2.2.2.2.2.2.2.2.2.2.2.2.2.2.2.2.2.2.2.2.1, T.2.2.2.2.2.2.2.2.2.2.2.2.2.2.2.2.2.2.2.2.2.2.2.2.2.1, T.2.2.2.2.2.2.2.2.2.2.2.2.2.2.2.2.2.2.2.2.2.2.2.2.2.2.1, T.2.2.2.2.2.2.2.2.2.2.2.2.2.2.2.2.2.2.2.2.2.2.2.2.2.2.2.1, T.2.2.2.2.2.2.2.2.2.2.2.2.2.2.2.2.2.2.2.2.2.2.2.2.2.2.2.2.1, v_ksk, T.2.2.2.2.2.2.2.2.2.2.2.2.2.2.2.2.2.2.2.2.2.2.2.2.2.2.2.2.2.2.1, T.2.2.2.2.2.2.2.2.2.2.2.2.2.2.2.2.2.2.2.2.2.2.2.2.2.2.2.2.2.2.2.1, T.2.2.2.2.2.2.2.2.2.2.2.2.2.2.2.2.2.2.2.2.2.2.2.2.2.2.2.2.2.2.2.2.1, T.2.2.2.2.2.2.2.2.2.2.2.2.2.2.2.2.2.2.2.2.2.2.2.2.2.2.2.2.2.2.2.2.2) := hG_up (k := 198) (by decide) rfl (fun j hj hne => by
  unfold cG
  by_cases c0 : j < 1
  · rw [if_pos c0, if_pos c0]
    try rfl
  rw [if_neg c0, if_neg c0]
  by_cases c1 : j < 19
  · rw [if_pos c1, if_pos c1]
    try rfl
  rw [if_neg c1, if_neg c1]
  by_cases c2 : j < 37
  · rw [if_pos c2, if_pos c2]
    try rfl
  rw [if_neg c2, if_neg c2]
  by_cases c3 : j < 43
  · rw [if_pos c3, if_pos c3]
    obtain ⟨q, rfl⟩ : ∃ q, j = 37 + q := ⟨j - 37, by omega⟩
    simp only [Nat.add_sub_cancel_left]
    match q, hj with
    | 0, _ => rfl
    | 1, _ => rfl
    | 2, _ => rfl
    | 3, _ => rfl
    | 4, _ => rfl
    | 5, _ => rfl
    | q + 6, h9 => omega
  rw [if_neg c3, if_neg c3]
  by_cases c4 : j < 61
  · rw [if_pos c4, if_pos c4]
    try rfl
  rw [if_neg c4, if_neg c4]
  by_cases c5 : j < 63
  · rw [if_pos c5, if_pos c5]
    obtain ⟨q, rfl⟩ : ∃ q, j = 61 + q := ⟨j - 61, by omega⟩
    simp only [Nat.add_sub_cancel_left]
    match q, hj with
    | 0, _ => rfl
    | 1, _ => rfl
    | q + 2, h9 => omega
  rw [if_neg c5, if_neg c5]
  by_cases c6 : j < 189
  · rw [if_pos c6, if_pos c6]
    try rfl
  rw [if_neg c6, if_neg c6]
  obtain ⟨q, rfl⟩ : ∃ q, j = 189 + q := ⟨j - 189, by omega⟩
  simp only [Nat.add_sub_cancel_left]
  match q, hj, hne with
  | 0, _, h9 => rfl
  | 1, _, h9 => rfl
  | 2, _, h9 => rfl
  | 3, _, h9 => rfl
  | 4, _, h9 => rfl
  | 5, _, h9 => rfl
  | 6, _, h9 => rfl
  | 7, _, h9 => rfl
  | 8, _, h9 => rfl
  | 9, _, h9 => exact absurd rfl h9
  | 10, _, h9 => rfl
  | 11, _, h9 => rfl
  | 12, _, h9 => rfl
  | 13, _, h9 => rfl
  | 14, _, h9 => rfl
  | 15, _, h9 => rfl
  | 16, _, h9 => rfl
  | 17, _, h9 => rfl
  | q + 18, h9, _ => omega)
theorem hG_up200 {v_ksf : Nat → Int32} : hup (hG h z T) (z + 200) (ints 60 v_ksf) = hG h z (T.1, T.2.1, T.2.2.1, T.2.2.2.1, T.2.2.2.2.1, T.2.2.2.2.2.1, T.2.2.2.2.2.2.1, T.2.2.2.2.2.2.2.1, T.2.2.2.2.2.2.2.2.1, T.2.2.2.2.2.2.2.2.2.1, T.2.2.2.2.2.2.2.2.2.2.1, T.2.2.2.2.2.2.2.2.2.2.2.1, T.2.2.2.2.2.2.2.2.2.2.2.2.1, T.2.2.2.2.2.2.2.2.2.2.2.2.2.1, T.2.2.2.2.2.2.2.2.2.2.2.2.2.2.1, T.2.2.2.2.2.2.2.2.2.2.2.2.2.2.2.1, T.2.2.2.2.2.2.2.2.2.2.2.2.2.2.2.2.1, T.2.2.2.2.2.2.2.2.2.2.2.2.2.2.2.2.2.1, T.2.2.2.2.2.2.2.2.2.2.2.2.2.2.2.2.2.2.1, T.2.2.2.2.2.2.2.2.2.2.2.2.2.2.2.2.2.2.2.1, T.2.2.2.2.2.2.2.2.2.2.2.2.2.2.2.2.2.2.2.2.1, T.2.2.2.2.2.2.2.2.2.2.2.2.2.2.2.2.2.2.2.2.2.1, T.2.2.2.2.2.2.2.2.2.2.2.2.2.2.2.2.2.2.2.2.2.2.1, T.2.2.2.2.2.2.2.2.2.2.2.2.2.2.2.2.2.2.2.2.2.2.2.1, T.2.2.2.2.2.2.2.2.2.2.2.2.2.2.2.2.2.2.2.2.2.2.2.2.1, T.2.2.2.2.2.2.2.2.2.2.2.2.2.2.2.2.2.2.2.2.2.2.2.2.2.1, T.2.2.2.2.2.2.2.2.2.2.2.2.2.2.2.2.2.2.2.2.2.2.2.2.2.2.1, T.2.2.2.2.2.2.2.2.2.2.2.2.2.2.2.2.2.2.2.2.2.2.2.2.2.2.2.1, T.2.2.2.2.2.2.2.2.2.2.2.2.2.2.2.2.2.2.2.2.2.2.2.2.2.2.2.2.1, T.2.2.2.2.2.2.2.2.2.2.2.2.2.2.2.2.2.2.2.2.2.2.2.2.2.2.2.2.2.1, v_ksf, T.2.2.2.2.2.2.2.2.2.2.2.2.2.2.2.2.2.2.2.2.2.2.2.2.2.2.2.2.2.2.2.1, T.2.2.2.2.2.2.2.2.2.2.2.2.2.2.2.2.2.2.2.2.2.2.2.2.2.2.2.2.2.2.2.2.1, T.2.2.2.2.2.2.2.2.2.2.2.2.2.2.2.2.2.2.2.2.2.2.2.2.2.2.2.2.2.2.2.2.2) := hG_up (k := 200) (by decide) rfl (fun j hj hne => by
  unfold cG
  by_cases c0 : j < 1
  · rw [if_pos c0, if_pos c0]
    try rfl
  rw [if_neg c0, if_neg c0]
  by_cases c1 : j < 19
  · rw [if_pos c1, if_pos c1]
    try rfl
  rw [if_neg c1, if_neg c1]
  by_cases c2 : j < 37
  · rw [if_pos c2, if_pos c2]
    try rfl
  rw [if_neg c2, if_neg c2]
  by_cases c3 : j < 43
  · rw [if_pos c3, if_pos c3]
    obtain ⟨q, rfl⟩ : ∃ q, j = 37 + q := ⟨j - 37, by omega⟩
    simp only [Nat.add_sub_cancel_left]
    match q, hj with
    | 0, _ => rfl
    | 1, _ => rfl
    | 2, _ => rfl
    | 3, _ => rfl
    | 4, _ => rfl
    | 5, _ => rfl
    | q + 6, h9 => omega
  rw [if_neg c3, if_neg c3]
  by_cases c4 : j < 61
  · rw [if_pos c4, if_pos c4]
    try rfl
  rw [if_neg c4, if_neg c4]
  by_cases c5 : j < 63
  · rw [if_pos c5, if_pos c5]
    obtain ⟨q, rfl⟩ : ∃ q, j = 61 + q := ⟨j - 61, by omega⟩
    simp only [Nat.add_sub_cancel_left]
    match q, hj with
    | 0, _ => rfl
    | 1, _ => rfl
    | q + 2, h9 => omega
  rw [if_neg c5, if_neg c5]
  by_cases c6 : j < 189
  · rw [if_pos c6, if_pos c6]
    try rfl
  rw [if_neg c6, if_neg c6]
  obtain ⟨q, rfl⟩ : ∃ q, j = 189 + q := ⟨j - 189, by omega⟩
  simp only [Nat.add_sub_cancel_left]
  match q, hj, hne with
  | 0, _, h9 => rfl
  | 1, _, h9 => rfl
  | 2, _, h9 => rfl
  | 3, _, h9 => rfl
  | 4, _, h9 => rfl
  | 5, _, h9 => rfl
  | 6, _, h9 => rfl
  | 7, _, h9 => rfl
  | 8, _, h9 => rfl
  | 9, _, h9 => rfl
  | 10, _, h9 => rfl
  | 11, _, h9 => exact absurd rfl h9
  | 12, _, h9 => rfl
  | 13, _, h9 => rfl
  | 14, _, h9 => rfl
  | 15, _, h9 => rfl
  | 16, _, h9 => rfl
  | 17, _, h9 => rfl
  | q + 18, h9, _ => omega)
theorem hG_up202 {v_ksn : Nat → Int32} : hup (hG h z T) (z + 202) (ints 60 v_ksn) = hG h z (T.1, T.2.1, T.2.2.1, T.2.2.2.1, T.2.2.2.2.1, T.2.2.2.2.2.1, T.2.2.2.2.2.2.1, T.2.2.2.2.2.2.2.1, T.2.2.2.2.2.2.2.2.1, T.2.2.2.2.2.2.2.2.2.1, T.2.2.2.2.2.2.2.2.2.2.1, T.2.2.2.2.2.2.2.2.2.2.2.1, T.2.2.2.2.2.2.2.2.2.2.2.2.1, T.2.2.2.2.2.2.2.2.2.2.2.2.2.1, T.2.2.2.2.2.2.2.2.2.2.2.2.2.2.1, T.2.2.2.2.2.2.2.2.2.2.2.2.2.2.2.1, T.2.2.2.2.2.2.2.2.2.2.2.2.2.2.2.2.1, T.2.2.2.2.2.2.2.2.2.2.2.2.2.2.2.2.2.1, T.2.2.2.2.2.2.2.2.2.2.2.2.2.2.2.2.2.2.1, T.2.2.2.2.2.2.2.2.2.2.2.2.2.2.2.2.2.2.2.1, T.2.2.2.2.2.2.2.2.2.2.2.2.2.2.2.2.2.2.2.2.1, T.2.2.2.2.2.2.2.2.2.2.2.2.2.2.2.2.2.2.2.2.2.1, T.2.2.2.2.2.2.2.2.2.2.2.2.2.2.2.2.2.2.2.2.2.2.1, T.2.2.2.2.2.2.2.2.2.2.2.2.2.2.2.2.2.2.2.2.2.2.2.1, T.2.2.2.2.2.2.2.2.2.2.2.2.2.2.2.2.2.2.2.2.2.2.2.2.1, T.2.2.2.2.2.2.2.2.2.2.2.2.2.2.2.2.2.2.2.2.2.2.2.2.2.1, T.2.2.2.2.2.2.2.2.2.2.2.2.2.2.2.2.2.2.2.2.2.2.2.2.2.2.1, T.2.2.2.2.2.2.2.2.2.2.2.2.2.2.2.2.2.2.2.2.2.2.2.2.2.2.2.1, T.2.2.2.2.2.2.2.2.2.2.2.2.2.2.2.2.2.2.2.2.2.2.2.2.2.2.2.2.1, T.2.2.2.2.2.2.2.2.2.2.2.2.2.2.2.2.2.2.2.2.2.2.2.2.2.2.2.2.2.1, T.2.2.2.2.2.2.2.2.2.2.2.2.2.2.2.2.2.2.2.2.2.2.2.2.2.2.2.2.2.2.1, v_ksn, T.2.2.2.2.2.2.2.2.2.2.2.2.2.2.2.2.2.2.2.2.2.2.2.2.2.2.2.2.2.2.2.2.1, T.2.2.2.2.2.2.2.2.2.2.2.2.2.2.2.2.2.2.2.2.2.2.2.2.2.2.2.2.2.2.2.2.2) := hG_up (k := 202) (by decide) rfl (fun j hj hne => by
  unfold cG
  by_cases c0 : j < 1
  · rw [if_pos c0, if_pos c0]
    try rfl
  rw [if_neg c0, if_neg c0]
  by_cases c1 : j < 19
  · rw [if_pos c1, if_pos c1]
    try rfl
  rw [if_neg c1, if_neg c1]
  by_cases c2 : j < 37
  · rw [if_pos c2, if_pos c2]
    try rfl
  rw [if_neg c2, if_neg c2]
  by_cases c3 : j < 43
  · rw [if_pos c3, if_pos c3]
    obtain ⟨q, rfl⟩ : ∃ q, j = 37 + q := ⟨j - 37, by omega⟩
    simp only [Nat.add_sub_cancel_left]
    match q, hj with
    | 0, _ => rfl
    | 1, _ => rfl
    | 2, _ => rfl
    | 3, _ => rfl
    | 4, _ => rfl
    | 5, _ => rfl
    | q + 6, h9 => omega
  rw [if_neg c3, if_neg c3]
  by_cases c4 : j < 61
  · rw [if_pos c4, if_pos c4]
    try rfl
  rw [if_neg c4, if_neg c4]
  by_cases c5 : j < 63
  · rw [if_pos c5, if_pos c5]
    obtain ⟨q, rfl⟩ : ∃ q, j = 61 + q := ⟨j - 61, by omega⟩
    simp only [Nat.add_sub_cancel_left]
    match q, hj with
    | 0, _ => rfl
    | 1, _ => rfl
    | q + 2, h9 => omega
  rw [if_neg c5, if_neg c5]
  by_cases c6 : j < 189
  · rw [if_pos c6, if_pos c6]
    try rfl
  rw [if_neg c6, if_neg c6]
  obtain ⟨q, rfl⟩ : ∃ q, j = 189 + q := ⟨j - 189, by omega⟩
  simp only [Nat.add_sub_cancel_left]
  match q, hj, hne with
  | 0, _, h9 => rfl
  | 1, _, h9 => rfl
  | 2, _, h9 => rfl
  | 3, _, h9 => rfl
  | 4, _, h9 => rfl
  | 5, _, h9 => rfl
  | 6, _, h9 => rfl
  | 7, _, h9 => rfl
  | 8, _, h9 => rfl
  | 9, _, h9 => rfl
  | 10, _, h9 => rfl
  | 11, _, h9 => rfl
  | 12, _, h9 => rfl
  | 13, _, h9 => exact absurd rfl h9
  | 14, _, h9 => rfl
  | 15, _, h9 => rfl
  | 16, _, h9 => rfl
  | 17, _, h9 => rfl
  | q + 18, h9, _ => omega)
theorem hG_up204 {v_ksr : Nat → Int32} : hup (hG h z T) (z + 204) (ints 60 v_ksr) = hG h z (T.1, T.2.1, T.2.2.1, T.2.2.2.1, T.2.2.2.2.1, T.2.2.2.2.2.1, T.2.2.2.2.2.2.1, T.2.2.2.2.2.2.2.1, T.2.2.2.2.2.2.2.2.1, T.2.2.2.2.2.2.2.2.2.1, T.2.2.2.2.2.2.2.2.2.2.1, T.2.2.2.2.2.2.2.2.2.2.2.1, T.2.2.2.2.2.2.2.2.2.2.2.2.1, T.2.2.2.2.2.2.2.2.2.2.2.2.2.1, T.2.2.2.2.2.2.2.2.2.2.2.2.2.2.1, T.2.2.2.2.2.2.2.2.2.2.2.2.2.2.2.1, T.2.2.2.2.2.2.2.2.2.2.2.2.2.2.2.2.1, T.2.2.2.2.2.2.2.2.2.2.2.2.2.2.2.2.2.1, T.2.2.2.2.2.2.2.2.2.2.2.2.2.2.2.2.2.2.1, T.2.2.2.2.2.2.2.2.2.2.2.2.2.2.2.2.2.2.2.1, T.2.2.2.2.2.2.2.2.2.2.2.2.2.2.2.2.2.2.2.2.1, T.2.2.2.2.2.2.2.2.2.2.2.2.2.2.2.2.2.2.2.2.2.1, T.2.2.2.2.2.2.2.2.2.2.2.2.2.2.2.2.2.2.2.2.2.2.1, T.2.2.2.2.2.2.2.2.2.2.2.2.2.2.2.2.2.2.2.2.2.2.2.1, T.2.2.2.2.2.2.2.2.2.2.2.2.2.2.2.2.2.2.2.2.2.2.2.2.1, T.2.2.2.2.2.2.2.2.2.2.2.2.2.2.2.2.2.2.2.2.2.2.2.2.2.1, T.2.2.2.2.2.2.2.2.2.2.2.2.2.2.2.2.2.2.2.2.2.2.2.2.2.2.1, T.2.2.2.2.2.2.2.2.2.2.2.2.2.2.2.2.2.2.2.2.2.2.2.2.2.2.2.1, T.2.2.2.2.2.2.2.2.2.2.2.2.2.2.2.2.2.2.2.2.2.2.2.2.2.2.2.2.1, T.2.2.2.2.2.2.2.2.2.2.2.2.2.2.2.2.2.2.2.2.2.2.2.2.2.2.2.2.2.1, T.2.2.2.2.2.2.2.2.2.2.2.2.2.2.2.2.2.2.2.2.2.2.2.2.2.2.2.2.2.2.1, T.2.2.2.2.2.2.2.2.2.2.2.2.2.2.2.2.2.2.2.2.2.2.2.2.2.2.2.2.2.2.2.1, v_ksr, T.2.2.2.2.2.2.2.2.2.2.2.2.2.2.2.2.2.2.2.2.2.2.2.2.2.2.2.2.2.2.2.2.2) := hG_up (k := 204) (by decide) rfl (fun j hj hne => by
  unfold cG
  by_cases c0 : j < 1
  · rw [if_pos c0, if_pos c0]
    try rfl
  rw [if_neg c0, if_neg c0]
  by_cases c1 : j < 19
  · rw [if_pos c1, if_pos c1]
    try rfl
  rw [if_neg c1, if_neg c1]
  by_cases c2 : j < 37
  · rw [if_pos c2, if_pos c2]
    try rfl
  rw [if_neg c2, if_neg c2]
  by_cases c3 : j < 43
  · rw [if_pos c3, if_pos c3]
    obtain ⟨q, rfl⟩ : ∃ q, j = 37 + q := ⟨j - 37, by omega⟩
    simp only [Nat.add_sub_cancel_left]
    match q, hj with
    | 0, _ => rfl
    | 1, _ => rfl
    | 2, _ => rfl
    | 3, _ => rfl
    | 4, _ => rfl
    | 5, _ => rfl
    | q + 6, h9 => omega
  rw [if_neg c3, if_neg c3]
  by_cases c4 : j < 61
  · rw [if_pos c4, if_pos c4]
    try rfl
  rw [if_neg c4, if_neg c4]
  by_cases c5 : j < 63
  · rw [if_pos c5, if_pos c5]
    obtain ⟨q, rfl⟩ : ∃ q, j = 61 + q := ⟨j - 61, by omega⟩
    simp only [Nat.add_sub_cancel_left]
    match q, hj with
    | 0, _ => rfl
    | 1, _ => rfl
    | q + 2, h9 => omega
  rw [if_neg c5, if_neg c5]
  by_cases c6 : j < 189
  · rw [if_pos c6, if_pos c6]
    try rfl
  rw [if_neg c6, if_neg c6]
  obtain ⟨q, rfl⟩ : ∃ q, j = 189 + q := ⟨j - 189, by omega⟩
  simp only [Nat.add_sub_cancel_left]
  match q, hj, hne with
  | 0, _, h9 => rfl
  | 1, _, h9 => rfl
  | 2, _, h9 => rfl
  | 3, _, h9 => rfl
  | 4, _, h9 => rfl
  | 5, _, h9 => rfl
  | 6, _, h9 => rfl
  | 7, _, h9 => rfl
  | 8, _, h9 => rfl
  | 9, _, h9 => rfl
  | 10, _, h9 => rfl
  | 11, _, h9 => rfl
  | 12, _, h9 => rfl
  | 13, _, h9 => rfl
  | 14, _, h9 => rfl
  | 15, _, h9 => exact absurd rfl h9
  | 16, _, h9 => rfl
  | 17, _, h9 => rfl
  | q + 18, h9, _ => omega)
theorem hG_up206 {v_kou : Nat → Int32} : hup (hG h z T) (z + 206) (ints 192 v_kou) = hG h z (T.1, T.2.1, T.2.2.1, T.2.2.2.1, T.2.2.2.2.1, T.2.2.2.2.2.1, T.2.2.2.2.2.2.1, T.2.2.2.2.2.2.2.1, T.2.2.2.2.2.2.2.2.1, T.2.2.2.2.2.2.2.2.2.1, T.2.2.2.2.2.2.2.2.2.2.1, T.2.2.2.2.2.2.2.2.2.2.2.1, T.2.2.2.2.2.2.2.2.2.2.2.2.1, T.2.2.2.2.2.2.2.2.2.2.2.2.2.1, T.2.2.2.2.2.2.2.2.2.2.2.2.2.2.1, T.2.2.2.2.2.2.2.2.2.2.2.2.2.2.2.1, T.2.2.2.2.2.2.2.2.2.2.2.2.2.2.2.2.1, T.2.2.2.2.2.2.2.2.2.2.2.2.2.2.2.2.2.1, T.2.2.2.2.2.2.2.2.2.2.2.2.2.2.2.2.2.2.1, T.2.2.2.2.2.2.2.2.2.2.2.2.2.2.2.2.2.2.2.1, T.2.2.2.2.2.2.2.2.2.2.2.2.2.2.2.2.2.2.2.2.1, T.2.2.2.2.2.2.2.2.2.2.2.2.2.2.2.2.2.2.2.2.2.1, T.2.2.2.2.2.2.2.2.2.2.2.2.2.2.2.2.2.2.2.2.2.2.1, T.2.2.2.2.2.2.2.2.2.2.2.2.2.2.2.2.2.2.2.2.2.2.2.1, T.2.2.2.2.2.2.2.2.2.2.2.2.2.2.2.2.2.2.2.2.2.2.2.2.1, T.2.2.2.2.2.2.2.2.2.2.2.2.2.2.2.2.2.2.2.2.2.2.2.2.2.1, T.2.2.2.2.2.2.2.2.2.2.2.2.2.2.2.2.2.2.2.2.2.2.2.2.2.2.1, T.2.2.2.2.2.2.2.2.2.2.2.2.2.2.2.2.2.2.2.2.2.2.2.2.2.2.2.1, T.2.2.2.2.2.2.2.2.2.2.2.2.2.2.2.2.2.2.2.2.2.2.2.2.2.2.2.2.1, T.2.2.2.2.2.2.2.2.2.2.2.2.2.2.2.2.2.2.2.2.2.2.2.2.2.2.2.2.2.1, T.2.2.2.2.2.2.2.2.2.2.2.2.2.2.2.2.2.2.2.2.2.2.2.2.2.2.2.2.2.2.1, T.2.2.2.2.2.2.2.2.2.2.2.2.2.2.2.2.2.2.2.2.2.2.2.2.2.2.2.2.2.2.2.1, T.2.2.2.2.2.2.2.2.2.2.2.2.2.2.2.2.2.2.2.2.2.2.2.2.2.2.2.2.2.2.2.2.1, v_kou) := hG_up (k := 206) (by decide) rfl (fun j hj hne => by
  unfold cG
  by_cases c0 : j < 1
  · rw [if_pos c0, if_pos c0]
    try rfl
  rw [if_neg c0, if_neg c0]
  by_cases c1 : j < 19
  · rw [if_pos c1, if_pos c1]
    try rfl
  rw [if_neg c1, if_neg c1]
  by_cases c2 : j < 37
  · rw [if_pos c2, if_pos c2]
    try rfl
  rw [if_neg c2, if_neg c2]
  by_cases c3 : j < 43
  · rw [if_pos c3, if_pos c3]
    obtain ⟨q, rfl⟩ : ∃ q, j = 37 + q := ⟨j - 37, by omega⟩
    simp only [Nat.add_sub_cancel_left]
    match q, hj with
    | 0, _ => rfl
    | 1, _ => rfl
    | 2, _ => rfl
    | 3, _ => rfl
    | 4, _ => rfl
    | 5, _ => rfl
    | q + 6, h9 => omega
  rw [if_neg c3, if_neg c3]
  by_cases c4 : j < 61
  · rw [if_pos c4, if_pos c4]
    try rfl
  rw [if_neg c4, if_neg c4]
  by_cases c5 : j < 63
  · rw [if_pos c5, if_pos c5]
    obtain ⟨q, rfl⟩ : ∃ q, j = 61 + q := ⟨j - 61, by omega⟩
    simp only [Nat.add_sub_cancel_left]
    match q, hj with
    | 0, _ => rfl
    | 1, _ => rfl
    | q + 2, h9 => omega
  rw [if_neg c5, if_neg c5]
  by_cases c6 : j < 189
  · rw [if_pos c6, if_pos c6]
    try rfl
  rw [if_neg c6, if_neg c6]
  obtain ⟨q, rfl⟩ : ∃ q, j = 189 + q := ⟨j - 189, by omega⟩
  simp only [Nat.add_sub_cancel_left]
  match q, hj, hne with
  | 0, _, h9 => rfl
  | 1, _, h9 => rfl
  | 2, _, h9 => rfl
  | 3, _, h9 => rfl
  | 4, _, h9 => rfl
  | 5, _, h9 => rfl
  | 6, _, h9 => rfl
  | 7, _, h9 => rfl
  | 8, _, h9 => rfl
  | 9, _, h9 => rfl
  | 10, _, h9 => rfl
  | 11, _, h9 => rfl
  | 12, _, h9 => rfl
  | 13, _, h9 => rfl
  | 14, _, h9 => rfl
  | 15, _, h9 => rfl
  | 16, _, h9 => rfl
  | 17, _, h9 => exact absurd rfl h9
  | q + 18, h9, _ => omega)
theorem hG_h1 {U : HT} : hH (hG h z T) (z + 1) U = hG h z (T.1, T.2.1, U, T.2.2.2.1, T.2.2.2.2.1, T.2.2.2.2.2.1, T.2.2.2.2.2.2.1, T.2.2.2.2.2.2.2.1, T.2.2.2.2.2.2.2.2.1, T.2.2.2.2.2.2.2.2.2.1, T.2.2.2.2.2.2.2.2.2.2.1, T.2.2.2.2.2.2.2.2.2.2.2.1, T.2.2.2.2.2.2.2.2.2.2.2.2.1, T.2.2.2.2.2.2.2.2.2.2.2.2.2.1, T.2.2.2.2.2.2.2.2.2.2.2.2.2.2.1, T.2.2.2.2.2.2.2.2.2.2.2.2.2.2.2.1, T.2.2.2.2.2.2.2.2.2.2.2.2.2.2.2.2.1, T.2.2.2.2.2.2.2.2.2.2.2.2.2.2.2.2.2.1, T.2.2.2.2.2.2.2.2.2.2.2.2.2.2.2.2.2.2.1, T.2.2.2.2.2.2.2.2.2.2.2.2.2.2.2.2.2.2.2.1, T.2.2.2.2.2.2.2.2.2.2.2.2.2.2.2.2.2.2.2.2.1, T.2.2.2.2.2.2.2.2.2.2.2.2.2.2.2.2.2.2.2.2.2.1, T.2.2.2.2.2.2.2.2.2.2.2.2.2.2.2.2.2.2.2.2.2.2.1, T.2.2.2.2.2.2.2.2.2.2.2.2.2.2.2.2.2.2.2.2.2.2.2.1, T.2.2.2.2.2.2.2.2.2.2.2.2.2.2.2.2.2.2.2.2.2.2.2.2.1, T.2.2.2.2.2.2.2.2.2.2.2.2.2.2.2.2.2.2.2.2.2.2.2.2.2.1, T.2.2.2.2.2.2.2.2.2.2.2.2.2.2.2.2.2.2.2.2.2.2.2.2.2.2.1, T.2.2.2.2.2.2.2.2.2.2.2.2.2.2.2.2.2.2.2.2.2.2.2.2.2.2.2.1, T.2.2.2.2.2.2.2.2.2.2.2.2.2.2.2.2.2.2.2.2.2.2.2.2.2.2.2.2.1, T.2.2.2.2.2.2.2.2.2.2.2.2.2.2.2.2.2.2.2.2.2.2.2.2.2.2.2.2.2.1, T.2.2.2.2.2.2.2.2.2.2.2.2.2.2.2.2.2.2.2.2.2.2.2.2.2.2.2.2.2.2.1, T.2.2.2.2.2.2.2.2.2.2.2.2.2.2.2.2.2.2.2.2.2.2.2.2.2.2.2.2.2.2.2.1, T.2.2.2.2.2.2.2.2.2.2.2.2.2.2.2.2.2.2.2.2.2.2.2.2.2.2.2.2.2.2.2.2.1, T.2.2.2.2.2.2.2.2.2.2.2.2.2.2.2.2.2.2.2.2.2.2.2.2.2.2.2.2.2.2.2.2.2) := hG_blk (a := 1) (n := 18) (f := cH (z + 1) U) (by decide) (fun j hj => by
  unfold cG
  rw [if_neg (by omega)]
  rw [if_pos (by omega), Nat.add_sub_cancel_left]) (fun j hj hne => by
  unfold cG
  by_cases c0 : j < 1
  · rw [if_pos c0, if_pos c0]
    try rfl
  rw [if_neg c0, if_neg c0]
  by_cases c1 : j < 19
  · rw [if_pos c1, if_pos c1]
    omega
  rw [if_neg c1, if_neg c1]
  by_cases c2 : j < 37
  · rw [if_pos c2, if_pos c2]
    try rfl
  rw [if_neg c2, if_neg c2]
  by_cases c3 : j < 43
  · rw [if_pos c3, if_pos c3]
    obtain ⟨q, rfl⟩ : ∃ q, j = 37 + q := ⟨j - 37, by omega⟩
    simp only [Nat.add_sub_cancel_left]
    match q, hj with
    | 0, _ => rfl
    | 1, _ => rfl
    | 2, _ => rfl
    | 3, _ => rfl
    | 4, _ => rfl
    | 5, _ => rfl
    | q + 6, h9 => omega
  rw [if_neg c3, if_neg c3]
  by_cases c4 : j < 61
  · rw [if_pos c4, if_pos c4]
    try rfl
  rw [if_neg c4, if_neg c4]
  by_cases c5 : j < 63
  · rw [if_pos c5, if_pos c5]
    obtain ⟨q, rfl⟩ : ∃ q, j = 61 + q := ⟨j - 61, by omega⟩
    simp only [Nat.add_sub_cancel_left]
    match q, hj with
    | 0, _ => rfl
    | 1, _ => rfl
    | q + 2, h9 => omega
  rw [if_neg c5, if_neg c5]
  by_cases c6 : j < 189
  · rw [if_pos c6, if_pos c6]
    try rfl
  rw [if_neg c6, if_neg c6]
  obtain ⟨q, rfl⟩ : ∃ q, j = 189 + q := ⟨j - 189, by omega⟩
  simp only [Nat.add_sub_cancel_left]
  match q, hj with
  | 0, _ => rfl
  | 1, _ => rfl
  | 2, _ => rfl
  | 3, _ => rfl
  | 4, _ => rfl
  | 5, _ => rfl
  | 6, _ => rfl
  | 7, _ => rfl
  | 8, _ => rfl
  | 9, _ => rfl
  | 10, _ => rfl
  | 11, _ => rfl
  | 12, _ => rfl
  | 13, _ => rfl
  | 14, _ => rfl
  | 15, _ => rfl
  | 16, _ => rfl
  | 17, _ => rfl
  | q + 18, h9 => omega)
theorem hG_h19 {U : HT} : hH (hG h z T) (z + 19) U = hG h z (T.1, T.2.1, T.2.2.1, U, T.2.2.2.2.1, T.2.2.2.2.2.1, T.2.2.2.2.2.2.1, T.2.2.2.2.2.2.2.1, T.2.2.2.2.2.2.2.2.1, T.2.2.2.2.2.2.2.2.2.1, T.2.2.2.2.2.2.2.2.2.2.1, T.2.2.2.2.2.2.2.2.2.2.2.1, T.2.2.2.2.2.2.2.2.2.2.2.2.1, T.2.2.2.2.2.2.2.2.2.2.2.2.2.1, T.2.2.2.2.2.2.2.2.2.2.2.2.2.2.1, T.2.2.2.2.2.2.2.2.2.2.2.2.2.2.2.1, T.2.2.2.2.2.2.2.2.2.2.2.2.2.2.2.2.1, T.2.2.2.2.2.2.2.2.2.2.2.2.2.2.2.2.2.1, T.2.2.2.2.2.2.2.2.2.2.2.2.2.2.2.2.2.2.1, T.2.2.2.2.2.2.2.2.2.2.2.2.2.2.2.2.2.2.2.1, T.2.2.2.2.2.2.2.2.2.2.2.2.2.2.2.2.2.2.2.2.1, T.2.2.2.2.2.2.2.2.2.2.2.2.2.2.2.2.2.2.2.2.2.1, T.2.2.2.2.2.2.2.2.2.2.2.2.2.2.2.2.2.2.2.2.2.2.1, T.2.2.2.2.2.2.2.2.2.2.2.2.2.2.2.2.2.2.2.2.2.2.2.1, T.2.2.2.2.2.2.2.2.2.2.2.2.2.2.2.2.2.2.2.2.2.2.2.2.1, T.2.2.2.2.2.2.2.2.2.2.2.2.2.2.2.2.2.2.2.2.2.2.2.2.2.1, T.2.2.2.2.2.2.2.2.2.2.2.2.2.2.2.2.2.2.2.2.2.2.2.2.2.2.1, T.2.2.2.2.2.2.2.2.2.2.2.2.2.2.2.2.2.2.2.2.2.2.2.2.2.2.2.1, T.2.2.2.2.2.2.2.2.2.2.2.2.2.2.2.2.2.2.2.2.2.2.2.2.2.2.2.2.1, T.2.2.2.2.2.2.2.2.2.2.2.2.2.2.2.2.2.2.2.2.2.2.2.2.2.2.2.2.2.1, T.2.2.2.2.2.2.2.2.2.2.2.2.2.2.2.2.2.2.2.2.2.2.2.2.2.2.2.2.2.2.1, T.2.2.2.2.2.2.2.2.2.2.2.2.2.2.2.2.2.2.2.2.2.2.2.2.2.2.2.2.2.2.2.1, T.2.2.2.2.2.2.2.2.2.2.2.2.2.2.2.2.2.2.2.2.2.2.2.2.2.2.2.2.2.2.2.2.1, T.2.2.2.2.2.2.2.2.2.2.2.2.2.2.2.2.2.2.2.2.2.2.2.2.2.2.2.2.2.2.2.2.2) := hG_blk (a := 19) (n := 18) (f := cH (z + 19) U) (by decide) (fun j hj => by
  unfold cG
  rw [if_neg (by omega)]
  rw [if_neg (by omega)]
  rw [if_pos (by omega), Nat.add_sub_cancel_left]) (fun j hj hne => by
  unfold cG
  by_cases c0 : j < 1
  · rw [if_pos c0, if_pos c0]
    try rfl
  rw [if_neg c0, if_neg c0]
  by_cases c1 : j < 19
  · rw [if_pos c1, if_pos c1]
    try rfl
  rw [if_neg c1, if_neg c1]
  by_cases c2 : j < 37
  · rw [if_pos c2, if_pos c2]
    omega
  rw [if_neg c2, if_neg c2]
  by_cases c3 : j < 43
  · rw [if_pos c3, if_pos c3]
    obtain ⟨q, rfl⟩ : ∃ q, j = 37 + q := ⟨j - 37, by omega⟩
    simp only [Nat.add_sub_cancel_left]
    match q, hj with
    | 0, _ => rfl
    | 1, _ => rfl
    | 2, _ => rfl
    | 3, _ => rfl
    | 4, _ => rfl
    | 5, _ => rfl
    | q + 6, h9 => omega
  rw [if_neg c3, if_neg c3]
  by_cases c4 : j < 61
  · rw [if_pos c4, if_pos c4]
    try rfl
  rw [if_neg c4, if_neg c4]
  by_cases c5 : j < 63
  · rw [if_pos c5, if_pos c5]
    obtain ⟨q, rfl⟩ : ∃ q, j = 61 + q := ⟨j - 61, by omega⟩
    simp only [Nat.add_sub_cancel_left]
    match q, hj with
    | 0, _ => rfl
    | 1, _ => rfl
    | q + 2, h9 => omega
  rw [if_neg c5, if_neg c5]
  by_cases c6 : j < 189
  · rw [if_pos c6, if_pos c6]
    try rfl
  rw [if_neg c6, if_neg c6]
  obtain ⟨q, rfl⟩ : ∃ q, j = 189 + q := ⟨j - 189, by omega⟩
  simp only [Nat.add_sub_cancel_left]
  match q, hj with
  | 0, _ => rfl
  | 1, _ => rfl
  | 2, _ => rfl
  | 3, _ => rfl
  | 4, _ => rfl
  | 5, _ => rfl
  | 6, _ => rfl
  | 7, _ => rfl
  | 8, _ => rfl
  | 9, _ => rfl
  | 10, _ => rfl
  | 11, _ => rfl
  | 12, _ => rfl
  | 13, _ => rfl
  | 14, _ => rfl
  | 15, _ => rfl
  | 16, _ => rfl
  | 17, _ => rfl
  | q + 18, h9 => omega)
theorem hG_h43 {U : HT} : hH (hG h z T) (z + 43) U = hG h z (T.1, T.2.1, T.2.2.1, T.2.2.2.1, T.2.2.2.2.1, T.2.2.2.2.2.1, T.2.2.2.2.2.2.1, T.2.2.2.2.2.2.2.1, T.2.2.2.2.2.2.2.2.1, T.2.2.2.2.2.2.2.2.2.1, T.2.2.2.2.2.2.2.2.2.2.1, T.2.2.2.2.2.2.2.2.2.2.2.1, T.2.2.2.2.2.2.2.2.2.2.2.2.1, T.2.2.2.2.2.2.2.2.2.2.2.2.2.1, T.2.2.2.2.2.2.2.2.2.2.2.2.2.2.1, T.2.2.2.2.2.2.2.2.2.2.2.2.2.2.2.1, T.2.2.2.2.2.2.2.2.2.2.2.2.2.2.2.2.1, T.2.2.2.2.2.2.2.2.2.2.2.2.2.2.2.2.2.1, T.2.2.2.2.2.2.2.2.2.2.2.2.2.2.2.2.2.2.1, U, T.2.2.2.2.2.2.2.2.2.2.2.2.2.2.2.2.2.2.2.2.1, T.2.2.2.2.2.2.2.2.2.2.2.2.2.2.2.2.2.2.2.2.2.1, T.2.2.2.2.2.2.2.2.2.2.2.2.2.2.2.2.2.2.2.2.2.2.1, T.2.2.2.2.2.2.2.2.2.2.2.2.2.2.2.2.2.2.2.2.2.2.2.1, T.2.2.2.2.2.2.2.2.2.2.2.2.2.2.2.2.2.2.2.2.2.2.2.2.1, T.2.2.2.2.2.2.2.2.2.2.2.2.2.2.2.2.2.2.2.2.2.2.2.2.2.1, T.2.2.2.2.2.2.2.2.2.2.2.2.2.2.2.2.2.2.2.2.2.2.2.2.2.2.1, T.2.2.2.2.2.2.2.2.2.2.2.2.2.2.2.2.2.2.2.2.2.2.2.2.2.2.2.1, T.2.2.2.2.2.2.2.2.2.2.2.2.2.2.2.2.2.2.2.2.2.2.2.2.2.2.2.2.1, T.2.2.2.2.2.2.2.2.2.2.2.2.2.2.2.2.2.2.2.2.2.2.2.2.2.2.2.2.2.1, T.2.2.2.2.2.2.2.2.2.2.2.2.2.2.2.2.2.2.2.2.2.2.2.2.2.2.2.2.2.2.1, T.2.2.2.2.2.2.2.2.2.2.2.2.2.2.2.2.2.2.2.2.2.2.2.2.2.2.2.2.2.2.2.1, T.2.2.2.2.2.2.2.2.2.2.2.2.2.2.2.2.2.2.2.2.2.2.2.2.2.2.2.2.2.2.2.2.1, T.2.2.2.2.2.2.2.2.2.2.2.2.2.2.2.2.2.2.2.2.2.2.2.2.2.2.2.2.2.2.2.2.2) := hG_blk (a := 43) (n := 18) (f := cH (z + 43) U) (by decide) (fun j hj => by
  unfold cG
  rw [if_neg (by omega)]
  rw [if_neg (by omega)]
  rw [if_neg (by omega)]
  rw [if_neg (by omega)]
  rw [if_pos (by omega), Nat.add_sub_cancel_left]) (fun j hj hne => by
  unfold cG
  by_cases c0 : j < 1
  · rw [if_pos c0, if_pos c0]
    try rfl
  rw [if_neg c0, if_neg c0]
  by_cases c1 : j < 19
  · rw [if_pos c1, if_pos c1]
    try rfl
  rw [if_neg c1, if_neg c1]
  by_cases c2 : j < 37
  · rw [if_pos c2, if_pos c2]
    try rfl
  rw [if_neg c2, if_neg c2]
  by_cases c3 : j < 43
  · rw [if_pos c3, if_pos c3]
    obtain ⟨q, rfl⟩ : ∃ q, j = 37 + q := ⟨j - 37, by omega⟩
    simp only [Nat.add_sub_cancel_left]
    match q, hj with
    | 0, _ => rfl
    | 1, _ => rfl
    | 2, _ => rfl
    | 3, _ => rfl
    | 4, _ => rfl
    | 5, _ => rfl
    | q + 6, h9 => omega
  rw [if_neg c3, if_neg c3]
  by_cases c4 : j < 61
  · rw [if_pos c4, if_pos c4]
    omega
  rw [if_neg c4, if_neg c4]
  by_cases c5 : j < 63
  · rw [if_pos c5, if_pos c5]
    obtain ⟨q, rfl⟩ : ∃ q, j = 61 + q := ⟨j - 61, by omega⟩
    simp only [Nat.add_sub_cancel_left]
    match q, hj with
    | 0, _ => rfl
    | 1, _ => rfl
    | q + 2, h9 => omega
  rw [if_neg c5, if_neg c5]
  by_cases c6 : j < 189
  · rw [if_pos c6, if_pos c6]
    try rfl
  rw [if_neg c6, if_neg c6]
  obtain ⟨q, rfl⟩ : ∃ q, j = 189 + q := ⟨j - 189, by omega⟩
  simp only [Nat.add_sub_cancel_left]
  match q, hj with
  | 0, _ => rfl
  | 1, _ => rfl
  | 2, _ => rfl
  | 3, _ => rfl
  | 4, _ => rfl
  | 5, _ => rfl
  | 6, _ => rfl
  | 7, _ => rfl
  | 8, _ => rfl
  | 9, _ => rfl
  | 10, _ => rfl
  | 11, _ => rfl
  | 12, _ => rfl
  | 13, _ => rfl
  | 14, _ => rfl
  | 15, _ => rfl
  | 16, _ => rfl
  | 17, _ => rfl
  | q + 18, h9 => omega)
def updH (f : Nat → HT) (i : Nat) (U : HT) : Nat → HT := fun k => if k = i then U else f k
theorem hG_hs {U : HT} {i : Nat} (hi : i < 7) : hH (hG h z T) (z + 63 + 18 * i) U = hG h z (T.1, T.2.1, T.2.2.1, T.2.2.2.1, T.2.2.2.2.1, T.2.2.2.2.2.1, T.2.2.2.2.2.2.1, T.2.2.2.2.2.2.2.1, T.2.2.2.2.2.2.2.2.1, T.2.2.2.2.2.2.2.2.2.1, T.2.2.2.2.2.2.2.2.2.2.1, T.2.2.2.2.2.2.2.2.2.2.2.1, T.2.2.2.2.2.2.2.2.2.2.2.2.1, T.2.2.2.2.2.2.2.2.2.2.2.2.2.1, T.2.2.2.2.2.2.2.2.2.2.2.2.2.2.1, T.2.2.2.2.2.2.2.2.2.2.2.2.2.2.2.1, T.2.2.2.2.2.2.2.2.2.2.2.2.2.2.2.2.1, T.2.2.2.2.2.2.2.2.2.2.2.2.2.2.2.2.2.1, T.2.2.2.2.2.2.2.2.2.2.2.2.2.2.2.2.2.2.1, T.2.2.2.2.2.2.2.2.2.2.2.2.2.2.2.2.2.2.2.1, T.2.2.2.2.2.2.2.2.2.2.2.2.2.2.2.2.2.2.2.2.1, T.2.2.2.2.2.2.2.2.2.2.2.2.2.2.2.2.2.2.2.2.2.1, updH T.2.2.2.2.2.2.2.2.2.2.2.2.2.2.2.2.2.2.2.2.2.2.1 i U, T.2.2.2.2.2.2.2.2.2.2.2.2.2.2.2.2.2.2.2.2.2.2.2.1, T.2.2.2.2.2.2.2.2.2.2.2.2.2.2.2.2.2.2.2.2.2.2.2.2.1, T.2.2.2.2.2.2.2.2.2.2.2.2.2.2.2.2.2.2.2.2.2.2.2.2.2.1, T.2.2.2.2.2.2.2.2.2.2.2.2.2.2.2.2.2.2.2.2.2.2.2.2.2.2.1, T.2.2.2.2.2.2.2.2.2.2.2.2.2.2.2.2.2.2.2.2.2.2.2.2.2.2.2.1, T.2.2.2.2.2.2.2.2.2.2.2.2.2.2.2.2.2.2.2.2.2.2.2.2.2.2.2.2.1, T.2.2.2.2.2.2.2.2.2.2.2.2.2.2.2.2.2.2.2.2.2.2.2.2.2.2.2.2.2.1, T.2.2.2.2.2.2.2.2.2.2.2.2.2.2.2.2.2.2.2.2.2.2.2.2.2.2.2.2.2.2.1, T.2.2.2.2.2.2.2.2.2.2.2.2.2.2.2.2.2.2.2.2.2.2.2.2.2.2.2.2.2.2.2.1, T.2.2.2.2.2.2.2.2.2.2.2.2.2.2.2.2.2.2.2.2.2.2.2.2.2.2.2.2.2.2.2.2.1, T.2.2.2.2.2.2.2.2.2.2.2.2.2.2.2.2.2.2.2.2.2.2.2.2.2.2.2.2.2.2.2.2.2) := by
  have e := hG_blk (h := h) (z := z) (T := T) (T2 := (T.1, T.2.1, T.2.2.1, T.2.2.2.1, T.2.2.2.2.1, T.2.2.2.2.2.1, T.2.2.2.2.2.2.1, T.2.2.2.2.2.2.2.1, T.2.2.2.2.2.2.2.2.1, T.2.2.2.2.2.2.2.2.2.1, T.2.2.2.2.2.2.2.2.2.2.1, T.2.2.2.2.2.2.2.2.2.2.2.1, T.2.2.2.2.2.2.2.2.2.2.2.2.1, T.2.2.2.2.2.2.2.2.2.2.2.2.2.1, T.2.2.2.2.2.2.2.2.2.2.2.2.2.2.1, T.2.2.2.2.2.2.2.2.2.2.2.2.2.2.2.1, T.2.2.2.2.2.2.2.2.2.2.2.2.2.2.2.2.1, T.2.2.2.2.2.2.2.2.2.2.2.2.2.2.2.2.2.1, T.2.2.2.2.2.2.2.2.2.2.2.2.2.2.2.2.2.2.1, T.2.2.2.2.2.2.2.2.2.2.2.2.2.2.2.2.2.2.2.1, T.2.2.2.2.2.2.2.2.2.2.2.2.2.2.2.2.2.2.2.2.1, T.2.2.2.2.2.2.2.2.2.2.2.2.2.2.2.2.2.2.2.2.2.1, updH T.2.2.2.2.2.2.2.2.2.2.2.2.2.2.2.2.2.2.2.2.2.2.1 i U, T.2.2.2.2.2.2.2.2.2.2.2.2.2.2.2.2.2.2.2.2.2.2.2.1, T.2.2.2.2.2.2.2.2.2.2.2.2.2.2.2.2.2.2.2.2.2.2.2.2.1, T.2.2.2.2.2.2.2.2.2.2.2.2.2.2.2.2.2.2.2.2.2.2.2.2.2.1, T.2.2.2.2.2.2.2.2.2.2.2.2.2.2.2.2.2.2.2.2.2.2.2.2.2.2.1, T.2.2.2.2.2.2.2.2.2.2.2.2.2.2.2.2.2.2.2.2.2.2.2.2.2.2.2.1, T.2.2.2.2.2.2.2.2.2.2.2.2.2.2.2.2.2.2.2.2.2.2.2.2.2.2.2.2.1, T.2.2.2.2.2.2.2.2.2.2.2.2.2.2.2.2.2.2.2.2.2.2.2.2.2.2.2.2.2.1, T.2.2.2.2.2.2.2.2.2.2.2.2.2.2.2.2.2.2.2.2.2.2.2.2.2.2.2.2.2.2.1, T.2.2.2.2.2.2.2.2.2.2.2.2.2.2.2.2.2.2.2.2.2.2.2.2.2.2.2.2.2.2.2.1, T.2.2.2.2.2.2.2.2.2.2.2.2.2.2.2.2.2.2.2.2.2.2.2.2.2.2.2.2.2.2.2.2.1, T.2.2.2.2.2.2.2.2.2.2.2.2.2.2.2.2.2.2.2.2.2.2.2.2.2.2.2.2.2.2.2.2.2)) (a := 63 + 18 * i) (n := 18) (f := cH (z + 63 + 18 * i) U) (by omega) (fun j hj => by
    unfold cG
    rw [if_neg (by omega), if_neg (by omega), if_neg (by omega), if_neg (by omega), if_neg (by omega), if_neg (by omega), if_pos (by omega), show (63 + 18 * i + j - 63) / 18 = i by omega, show (63 + 18 * i + j - 63) % 18 = j by omega]
    show cH (z + 63 + 18 * i) (updH T.2.2.2.2.2.2.2.2.2.2.2.2.2.2.2.2.2.2.2.2.2.2.1 i U i) j = _
    rw [show updH T.2.2.2.2.2.2.2.2.2.2.2.2.2.2.2.2.2.2.2.2.2.2.1 i U i = U from if_pos rfl]) (fun j hj hne => by
    unfold cG
    by_cases c0 : j < 1
    · rw [if_pos c0, if_pos c0]
    rw [if_neg c0, if_neg c0]
    by_cases c1 : j < 19
    · rw [if_pos c1, if_pos c1]
    rw [if_neg c1, if_neg c1]
    by_cases c2 : j < 37
    · rw [if_pos c2, if_pos c2]
    rw [if_neg c2, if_neg c2]
    by_cases c3 : j < 43
    · rw [if_pos c3, if_pos c3]
      obtain ⟨q, rfl⟩ : ∃ q, j = 37 + q := ⟨j - 37, by omega⟩
      simp only [Nat.add_sub_cancel_left]
      match q, hj with
      | 0, _ => rfl
      | 1, _ => rfl
      | 2, _ => rfl
      | 3, _ => rfl
      | 4, _ => rfl
      | 5, _ => rfl
      | q + 6, h9 => omega
    rw [if_neg c3, if_neg c3]
    by_cases c4 : j < 61
    · rw [if_pos c4, if_pos c4]
    rw [if_neg c4, if_neg c4]
    by_cases c5 : j < 63
    · rw [if_pos c5, if_pos c5]
      obtain ⟨q, rfl⟩ : ∃ q, j = 61 + q := ⟨j - 61, by omega⟩
      simp only [Nat.add_sub_cancel_left]
      match q, hj with
      | 0, _ => rfl
      | 1, _ => rfl
      | q + 2, h9 => omega
    rw [if_neg c5, if_neg c5]
    by_cases c6 : j < 189
    · rw [if_pos c6, if_pos c6]
      show cH _ (updH T.2.2.2.2.2.2.2.2.2.2.2.2.2.2.2.2.2.2.2.2.2.2.1 i U ((j - 63) / 18)) _ = _
      rw [show updH T.2.2.2.2.2.2.2.2.2.2.2.2.2.2.2.2.2.2.2.2.2.2.1 i U ((j - 63) / 18) = T.2.2.2.2.2.2.2.2.2.2.2.2.2.2.2.2.2.2.2.2.2.2.1 ((j - 63) / 18) from if_neg (by omega)]
    rw [if_neg c6, if_neg c6]
    obtain ⟨q, rfl⟩ : ∃ q, j = 189 + q := ⟨j - 189, by omega⟩
    simp only [Nat.add_sub_cancel_left]
    match q, hj with
    | 0, _ => rfl
    | 1, _ => rfl
    | 2, _ => rfl
    | 3, _ => rfl
    | 4, _ => rfl
    | 5, _ => rfl
    | 6, _ => rfl
    | 7, _ => rfl
    | 8, _ => rfl
    | 9, _ => rfl
    | 10, _ => rfl
    | 11, _ => rfl
    | 12, _ => rfl
    | 13, _ => rfl
    | 14, _ => rfl
    | 15, _ => rfl
    | 16, _ => rfl
    | 17, _ => rfl
    | q + 18, h9 => omega)
  rw [show z + (63 + 18 * i) = z + 63 + 18 * i by omega] at e
  exact e
def H0 : HT := (fun _ => 0, fun _ => 0, fun _ => 0, fun _ => 0, fun _ => 0, fun _ => 0, fun _ => 0, fun _ => 0, fun _ => 0, 0, 0, 0, 0, 0, 0, 0, 0, 0, 0)
def GOK (T : KT) : Prop := HOK T.2.2.1 ∧ HOK T.2.2.2.1 ∧ HOK T.2.2.2.2.2.2.2.2.2.2.2.2.2.2.2.2.2.2.2.1 ∧ (∀ i, HOK (T.2.2.2.2.2.2.2.2.2.2.2.2.2.2.2.2.2.2.2.2.2.2.1 i)) ∧ ∀ i, 7 ≤ i → T.2.2.2.2.2.2.2.2.2.2.2.2.2.2.2.2.2.2.2.2.2.2.1 i = H0
theorem hG_inj {h2 : HM} (e : hG h z T = hG h2 z T2) (b : GOK T) (b2 : GOK T2) : T = T2 := by
  have c0 := congrFun e z
  rw [hG_0, hG_0] at c0
  have c37 := congrFun e (z + 37)
  rw [hG_37, hG_37] at c37
  have c39 := congrFun e (z + 39)
  rw [hG_39, hG_39] at c39
  have c41 := congrFun e (z + 41)
  rw [hG_41, hG_41] at c41
  have c42 := congrFun e (z + 42)
  rw [hG_42, hG_42] at c42
  have c61 := congrFun e (z + 61)
  rw [hG_61, hG_61] at c61
  have c191 := congrFun e (z + 191)
  rw [hG_191, hG_191] at c191
  have c194 := congrFun e (z + 194)
  rw [hG_194, hG_194] at c194
  have c196 := congrFun e (z + 196)
  rw [hG_196, hG_196] at c196
  have c198 := congrFun e (z + 198)
  rw [hG_198, hG_198] at c198
  have c200 := congrFun e (z + 200)
  rw [hG_200, hG_200] at c200
  have c202 := congrFun e (z + 202)
  rw [hG_202, hG_202] at c202
  have c204 := congrFun e (z + 204)
  rw [hG_204, hG_204] at c204
  have c206 := congrFun e (z + 206)
  rw [hG_206, hG_206] at c206
  have ekHs : T.2.2.1 = T2.2.2.1 := hH_inj (p := z + 1) (by rw [hG_h1 (h := h) (T := T) (U := T.2.2.1), hG_h1 (h := h2) (T := T2) (U := T2.2.2.1)]; exact e) b.1 b2.1
  have ekDr : T.2.2.2.1 = T2.2.2.2.1 := hH_inj (p := z + 19) (by rw [hG_h19 (h := h) (T := T) (U := T.2.2.2.1), hG_h19 (h := h2) (T := T2) (U := T2.2.2.2.1)]; exact e) b.2.1 b2.2.1
  have ekSa : T.2.2.2.2.2.2.2.2.2.2.2.2.2.2.2.2.2.2.2.1 = T2.2.2.2.2.2.2.2.2.2.2.2.2.2.2.2.2.2.2.2.1 := hH_inj (p := z + 43) (by rw [hG_h43 (h := h) (T := T) (U := T.2.2.2.2.2.2.2.2.2.2.2.2.2.2.2.2.2.2.2.1), hG_h43 (h := h2) (T := T2) (U := T2.2.2.2.2.2.2.2.2.2.2.2.2.2.2.2.2.2.2.2.1)]; exact e) b.2.2.1 b2.2.2.1
  have ekhs : T.2.2.2.2.2.2.2.2.2.2.2.2.2.2.2.2.2.2.2.2.2.2.1 = T2.2.2.2.2.2.2.2.2.2.2.2.2.2.2.2.2.2.2.2.2.2.2.1 := by
    funext i
    by_cases hi : i < 7
    · have s1 : updH T.2.2.2.2.2.2.2.2.2.2.2.2.2.2.2.2.2.2.2.2.2.2.1 i (T.2.2.2.2.2.2.2.2.2.2.2.2.2.2.2.2.2.2.2.2.2.2.1 i) = T.2.2.2.2.2.2.2.2.2.2.2.2.2.2.2.2.2.2.2.2.2.2.1 := by funext k; unfold updH; split; (rename_i q; rw [q]); rfl
      have s2 : updH T2.2.2.2.2.2.2.2.2.2.2.2.2.2.2.2.2.2.2.2.2.2.2.1 i (T2.2.2.2.2.2.2.2.2.2.2.2.2.2.2.2.2.2.2.2.2.2.2.1 i) = T2.2.2.2.2.2.2.2.2.2.2.2.2.2.2.2.2.2.2.2.2.2.2.1 := by funext k; unfold updH; split; (rename_i q; rw [q]); rfl
      have e9 := hG_hs (h := h) (z := z) (T := T) (U := T.2.2.2.2.2.2.2.2.2.2.2.2.2.2.2.2.2.2.2.2.2.2.1 i) hi
      have e8 := hG_hs (h := h2) (z := z) (T := T2) (U := T2.2.2.2.2.2.2.2.2.2.2.2.2.2.2.2.2.2.2.2.2.2.2.1 i) hi
      rw [s1] at e9
      rw [s2] at e8
      exact hH_inj (p := z + 63 + 18 * i) ((e9.trans e).trans e8.symm) (b.2.2.2.1 i) (b2.2.2.2.1 i)
    · rw [b.2.2.2.2 i (by omega), b2.2.2.2.2 i (by omega)]
  obtain ⟨a_kss, a_kol, a_kHs, a_kDr, a_kn1, a_kn2, a_kn3, a_kn4, a_kn5, a_kil, a_kib, a_ktl, a_ktp, a_kts, a_ktk, a_ktw, a_ktn, a_kte, a_kto, a_kSa, a_khO, a_khC, a_khs, a_kpa, a_kpb, a_ksz, a_ksc, a_ksd, a_kso, a_ksk, a_ksf, a_ksn, a_ksr, a_kou⟩ := T
  obtain ⟨b_kss, b_kol, b_kHs, b_kDr, b_kn1, b_kn2, b_kn3, b_kn4, b_kn5, b_kil, b_kib, b_ktl, b_ktp, b_kts, b_ktk, b_ktw, b_ktn, b_kte, b_kto, b_kSa, b_khO, b_khC, b_khs, b_kpa, b_kpb, b_ksz, b_ksc, b_ksd, b_kso, b_ksk, b_ksf, b_ksn, b_ksr, b_kou⟩ := T2
  simp only [Option.some.injEq, Sum.inl.injEq, Sum.inr.injEq, Prod.mk.injEq, List.cons.injEq, Value.int.injEq, Value.long.injEq, true_and, and_true] at c0 c37 c39 c41 c42 c61 c191 c194 c196 c198 c200 c202 c204 c206 ekHs ekDr ekSa ekhs
  simp only [Prod.mk.injEq]
  obtain ⟨e_kss, e_kol⟩ := c0
  obtain ⟨e_kn1, e_kn2, e_kn3, e_kn4, e_kn5⟩ := c37
  obtain ⟨e_ktl, e_ktp, e_kts, e_ktk, e_ktw, e_ktn, e_kte, e_kto⟩ := c42
  obtain ⟨e_khO, e_khC⟩ := c61
  obtain ⟨e_ksz, e_ksc, e_ksd, e_kso⟩ := c196
  exact ⟨e_kss, e_kol, ekHs, ekDr, e_kn1, e_kn2, e_kn3, e_kn4, e_kn5, c39, c41, e_ktl, e_ktp, e_kts, e_ktk, e_ktw, e_ktn, e_kte, e_kto, ekSa, e_khO, e_khC, ekhs, c191, c194, e_ksz, e_ksc, e_ksd, e_kso, c198, c200, c202, c204, c206⟩
def GX (h : HM) (z : Nat) (P : KT → Prop) : Prop := ∃ h0 T, h = hG h0 z T ∧ GOK T ∧ P T
theorem GX_eq {P : KT → Prop} (hT : GOK T) : GX (hG h z T) z P = P T := by
  apply propext
  constructor
  · rintro ⟨h0, T', e, hT', hP⟩
    rw [hG_inj e hT hT']
    exact hP
  · intro hP
    exact ⟨h, T, rfl, hT, hP⟩
theorem HG_1 {P : HT → Prop} (hT : HOK T.2.2.1) : HX (hG h z T) (z + 1) P = P T.2.2.1 := by
  have e := hG_h1 (h := h) (z := z) (T := T) (U := T.2.2.1)
  have e2 : hH (hG h z T) (z + 1) T.2.2.1 = hG h z T := e
  rw [← e2]
  exact HX_eq hT
theorem HG_19 {P : HT → Prop} (hT : HOK T.2.2.2.1) : HX (hG h z T) (z + 19) P = P T.2.2.2.1 := by
  have e2 : hH (hG h z T) (z + 19) T.2.2.2.1 = hG h z T := hG_h19 (h := h) (z := z) (T := T) (U := T.2.2.2.1)
  rw [← e2]
  exact HX_eq hT
theorem HG_43 {P : HT → Prop} (hT : HOK T.2.2.2.2.2.2.2.2.2.2.2.2.2.2.2.2.2.2.2.1) : HX (hG h z T) (z + 43) P = P T.2.2.2.2.2.2.2.2.2.2.2.2.2.2.2.2.2.2.2.1 := by
  have e2 : hH (hG h z T) (z + 43) T.2.2.2.2.2.2.2.2.2.2.2.2.2.2.2.2.2.2.2.1 = hG h z T := hG_h43 (h := h) (z := z) (T := T) (U := T.2.2.2.2.2.2.2.2.2.2.2.2.2.2.2.2.2.2.2.1)
  rw [← e2]
  exact HX_eq hT
theorem HG_s {P : HT → Prop} {i : Nat} (hi : i < 7) (hT : HOK (T.2.2.2.2.2.2.2.2.2.2.2.2.2.2.2.2.2.2.2.2.2.2.1 i)) : HX (hG h z T) (z + 63 + 18 * i) P = P (T.2.2.2.2.2.2.2.2.2.2.2.2.2.2.2.2.2.2.2.2.2.2.1 i) := by
  have s1 : updH T.2.2.2.2.2.2.2.2.2.2.2.2.2.2.2.2.2.2.2.2.2.2.1 i (T.2.2.2.2.2.2.2.2.2.2.2.2.2.2.2.2.2.2.2.2.2.2.1 i) = T.2.2.2.2.2.2.2.2.2.2.2.2.2.2.2.2.2.2.2.2.2.2.1 := by funext k; unfold updH; split; (rename_i q; rw [q]); rfl
  have e2 := hG_hs (h := h) (z := z) (T := T) (U := T.2.2.2.2.2.2.2.2.2.2.2.2.2.2.2.2.2.2.2.2.2.2.1 i) hi
  rw [s1] at e2
  have e3 : hH (hG h z T) (z + 63 + 18 * i) (T.2.2.2.2.2.2.2.2.2.2.2.2.2.2.2.2.2.2.2.2.2.2.1 i) = hG h z T := e2
  rw [← e3]
  exact HX_eq hT
end GL
