/-! a2: quietest paths, one matrix for both -/
abbrev DM : Type := Nat → Nat → Option Nat
def oadd (x y : Option Nat) : Option Nat := match x, y with
  | some a, some b => some (a + b)
  | _, _ => none
def omin (x y : Option Nat) : Option Nat := match x, y with
  | some a, some b => some (if b < a then b else a)
  | some a, none => some a
  | none, z => z
def fwS (D : DM) (m : Nat) : DM := fun a b => omin (D a b) (oadd (D a m) (D m b))
def fwN (D : DM) : Nat → DM
  | 0 => D
  | m + 1 => fwS (fwN D m) m
def encN (B : Nat) (x : Option Nat) : Nat := match x with
  | some v => v
  | none => B
theorem omin_none (x : Option Nat) : omin x none = x := by cases x <;> rfl
theorem oadd_none (x : Option Nat) : oadd x none = none := by cases x <;> rfl
theorem oadd_nl (x : Option Nat) : oadd none x = none := by cases x <;> rfl
theorem oadd_comm (x y : Option Nat) : oadd x y = oadd y x := by
  cases x <;> cases y <;> simp [oadd, Nat.add_comm]
theorem omin_some {x y : Option Nat} : (omin x y).isSome = (x.isSome || y.isSome) := by
  cases x <;> cases y <;> rfl
theorem oadd_some {x y : Option Nat} : (oadd x y).isSome = (x.isSome && y.isSome) := by
  cases x <;> cases y <;> rfl
theorem fw_row {D : DM} {m : Nat} (h : D m m = some 0) (b : Nat) : fwS D m m b = D m b := by
  unfold fwS
  rw [h]
  cases D m b with
  | none => rfl
  | some r => simp [omin, oadd]
theorem fw_col {D : DM} {m : Nat} (h : D m m = some 0) (a : Nat) : fwS D m a m = D a m := by
  unfold fwS
  rw [h]
  cases D a m with
  | none => rfl
  | some r => simp [omin, oadd]
theorem fw_diag {D : DM} (h : ∀ a, D a a = some 0) : ∀ m a, fwN D m a a = some 0 := by
  intro m
  induction m with
  | zero => exact h
  | succ m ih =>
    intro a
    show omin (fwN D m a a) _ = _
    rw [ih a]
    cases oadd (fwN D m a m) (fwN D m m a) <;> simp [omin]
theorem fw_sym {D : DM} (h : ∀ a b, D a b = D b a) : ∀ m a b, fwN D m a b = fwN D m b a := by
  intro m
  induction m with
  | zero => exact h
  | succ m ih =>
    intro a b
    show omin (fwN D m a b) (oadd (fwN D m a m) (fwN D m m b)) = omin (fwN D m b a) (oadd (fwN D m b m) (fwN D m m a))
    rw [ih a b, ih a m, ih m b, oadd_comm]
/-- is there a path over rooms below m -/
def fwF (D : DM) (m a b : Nat) : Bool := (fwN D m a b).isSome
theorem fwF_s (D : DM) (m a b : Nat) : fwF D (m + 1) a b = (fwF D m a b || (fwF D m a m && fwF D m m b)) := by
  show (omin _ _).isSome = _
  rw [omin_some, oadd_some]
  rfl
theorem fwF_clo (D : DM) (a b x : Nat) : ∀ m, x < m → fwF D m a x = true → fwF D m x b = true → fwF D m a b = true := by
  have key : ∀ m x a b, x < m → fwF D m a x = true → fwF D m x b = true → fwF D m a b = true := by
    intro m
    induction m with
    | zero => intro x a b hx; omega
    | succ m ih =>
      intro x a b hx h1 h2
      rw [fwF_s] at h1 h2 ⊢
      by_cases e : x = m
      · subst e
        have h1 : fwF D x a x = true := by
          cases hh : fwF D x a x with
          | true => rfl
          | false => rw [hh] at h1; simp at h1
        have h2 : fwF D x x b = true := by
          cases hh : fwF D x x b with
          | true => rfl
          | false => rw [hh] at h2; simp at h2
        rw [h1, h2]; simp
      · have hxm : x < m := by omega
        have i1 := ih x a b hxm
        have i2 := ih x a m hxm
        have i3 := ih x m b hxm
        simp only [Bool.or_eq_true, Bool.and_eq_true] at h1 h2 ⊢
        rcases h1 with h1 | ⟨h1, h3⟩
        · rcases h2 with h2 | ⟨h2, h4⟩
          · exact Or.inl (i1 h1 h2)
          · exact Or.inr ⟨i2 h1 h2, h4⟩
        · rcases h2 with h2 | ⟨h2, h4⟩
          · exact Or.inr ⟨h1, i3 h3 h2⟩
          · exact Or.inr ⟨h1, h4⟩
  exact fun m => key m x a b
def fwC (D : DM) (m a b : Nat) : Nat := fb_ct (fun x => fwF D m a x && fwF D m x b) m
theorem fw_bnd {D : DM} (h : ∀ a b v, D a b = some v → v ≤ 9) : ∀ m a b v, fwN D m a b = some v → v ≤ 9 * (1 + fwC D m a b) := by
  intro m
  induction m with
  | zero =>
    intro a b v hv
    have := h a b v hv
    omega
  | succ m ih =>
    intro a b v hv
    have mono : ∀ x y, fwF D m x y = true → fwF D (m + 1) x y = true := fun x y hxy => by rw [fwF_s, hxy]; rfl
    have hs : fwC D (m + 1) a b = fb_ct (fun x => fwF D (m + 1) a x && fwF D (m + 1) x b) m + (if (fwF D (m + 1) a m && fwF D (m + 1) m b) = true then 1 else 0) := fb_ct_succ _ m
    have hle : fwC D m a b ≤ fwC D (m + 1) a b := by
      rw [hs]
      refine Nat.le_trans (fb_ct_sub fun k hk hx => ?_) (Nat.le_add_right _ _)
      simp only [Bool.and_eq_true] at hx ⊢
      exact ⟨mono _ _ hx.1, mono _ _ hx.2⟩
    have hv : omin (fwN D m a b) (oadd (fwN D m a m) (fwN D m m b)) = some v := hv
    cases hab : fwN D m a b with
    | some u =>
      have hu := ih a b u hab
      rw [hab] at hv
      have : v ≤ u := by
        cases hh : oadd (fwN D m a m) (fwN D m m b) with
        | none => rw [hh] at hv; simp [omin] at hv; omega
        | some w =>
          rw [hh] at hv
          simp [omin] at hv
          split at hv <;> omega
      omega
    | none =>
      rw [hab] at hv
      cases ham : fwN D m a m with
      | none => rw [ham, oadd_nl] at hv; cases hv
      | some p =>
        cases hmb : fwN D m m b with
        | none => rw [hmb, oadd_none] at hv; cases hv
        | some q =>
          rw [ham, hmb] at hv
          have hv : p + q = v := Option.some.inj hv
          have h1 := ih a m p ham
          have h2 := ih m b q hmb
          have f1 : fwF D m a m = true := by unfold fwF; rw [ham]; rfl
          have f2 : fwF D m m b = true := by unfold fwF; rw [hmb]; rfl
          have f0 : ¬ fwF D m a b = true := by unfold fwF; rw [hab]; simp
          have hor := fb_ct_or (n := m) (p := fun x => fwF D m a x && fwF D m x m) (q := fun x => fwF D m m x && fwF D m x b) (fun k hk hx => by
            simp only [Bool.and_eq_true] at hx
            exact f0 (fwF_clo D a b k m hk hx.1.1 hx.2.2))
          have hsub : fb_ct (fun k => (fwF D m a k && fwF D m k m) || (fwF D m m k && fwF D m k b)) m ≤ fb_ct (fun x => fwF D (m + 1) a x && fwF D (m + 1) x b) m := by
            refine fb_ct_sub fun k hk hx => ?_
            simp only [Bool.or_eq_true, Bool.and_eq_true, fwF_s] at hx ⊢
            rcases hx with ⟨x1, x2⟩ | ⟨x1, x2⟩
            · exact ⟨Or.inl x1, Or.inr ⟨x2, f2⟩⟩
            · exact ⟨Or.inr ⟨f1, x1⟩, Or.inl x2⟩
          have hm : (fwF D (m + 1) a m && fwF D (m + 1) m b) = true := by rw [mono _ _ f1, mono _ _ f2]; rfl
          rw [if_pos hm] at hs
          have e1 : fwC D m a m = fb_ct (fun x => fwF D m a x && fwF D m x m) m := rfl
          have e2 : fwC D m m b = fb_ct (fun x => fwF D m m x && fwF D m x b) m := rfl
          omega
theorem fw_117 {D : DM} (h : ∀ a b v, D a b = some v → v ≤ 9) {m : Nat} (hm : m ≤ 12) {a b v : Nat} (hv : fwN D m a b = some v) : v ≤ 117 := by
  have h1 := fw_bnd h m a b v hv
  have h2 : fwC D m a b ≤ m := fb_ct_le _ m
  omega
theorem fw_cmp {D : DM} {B : Nat} (hB : 3000 ≤ B) (hb : ∀ a b v, D a b = some v → v ≤ 1000) (m a b : Nat) : (encN B (D a m) + encN B (D m b) < encN B (D a b) → encN B (fwS D m a b) = encN B (D a m) + encN B (D m b)) ∧ (¬ encN B (D a m) + encN B (D m b) < encN B (D a b) → fwS D m a b = D a b) := by
  have hab : encN B (D a b) ≤ B := by
    cases h : D a b with
    | none => exact Nat.le_refl _
    | some v => have := hb a b v h; show v ≤ B; omega
  unfold fwS
  cases ham : D a m with
  | none =>
    have e : encN B none = B := rfl
    rw [oadd_nl, omin_none]
    exact ⟨fun y => by rw [e] at y; omega, fun _ => rfl⟩
  | some p =>
    cases hmb : D m b with
    | none =>
      have e : encN B none = B := rfl
      rw [oadd_none, omin_none]
      exact ⟨fun y => by rw [e] at y; omega, fun _ => rfl⟩
    | some q =>
      have hp := hb a m p ham
      have hq := hb m b q hmb
      cases hab : D a b with
      | none => exact ⟨fun _ => rfl, fun y => absurd (show p + q < B by omega) y⟩
      | some r =>
        refine ⟨fun y => ?_, fun y => ?_⟩
        · have y : p + q < r := y
          show (if p + q < r then p + q else r) = p + q
          rw [if_pos y]
        · have y : ¬ p + q < r := y
          show some (if p + q < r then p + q else r) = some r
          rw [if_neg y]
theorem plc_inj {a b x y : Nat} (hb : b < 12) (hy : y < 12) : plc x y = plc a b ↔ x = a ∧ y = b := by
  unfold plc
  omega
def ENR (B n : Nat) (f : Nat → Int32) (D : DM) : Prop := ∀ x y, x < n → y < n → f (plc x y) = nI (encN B (D x y))
/-- in the middle of a stage: the rows below k, of row k the places below j -/
def STG (B n m k j : Nat) (f : Nat → Int32) (D : DM) : Prop := ∀ x y, x < n → y < n → f (plc x y) = nI (encN B (if x < k ∨ (x = k ∧ y < j) then fwS D m x y else D x y))
theorem stg_step {B n m a b : Nat} {F : Nat → Int32} {D : DM} (hB : 3000 ≤ B ∧ B ≤ 1000000) (hb : ∀ a b v, D a b = some v → v ≤ 1000) (hd : D m m = some 0) (hn : n ≤ 12) (hm : m < n) (ha : a < n) (hbn : b < n) (h : STG B n m a b F D) {v : Int32} (hv : v = nI (encN B (D a m)) + F (plc m b)) : F (plc a m) = nI (encN B (D a m)) ∧ STG B n m a (b + 1) (if v < F (plc a b) then upd F (plc a b) v else F) D := by
  have bd : ∀ x y, encN B (D x y) ≤ B := fun x y => by
    cases e : D x y with
    | none => exact Nat.le_refl _
    | some w => have := hb x y w e; show w ≤ B; omega
  have e1 : F (plc a m) = nI (encN B (D a m)) := by
    rw [h a m ha hm]
    split
    · rw [fw_col hd]
    · rfl
  have e2 : F (plc m b) = nI (encN B (D m b)) := by
    rw [h m b hm hbn]
    split
    · rw [fw_row hd]
    · rfl
  have e3 : F (plc a b) = nI (encN B (D a b)) := by
    rw [h a b ha hbn, if_neg (by omega)]
  refine ⟨e1, ?_⟩
  rw [e2, nI_add] at hv
  have b1 := bd a m
  have b2 := bd m b
  have b3 := bd a b
  have hlt : v < F (plc a b) ↔ encN B (D a m) + encN B (D m b) < encN B (D a b) := by
    rw [hv, e3]
    exact nI_ltI (by omega) (by omega)
  obtain ⟨c1, c2⟩ := fw_cmp hB.1 hb m a b
  intro x y hx hy
  by_cases c : v < F (plc a b)
  · rw [if_pos c]
    have c1 := c1 (hlt.mp c)
    by_cases e : plc x y = plc a b
    · obtain ⟨rfl, rfl⟩ := (plc_inj (by omega) (by omega)).mp e
      rw [show upd F (plc x y) v (plc x y) = v from if_pos rfl, if_pos (by omega), c1, hv]
    · rw [show upd F (plc a b) v (plc x y) = F (plc x y) from if_neg e, h x y hx hy]
      have ne : ¬ (x = a ∧ y = b) := fun z => e ((plc_inj (by omega) (by omega)).mpr z)
      by_cases q : x < a ∨ (x = a ∧ y < b)
      · rw [if_pos q, if_pos (by omega)]
      · rw [if_neg q, if_neg (by omega)]
  · rw [if_neg c, h x y hx hy]
    have c2 := c2 (fun z => c (hlt.mpr z))
    by_cases e : x = a ∧ y = b
    · obtain ⟨rfl, rfl⟩ := e
      rw [if_neg (by omega), if_pos (by omega), c2]
    · by_cases q : x < a ∨ (x = a ∧ y < b)
      · rw [if_pos q, if_pos (by omega)]
      · rw [if_neg q, if_neg (by omega)]
theorem stg_next {B n m a : Nat} {F : Nat → Int32} {D : DM} (h : STG B n m a n F D) : STG B n m (a + 1) 0 F D := by
  intro x y hx hy
  rw [h x y hx hy]
  by_cases q : x < a ∨ (x = a ∧ y < n)
  · rw [if_pos q, if_pos (by omega)]
  · rw [if_neg q, if_neg (by omega)]
theorem stg_0 {B n m : Nat} {F : Nat → Int32} {D : DM} : STG B n m 0 0 F D ↔ ENR B n F D := by
  constructor
  · intro h x y hx hy
    rw [h x y hx hy, if_neg (by omega)]
  · intro h x y hx hy
    rw [h x y hx hy, if_neg (by omega)]
theorem stg_n {B n m : Nat} {F : Nat → Int32} {D : DM} (h : STG B n m n 0 F D) : ENR B n F (fwS D m) := by
  intro x y hx hy
  rw [h x y hx hy, if_pos (by omega)]
-- the class
theorem cls_B {n m a : Nat} {f : Nat → Int32} {D : DM} {p : Nat} (hb : ∀ a b v, D a b = some v → v ≤ 1000) (hd : D m m = some 0) (hn : n ≤ 12) (hm : m < n) (ha : a < n) (hp : D a m = some p) (h : STG 1000000 n m a 0 f D) : ∀ b, b ≤ n → STG 1000000 n m a b (shB (nI p) a m f b) D := by
  intro b
  induction b with
  | zero => intro _; exact h
  | succ b ih =>
    intro hbn
    have ih := ih (by omega)
    rw [shB]
    exact (stg_step ⟨by decide, by decide⟩ hb hd hn hm ha (by omega) ih (by rw [hp]; rfl)).2
theorem cls_P {n m a : Nat} {f : Nat → Int32} {D : DM} (hb : ∀ a b v, D a b = some v → v ≤ 1000) (hd : D m m = some 0) (hn : n ≤ 12) (hm : m < n) (ha : a < n) (h : STG 1000000 n m a 0 f D) : STG 1000000 n m (a + 1) 0 (shP n a m f) D := by
  have e1 : f (plc a m) = nI (encN 1000000 (D a m)) := by
    rw [h a m ha hm]
    split
    · rw [fw_col hd]
    · rfl
  unfold shP
  cases hp : D a m with
  | none =>
    have e2 : f (plc a m) = FAR := by rw [e1, hp]; rfl
    rw [e2, if_neg (fun y => Int32.lt_irrefl y)]
    refine stg_next fun x y hx hy => ?_
    rw [h x y hx hy]
    by_cases q : x < a ∨ (x = a ∧ y < n)
    · rw [if_pos q]
      by_cases q2 : x < a ∨ (x = a ∧ y < 0)
      · rw [if_pos q2]
      · rw [if_neg q2]
        have : x = a := by omega
        subst this
        have : fwS D m x y = D x y := by
          unfold fwS
          rw [hp, oadd_nl, omin_none]
        rw [this]
    · rw [if_neg q, if_neg (by omega)]
  | some p =>
    have hpb := hb a m p hp
    have e2 : f (plc a m) = nI p := by rw [e1, hp]; rfl
    rw [e2, if_pos (show nI p < FAR from (nI_ltI (by omega) (by decide)).mpr (by omega))]
    exact stg_next (cls_B hb hd hn hm ha hp h n (Nat.le_refl n))
theorem cls_A {n m : Nat} {f : Nat → Int32} {D : DM} (hb : ∀ a b v, D a b = some v → v ≤ 1000) (hd : D m m = some 0) (hn : n ≤ 12) (hm : m < n) (h : ENR 1000000 n f D) : ∀ a, a ≤ n → STG 1000000 n m a 0 (msA n m f a) D := by
  intro a
  induction a with
  | zero => intro _; exact stg_0.mpr h
  | succ a ih =>
    intro ha
    rw [msA]
    exact cls_P hb hd hn hm (by omega) (ih (by omega))
theorem cls_M {n : Nat} {f : Nat → Int32} {D : DM} (h9 : ∀ a b v, D a b = some v → v ≤ 9) (hd : ∀ a, D a a = some 0) (hn : n ≤ 12) (h : ENR 1000000 n f D) : ∀ m, m ≤ n → ENR 1000000 n (msM n f m) (fwN D m) := by
  intro m
  induction m with
  | zero => intro _; exact h
  | succ m ih =>
    intro hm
    rw [msM]
    exact stg_n (cls_A (fun a b v hv => by have := fw_117 h9 (m := m) (by omega) hv; omega) (fw_diag hd m m) hn (by omega) (ih (by omega)) n (Nat.le_refl n))
-- the reference
def rsB (a m : Nat) (f : Nat → Int32) : Nat → (Nat → Int32)
  | 0 => f
  | b + 1 => if rsB a m f b (plc a m) + rsB a m f b (plc m b) < rsB a m f b (plc a b) then upd (rsB a m f b) (plc a b) (rsB a m f b (plc a m) + rsB a m f b (plc m b)) else rsB a m f b
def rsA (n m : Nat) (f : Nat → Int32) : Nat → (Nat → Int32)
  | 0 => f
  | a + 1 => rsB a m (rsA n m f a) n
def rsM (n : Nat) (f : Nat → Int32) : Nat → (Nat → Int32)
  | 0 => f
  | m + 1 => rsA n m (rsM n f m) n
def riB (a : Nat) (f : Nat → Int32) : Nat → (Nat → Int32)
  | 0 => f
  | b + 1 => upd (riB a f b) (plc a b) (if nI a = nI b then 0 else 9999)
def riA (n : Nat) (f : Nat → Int32) : Nat → (Nat → Int32)
  | 0 => f
  | a + 1 => riB a (riA n f a) n
def rdE (s : Nat → Int32) (but : Int32) (f : Nat → Int32) : Nat → (Nat → Int32)
  | 0 => f
  | d + 1 => if nI d = but then rdE s but f d else if s (120 + 4 * d + 3) = 0 then rdE s but f d else upd (upd (rdE s but f d) (plc (cn (s (120 + 4 * d))) (cn (s (120 + 4 * d + 1)))) (s (120 + 4 * d + 2))) (plc (cn (s (120 + 4 * d + 1))) (cn (s (120 + 4 * d)))) (s (120 + 4 * d + 2))
theorem ref_B {n m a : Nat} {f : Nat → Int32} {D : DM} (hb : ∀ a b v, D a b = some v → v ≤ 1000) (hd : D m m = some 0) (hn : n ≤ 12) (hm : m < n) (ha : a < n) (h : STG 9999 n m a 0 f D) : ∀ b, b ≤ n → STG 9999 n m a b (rsB a m f b) D := by
  intro b
  induction b with
  | zero => intro _; exact h
  | succ b ih =>
    intro hbn
    have ih := ih (by omega)
    rw [rsB]
    generalize rsB a m f b = F at *
    have h1 := stg_step (v := nI (encN 9999 (D a m)) + F (plc m b)) ⟨by decide, by decide⟩ hb hd hn hm ha (show b < n by omega) ih rfl
    rw [h1.1]
    exact h1.2
theorem ref_A {n m : Nat} {f : Nat → Int32} {D : DM} (hb : ∀ a b v, D a b = some v → v ≤ 1000) (hd : D m m = some 0) (hn : n ≤ 12) (hm : m < n) (h : ENR 9999 n f D) : ∀ a, a ≤ n → STG 9999 n m a 0 (rsA n m f a) D := by
  intro a
  induction a with
  | zero => intro _; exact stg_0.mpr h
  | succ a ih =>
    intro ha
    rw [rsA]
    exact stg_next (ref_B hb hd hn hm (by omega) (ih (by omega)) n (Nat.le_refl n))
theorem ref_M {n : Nat} {f : Nat → Int32} {D : DM} (h9 : ∀ a b v, D a b = some v → v ≤ 9) (hd : ∀ a, D a a = some 0) (hn : n ≤ 12) (h : ENR 9999 n f D) : ∀ m, m ≤ n → ENR 9999 n (rsM n f m) (fwN D m) := by
  intro m
  induction m with
  | zero => intro _; exact h
  | succ m ih =>
    intro hm
    rw [rsM]
    exact stg_n (ref_A (fun a b v hv => by have := fw_117 h9 (m := m) (by omega) hv; omega) (fw_diag hd m m) hn (by omega) (ih (by omega)) n (Nat.le_refl n))
-- the doors
def dBase : DM := fun a b => if a = b then some 0 else none
def dE (T : HT) (w : Int32) : Nat → DM
  | 0 => dBase
  | d + 1 => if ctn w (nI d) = true then (fun a b => if (a = cn (T.2.2.2.2.2.1 d) ∧ b = cn (T.2.2.2.2.2.2.1 d)) ∨ (a = cn (T.2.2.2.2.2.2.1 d) ∧ b = cn (T.2.2.2.2.2.1 d)) then some (cn (T.2.2.2.2.2.2.2.1 d)) else dE T w d a b) else dE T w d
/-- the matrix of all quietest paths -/
def DD (T : HT) (w : Int32) : DM := fwN (dE T w T.2.2.2.2.2.2.2.2.2.2.1) T.2.2.2.2.2.2.2.2.2.1
theorem cn_nI {n : Nat} (h : n < 1000) : cn (nI n) = n := nI_clamp (by omega)
theorem drc_n {T : HT} {s : Nat → Int32} (h : CPL T s) {d : Nat} (hd : d < T.2.2.2.2.2.2.2.2.2.2.1) : ∃ a b n, a < b ∧ b < T.2.2.2.2.2.2.2.2.2.1 ∧ T.2.2.2.2.2.1 d = nI a ∧ T.2.2.2.2.2.2.1 d = nI b ∧ T.2.2.2.2.2.2.2.1 d = nI n ∧ n ≤ 9 ∧ s (120 + 4 * d) = nI a ∧ s (120 + 4 * d + 1) = nI b ∧ s (120 + 4 * d + 2) = nI n := by
  obtain ⟨a, b, n, a1, a2, a3, a4, a5, a6, a7, a8, a9, -⟩ := h.1.2.1 d hd
  exact ⟨a, b, n, a1, a2, a3, a4, a7, a9, a5, a6, a8⟩
theorem dE_p {T : HT} {s : Nat → Int32} (h : CPL T s) (w : Int32) : ∀ d, d ≤ T.2.2.2.2.2.2.2.2.2.2.1 → (∀ a b v, dE T w d a b = some v → v ≤ 9) ∧ (∀ a, dE T w d a a = some 0) ∧ (∀ a b, dE T w d a b = dE T w d b a) := by
  intro d
  induction d with
  | zero =>
    intro _
    refine ⟨fun a b v hv => ?_, fun a => if_pos rfl, fun a b => ?_⟩
    · have hv : (if a = b then some 0 else none) = some v := hv
      split at hv
      · have := Option.some.inj hv; omega
      · cases hv
    · show (if a = b then some 0 else none) = (if b = a then some 0 else none)
      by_cases e : a = b
      · rw [if_pos e, if_pos e.symm]
      · rw [if_neg e, if_neg (fun z => e z.symm)]
  | succ d ih =>
    intro hd
    obtain ⟨i1, i2, i3⟩ := ih (by omega)
    have hrc := h.1.1.2.2.1
    obtain ⟨x, y, n, hxy, hy, el, eh, en, hn, -⟩ := drc_n h (show d < T.2.2.2.2.2.2.2.2.2.2.1 by omega)
    rw [dE]
    by_cases c : ctn w (nI d) = true
    · rw [if_pos c, el, eh, en, cn_nI (by omega), cn_nI (by omega), cn_nI (by omega)]
      refine ⟨fun a b v hv => ?_, fun a => ?_, fun a b => ?_⟩
      · try dsimp only at hv
        split at hv
        · have := Option.some.inj hv; omega
        · exact i1 a b v hv
      · try dsimp only
        rw [if_neg (by omega)]; exact i2 a
      · try dsimp only
        by_cases q : (a = x ∧ b = y) ∨ (a = y ∧ b = x)
        · rw [if_pos q, if_pos (by omega)]
        · rw [if_neg q, if_neg (by omega)]; exact i3 a b
    · rw [if_neg c]; exact ⟨i1, i2, i3⟩
theorem enr_door {B n x y k : Nat} {F : Nat → Int32} {D : DM} (hn : n ≤ 12) (hx : x < n) (hy : y < n) (h : ENR B n F D) : ENR B n (upd (upd F (plc x y) (nI k)) (plc y x) (nI k)) (fun a b => if (a = x ∧ b = y) ∨ (a = y ∧ b = x) then some k else D a b) := by
  intro a b ha hb
  dsimp only
  by_cases c1 : plc a b = plc y x
  · have := (plc_inj (by omega) (by omega)).mp c1
    rw [if_pos (Or.inr this)]
    exact if_pos c1
  have n1 : ¬ (a = y ∧ b = x) := fun z => c1 ((plc_inj (by omega) (by omega)).mpr z)
  by_cases c2 : plc a b = plc x y
  · have := (plc_inj (by omega) (by omega)).mp c2
    rw [if_pos (Or.inl this)]
    exact (if_neg c1).trans (if_pos c2)
  have n2 : ¬ (a = x ∧ b = y) := fun z => c2 ((plc_inj (by omega) (by omega)).mpr z)
  rw [if_neg (fun z => z.elim n2 n1), ← h a b ha hb]
  exact (if_neg c1).trans (if_neg c2)
theorem cls_D {f : Nat → Int32} {n : Nat} (hn : n ≤ 12) (hf : ∀ i, i < 144 → f i = FAR) : ∀ k, k ≤ n → ∀ x y, x < n → y < n → msD f k (plc x y) = if x = y ∧ x < k then 0 else FAR := by
  intro k
  induction k with
  | zero =>
    intro _ x y hx hy
    rw [if_neg (by omega)]
    exact hf _ (plc_lt (by omega) (by omega))
  | succ k ih =>
    intro hk x y hx hy
    rw [msD]
    by_cases c : plc x y = plc k k
    · obtain ⟨rfl, rfl⟩ := (plc_inj (by omega) (by omega)).mp c
      rw [if_pos ⟨rfl, by omega⟩]
      exact if_pos rfl
    · rw [show upd (msD f k) (plc k k) 0 (plc x y) = msD f k (plc x y) from if_neg c, ih (by omega) x y hx hy]
      have : ¬ (x = k ∧ y = k) := fun z => c ((plc_inj (by omega) (by omega)).mpr z)
      by_cases q : x = y ∧ x < k
      · rw [if_pos q, if_pos (by omega)]
      · rw [if_neg q, if_neg (by omega)]
theorem cls_E {T : HT} {s : Nat → Int32} (h : CPL T s) {w : Int32} {F : Nat → Int32} (hF : ENR 1000000 T.2.2.2.2.2.2.2.2.2.1 F dBase) : ∀ d, d ≤ T.2.2.2.2.2.2.2.2.2.2.1 → ENR 1000000 T.2.2.2.2.2.2.2.2.2.1 (msE T w F d) (dE T w d) := by
  intro d
  induction d with
  | zero => intro _; exact hF
  | succ d ih =>
    intro hd
    have ih := ih (by omega)
    have hrc := h.1.1.2.2.1
    obtain ⟨x, y, n, hxy, hy, el, eh, en, hn, -⟩ := drc_n h (show d < T.2.2.2.2.2.2.2.2.2.2.1 by omega)
    rw [msE, dE]
    by_cases c : ctn w (nI d) = true
    · rw [if_pos c, if_pos c, el, eh, en, cn_nI (by omega), cn_nI (by omega), cn_nI (by omega)]
      exact enr_door hrc (by omega) hy ih
    · rw [if_neg c, if_neg c]; exact ih
theorem cls_T {T : HT} {s : Nat → Int32} (h : CPL T s) (w : Int32) (f : Nat → Int32) : ENR 1000000 T.2.2.2.2.2.2.2.2.2.1 (msT T w f) (DD T w) := by
  have hrc := h.1.1.2.2.1
  obtain ⟨p1, p2, p3⟩ := dE_p h w T.2.2.2.2.2.2.2.2.2.2.1 (Nat.le_refl _)
  refine cls_M p1 p2 hrc (cls_E h (fun x y hx hy => ?_) T.2.2.2.2.2.2.2.2.2.2.1 (Nat.le_refl _)) T.2.2.2.2.2.2.2.2.2.1 (Nat.le_refl _)
  rw [cls_D (f := fa_fill (fun _ => FAR) f 144) hrc (fun i hi => fa_fill_in hi) T.2.2.2.2.2.2.2.2.2.1 (Nat.le_refl _) x y hx hy]
  unfold dBase
  by_cases e : x = y
  · rw [if_pos ⟨e, hx⟩, if_pos e]; rfl
  · rw [if_neg (fun z => e z.1), if_neg e]; rfl
theorem ref_iB {f : Nat → Int32} {n a : Nat} (hn : n ≤ 12) (ha : a < n) : ∀ k, k ≤ n → ∀ x y, x < n → y < n → riB a f k (plc x y) = if x = a ∧ y < k then (if a = y then 0 else 9999) else f (plc x y) := by
  intro k
  induction k with
  | zero =>
    intro _ x y hx hy
    rw [if_neg (by omega)]; rfl
  | succ k ih =>
    intro hk x y hx hy
    have e9 : (nI a = nI k) = (a = k) := propext (nI_eq (by omega) (by omega))
    rw [riB]
    by_cases c : plc x y = plc a k
    · obtain ⟨rfl, rfl⟩ := (plc_inj (by omega) (by omega)).mp c
      have R : (if x = x ∧ y < y + 1 then (if x = y then (0 : Int32) else 9999) else f (plc x y)) = if x = y then 0 else 9999 := if_pos ⟨rfl, Nat.lt_succ_self y⟩
      rw [R]
      refine (if_pos rfl).trans ?_
      simp only [e9]
    · refine (if_neg c).trans ?_
      rw [ih (by omega) x y hx hy]
      have : ¬ (x = a ∧ y = k) := fun z => c ((plc_inj (by omega) (by omega)).mpr z)
      have hiff : (x = a ∧ y < k) ↔ (x = a ∧ y < k + 1) := by omega
      simp only [hiff]
theorem ref_iA {f : Nat → Int32} {n : Nat} (hn : n ≤ 12) : ∀ k, k ≤ n → ∀ x y, x < n → y < n → riA n f k (plc x y) = if x < k then (if x = y then 0 else 9999) else f (plc x y) := by
  intro k
  induction k with
  | zero =>
    intro _ x y hx hy
    rw [if_neg (by omega)]; rfl
  | succ k ih =>
    intro hk x y hx hy
    rw [riA, ref_iB hn (by omega) n (Nat.le_refl n) x y hx hy]
    by_cases c : x = k
    · subst c
      have L : (if x = x ∧ y < n then (if x = y then (0 : Int32) else 9999) else riA n f x (plc x y)) = if x = y then 0 else 9999 := if_pos ⟨rfl, hy⟩
      have R : (if x < x + 1 then (if x = y then (0 : Int32) else 9999) else f (plc x y)) = if x = y then 0 else 9999 := if_pos (Nat.lt_succ_self x)
      rw [L, R]
    · rw [if_neg (fun z => c z.1), ih (by omega) x y hx hy]
      have hiff : x < k ↔ x < k + 1 := by omega
      simp only [hiff]
theorem ref_E {T : HT} {s : Nat → Int32} (h : CPL T s) {w but : Int32} (hw : ∀ d, d < T.2.2.2.2.2.2.2.2.2.2.1 → (ctn w (nI d) = true ↔ ¬ nI d = but ∧ ¬ s (120 + 4 * d + 3) = 0)) {F : Nat → Int32} (hF : ENR 9999 T.2.2.2.2.2.2.2.2.2.1 F dBase) : ∀ d, d ≤ T.2.2.2.2.2.2.2.2.2.2.1 → ENR 9999 T.2.2.2.2.2.2.2.2.2.1 (rdE s but F d) (dE T w d) := by
  intro d
  induction d with
  | zero => intro _; exact hF
  | succ d ih =>
    intro hd
    have ih := ih (by omega)
    have hrc := h.1.1.2.2.1
    obtain ⟨x, y, n, hxy, hy, el, eh, en, hn, e1, e2, e3⟩ := drc_n h (show d < T.2.2.2.2.2.2.2.2.2.2.1 by omega)
    have hwd := hw d (by omega)
    rw [rdE, dE]
    by_cases c1 : nI d = but
    · rw [if_pos c1, if_neg (fun z => (hwd.mp z).1 c1)]; exact ih
    by_cases c2 : s (120 + 4 * d + 3) = 0
    · rw [if_neg c1, if_pos c2, if_neg (fun z => (hwd.mp z).2 c2)]; exact ih
    rw [if_neg c1, if_neg c2, if_pos (hwd.mpr ⟨c1, c2⟩), el, eh, en, e1, e2, e3, cn_nI (by omega), cn_nI (by omega), cn_nI (by omega)]
    exact enr_door hrc (by omega) hy ih
theorem DD_p {T : HT} {s : Nat → Int32} (h : CPL T s) (w : Int32) : (∀ a b v, DD T w a b = some v → v ≤ 117) ∧ (∀ a b, DD T w a b = DD T w b a) := by
  obtain ⟨p1, p2, p3⟩ := dE_p h w T.2.2.2.2.2.2.2.2.2.2.1 (Nat.le_refl _)
  exact ⟨fun a b v hv => fw_117 p1 h.1.1.2.2.1 hv, fw_sym p3 T.2.2.2.2.2.2.2.2.2.1⟩
def ptD (x : Option Nat) : Int32 := match x with
  | some v => nI v
  | none => -1
theorem pt_C {T : HT} {s : Nat → Int32} (h : CPL T s) (w : Int32) (f : Nat → Int32) {a b : Nat} (ha : a < T.2.2.2.2.2.2.2.2.2.1) (hb : b < T.2.2.2.2.2.2.2.2.2.1) : ptP (msT T w f) a b = ptD (DD T w a b) := by
  unfold ptP
  rw [cls_T h w f a b ha hb]
  cases e : DD T w a b with
  | none => exact if_neg (fun y => Int32.lt_irrefl y)
  | some v =>
    have := (DD_p h w).1 a b v e
    exact if_pos ((nI_ltI (show v < 2 ^ 31 by omega) (by decide)).mpr (by omega))
theorem pt_R {T : HT} {s : Nat → Int32} (h : CPL T s) {w : Int32} {g : Nat → Int32} (hg : ENR 9999 T.2.2.2.2.2.2.2.2.2.1 g (DD T w)) {a b : Nat} (ha : a < T.2.2.2.2.2.2.2.2.2.1) (hb : b < T.2.2.2.2.2.2.2.2.2.1) : (9999 ≤ g (plc a b) ∧ ptD (DD T w a b) = -1) ∨ (¬ 9999 ≤ g (plc a b) ∧ g (plc a b) < 9999 ∧ ptD (DD T w a b) = g (plc a b)) := by
  rw [hg a b ha hb]
  cases e : DD T w a b with
  | none => exact Or.inl ⟨Int32.le_refl _, rfl⟩
  | some v =>
    have := (DD_p h w).1 a b v e
    have h2 : nI v < 9999 := (nI_ltI (b := 9999) (show v < 2 ^ 31 by omega) (by decide)).mpr (by omega)
    exact Or.inr ⟨fun y => Int32.lt_irrefl (Int32.lt_of_lt_of_le h2 y), h2, rfl⟩
theorem pt_ne {T : HT} {s : Nat → Int32} (h : CPL T s) {w w2 : Int32} {g g2 : Nat → Int32} (hg : ENR 9999 T.2.2.2.2.2.2.2.2.2.1 g (DD T w)) (hg2 : ENR 9999 T.2.2.2.2.2.2.2.2.2.1 g2 (DD T w2)) {a b : Nat} (ha : a < T.2.2.2.2.2.2.2.2.2.1) (hb : b < T.2.2.2.2.2.2.2.2.2.1) : (g (plc a b) = g2 (plc a b)) ↔ (ptD (DD T w a b) = ptD (DD T w2 a b)) := by
  rw [hg a b ha hb, hg2 a b ha hb]
  cases e : DD T w a b with
  | none =>
    cases e2 : DD T w2 a b with
    | none => exact ⟨fun _ => rfl, fun _ => rfl⟩
    | some v =>
      have := (DD_p h w2).1 a b v e2
      exact ⟨fun y => by have := (nI_eq (a := 9999) (b := v) (by decide) (by omega)).mp y; omega, fun y => absurd y.symm (nI_m1 (by omega))⟩
  | some u =>
    have hu := (DD_p h w).1 a b u e
    cases e2 : DD T w2 a b with
    | none =>
      exact ⟨fun y => by have := (nI_eq (a := u) (b := 9999) (by omega) (by decide)).mp y; omega, fun y => absurd y (nI_m1 (by omega))⟩
    | some v => exact Iff.rfl
-- counting pairs in the two orders
def cuR (P : Nat → Nat → Bool) (n : Nat) : Nat → Nat
  | 0 => 0
  | i + 1 => cuR P n i + fb_ct (fun t => P i (i + 1 + t)) (n - (i + 1))
def clR (P : Nat → Nat → Bool) : Nat → Nat
  | 0 => 0
  | a + 1 => clR P a + fb_ct (fun b => P b a) a
theorem cu_s (P : Nat → Nat → Bool) (n : Nat) : ∀ i, i ≤ n → cuR P (n + 1) i = cuR P n i + fb_ct (fun b => P b n) i := by
  intro i
  induction i with
  | zero => intro _; rfl
  | succ i ih =>
    intro hi
    have ih := ih (by omega)
    have e : n + 1 - (i + 1) = (n - (i + 1)) + 1 := by omega
    have e2 : i + 1 + (n - (i + 1)) = n := by omega
    show cuR P (n + 1) i + fb_ct (fun t => P i (i + 1 + t)) (n + 1 - (i + 1)) = cuR P n i + fb_ct (fun t => P i (i + 1 + t)) (n - (i + 1)) + fb_ct (fun b => P b n) (i + 1)
    rw [e, fb_ct_succ, fb_ct_succ, ih, e2]
    omega
theorem cu_cl (P : Nat → Nat → Bool) : ∀ n, cuR P n n = clR P n := by
  intro n
  induction n with
  | zero => rfl
  | succ n ih =>
    show cuR P (n + 1) n + fb_ct (fun t => P n (n + 1 + t)) (n + 1 - (n + 1)) = clR P n + fb_ct (fun b => P b n) n
    rw [cu_s P n n (Nat.le_refl n), ih, Nat.sub_self]
    rfl
theorem dfJ_ct {p q : Nat → Nat → Int32} {P : Nat → Nat → Bool} {n i c : Nat} (hi : i < n) (h : ∀ i j, i < n → j < n → (P i j = true ↔ ¬ p i j = q i j)) : ∀ k, i + 1 + k ≤ n → dfJ p q i (nI c) k = nI (c + fb_ct (fun t => P i (i + 1 + t)) k) := by
  intro k
  induction k with
  | zero => intro _; rfl
  | succ k ih =>
    intro hk
    rw [dfJ, ih (by omega), fb_ct_succ]
    have h2 := h i (i + 1 + k) hi (by omega)
    by_cases e : p i (i + 1 + k) = q i (i + 1 + k)
    · have : ¬ P i (i + 1 + k) = true := fun z => h2.mp z e
      rw [if_pos e, if_neg this]; rfl
    · rw [if_neg e, if_pos (h2.mpr e)]
      exact nI_add _ 1
theorem dfA_ct {p q : Nat → Nat → Int32} {P : Nat → Nat → Bool} {n c : Nat} (h : ∀ i j, i < n → j < n → (P i j = true ↔ ¬ p i j = q i j)) : ∀ i, i ≤ n → dfA p q n (nI c) i = nI (c + cuR P n i) := by
  intro i
  induction i with
  | zero => intro _; rfl
  | succ i ih =>
    intro hi
    rw [dfA, ih (by omega), dfJ_ct (by omega) h _ (by omega)]
    show _ = nI (c + (cuR P n i + fb_ct (fun t => P i (i + 1 + t)) (n - (i + 1))))
    rw [Nat.add_assoc]
theorem dfA_cl {p q : Nat → Nat → Int32} {P : Nat → Nat → Bool} {n c : Nat} (h : ∀ i j, i < n → j < n → (P i j = true ↔ ¬ p i j = q i j)) : dfA p q n (nI c) n = nI (c + clR P n) := by
  rw [dfA_ct h n (Nat.le_refl n), cu_cl]
theorem clR_le (P : Nat → Nat → Bool) : ∀ n, clR P n ≤ n * n := by
  intro n
  induction n with
  | zero => exact Nat.le_refl _
  | succ n ih =>
    have := fb_ct_le (fun b => P b n) n
    show clR P n + _ ≤ _
    rw [Nat.succ_mul, Nat.mul_succ]
    omega
