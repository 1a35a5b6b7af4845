/-! 20d: words for numbers, heaps, arguments -/
theorem q_ofNat (n : Nat) : Int32.ofNat n = nI n := rfl
theorem q_clamp {j : Int32} (h0 : 0 ≤ j) : (j.toNatClampNeg : Int) = j.toInt := by
  rw [Int32.le_iff_toInt_le, Int32.toInt_zero] at h0
  unfold Int32.toNatClampNeg
  omega
theorem q_vp {k N : Nat} (h : k < N) (hN : N < 2 ^ 31) : vp_in (nI k) N = True := eq_true (vp_in_nI h hN)
theorem q_in_of {j : Int32} {len : Nat} (h0 : 0 ≤ j) (h1 : j < nI len) (hl : len < 2 ^ 31) : vp_in j len := by
  rw [vp_in_iff]
  rw [Int32.lt_iff_toInt_lt, nI_toInt hl] at h1
  rw [Int32.le_iff_toInt_le, Int32.toInt_zero] at h0
  omega
theorem q_nI_of {j : Int32} (h0 : 0 ≤ j) : nI j.toNatClampNeg = j := by
  apply Int32.toInt_inj.mp
  have h1 := q_clamp h0
  have h2 := j.toInt_lt
  rw [nI_toInt (by omega), h1]
theorem hup_same {h : HM} {a : Nat} {e : AE} (ha : h a = some e) : hup h a e = h := by
  funext x
  by_cases hx : x = a
  · subst hx; rw [hup_at]; exact ha.symm
  · rw [hup_ne h e hx]
theorem hup_hup (h : HM) (a : Nat) (e e2 : AE) : hup (hup h a e) a e2 = hup h a e2 := by
  funext x
  by_cases hx : x = a
  · subst hx; rw [hup_at, hup_at]
  · rw [hup_ne _ e2 hx, hup_ne _ e hx, hup_ne _ e2 hx]
theorem hup_nq {h : HM} {a x : Nat} {e : AE} (hx : x ≠ a) : hup h a e x = h x := hup_ne h e hx
theorem hup_swap {h : HM} {a b : Nat} (hab : a ≠ b) (e e2 : AE) : hup (hup h a e) b e2 = hup (hup h b e2) a e := by
  funext x
  by_cases hx : x = a
  · subst hx; rw [hup_nq hab, hup_at, hup_at]
  · rw [hup_nq (h := hup h b e2) hx]
    by_cases hy : x = b
    · subst hy; rw [hup_at, hup_at]
    · rw [hup_nq hy, hup_nq hy, hup_nq hx]
abbrev ints (len : Nat) (f : Nat → Int32) : AE := .inl (0, len, .inl f)
abbrev longs (len : Nat) (f : Nat → Int64) : AE := .inl (1, len, .inr (.inl f))
def tI (b : Bool) : Int32 := if b then 1 else 0
theorem tI_t : tI true = 1 := rfl
theorem tI_f : tI false = 0 := rfl
theorem tI_0 {b : Bool} : tI b = 0 ↔ b = false := by cases b <;> decide
theorem tI_1 {b : Bool} : tI b = 1 ↔ b = true := by cases b <;> decide
theorem tI_or {b : Bool} : tI b = 0 ∨ tI b = 1 := by cases b <;> decide
/-- the arguments of a call, by their kinds -/
def A_r (as : List Value) (P : Nat → Prop) : Prop := match as with | [.ref a] => P a | _ => False
def A_ri (as : List Value) (P : Nat → Int32 → Prop) : Prop := match as with | [.ref a, .int i] => P a i | _ => False
def A_rii (as : List Value) (P : Nat → Int32 → Int32 → Prop) : Prop := match as with | [.ref a, .int i, .int j] => P a i j | _ => False
def A_riii (as : List Value) (P : Nat → Int32 → Int32 → Int32 → Prop) : Prop := match as with | [.ref a, .int i, .int j, .int k] => P a i j k | _ => False
def A_rr (as : List Value) (P : Nat → Nat → Prop) : Prop := match as with | [.ref a, .ref b] => P a b | _ => False
def A_rri (as : List Value) (P : Nat → Nat → Int32 → Prop) : Prop := match as with | [.ref a, .ref b, .int i] => P a b i | _ => False
def A_rl (as : List Value) (P : Nat → Int64 → Prop) : Prop := match as with | [.ref a, .long i] => P a i | _ => False
def A_riiii (as : List Value) (P : Nat → Int32 → Int32 → Int32 → Int32 → Prop) : Prop := match as with | [.ref a, .int i, .int j, .int k, .int l] => P a i j k l | _ => False
theorem E_riiii {as : List Value} {P : Nat → Int32 → Int32 → Int32 → Int32 → Prop} (h : A_riiii as P) : ∃ a i j k l, as = [.ref a, .int i, .int j, .int k, .int l] ∧ P a i j k l := by
  unfold A_riiii at h; split at h; exact ⟨_, _, _, _, _, rfl, h⟩; exact h.elim
def A_rlii (as : List Value) (P : Nat → Int64 → Int32 → Int32 → Prop) : Prop := match as with | [.ref a, .long i, .int j, .int k] => P a i j k | _ => False
theorem E_rlii {as : List Value} {P : Nat → Int64 → Int32 → Int32 → Prop} (h : A_rlii as P) : ∃ a i j k, as = [.ref a, .long i, .int j, .int k] ∧ P a i j k := by
  unfold A_rlii at h; split at h; exact ⟨_, _, _, _, rfl, h⟩; exact h.elim
def A_riri (as : List Value) (P : Nat → Int32 → Nat → Int32 → Prop) : Prop := match as with | [.ref a, .int i, .ref b, .int j] => P a i b j | _ => False
theorem E_riri {as : List Value} {P : Nat → Int32 → Nat → Int32 → Prop} (h : A_riri as P) : ∃ a i b j, as = [.ref a, .int i, .ref b, .int j] ∧ P a i b j := by
  unfold A_riri at h; split at h; exact ⟨_, _, _, _, rfl, h⟩; exact h.elim
def A_rrii (as : List Value) (P : Nat → Nat → Int32 → Int32 → Prop) : Prop := match as with | [.ref a, .ref b, .int i, .int j] => P a b i j | _ => False
theorem E_rrii {as : List Value} {P : Nat → Nat → Int32 → Int32 → Prop} (h : A_rrii as P) : ∃ a b i j, as = [.ref a, .ref b, .int i, .int j] ∧ P a b i j := by
  unfold A_rrii at h; split at h; exact ⟨_, _, _, _, rfl, h⟩; exact h.elim
def A_rrr (as : List Value) (P : Nat → Nat → Nat → Prop) : Prop := match as with | [.ref a, .ref b, .ref c] => P a b c | _ => False
theorem E_rrr {as : List Value} {P : Nat → Nat → Nat → Prop} (h : A_rrr as P) : ∃ a b c, as = [.ref a, .ref b, .ref c] ∧ P a b c := by
  unfold A_rrr at h; split at h; exact ⟨_, _, _, rfl, h⟩; exact h.elim
def A_rrrr (as : List Value) (P : Nat → Nat → Nat → Nat → Prop) : Prop := match as with | [.ref a, .ref b, .ref c, .ref d] => P a b c d | _ => False
theorem E_rrrr {as : List Value} {P : Nat → Nat → Nat → Nat → Prop} (h : A_rrrr as P) : ∃ a b c d, as = [.ref a, .ref b, .ref c, .ref d] ∧ P a b c d := by
  unfold A_rrrr at h; split at h; exact ⟨_, _, _, _, rfl, h⟩; exact h.elim
def A_i (as : List Value) (P : Int32 → Prop) : Prop := match as with | [.int i] => P i | _ => False
def A_ii (as : List Value) (P : Int32 → Int32 → Prop) : Prop := match as with | [.int i, .int j] => P i j | _ => False
def A_iii (as : List Value) (P : Int32 → Int32 → Int32 → Prop) : Prop := match as with | [.int i, .int j, .int k] => P i j k | _ => False
def A_l (as : List Value) (P : Int64 → Prop) : Prop := match as with | [.long i] => P i | _ => False
def A_li (as : List Value) (P : Int64 → Int32 → Prop) : Prop := match as with | [.long i, .int j] => P i j | _ => False
def A_lll (as : List Value) (P : Int64 → Int64 → Int64 → Prop) : Prop := match as with | [.long i, .long j, .long k] => P i j k | _ => False
theorem E_r {as : List Value} {P : Nat → Prop} (h : A_r as P) : ∃ a, as = [.ref a] ∧ P a := by
  unfold A_r at h; split at h; exact ⟨_, rfl, h⟩; exact h.elim
theorem E_ri {as : List Value} {P : Nat → Int32 → Prop} (h : A_ri as P) : ∃ a i, as = [.ref a, .int i] ∧ P a i := by
  unfold A_ri at h; split at h; exact ⟨_, _, rfl, h⟩; exact h.elim
theorem E_rii {as : List Value} {P : Nat → Int32 → Int32 → Prop} (h : A_rii as P) : ∃ a i j, as = [.ref a, .int i, .int j] ∧ P a i j := by
  unfold A_rii at h; split at h; exact ⟨_, _, _, rfl, h⟩; exact h.elim
theorem E_riii {as : List Value} {P : Nat → Int32 → Int32 → Int32 → Prop} (h : A_riii as P) : ∃ a i j k, as = [.ref a, .int i, .int j, .int k] ∧ P a i j k := by
  unfold A_riii at h; split at h; exact ⟨_, _, _, _, rfl, h⟩; exact h.elim
theorem E_rr {as : List Value} {P : Nat → Nat → Prop} (h : A_rr as P) : ∃ a b, as = [.ref a, .ref b] ∧ P a b := by
  unfold A_rr at h; split at h; exact ⟨_, _, rfl, h⟩; exact h.elim
theorem E_rri {as : List Value} {P : Nat → Nat → Int32 → Prop} (h : A_rri as P) : ∃ a b i, as = [.ref a, .ref b, .int i] ∧ P a b i := by
  unfold A_rri at h; split at h; exact ⟨_, _, _, rfl, h⟩; exact h.elim
theorem E_rl {as : List Value} {P : Nat → Int64 → Prop} (h : A_rl as P) : ∃ a i, as = [.ref a, .long i] ∧ P a i := by
  unfold A_rl at h; split at h; exact ⟨_, _, rfl, h⟩; exact h.elim
theorem E_i {as : List Value} {P : Int32 → Prop} (h : A_i as P) : ∃ i, as = [.int i] ∧ P i := by
  unfold A_i at h; split at h; exact ⟨_, rfl, h⟩; exact h.elim
theorem E_ii {as : List Value} {P : Int32 → Int32 → Prop} (h : A_ii as P) : ∃ i j, as = [.int i, .int j] ∧ P i j := by
  unfold A_ii at h; split at h; exact ⟨_, _, rfl, h⟩; exact h.elim
theorem E_iii {as : List Value} {P : Int32 → Int32 → Int32 → Prop} (h : A_iii as P) : ∃ i j k, as = [.int i, .int j, .int k] ∧ P i j k := by
  unfold A_iii at h; split at h; exact ⟨_, _, _, rfl, h⟩; exact h.elim
theorem E_l {as : List Value} {P : Int64 → Prop} (h : A_l as P) : ∃ i, as = [.long i] ∧ P i := by
  unfold A_l at h; split at h; exact ⟨_, rfl, h⟩; exact h.elim
theorem E_li {as : List Value} {P : Int64 → Int32 → Prop} (h : A_li as P) : ∃ i j, as = [.long i, .int j] ∧ P i j := by
  unfold A_li at h; split at h; exact ⟨_, _, rfl, h⟩; exact h.elim
theorem E_lll {as : List Value} {P : Int64 → Int64 → Int64 → Prop} (h : A_lll as P) : ∃ i j k, as = [.long i, .long j, .long k] ∧ P i j k := by
  unfold A_lll at h; split at h; exact ⟨_, _, _, rfl, h⟩; exact h.elim
/-- what an int array, a row of the class holds -/
def HI (h : HM) (a : Nat) (P : Nat → (Nat → Int32) → Prop) : Prop := match h a with | some (.inl (0, len, .inl f)) => P len f | _ => False
theorem HI_of {h : HM} {a : Nat} {P : Nat → (Nat → Int32) → Prop} (hx : HI h a P) : ∃ len f, h a = some (ints len f) ∧ P len f := by
  unfold HI at hx; split at hx; exact ⟨_, _, by assumption, hx⟩; exact hx.elim
theorem HI_ints {h : HM} {a : Nat} {P : Nat → (Nat → Int32) → Prop} {len : Nat} {f : Nat → Int32} (ha : h a = some (ints len f)) : HI h a P = P len f := by
  unfold HI; rw [ha]; rfl
def HR (h : HM) (a : Nat) (P : Nat → Nat → (Nat → Int32) → Prop) : Prop := match h a with | some (.inr (7, [.ref b])) => HI h b fun len f => P b len f | _ => False
theorem HR_of {h : HM} {a : Nat} {P : Nat → Nat → (Nat → Int32) → Prop} (hx : HR h a P) : ∃ b len f, h a = some (.inr (7, [.ref b])) ∧ h b = some (ints len f) ∧ P b len f := by
  unfold HR at hx; split at hx
  · obtain ⟨len, f, h1, h2⟩ := HI_of hx; exact ⟨_, len, f, by assumption, h1, h2⟩
  · exact hx.elim
def rget (len : Nat) (f : Nat → Int32) (j : Int32) : Int32 := if j < 0 then 0 else if nI len ≤ j then 0 else f j.toNatClampNeg
def rset (len : Nat) (f : Nat → Int32) (j v : Int32) : Nat → Int32 := if j < 0 then f else if nI len ≤ j then f else upd f j.toNatClampNeg v
theorem rget_k {len k : Nat} {f : Nat → Int32} (h : k < len) (hl : len < 2 ^ 31) : rget len f (nI k) = f k := by
  unfold rget; rw [if_neg (nI_pos (by omega)), if_neg (nI_ge h hl), nI_clamp (by omega)]
theorem rset_k {len k : Nat} {f : Nat → Int32} {v : Int32} (h : k < len) (hl : len < 2 ^ 31) : rset len f (nI k) v = upd f k v := by
  unfold rset; rw [if_neg (nI_pos (by omega)), if_neg (nI_ge h hl), nI_clamp (by omega)]
theorem rget_no {len : Nat} {f : Nat → Int32} {j : Int32} (h : j < 0 ∨ nI len ≤ j) : rget len f j = 0 := by
  unfold rget; split
  · rfl
  · rename_i h1; rw [if_pos (h.resolve_left h1)]
theorem rg6_0 {f : Nat → Int32} : rget 6 f 0 = f 0 := rget_k (k := 0) (by decide) (by decide)
theorem rg6_1 {f : Nat → Int32} : rget 6 f 1 = f 1 := rget_k (k := 1) (by decide) (by decide)
theorem rg6_2 {f : Nat → Int32} : rget 6 f 2 = f 2 := rget_k (k := 2) (by decide) (by decide)
theorem rg6_3 {f : Nat → Int32} : rget 6 f 3 = f 3 := rget_k (k := 3) (by decide) (by decide)
theorem rg6_4 {f : Nat → Int32} : rget 6 f 4 = f 4 := rget_k (k := 4) (by decide) (by decide)
theorem rg6_5 {f : Nat → Int32} : rget 6 f 5 = f 5 := rget_k (k := 5) (by decide) (by decide)
theorem rs6_0 {f : Nat → Int32} {v : Int32} : rset 6 f 0 v = upd f 0 v := rset_k (k := 0) (by decide) (by decide)
theorem rs6_4 {f : Nat → Int32} {v : Int32} : rset 6 f 4 v = upd f 4 v := rset_k (k := 4) (by decide) (by decide)
theorem rs6_5 {f : Nat → Int32} {v : Int32} : rset 6 f 5 v = upd f 5 v := rset_k (k := 5) (by decide) (by decide)
/-- a method's stretches as a variable: the kernel doesn't open them -/
def exT (W : WF) (G : GG) (i : Nat) (Q : XQ) (jj : Nat → List (Nat × Value) → List Value → HM → Option Nat → Nat → Nat → Prop) (t : Option (List OPX)) (pc : Nat) (L : List (Nat × Value)) (st : List Value) (h : HM) (o : Option Nat) (k n : Nat) : Prop := match t with
  | some t => exB W G i Q jj t pc L st h o k n
  | none => EX G i pc L st h o k n Q
theorem genJ {W : WF} {G : GG} {i : Nat} {Q : XQ} {T : Nat → Option (List OPX)} {P : (Nat → Nat → List (Nat × Value) → List Value → HM → Option Nat → Nat → Nat → Prop) → Prop} (H : ∀ J : Nat → Nat → List (Nat × Value) → List Value → HM → Option Nat → Nat → Nat → Prop, (∀ f pc L st h o k n, J (f + 1) pc L st h o k n = exT W G i Q (J f) (T pc) pc L st h o k n) → P J) : P (exF W G i Q T) := H _ (fun f pc L st h o k n => by
  show (match T pc with
    | some t => exB W G i Q (exF W G i Q T f) t pc L st h o k n
    | none => EX G i pc L st h o k n Q) = _
  unfold exT
  rfl)
theorem f4_3 : (3 : Fin 4).val = 3 := rfl
/-- fewer locals -/
def subL (L' L : List (Nat × Value)) : Prop := match L', L with
  | [], _ => True
  | _ :: _, [] => False
  | a :: t, b :: u => (a = b ∧ subL t u) ∨ subL (a :: t) u
theorem subL_mem : ∀ {L L' : List (Nat × Value)}, subL L' L → ∀ q ∈ L', q ∈ L := by
  intro L
  induction L with
  | nil =>
    intro L' h q hq
    cases L' with
    | nil => cases hq
    | cons a t => simp [subL] at h
  | cons b u ih =>
    intro L' h q hq
    cases L' with
    | nil => cases hq
    | cons a t =>
      rw [subL] at h
      rcases h with ⟨rfl, h⟩ | h
      · rcases List.mem_cons.mp hq with rfl | hq
        · exact List.mem_cons_self
        · exact List.mem_cons_of_mem _ (ih h q hq)
      · exact List.mem_cons_of_mem _ (ih h q hq)
theorem EX.subL {G : GG} {i pc : Nat} {L L' : List (Nat × Value)} {st : List Value} {h : HM} {o : Option Nat} {k n : Nat} {Q : XQ} (hs : subL L' L) (hx : EX G i pc L' st h o k n Q) : EX G i pc L st h o k n Q := EX.sub (subL_mem hs) hx
theorem nI_z {n : Nat} (h : n < 2 ^ 31) : nI n = 0 ↔ n = 0 := nI_eq (b := 0) h (by decide)
