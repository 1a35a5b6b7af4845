/-! d1: class and reference side by side: the law's heap, what holds of both, what a pair of calls must answer -/
set_option maxRecDepth 8000
def lrow (f : Nat → Int64) : AE := .inl (1, 1, .inr (.inl f))
def hL (z : Nat) (K : KT) (M : MT) (f : Nat → Int64) : HM := hG (hM (fun x => if x = z + 224 then some (lrow f) else none) (z + 207) M) z K
/-- what holds of class and reference between two calls -/
def INV (K : KT) (M : MT) : Prop := (GOK K ∧ ZH K.2.2.1 ∧ ZH K.2.2.2.1 ∧ ZH K.2.2.2.2.2.2.2.2.2.2.2.2.2.2.2.2.2.2.2.1 ∧ HZ K) ∧ CPL K.2.2.1 M.2.2.2.2.2.2.2.2.2.2.2.2.2.1 ∧ (∃ a b : Nat, (a < 7 ∧ b ≤ 6) ∧ (K.2.2.2.2.2.2.2.2.2.2.2.2.2.2.2.2.2.2.2.2.1 = nI a ∧ K.2.2.2.2.2.2.2.2.2.2.2.2.2.2.2.2.2.2.2.2.2.1 = nI b ∧ M.2.2.2.2.2.2.2.2.2.2.2.2.2.2.2.2.2.2.1 = nI b) ∧ RNG K.2.2.2.2.2.2.2.2.2.2.2.2.2.2.2.2.2.2.2.2.2.2.1 M.2.2.2.2.2.2.2.2.2.2.2.2.2.2.2.2.2.1 a b) ∧ ((K.1 = 0 ∧ M.2.2.2.2.2.2.2.2.2.2.2.2.2.2.2.2.2.2.2.1 = 0) ∨ (K.1 = 1 ∧ M.2.2.2.2.2.2.2.2.2.2.2.2.2.2.2.2.2.2.2.1 = 1 ∧ CPL K.2.2.2.2.2.2.2.2.2.2.2.2.2.2.2.2.2.2.2.1 M.2.2.2.2.2.2.2.2.2.2.2.2.2.2.1)) ∧ (K.2.2.2.2.2.2.2.2.2.2.1 = M.2.1 ∧ BUN M.2.1 ∧ ∃ f, f ≤ 600 ∧ K.2.2.2.2.2.2.2.2.2.1 = nI f ∧ M.2.2.1 = nI f) ∧ (K.2.2.2.2.2.2.2.2.2.2.2.2.2.2.2.2.2.1 = M.2.2.2.2.2.2.2.2.2.2.1 ∧ K.2.2.2.2.2.2.2.2.2.2.2.2.2.2.2.2.2.2.1 = M.2.2.2.2.2.2.2.2.2.2.2.1) ∧ ∃ n, n ≤ 192 ∧ K.2.1 = nI n ∧ M.2.2.2.2.2.2.2.2.2.2.2.2.2.2.2.2.2.2.2.2.2.2.2.2.2.2.2.2.2.2.2.2.2.2 = nI n ∧ ∀ i, i < n → K.2.2.2.2.2.2.2.2.2.2.2.2.2.2.2.2.2.2.2.2.2.2.2.2.2.2.2.2.2.2.2.2.2 i = M.2.2.2.2.2.2.2.2.2.2.2.2.2.2.2.2.2.2.2.2.2.2.2.2.2.2.2.2.2.2.2.2.2.1 i
abbrev RUL : Type := HM → Option Nat → XQ → Prop
/-- the reference answers v, and tells that nothing was thrown -/
def MQv (z : Nat) (K2 : KT) (g : Nat → Int64) (v : Value) : XQ := fun u h _ => ∃ M2, h = hL z K2 M2 g ∧ u = .inl (some v) ∧ M2.1 = 0 ∧ INV K2 M2
/-- the reference tells that c was thrown -/
def MQx (z : Nat) (K2 : KT) (g : Nat → Int64) (c : Int32) : XQ := fun u h _ => ∃ (M2 : MT) (v : Int32), h = hL z K2 M2 g ∧ u = .inl (some (.int v)) ∧ M2.1 = c ∧ INV K2 M2
/-- the class has answered: then the reference answers the same -/
def GQ (cs : List (Nat × Int32)) (z : Nat) (M : MT) (f : Nat → Int64) (R : RUL) : XQ := fun u h _ => ∃ K2, h = hL z K2 M f ∧ match u with
  | .inl (some (.int v)) => ∀ g o2, R (hL z K2 M g) o2 (MQv z K2 g (.int v))
  | .inr E => ∃ q, q ∈ cs ∧ E = exN q.1 ∧ ∀ g o2, R (hL z K2 M g) o2 (MQx z K2 g q.2)
  | _ => False
section LL
variable {z : Nat} {K K2 : KT} {M M2 : MT} {f g : Nat → Int64} {o : Option Nat} {R : RUL} {cs : List (Nat × Int32)}
theorem hL_G : hG (hL z K M f) z K2 = hL z K2 M f := hG_hG
theorem hL_M : hM (hL z K M f) (z + 207) M2 = hL z K M2 f := by
  funext x
  unfold hL
  by_cases c : z + 207 ≤ x ∧ x < z + 224
  · obtain ⟨i, hi, rfl⟩ : ∃ i, i < 17 ∧ x = z + 207 + i := ⟨x - (z + 207), by omega, by omega⟩
    rw [hM_at hi, hG_out (by omega), hM_at hi]
  · rw [hM_out (by omega)]
    by_cases d : z ≤ x ∧ x < z + 207
    · obtain ⟨i, hi, rfl⟩ : ∃ i, i < 207 ∧ x = z + i := ⟨x - z, by omega, by omega⟩
      rw [hG_at hi, hG_at hi]
    · rw [hG_out d, hG_out d, hM_out (by omega), hM_out (by omega)]
theorem hL_f : hL z K M f (z + 224) = some (lrow f) := by
  unfold hL
  rw [hG_out (by omega), hM_out (by omega)]
  exact if_pos rfl
theorem hL_up : hup (hL z K M f) (z + 224) (lrow g) = hL z K M g := by
  funext x
  by_cases c : x = z + 224
  · subst c
    rw [hup_at, hL_f]
  · rw [hup_ne _ _ c]
    unfold hL
    by_cases d : z ≤ x ∧ x < z + 207
    · obtain ⟨i, hi, rfl⟩ : ∃ i, i < 207 ∧ x = z + i := ⟨x - z, by omega, by omega⟩
      rw [hG_at hi, hG_at hi]
    · rw [hG_out d, hG_out d]
      by_cases e : z + 207 ≤ x ∧ x < z + 224
      · obtain ⟨i, hi, rfl⟩ : ∃ i, i < 17 ∧ x = z + 207 + i := ⟨x - (z + 207), by omega, by omega⟩
        rw [hM_at hi, hM_at hi]
      · rw [hM_out (by omega), hM_out (by omega), if_neg c, if_neg c]
theorem hL_z : ∃ fs, hL z K M f z = some (.inr (10, fs)) := ⟨_, hG_0⟩
theorem hL_m : ∃ fs, hL z K M f (z + 207) = some (.inr (11, fs)) := by
  unfold hL
  rw [hG_out (by omega)]
  exact ⟨_, hM_0⟩
theorem gx {P : KT → Prop} (ok : GOK K) (h : P K) : GX (hL z K M f) z P := ⟨_, K, rfl, ok, h⟩
theorem mx {P : MT → Prop} (h : P M) : MX (hL z K M f) (z + 207) P := ⟨hL z K M f, M, hL_M.symm, trivial, h⟩
theorem gqv {v : Int32} (h : ∀ g o2, R (hL z K2 M g) o2 (MQv z K2 g (.int v))) : GQ cs z M f R (.inl (some (.int v))) (hG (hL z K M f) z K2) o := ⟨K2, hL_G, h⟩
theorem gqv0 {v : Int32} (h : ∀ g o2, R (hL z K M g) o2 (MQv z K g (.int v))) : GQ cs z M f R (.inl (some (.int v))) (hL z K M f) o := ⟨K, rfl, h⟩
theorem gqx (kd : Nat) (c : Int32) (hq : (kd, c) ∈ cs) (h : ∀ g o2, R (hL z K2 M g) o2 (MQx z K2 g c)) : GQ cs z M f R (.inr (exN kd)) (hG (hL z K M f) z K2) o := ⟨K2, hL_G, (kd, c), hq, rfl, h⟩
theorem gqx0 (kd : Nat) (c : Int32) (hq : (kd, c) ∈ cs) (h : ∀ g o2, R (hL z K M g) o2 (MQx z K g c)) : GQ cs z M f R (.inr (exN kd)) (hL z K M f) o := ⟨K, rfl, (kd, c), hq, rfl, h⟩
theorem mqv {v w : Int32} (hI : INV K M2) (e0 : M2.1 = 0) (ev : w = v) : MQv z K g (.int v) (.inl (some (.int w))) (hM (hL z K M g) (z + 207) M2) o := ⟨M2, hL_M, by rw [ev], e0, hI⟩
theorem mqx {c v : Int32} (hI : INV K M2) (e0 : M2.1 = c) : MQx z K g c (.inl (some (.int v))) (hM (hL z K M g) (z + 207) M2) o := ⟨M2, v, hL_M, rfl, e0, hI⟩
-- indices
theorem in_no {n k : Nat} {i : Int32} (c : inR n i = false) (hk : k < n) (hn : n ≤ 700) (e : i = nI k) : False := by
  rw [e, inR_k hk (by omega)] at c
  cases c
theorem in_eq {i : Int32} {k j : Nat} (hk : k < 700) (hj : j < 700) (e : i = nI k) (e2 : i = nI j) : j = k := (nI_eq (by omega) (by omega)).mp (e2.symm.trans e)
theorem tI_ite (b : Bool) : (if tI b = 1 then (1 : Int32) else 0) = tI b := by cases b <;> rfl
theorem nf {b : Bool} (h : b = false) (h2 : b = true) : False := by rw [h] at h2; cases h2
-- what changes leave of it
theorem INV_dr {D : HT} {a b c d e : Int32} (hI : INV K M) (hD : HOK D) (zD : ZH D) : INV (K.1, K.2.1, K.2.2.1, D, a, b, c, d, e, K.2.2.2.2.2.2.2.2.2.1, K.2.2.2.2.2.2.2.2.2.2.1, K.2.2.2.2.2.2.2.2.2.2.2.1, K.2.2.2.2.2.2.2.2.2.2.2.2.1, K.2.2.2.2.2.2.2.2.2.2.2.2.2.1, K.2.2.2.2.2.2.2.2.2.2.2.2.2.2.1, K.2.2.2.2.2.2.2.2.2.2.2.2.2.2.2.1, K.2.2.2.2.2.2.2.2.2.2.2.2.2.2.2.2.1, K.2.2.2.2.2.2.2.2.2.2.2.2.2.2.2.2.2.1, K.2.2.2.2.2.2.2.2.2.2.2.2.2.2.2.2.2.2.1, K.2.2.2.2.2.2.2.2.2.2.2.2.2.2.2.2.2.2.2.1, K.2.2.2.2.2.2.2.2.2.2.2.2.2.2.2.2.2.2.2.2.1, K.2.2.2.2.2.2.2.2.2.2.2.2.2.2.2.2.2.2.2.2.2.1, K.2.2.2.2.2.2.2.2.2.2.2.2.2.2.2.2.2.2.2.2.2.2.1, K.2.2.2.2.2.2.2.2.2.2.2.2.2.2.2.2.2.2.2.2.2.2.2.1, K.2.2.2.2.2.2.2.2.2.2.2.2.2.2.2.2.2.2.2.2.2.2.2.2.1, K.2.2.2.2.2.2.2.2.2.2.2.2.2.2.2.2.2.2.2.2.2.2.2.2.2.1, K.2.2.2.2.2.2.2.2.2.2.2.2.2.2.2.2.2.2.2.2.2.2.2.2.2.2.1, K.2.2.2.2.2.2.2.2.2.2.2.2.2.2.2.2.2.2.2.2.2.2.2.2.2.2.2.1, K.2.2.2.2.2.2.2.2.2.2.2.2.2.2.2.2.2.2.2.2.2.2.2.2.2.2.2.2.1, K.2.2.2.2.2.2.2.2.2.2.2.2.2.2.2.2.2.2.2.2.2.2.2.2.2.2.2.2.2.1, K.2.2.2.2.2.2.2.2.2.2.2.2.2.2.2.2.2.2.2.2.2.2.2.2.2.2.2.2.2.2.1, K.2.2.2.2.2.2.2.2.2.2.2.2.2.2.2.2.2.2.2.2.2.2.2.2.2.2.2.2.2.2.2.1, K.2.2.2.2.2.2.2.2.2.2.2.2.2.2.2.2.2.2.2.2.2.2.2.2.2.2.2.2.2.2.2.2.1, K.2.2.2.2.2.2.2.2.2.2.2.2.2.2.2.2.2.2.2.2.2.2.2.2.2.2.2.2.2.2.2.2.2) M := by
  obtain ⟨⟨ok, zh, zd, zs, hz⟩, r⟩ := hI
  exact ⟨⟨⟨ok.1, hD, ok.2.2⟩, zh, zD, zs, hz⟩, r⟩
theorem INV_pa {a b : Nat → Int32} (hI : INV K M) : INV (K.1, K.2.1, K.2.2.1, K.2.2.2.1, K.2.2.2.2.1, K.2.2.2.2.2.1, K.2.2.2.2.2.2.1, K.2.2.2.2.2.2.2.1, K.2.2.2.2.2.2.2.2.1, K.2.2.2.2.2.2.2.2.2.1, K.2.2.2.2.2.2.2.2.2.2.1, K.2.2.2.2.2.2.2.2.2.2.2.1, K.2.2.2.2.2.2.2.2.2.2.2.2.1, K.2.2.2.2.2.2.2.2.2.2.2.2.2.1, K.2.2.2.2.2.2.2.2.2.2.2.2.2.2.1, K.2.2.2.2.2.2.2.2.2.2.2.2.2.2.2.1, K.2.2.2.2.2.2.2.2.2.2.2.2.2.2.2.2.1, K.2.2.2.2.2.2.2.2.2.2.2.2.2.2.2.2.2.1, K.2.2.2.2.2.2.2.2.2.2.2.2.2.2.2.2.2.2.1, K.2.2.2.2.2.2.2.2.2.2.2.2.2.2.2.2.2.2.2.1, K.2.2.2.2.2.2.2.2.2.2.2.2.2.2.2.2.2.2.2.2.1, K.2.2.2.2.2.2.2.2.2.2.2.2.2.2.2.2.2.2.2.2.2.1, K.2.2.2.2.2.2.2.2.2.2.2.2.2.2.2.2.2.2.2.2.2.2.1, a, b, K.2.2.2.2.2.2.2.2.2.2.2.2.2.2.2.2.2.2.2.2.2.2.2.2.2.1, K.2.2.2.2.2.2.2.2.2.2.2.2.2.2.2.2.2.2.2.2.2.2.2.2.2.2.1, K.2.2.2.2.2.2.2.2.2.2.2.2.2.2.2.2.2.2.2.2.2.2.2.2.2.2.2.1, K.2.2.2.2.2.2.2.2.2.2.2.2.2.2.2.2.2.2.2.2.2.2.2.2.2.2.2.2.1, K.2.2.2.2.2.2.2.2.2.2.2.2.2.2.2.2.2.2.2.2.2.2.2.2.2.2.2.2.2.1, K.2.2.2.2.2.2.2.2.2.2.2.2.2.2.2.2.2.2.2.2.2.2.2.2.2.2.2.2.2.2.1, K.2.2.2.2.2.2.2.2.2.2.2.2.2.2.2.2.2.2.2.2.2.2.2.2.2.2.2.2.2.2.2.1, K.2.2.2.2.2.2.2.2.2.2.2.2.2.2.2.2.2.2.2.2.2.2.2.2.2.2.2.2.2.2.2.2.1, K.2.2.2.2.2.2.2.2.2.2.2.2.2.2.2.2.2.2.2.2.2.2.2.2.2.2.2.2.2.2.2.2.2) M := hI
def FRI (X C : MT) : Prop := C.2.1 = X.2.1 ∧ C.2.2.1 = X.2.2.1 ∧ C.2.2.2.2.2.2.2.2.2.2.1 = X.2.2.2.2.2.2.2.2.2.2.1 ∧ C.2.2.2.2.2.2.2.2.2.2.2.1 = X.2.2.2.2.2.2.2.2.2.2.2.1 ∧ C.2.2.2.2.2.2.2.2.2.2.2.2.2.2.1 = X.2.2.2.2.2.2.2.2.2.2.2.2.2.2.1 ∧ C.2.2.2.2.2.2.2.2.2.2.2.2.2.2.2.2.2.1 = X.2.2.2.2.2.2.2.2.2.2.2.2.2.2.2.2.2.1 ∧ C.2.2.2.2.2.2.2.2.2.2.2.2.2.2.2.2.2.2.1 = X.2.2.2.2.2.2.2.2.2.2.2.2.2.2.2.2.2.2.1 ∧ C.2.2.2.2.2.2.2.2.2.2.2.2.2.2.2.2.2.2.2.1 = X.2.2.2.2.2.2.2.2.2.2.2.2.2.2.2.2.2.2.2.1 ∧ C.2.2.2.2.2.2.2.2.2.2.2.2.2.2.2.2.2.2.2.2.2.2.2.2.2.2.2.2.2.2.2.2.2.1 = X.2.2.2.2.2.2.2.2.2.2.2.2.2.2.2.2.2.2.2.2.2.2.2.2.2.2.2.2.2.2.2.2.2.1 ∧ C.2.2.2.2.2.2.2.2.2.2.2.2.2.2.2.2.2.2.2.2.2.2.2.2.2.2.2.2.2.2.2.2.2.2 = X.2.2.2.2.2.2.2.2.2.2.2.2.2.2.2.2.2.2.2.2.2.2.2.2.2.2.2.2.2.2.2.2.2.2
theorem FRI_P {X C : MT} (h : FP2 X C) : FRI X C := by
  refine ⟨?_, ?_, ?_, ?_, ?_, ?_, ?_, ?_, ?_, ?_⟩ <;> (rw [← h]; rfl)
theorem FRI_C {X C : MT} (h : FPC X C) : FRI X C := by
  refine ⟨?_, ?_, ?_, ?_, ?_, ?_, ?_, ?_, ?_, ?_⟩ <;> (rw [← h]; rfl)
theorem INV_M (hI : INV K M) (hS : ∀ i, i < 216 → M2.2.2.2.2.2.2.2.2.2.2.2.2.2.1 i = M.2.2.2.2.2.2.2.2.2.2.2.2.2.1 i) (h : FRI M M2) : INV K M2 := by
  obtain ⟨h1, hC, ⟨a, b, hab, ⟨eO, eC, eU⟩, hR⟩, hs, ⟨eB, hB, f0, hf, eK, eF⟩, ⟨et, ep⟩, n, hn, e1, e2, e3⟩ := hI
  obtain ⟨b1, b2, b3, b4, b5, b6, b7, b8, b9, b10⟩ := h
  refine ⟨h1, CPL_cong hC hS, ⟨a, b, hab, ⟨eO, eC, by rw [b7]; exact eU⟩, by rw [b6]; exact hR⟩, by rw [b8, b5]; exact hs, ⟨by rw [b1]; exact eB, by rw [b1]; exact hB, f0, hf, eK, by rw [b2]; exact eF⟩, ⟨by rw [b3]; exact et, by rw [b4]; exact ep⟩, n, hn, e1, by rw [b10]; exact e2, by rw [b9]; exact e3⟩
theorem HOK_up {khs : Nat → HT} {U : HT} {m i : Nat} (h : HOK (khs i)) (h2 : HOK U) : HOK (updH khs m U i) := by
  unfold updH
  split
  · exact h2
  · exact h
theorem ZH_up {khs : Nat → HT} {U : HT} {m i : Nat} (h : ZH (khs i)) (h2 : ZH U) : ZH (updH khs m U i) := by
  unfold updH
  split
  · exact h2
  · exact h
theorem H0_up {khs : Nat → HT} {U : HT} {m i : Nat} (hm : m < 7) (hi : 7 ≤ i) (h : khs i = H0) : updH khs m U i = H0 := by
  unfold updH
  rw [if_neg (by omega)]
  exact h
/-- a change that was refused: the house was laid aside -/
theorem INV_pr {a b : Nat} (hI : INV K M) (hb : b ≤ 6) (ha : a < 7) (eO : K.2.2.2.2.2.2.2.2.2.2.2.2.2.2.2.2.2.2.2.2.1 = nI a) (eC : K.2.2.2.2.2.2.2.2.2.2.2.2.2.2.2.2.2.2.2.2.2.1 = nI b) (eU : M.2.2.2.2.2.2.2.2.2.2.2.2.2.2.2.2.2.2.1 = nI b) (hR : RNG K.2.2.2.2.2.2.2.2.2.2.2.2.2.2.2.2.2.2.2.2.2.2.1 M.2.2.2.2.2.2.2.2.2.2.2.2.2.2.2.2.2.1 a b) : INV (prT ((a + b) % 7) K) M := by
  obtain ⟨⟨ok, zh, zd, zs, hz⟩, hC, -, r⟩ := hI
  obtain ⟨o1, o2, o3, o4, o5⟩ := ok
  have hm : (a + b) % 7 < 7 := Nat.mod_lt _ (by decide)
  obtain ⟨m, em⟩ : ∃ m, m = (a + b) % 7 := ⟨_, rfl⟩
  have hR2 := RNG_pr (V := K.2.2.1) hR hb
  rw [← em] at hR2 hm ⊢
  exact ⟨⟨⟨o1, o2, o3, fun i => HOK_up (o4 i) o1, fun i hi => H0_up hm hi (o5 i hi)⟩, zh, zd, zs, fun i hi => ZH_up (hz i hi) zh⟩, hC, ⟨a, b, ⟨ha, hb⟩, ⟨eO, eC, eU⟩, hR2⟩, r⟩
/-- a change that was made -/
theorem INV_ch {a b : Nat} {A : Nat → Int32} (hI : INV K M) (hb : b ≤ 6) (ha : a < 7) (eU : M.2.2.2.2.2.2.2.2.2.2.2.2.2.2.2.2.2.2.1 = nI b) (hR : RNG K.2.2.2.2.2.2.2.2.2.2.2.2.2.2.2.2.2.2.2.2.2.2.1 M.2.2.2.2.2.2.2.2.2.2.2.2.2.2.2.2.2.1 a b) (hA : CPL K.2.2.1 A) (v1 : HOK K2.2.2.1) (v2 : ZH K2.2.2.1) (v3 : CPL K2.2.2.1 M2.2.2.2.2.2.2.2.2.2.2.2.2.2.1)
    (kk : K2.2.2.2.1 = K.2.2.2.1 ∧ K2.2.2.2.2.2.2.2.2.2.2.2.2.2.2.2.2.2.2.2.1 = K.2.2.2.2.2.2.2.2.2.2.2.2.2.2.2.2.2.2.2.1 ∧ K2.1 = K.1 ∧ K2.2.2.2.2.2.2.2.2.2.2.1 = K.2.2.2.2.2.2.2.2.2.2.1 ∧ K2.2.2.2.2.2.2.2.2.2.2.2.2.2.2.2.2.2.1 = K.2.2.2.2.2.2.2.2.2.2.2.2.2.2.2.2.2.1 ∧ K2.2.2.2.2.2.2.2.2.2.2.2.2.2.2.2.2.2.2.1 = K.2.2.2.2.2.2.2.2.2.2.2.2.2.2.2.2.2.2.1 ∧ K2.2.1 = K.2.1 ∧ K2.2.2.2.2.2.2.2.2.2.2.2.2.2.2.2.2.2.2.2.2.2.2.2.2.2.2.2.2.2.2.2.2.2 = K.2.2.2.2.2.2.2.2.2.2.2.2.2.2.2.2.2.2.2.2.2.2.2.2.2.2.2.2.2.2.2.2.2)
    (k1 : K2.2.2.2.2.2.2.2.2.2.2.2.2.2.2.2.2.2.2.2.2.1 = (if b < 6 then nI a else nI ((a + 1) % 7))) (k2 : K2.2.2.2.2.2.2.2.2.2.2.2.2.2.2.2.2.2.2.2.2.2.1 = (if b < 6 then nI (b + 1) else nI b)) (k3 : K2.2.2.2.2.2.2.2.2.2.2.2.2.2.2.2.2.2.2.2.2.2.2.1 = updH K.2.2.2.2.2.2.2.2.2.2.2.2.2.2.2.2.2.2.2.2.2.2.1 ((a + b) % 7) K.2.2.1)
    (mm : M2.2.1 = M.2.1 ∧ M2.2.2.2.2.2.2.2.2.2.2.1 = M.2.2.2.2.2.2.2.2.2.2.1 ∧ M2.2.2.2.2.2.2.2.2.2.2.2.1 = M.2.2.2.2.2.2.2.2.2.2.2.1 ∧ M2.2.2.2.2.2.2.2.2.2.2.2.2.2.2.1 = M.2.2.2.2.2.2.2.2.2.2.2.2.2.2.1 ∧ M2.2.2.2.2.2.2.2.2.2.2.2.2.2.2.2.2.2.2.2.1 = M.2.2.2.2.2.2.2.2.2.2.2.2.2.2.2.2.2.2.2.1 ∧ M2.2.2.2.2.2.2.2.2.2.2.2.2.2.2.2.2.2.2.2.2.2.2.2.2.2.2.2.2.2.2.2.2.2.1 = M.2.2.2.2.2.2.2.2.2.2.2.2.2.2.2.2.2.2.2.2.2.2.2.2.2.2.2.2.2.2.2.2.2.1 ∧ M2.2.2.2.2.2.2.2.2.2.2.2.2.2.2.2.2.2.2.2.2.2.2.2.2.2.2.2.2.2.2.2.2.2.2 = M.2.2.2.2.2.2.2.2.2.2.2.2.2.2.2.2.2.2.2.2.2.2.2.2.2.2.2.2.2.2.2.2.2.2) (m1 : M2.2.2.2.2.2.2.2.2.2.2.2.2.2.2.2.2.2.1 = kpP M.2.2.2.2.2.2.2.2.2.2.2.2.2.2.2.2.2.1 A M.2.2.2.2.2.2.2.2.2.2.2.2.2.2.2.2.2.2.1.toNatClampNeg) (m2 : M2.2.2.2.2.2.2.2.2.2.2.2.2.2.2.2.2.2.2.1 = nI (kpU M.2.2.2.2.2.2.2.2.2.2.2.2.2.2.2.2.2.2.1.toNatClampNeg))
    (ff : ∃ f, f ≤ 600 ∧ K2.2.2.2.2.2.2.2.2.2.1 = nI f ∧ M2.2.2.1 = nI f) : INV K2 M2 := by
  obtain ⟨⟨ok, zh, zd, zs, hz⟩, hC, -, hs, ⟨eB, hB, -⟩, ⟨et, ep⟩, n, hn, e1, e2, e3⟩ := hI
  obtain ⟨o1, o2, o3, o4, o5⟩ := ok
  obtain ⟨c1, c2, c3, c4, c5, c6, c7, c8⟩ := kk
  obtain ⟨b1, b2, b3, b4, b5, b6, b7⟩ := mm
  have hm : (a + b) % 7 < 7 := Nat.mod_lt _ (by decide)
  have hR2 := RNG_rm hR ha hb hA
  rw [eU, nI_clamp (by omega)] at m1 m2
  rw [← m1, ← k3] at hR2
  obtain ⟨m, em⟩ : ∃ m, m = (a + b) % 7 := ⟨_, rfl⟩
  rw [← em] at hm k3
  have hku : kpU b ≤ 6 := by unfold kpU; split <;> omega
  have ha2 : (if b < 6 then a else (a + 1) % 7) < 7 := by
    split
    · exact ha
    · exact Nat.mod_lt _ (by decide)
  refine ⟨⟨⟨v1, by rw [c1]; exact o2, by rw [c2]; exact o3, fun i => by rw [k3]; exact HOK_up (o4 i) o1, fun i hi => by rw [k3]; exact H0_up hm hi (o5 i hi)⟩, v2, by rw [c1]; exact zd, by rw [c2]; exact zs, fun i hi => by rw [k3]; exact ZH_up (hz i hi) zh⟩, v3, ⟨if b < 6 then a else (a + 1) % 7, kpU b, ⟨ha2, hku⟩, ⟨?_, ?_, m2⟩, hR2⟩, by rw [c3, c2, b5, b4]; exact hs, ⟨by rw [c4, b1]; exact eB, by rw [b1]; exact hB, ff⟩, ⟨by rw [c5, b2]; exact et, by rw [c6, b3]; exact ep⟩, n, hn, by rw [c7]; exact e1, by rw [b7]; exact e2, by rw [c8, b6]; exact e3⟩
  · rw [k1]
    split <;> rfl
  · rw [k2]
    unfold kpU
    by_cases c : b < 6
    · rw [if_pos c, if_neg (by omega)]
    · rw [if_neg c, if_pos (by omega)]
      rw [show b = 6 by omega]
theorem PGE_C {U : HT} {s : Nat → Int32} (h : CPL U s) : PGE U := fun d hd => by
  obtain ⟨a, b, n, hab, hb, e1, e2, -⟩ := drc_n h hd
  have := h.1.1.2.2.1
  exact ⟨a, b, by omega, by omega, e1, e2⟩
end LL
