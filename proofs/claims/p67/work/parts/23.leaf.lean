/-! 23: the class's small static methods -/
def cbit (i : Int32) : Int32 := if i < 0 then 0 else if 24 ≤ i then 0 else 1 <<< (i &&& 31)
def ctn (s i : Int32) : Bool := if i < 0 then false else if 24 ≤ i then false else if s &&& (1 <<< (i &&& 31)) = 0 then false else true
def isLet (v : Int32) : Bool := if v < 97 then false else if 122 < v then false else true
def isDig (v : Int32) : Bool := if v < 48 then false else if 57 < v then false else true
def itr {A : Type} (f : Nat → A → A) (a : A) : Nat → A
  | 0 => a
  | n + 1 => f n (itr f a n)
theorem itr_s {A : Type} (f : Nat → A → A) (a : A) (n : Nat) : f n (itr f a n) = itr f a (n + 1) := rfl
def frst (n : Nat) (p : Nat → Bool) : Int32 := if fa_first p n < n then nI (fa_first p n) else -1
theorem frst_no {p : Nat → Bool} {n : Nat} (h : ∀ k, k < n → p k = false) : frst n p = -1 := by
  unfold frst
  split
  · rename_i h1
    have := fa_first_yes p n h1
    rw [h _ h1] at this
    cases this
  · rfl
theorem frst_at {p : Nat → Bool} {n i : Nat} (hi : i < n) (hp : p i = true) (h : ∀ k, k < i → p k = false) : frst n p = nI i := by
  have hle := fa_first_le p n
  have key : fa_first p n = i := by
    rcases Nat.lt_trichotomy (fa_first p n) i with h1 | h1 | h1
    · have := fa_first_yes p n (by omega)
      rw [h _ h1] at this
      cases this
    · exact h1
    · have := fa_first_no p n i h1
      rw [hp] at this
      cases this
  unfold frst
  rw [key, if_pos hi]
theorem fr_step {p : Nat → Bool} {d : Nat} (hp : ∀ k, k < d → p k = false) (hf : p d = false) : ∀ k, k < d + 1 → p k = false := by
  intro k hk
  rcases Nat.lt_or_ge k d with h1 | h1
  · exact hp k h1
  · obtain rfl : k = d := by omega
    exact hf
theorem frst_cases (p : Nat → Bool) (n : Nat) : (frst n p = -1 ∧ ∀ k, k < n → p k = false) ∨ ∃ i, i < n ∧ frst n p = nI i ∧ p i = true ∧ ∀ k, k < i → p k = false := by
  by_cases h : fa_first p n < n
  · exact Or.inr ⟨_, h, by unfold frst; rw [if_pos h], fa_first_yes p n h, fun k hk => fa_first_no p n k hk⟩
  · exact Or.inl ⟨by unfold frst; rw [if_neg h], fun k hk => fa_first_no p n k (by omega)⟩
theorem frst_cong {p q : Nat → Bool} {n : Nat} (h : ∀ k, k < n → p k = q k) : frst n p = frst n q := by
  rcases frst_cases p n with ⟨h1, h2⟩ | ⟨i, hi, h1, h2, h3⟩
  · rw [h1, frst_no fun k hk => by rw [← h k hk]; exact h2 k hk]
  · rw [h1, frst_at hi (by rw [← h i hi]; exact h2) fun k hk => by rw [← h k (by omega)]; exact h3 k hk]
def rx_G_bit (as : List Value) (h : HM) (o : Option Nat) (Q : XQ) : Prop := A_i as fun i => Q (.inl (some (.int (cbit i)))) h o
def rx_G_contains (as : List Value) (h : HM) (o : Option Nat) (Q : XQ) : Prop := A_ii as fun s i => Q (.inl (some (.int (tI (ctn s i))))) h o
def rx_G_isLetter (as : List Value) (h : HM) (o : Option Nat) (Q : XQ) : Prop := A_i as fun i => Q (.inl (some (.int (tI (isLet i))))) h o
def rx_G_isDigit (as : List Value) (h : HM) (o : Option Nat) (Q : XQ) : Prop := A_i as fun i => Q (.inl (some (.int (tI (isDig i))))) h o
def rx_G_requireRange (as : List Value) (h : HM) (o : Option Nat) (Q : XQ) : Prop := A_iii as fun v a b => (¬ v < a ∧ v ≤ b → Q (.inl none) h o) ∧ (v < a ∨ ¬ v ≤ b → Q (.inr (exN 1)) h none)
def rx_Paths_place (as : List Value) (h : HM) (o : Option Nat) (Q : XQ) : Prop := A_ii as fun a b => Q (.inl (some (.int (a * 12 + b)))) h o
section LEAF
variable {G : GG} {as : List Value} {h : HM} {o : Option Nat} {Q : XQ}
theorem HH_G_bit : mHH 133 = [] := rfl
theorem r_G_bit (hx : rx_G_bit as h o Q) : Runs G m_G_bit as h o Q := by
  obtain ⟨i, rfl, hq⟩ := E_i hx
  refine Runs.of (by decide +kernel) (Nat.le_of_ble_eq_true rfl) (X_G_bit_0 (W1_ok G) (genJ (P := fun J => exB _ _ _ _ (J 40) _ _ _ _ _ _ _ _) (fun J hJ => ?_)))
  simp [exB, hJ, exT, stp, lv_args, Value.category, lkL, stL1, stL2, insL, contX, q_ofNat, f4_3, nI_1, -Int32.not_lt, -Int32.not_le, T_G_bit_16, T_G_bit_17, R_G_bit, C_G_bit, M_G_bit, HH_G_bit]
  first | done | exact hq | ((repeat' (first | with_reducible refine And.intro ?_ ?_ | with_reducible intro _)) <;> (first | exact hq | exact hI | (refine hF ?_; simp [cbit, -Int32.not_lt, -Int32.not_le, *]; done) | (refine hT ?_; simp [cbit, -Int32.not_lt, -Int32.not_le, *]; done) | (simp [cbit, -Int32.not_lt, -Int32.not_le, *] at hq; exact hq) | (simp [cbit, -Int32.not_lt, -Int32.not_le, *] at hI; exact hI) | (refine EX.subL ?_ hI; simp [subL]; done) | (refine EX.subL ?_ (hF ?_) <;> simp [subL, cbit, -Int32.not_lt, -Int32.not_le, *]; done) | (refine EX.subL ?_ (hT ?_) <;> simp [subL, cbit, -Int32.not_lt, -Int32.not_le, *]; done) | (simp [cbit, -Int32.not_lt, -Int32.not_le, *] at hI; refine EX.subL ?_ hI; simp [subL]; done) | (apply hF; simp_all [cbit, -Int32.not_lt, -Int32.not_le]; done) | (apply hT; simp_all [cbit, -Int32.not_lt, -Int32.not_le]; done) | (simp_all [cbit, -Int32.not_lt, -Int32.not_le]; done))) | fail
theorem HH_G_contains : mHH 134 = [] := rfl
theorem r_G_contains (hx : rx_G_contains as h o Q) : Runs G m_G_contains as h o Q := by
  obtain ⟨s, i, rfl, hq⟩ := E_ii hx
  refine Runs.of (by decide +kernel) (Nat.le_of_ble_eq_true rfl) (X_G_contains_0 (W1_ok G) (genJ (P := fun J => exB _ _ _ _ (J 40) _ _ _ _ _ _ _ _) (fun J hJ => ?_)))
  simp [exB, hJ, exT, stp, lv_args, Value.category, lkL, stL1, stL2, insL, contX, q_ofNat, f4_3, nI_1, -Int32.not_lt, -Int32.not_le, T_G_contains_22, T_G_contains_23, R_G_contains, C_G_contains, M_G_contains, HH_G_contains]
  first | done | exact hq | ((repeat' (first | with_reducible refine And.intro ?_ ?_ | with_reducible intro _)) <;> (first | exact hq | exact hI | (refine hF ?_; simp [ctn, tI, -Int32.not_lt, -Int32.not_le, *]; done) | (refine hT ?_; simp [ctn, tI, -Int32.not_lt, -Int32.not_le, *]; done) | (simp [ctn, tI, -Int32.not_lt, -Int32.not_le, *] at hq; exact hq) | (simp [ctn, tI, -Int32.not_lt, -Int32.not_le, *] at hI; exact hI) | (refine EX.subL ?_ hI; simp [subL]; done) | (refine EX.subL ?_ (hF ?_) <;> simp [subL, ctn, tI, -Int32.not_lt, -Int32.not_le, *]; done) | (refine EX.subL ?_ (hT ?_) <;> simp [subL, ctn, tI, -Int32.not_lt, -Int32.not_le, *]; done) | (simp [ctn, tI, -Int32.not_lt, -Int32.not_le, *] at hI; refine EX.subL ?_ hI; simp [subL]; done) | (apply hF; simp_all [ctn, tI, -Int32.not_lt, -Int32.not_le]; done) | (apply hT; simp_all [ctn, tI, -Int32.not_lt, -Int32.not_le]; done) | (simp_all [ctn, tI, -Int32.not_lt, -Int32.not_le]; done))) | fail
theorem HH_G_isLetter : mHH 136 = [] := rfl
theorem r_G_isLetter (hx : rx_G_isLetter as h o Q) : Runs G m_G_isLetter as h o Q := by
  obtain ⟨i, rfl, hq⟩ := E_i hx
  refine Runs.of (by decide +kernel) (Nat.le_of_ble_eq_true rfl) (X_G_isLetter_0 (W1_ok G) (genJ (P := fun J => exB _ _ _ _ (J 40) _ _ _ _ _ _ _ _) (fun J hJ => ?_)))
  simp [exB, hJ, exT, stp, lv_args, Value.category, lkL, stL1, stL2, insL, contX, q_ofNat, f4_3, nI_1, -Int32.not_lt, -Int32.not_le, T_G_isLetter_16, T_G_isLetter_17, R_G_isLetter, C_G_isLetter, M_G_isLetter, HH_G_isLetter]
  first | done | exact hq | ((repeat' (first | with_reducible refine And.intro ?_ ?_ | with_reducible intro _)) <;> (first | exact hq | exact hI | (refine hF ?_; simp [isLet, tI, -Int32.not_lt, -Int32.not_le, *]; done) | (refine hT ?_; simp [isLet, tI, -Int32.not_lt, -Int32.not_le, *]; done) | (simp [isLet, tI, -Int32.not_lt, -Int32.not_le, *] at hq; exact hq) | (simp [isLet, tI, -Int32.not_lt, -Int32.not_le, *] at hI; exact hI) | (refine EX.subL ?_ hI; simp [subL]; done) | (refine EX.subL ?_ (hF ?_) <;> simp [subL, isLet, tI, -Int32.not_lt, -Int32.not_le, *]; done) | (refine EX.subL ?_ (hT ?_) <;> simp [subL, isLet, tI, -Int32.not_lt, -Int32.not_le, *]; done) | (simp [isLet, tI, -Int32.not_lt, -Int32.not_le, *] at hI; refine EX.subL ?_ hI; simp [subL]; done) | (apply hF; simp_all [isLet, tI, -Int32.not_lt, -Int32.not_le]; done) | (apply hT; simp_all [isLet, tI, -Int32.not_lt, -Int32.not_le]; done) | (simp_all [isLet, tI, -Int32.not_lt, -Int32.not_le]; done))) | fail
theorem HH_G_isDigit : mHH 137 = [] := rfl
theorem r_G_isDigit (hx : rx_G_isDigit as h o Q) : Runs G m_G_isDigit as h o Q := by
  obtain ⟨i, rfl, hq⟩ := E_i hx
  refine Runs.of (by decide +kernel) (Nat.le_of_ble_eq_true rfl) (X_G_isDigit_0 (W1_ok G) (genJ (P := fun J => exB _ _ _ _ (J 40) _ _ _ _ _ _ _ _) (fun J hJ => ?_)))
  simp [exB, hJ, exT, stp, lv_args, Value.category, lkL, stL1, stL2, insL, contX, q_ofNat, f4_3, nI_1, -Int32.not_lt, -Int32.not_le, T_G_isDigit_16, T_G_isDigit_17, R_G_isDigit, C_G_isDigit, M_G_isDigit, HH_G_isDigit]
  first | done | exact hq | ((repeat' (first | with_reducible refine And.intro ?_ ?_ | with_reducible intro _)) <;> (first | exact hq | exact hI | (refine hF ?_; simp [isDig, tI, -Int32.not_lt, -Int32.not_le, *]; done) | (refine hT ?_; simp [isDig, tI, -Int32.not_lt, -Int32.not_le, *]; done) | (simp [isDig, tI, -Int32.not_lt, -Int32.not_le, *] at hq; exact hq) | (simp [isDig, tI, -Int32.not_lt, -Int32.not_le, *] at hI; exact hI) | (refine EX.subL ?_ hI; simp [subL]; done) | (refine EX.subL ?_ (hF ?_) <;> simp [subL, isDig, tI, -Int32.not_lt, -Int32.not_le, *]; done) | (refine EX.subL ?_ (hT ?_) <;> simp [subL, isDig, tI, -Int32.not_lt, -Int32.not_le, *]; done) | (simp [isDig, tI, -Int32.not_lt, -Int32.not_le, *] at hI; refine EX.subL ?_ hI; simp [subL]; done) | (apply hF; simp_all [isDig, tI, -Int32.not_lt, -Int32.not_le]; done) | (apply hT; simp_all [isDig, tI, -Int32.not_lt, -Int32.not_le]; done) | (simp_all [isDig, tI, -Int32.not_lt, -Int32.not_le]; done))) | fail
theorem HH_G_requireRange : mHH 132 = [] := rfl
theorem r_G_requireRange (hx : rx_G_requireRange as h o Q) : Runs G m_G_requireRange as h o Q := by
  obtain ⟨v, a, b, rfl, hq⟩ := E_iii hx
  refine Runs.of (by decide +kernel) (Nat.le_of_ble_eq_true rfl) (X_G_requireRange_0 (W1_ok G) (genJ (P := fun J => exB _ _ _ _ (J 40) _ _ _ _ _ _ _ _) (fun J hJ => ?_)))
  simp [exB, hJ, exT, stp, lv_args, Value.category, lkL, stL1, stL2, insL, contX, q_ofNat, f4_3, nI_1, -Int32.not_lt, -Int32.not_le, T_G_requireRange_10, T_G_requireRange_21, R_G_requireRange, C_G_requireRange, M_G_requireRange, HH_G_requireRange]
  first | done | exact hq | ((repeat' (first | with_reducible refine And.intro ?_ ?_ | with_reducible intro _)) <;> (first | exact hq | exact hI | (refine hF ?_; simp [-Int32.not_lt, -Int32.not_le, *]; done) | (refine hT ?_; simp [-Int32.not_lt, -Int32.not_le, *]; done) | (simp [-Int32.not_lt, -Int32.not_le, *] at hq; exact hq) | (simp [-Int32.not_lt, -Int32.not_le, *] at hI; exact hI) | (refine EX.subL ?_ hI; simp [subL]; done) | (refine EX.subL ?_ (hF ?_) <;> simp [subL, -Int32.not_lt, -Int32.not_le, *]; done) | (refine EX.subL ?_ (hT ?_) <;> simp [subL, -Int32.not_lt, -Int32.not_le, *]; done) | (simp [-Int32.not_lt, -Int32.not_le, *] at hI; refine EX.subL ?_ hI; simp [subL]; done) | (apply hF; simp_all [-Int32.not_lt, -Int32.not_le]; done) | (apply hT; simp_all [-Int32.not_lt, -Int32.not_le]; done) | (simp_all [-Int32.not_lt, -Int32.not_le]; done))) | fail
theorem HH_Paths_place : mHH 59 = [] := rfl
theorem r_Paths_place (hx : rx_Paths_place as h o Q) : Runs G m_Paths_place as h o Q := by
  obtain ⟨a, b, rfl, hq⟩ := E_ii hx
  refine Runs.of (by decide +kernel) (Nat.le_of_ble_eq_true rfl) (X_Paths_place_0 (W1_ok G) (genJ (P := fun J => exB _ _ _ _ (J 40) _ _ _ _ _ _ _ _) (fun J hJ => ?_)))
  simp [exB, hJ, exT, stp, lv_args, Value.category, lkL, stL1, stL2, insL, contX, q_ofNat, f4_3, nI_1, -Int32.not_lt, -Int32.not_le, R_Paths_place, C_Paths_place, M_Paths_place, HH_Paths_place]
  exact hq
end LEAF
def W2 (G : GG) : WF := (wcons 59 rx_Paths_place (wcons 132 rx_G_requireRange (wcons 137 rx_G_isDigit (wcons 136 rx_G_isLetter (wcons 134 rx_G_contains (wcons 133 rx_G_bit (W1 G)))))))
theorem W2_ok (G : GG) : WOK G (W2 G) := (wcons_ok (fun _ _ _ _ hx => r_Paths_place hx) (wcons_ok (fun _ _ _ _ hx => r_G_requireRange hx) (wcons_ok (fun _ _ _ _ hx => r_G_isDigit hx) (wcons_ok (fun _ _ _ _ hx => r_G_isLetter hx) (wcons_ok (fun _ _ _ _ hx => r_G_contains hx) (wcons_ok (fun _ _ _ _ hx => r_G_bit hx) (W1_ok G)))))))
