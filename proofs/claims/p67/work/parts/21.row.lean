/-! 21: a row of the class -/
def inR (n : Nat) (i : Int32) : Bool := if i < 0 then false else if i < nI n then true else false
theorem inR_t {n : Nat} {i : Int32} (h : inR n i = true) (hn : n < 2 ^ 31) : ∃ k, k < n ∧ i = nI k := by
  unfold inR at h
  split at h
  · cases h
  · rename_i h1
    split at h
    · rename_i h2
      have h1 := Int32.not_lt.mp h1
      have e := q_nI_of h1
      refine ⟨_, ?_, e.symm⟩
      rw [← e] at h2
      have h3 := q_clamp h1
      have h4 := i.toInt_lt
      exact (nI_ltI (by omega) hn).mp h2
    · cases h
theorem inR_k {n k : Nat} (hk : k < n) (hn : n < 2 ^ 31) : inR n (nI k) = true := by
  unfold inR; rw [if_neg (nI_pos (by omega)), if_pos (nI_lt hk hn)]
def lget (len : Nat) (f : Nat → Int64) (j : Int32) : Int64 := if j < 0 then 0 else if nI len ≤ j then 0 else f j.toNatClampNeg
theorem lget_k {len k : Nat} {f : Nat → Int64} (h : k < len) (hl : len < 2 ^ 31) : lget len f (nI k) = f k := by
  unfold lget; rw [if_neg (nI_pos (by omega)), if_neg (nI_ge h hl), nI_clamp (by omega)]
def rx_Row_get (as : List Value) (h : HM) (o : Option Nat) (Q : XQ) : Prop := A_ri as fun a j => HR h a fun _ len f => len < 2147483648 ∧ Q (.inl (some (.int (rget len f j)))) h o
def rx_Row_set (as : List Value) (h : HM) (o : Option Nat) (Q : XQ) : Prop := A_rii as fun a j v => HR h a fun b len f => len < 2147483648 ∧ Q (.inl none) (hup h b (ints len (rset len f j v))) o
def rx_Row_fill (as : List Value) (h : HM) (o : Option Nat) (Q : XQ) : Prop := A_ri as fun a v => HR h a fun b len f => (len < 2147483648 ∧ a ≠ b) ∧ Q (.inl none) (hup h b (ints len (fa_fill (fun _ => v) f len))) o
def rx_Row_copyFrom (as : List Value) (h : HM) (o : Option Nat) (Q : XQ) : Prop := A_rr as fun a c => HR h a fun b len f => HR h c fun d len2 g => (len < 2147483648 ∧ a ≠ b ∧ c ≠ b ∧ d ≠ b ∧ len2 = len) ∧ Q (.inl none) (hup h b (ints len (fa_fill g f len))) o
def rx_Row_init (as : List Value) (h : HM) (o : Option Nat) (Q : XQ) : Prop := A_ri as fun a n => ∃ z, o = some z ∧ h a = some (.inr (7, [.null])) ∧ ((0 < n ∧ n ≤ 600) ∧ a ≠ z) ∧ Q (.inl none) (hup (hup h z (ints n.toNatClampNeg fun _ => 0)) a (.inr (7, [.ref z]))) (some (z + 1))
section ROW
variable {G : GG} {as : List Value} {h : HM} {o : Option Nat} {Q : XQ}
theorem HH_Row_get : mHH 61 = [] := rfl
theorem r_Row_get (hx : rx_Row_get as h o Q) : Runs G m_Row_get as h o Q := by
  obtain ⟨a, j, rfl, hx⟩ := E_ri hx
  obtain ⟨b, len, f, h1, h2, hl, hq⟩ := HR_of hx
  refine Runs.of (by decide +kernel) (Nat.le_of_ble_eq_true rfl) (X_Row_get_0 W0_ok (genJ (P := fun J => exB _ _ _ _ (J 40) _ _ _ _ _ _ _ _) (fun J hJ => ?_)))
  simp [exB, hJ, exT, stp, lv_args, Value.category, lkL, stL1, stL2, insL, contX, q_ofNat, f4_3, nI_1, -Int32.not_lt, -Int32.not_le, T_Row_get_22, T_Row_get_23, R_Row_get, C_Row_get, M_Row_get, HH_Row_get, h1, h2]
  unfold rget at hq
  refine ⟨fun c1 => ?_, fun c1 => ⟨fun c2 => ?_, fun c2 => ⟨q_in_of (Int32.not_lt.mp c1) (Int32.not_le.mp c2) hl, ?_⟩⟩⟩
  · rw [if_pos c1] at hq; exact hq
  · rw [if_neg c1, if_pos c2] at hq; exact hq
  · rw [if_neg c1, if_neg c2] at hq; exact hq
theorem HH_Row_set : mHH 62 = [] := rfl
theorem r_Row_set (hx : rx_Row_set as h o Q) : Runs G m_Row_set as h o Q := by
  obtain ⟨a, j, v, rfl, hx⟩ := E_rii hx
  obtain ⟨b, len, f, h1, h2, hl, hq⟩ := HR_of hx
  refine Runs.of (by decide +kernel) (Nat.le_of_ble_eq_true rfl) (X_Row_set_0 W0_ok (genJ (P := fun J => exB _ _ _ _ (J 40) _ _ _ _ _ _ _ _) (fun J hJ => ?_)))
  simp [exB, hJ, exT, stp, lv_args, Value.category, lkL, stL1, stL2, insL, contX, q_ofNat, f4_3, nI_1, -Int32.not_lt, -Int32.not_le, T_Row_set_20, R_Row_set, C_Row_set, M_Row_set, HH_Row_set, h1, h2]
  unfold rset at hq
  refine ⟨fun c1 => ?_, fun c1 => ⟨fun c2 => ?_, fun c2 => ⟨q_in_of (Int32.not_lt.mp c1) (Int32.not_le.mp c2) hl, ?_⟩⟩⟩
  · rw [if_pos c1, hup_same h2] at hq; exact hq
  · rw [if_neg c1, if_pos c2, hup_same h2] at hq; exact hq
  · rw [if_neg c1, if_neg c2] at hq; exact hq
theorem HH_Row_fill : mHH 63 = [] := rfl
theorem r_Row_fill (hx : rx_Row_fill as h o Q) : Runs G m_Row_fill as h o Q := by
  obtain ⟨a, v, rfl, hx⟩ := E_ri hx
  obtain ⟨b, len, f, h1, h2, ⟨hl, hab⟩, hq⟩ := HR_of hx
  have loop : ∀ n i : Nat, i + n = len → EX G m_Row_fill 2 [(0, .ref a), (1, .int v), (2, .int (nI i))] [] (hup h b (ints len (fa_fill (fun _ => v) f i))) o 0 0 Q := by
    intro n
    induction n with
    | zero =>
      intro i hi
      refine X_Row_fill_2 W0_ok (genJ (P := fun J => exB _ _ _ _ (J 40) _ _ _ _ _ _ _ _) (fun J hJ => ?_))
      obtain rfl : i = len := by omega
      simp [exB, hJ, exT, stp, lv_args, Value.category, lkL, stL1, stL2, insL, contX, q_ofNat, f4_3, nI_1, -Int32.not_lt, -Int32.not_le, T_Row_fill_2, T_Row_fill_24, R_Row_fill, C_Row_fill, M_Row_fill, HH_Row_fill, h1, hup_nq hab, hup_at]
      exact hq
    | succ n ih =>
      intro i hi
      have hlt : i < len := by omega
      refine X_Row_fill_2 W0_ok (genJ (P := fun J => exB _ _ _ _ (J 40) _ _ _ _ _ _ _ _) (fun J hJ => ?_))
      simp [exB, hJ, exT, stp, lv_args, Value.category, lkL, stL1, stL2, insL, contX, q_ofNat, f4_3, nI_1, -Int32.not_lt, -Int32.not_le, T_Row_fill_2, T_Row_fill_24, R_Row_fill, C_Row_fill, M_Row_fill, HH_Row_fill, h1, hup_nq hab, hup_at, hlt, Nat.not_le.mpr hlt]
      try simp (disch := omega) [-Int32.not_lt, -Int32.not_le, nI_z, nI_ltI, nI_leI, nI_1, nI_clamp, q_vp, nI_pos', rget_k, rset_k, lget_k, hup_hup, h1, hup_nq hab, hup_at, hlt, Nat.not_le.mpr hlt]
      rw [fa_fill_succ (fun _ => v)]
      exact ih (i + 1) (by omega)
  refine Runs.of (by decide +kernel) (Nat.le_of_ble_eq_true rfl) (X_Row_fill_0 W0_ok (genJ (P := fun J => exB _ _ _ _ (J 40) _ _ _ _ _ _ _ _) (fun J hJ => ?_)))
  simp [exB, hJ, exT, stp, lv_args, Value.category, lkL, stL1, stL2, insL, contX, q_ofNat, f4_3, nI_1, -Int32.not_lt, -Int32.not_le, T_Row_fill_2, T_Row_fill_24, R_Row_fill, C_Row_fill, M_Row_fill, HH_Row_fill, h1, h2]
  have := loop len 0 (by omega)
  rw [fa_fill_0, hup_same h2] at this
  exact this
theorem HH_Row_copyFrom : mHH 64 = [] := rfl
theorem r_Row_copyFrom (hx : rx_Row_copyFrom as h o Q) : Runs G m_Row_copyFrom as h o Q := by
  obtain ⟨a, c, rfl, hx⟩ := E_rr hx
  obtain ⟨b, len, f, h1, h2, hx⟩ := HR_of hx
  obtain ⟨d, len2, g, h3, h4, ⟨hl, hab, hcb, hdb, rfl⟩, hq⟩ := HR_of hx
  have loop : ∀ n i : Nat, i + n = len2 → EX G m_Row_copyFrom 2 [(0, .ref a), (1, .ref c), (2, .int (nI i))] [] (hup h b (ints len2 (fa_fill g f i))) o 0 0 Q := by
    intro n
    induction n with
    | zero =>
      intro i hi
      refine X_Row_copyFrom_2 W0_ok (genJ (P := fun J => exB _ _ _ _ (J 40) _ _ _ _ _ _ _ _) (fun J hJ => ?_))
      obtain rfl : i = len2 := by omega
      simp [exB, hJ, exT, stp, lv_args, Value.category, lkL, stL1, stL2, insL, contX, q_ofNat, f4_3, nI_1, -Int32.not_lt, -Int32.not_le, T_Row_copyFrom_2, T_Row_copyFrom_38, R_Row_copyFrom, C_Row_copyFrom, M_Row_copyFrom, HH_Row_copyFrom, h1, h3, h4, hup_nq hab, hup_nq hcb, hup_nq hdb, hup_at]
      exact hq
    | succ n ih =>
      intro i hi
      have hlt : i < len2 := by omega
      refine X_Row_copyFrom_2 W0_ok (genJ (P := fun J => exB _ _ _ _ (J 40) _ _ _ _ _ _ _ _) (fun J hJ => ?_))
      simp [exB, hJ, exT, stp, lv_args, Value.category, lkL, stL1, stL2, insL, contX, q_ofNat, f4_3, nI_1, -Int32.not_lt, -Int32.not_le, T_Row_copyFrom_2, T_Row_copyFrom_38, R_Row_copyFrom, C_Row_copyFrom, M_Row_copyFrom, HH_Row_copyFrom, h1, h3, h4, hup_nq hab, hup_nq hcb, hup_nq hdb, hup_at, hlt, Nat.not_le.mpr hlt]
      try simp (disch := omega) [-Int32.not_lt, -Int32.not_le, nI_z, nI_ltI, nI_leI, nI_1, nI_clamp, q_vp, nI_pos', rget_k, rset_k, lget_k, hup_hup, h1, h3, h4, hup_nq hab, hup_nq hcb, hup_nq hdb, hup_at, hlt, Nat.not_le.mpr hlt]
      rw [fa_fill_succ g]
      exact ih (i + 1) (by omega)
  refine Runs.of (by decide +kernel) (Nat.le_of_ble_eq_true rfl) (X_Row_copyFrom_0 W0_ok (genJ (P := fun J => exB _ _ _ _ (J 40) _ _ _ _ _ _ _ _) (fun J hJ => ?_)))
  simp [exB, hJ, exT, stp, lv_args, Value.category, lkL, stL1, stL2, insL, contX, q_ofNat, f4_3, nI_1, -Int32.not_lt, -Int32.not_le, T_Row_copyFrom_2, T_Row_copyFrom_38, R_Row_copyFrom, C_Row_copyFrom, M_Row_copyFrom, HH_Row_copyFrom, h1, h2]
  have := loop len2 0 (by omega)
  rw [fa_fill_0, hup_same h2] at this
  exact this
theorem F_Row_init : mF m_Row_init = (1, 12) := rfl
theorem HH_Row_init : mHH 60 = [] := rfl
theorem TY_7_0 {v : Nat} : okw (tyC 7 0) (.ref v) = True := rfl
theorem TY_7_0n : okw (tyC 7 0) (.null) = True := rfl
theorem r_Row_init (hx : rx_Row_init as h o Q) : Runs G m_Row_init as h o Q := by
  obtain ⟨a, n, rfl, z, rfl, h1, ⟨⟨hn, hn2⟩, haz⟩, hq⟩ := E_ri hx
  have hn3 : n.toNatClampNeg ≤ 600 := by
    have h3 := q_clamp (Int32.le_of_lt hn)
    have h4 : n.toInt ≤ 600 := (fa_le n 600).mp hn2
    omega
  have hn4 : ¬ n ≤ 0 := Int32.not_le.mpr hn
  have hn5 : 0 ≤ n := Int32.le_of_lt hn
  have hn6 : n.toNatClampNeg ≤ 5000 := by omega
  refine Runs.of (by decide +kernel) (Nat.le_of_ble_eq_true rfl) (X_Row_init_0 W0_ok (genJ (P := fun J => exB _ _ _ _ (J 40) _ _ _ _ _ _ _ _) (fun J hJ => ?_)))
  simp [exB, hJ, exT, stp, lv_args, Value.category, lkL, stL1, stL2, insL, contX, q_ofNat, f4_3, nI_1, -Int32.not_lt, -Int32.not_le, T_Row_init_13, T_Row_init_14, R_Row_init, C_Row_init, M_Row_init, HH_Row_init, TY_7_0, TY_7_0n, F_Row_init, h1, hup_nq haz, hn4, hn5, hn6, hn3, Int32.not_lt.mpr hn5]
  first | done | exact hq | ((repeat' (first | with_reducible refine And.intro ?_ ?_ | with_reducible intro _)) <;> (first | exact hq | exact hI | (refine hF ?_; simp [-Int32.not_lt, -Int32.not_le, *]; done) | (refine hT ?_; simp [-Int32.not_lt, -Int32.not_le, *]; done) | (simp [-Int32.not_lt, -Int32.not_le, *] at hq; exact hq) | (simp [-Int32.not_lt, -Int32.not_le, *] at hI; exact hI) | (refine EX.subL ?_ hI; simp [subL]; done) | (refine EX.subL ?_ (hF ?_) <;> simp [subL, -Int32.not_lt, -Int32.not_le, *]; done) | (refine EX.subL ?_ (hT ?_) <;> simp [subL, -Int32.not_lt, -Int32.not_le, *]; done) | (simp [-Int32.not_lt, -Int32.not_le, *] at hI; refine EX.subL ?_ hI; simp [subL]; done) | (apply hF; simp_all [-Int32.not_lt, -Int32.not_le]; done) | (apply hT; simp_all [-Int32.not_lt, -Int32.not_le]; done) | (simp_all [-Int32.not_lt, -Int32.not_le]; done))) | fail
end ROW
def W1 (G : GG) : WF := (wcons 60 rx_Row_init (wcons 64 rx_Row_copyFrom (wcons 63 rx_Row_fill (wcons 62 rx_Row_set (wcons 61 rx_Row_get W0)))))
theorem W1_ok (G : GG) : WOK G (W1 G) := (wcons_ok (fun _ _ _ _ hx => r_Row_init hx) (wcons_ok (fun _ _ _ _ hx => r_Row_copyFrom hx) (wcons_ok (fun _ _ _ _ hx => r_Row_fill hx) (wcons_ok (fun _ _ _ _ hx => r_Row_set hx) (wcons_ok (fun _ _ _ _ hx => r_Row_get hx) W0_ok)))))
