/-! e8: the law's start: a game and a reference are made -/
set_option maxRecDepth 8000
theorem ZH_0 : ZH H0 := ⟨fun _ _ => ⟨rfl, rfl, rfl, rfl, rfl⟩, fun _ _ => ⟨rfl, rfl, rfl⟩, fun _ _ => rfl⟩
theorem HN_ok : HOK HN ∧ ZH HN := HZ_clr ZH_0
theorem H0_ok : HOK H0 := ⟨Nat.zero_le _, Nat.zero_le _⟩
theorem INV_0 : INV K0 (bgM M00) := by
  have h1 : ∀ i, HOK (K0.2.2.2.2.2.2.2.2.2.2.2.2.2.2.2.2.2.2.2.2.2.2.1 i) := fun i => by
    show HOK (if i < 7 then HN else H0)
    split
    · exact HN_ok.1
    · exact H0_ok
  have h2 : ∀ i, 7 ≤ i → K0.2.2.2.2.2.2.2.2.2.2.2.2.2.2.2.2.2.2.2.2.2.2.1 i = H0 := fun i hi => if_neg (by omega)
  have h3 : ∀ i, i < 7 → ZH (K0.2.2.2.2.2.2.2.2.2.2.2.2.2.2.2.2.2.2.2.2.2.2.1 i) := fun i hi => by
    show ZH (if i < 7 then HN else H0)
    rw [if_pos hi]
    exact HN_ok.2
  exact ⟨⟨⟨HN_ok.1, HN_ok.1, HN_ok.1, h1, h2⟩, HN_ok.2, HN_ok.2, HN_ok.2, h3⟩, CPL_clr H0 _, ⟨0, 0, ⟨by decide, by decide⟩, ⟨rfl, rfl, rfl⟩, RNG_0 _ _ _⟩, Or.inl ⟨rfl, rfl⟩, ⟨rfl, fun _ => (by decide : ¬ (0 : Int32) < 0), 0, by decide, rfl, rfl⟩, ⟨rfl, rfl⟩, 0, by decide, rfl, rfl, fun i hi => absurd hi (Nat.not_lt_zero i)⟩
section ST
variable {G : GG} {Q : XQ}
theorem hL_made (z : Nat) (e e2 : AE) (K : KT) (M : MT) (g : Nat → Int64) : hup (hM (hup (hG (hup (fun _ => none) z e) z K) (z + 207) e2) (z + 207) M) (z + 207 + 17) (lrow g) = hL z K M g := by
  funext x
  by_cases c : x = z + 224
  · subst c
    rw [hL_f]
    exact hup_at _ _ _
  · rw [hup_ne _ _ (show x ≠ z + 207 + 17 by omega)]
    unfold hL
    by_cases d : z + 207 ≤ x ∧ x < z + 224
    · obtain ⟨i, hi, rfl⟩ : ∃ i, i < 17 ∧ x = z + 207 + i := ⟨x - (z + 207), by omega, by omega⟩
      rw [hM_at hi, hG_out (by omega), hM_at hi]
    · rw [hM_out (by omega), hup_ne _ _ (by omega)]
      by_cases w : z ≤ x ∧ x < z + 207
      · obtain ⟨i, hi, rfl⟩ : ∃ i, i < 207 ∧ x = z + i := ⟨x - z, by omega, by omega⟩
        rw [hG_at hi, hG_at hi]
      · rw [hG_out w, hG_out w, hM_out (by omega), hup_ne _ _ (by omega), if_neg c]
theorem law_start (hX : (gX G).2.1 ≤ 3072) (hq : ∀ h o, Q (.inl (some (.int 1))) h o) (z : Nat) : EX G m_L_law 0 [(0, .ref (gX G).1)] [] (fun _ => none) (some z) 0 0 Q := by
  obtain ⟨r, r1, r2, r3⟩ := dfl_ok (ci := 10) (by decide)
  refine s_new (z := z) (idx := 8) (ci := 10) (fs := dfl 10) (r := r) (by decide +kernel) (by decide +kernel) r1 r3 (by rw [mMc_law]; decide) (by rw [mMc_law, r2]; decide) ?_
  rw [r2]
  show EX G m_L_law 3 [(0, .ref (gX G).1)] [.ref z] (hup (fun _ => none) z (.inr (10, dfl 10))) (some (z + 1)) 1 15 Q
  refine s_dup (by decide +kernel) rfl ?_
  refine s_callI (b := z) (idx := 136) (nest := 0) (j := m_G_init) (as := []) (st := [.ref z]) (by decide +kernel) (by decide +kernel) (by decide +kernel) (by decide +kernel) rfl (by decide +kernel) (show 1 ≤ 8 by decide) (show 0 = mNp m_G_init by decide +kernel) ?_
  refine r_G_init (show (_ ∧ _) ∧ _ from ⟨⟨rfl, hup_at _ _ _⟩, ?_⟩)
  show EX G m_L_law 7 [(0, .ref (gX G).1)] [.ref z] (hG (hup (fun _ => none) z (.inr (10, dfl 10))) z K0) (some (z + 207)) (1 + (mRc m_G_init).1) (15 + (mRc m_G_init).2) Q
  refine EX.widen (k' := 300) (n' := 70000) (by decide +kernel) (by decide +kernel) ?_
  refine s_astore_n (z := 1) (by decide +kernel) (by decide +kernel) ?_
  obtain ⟨t, t1, t2, t3⟩ := dfl_ok (ci := 11) (by decide)
  refine s_new (z := z + 207) (idx := 137) (ci := 11) (fs := dfl 11) (r := t) (by decide +kernel) (by decide +kernel) t1 t3 (by rw [mMc_law]; decide) (by rw [mMc_law, t2]; decide) ?_
  rw [t2]
  show EX G m_L_law 11 [(0, .ref (gX G).1), (1, .ref z)] [.ref (z + 207)] (hup (hG (hup (fun _ => none) z (.inr (10, dfl 10))) z K0) (z + 207) (.inr (11, dfl 11))) (some (z + 207 + 1)) 301 70035 Q
  refine s_dup (by decide +kernel) rfl ?_
  refine s_callI (b := z + 207) (idx := 139) (nest := 0) (j := m_M_init) (as := []) (st := [.ref (z + 207)]) (by decide +kernel) (by decide +kernel) (by decide +kernel) (by decide +kernel) rfl (by decide +kernel) (show 1 ≤ 8 by decide) (show 0 = mNp m_M_init by decide +kernel) ?_
  refine r_M_init (show (_ ∧ _) ∧ _ from ⟨⟨rfl, hup_at _ _ _⟩, ?_⟩)
  show EX G m_L_law 15 [(0, .ref (gX G).1), (1, .ref z)] [.ref (z + 207)] (hM (hup (hG (hup (fun _ => none) z (.inr (10, dfl 10))) z K0) (z + 207) (.inr (11, dfl 11))) (z + 207) (bgM M00)) (some (z + 207 + 17)) (301 + (mRc m_M_init).1) (70035 + (mRc m_M_init).2) Q
  refine EX.widen (k' := 350) (n' := 80000) (by decide +kernel) (by decide +kernel) ?_
  refine s_astore_n (z := 2) (by decide +kernel) (by decide +kernel) ?_
  refine s_iconst (z := 1) (v := 1) (by decide +kernel) (by decide) ?_
  refine s_newLong (z := z + 207 + 17) (N := 1) (by decide +kernel) (by decide) (by decide) (by decide) (by rw [mMc_law]; decide) (by rw [mMc_law]; decide) ?_
  refine s_astore_n (z := 3) (by decide +kernel) (by decide +kernel) ?_
  refine s_iconst (z := 0) (v := nI (6 * 0)) (by decide +kernel) (by decide) ?_
  refine s_istore (z := 4) (by decide +kernel) (by decide +kernel) ?_
  have e := hL_made z (.inr (10, dfl 10)) (.inr (11, dfl 11)) K0 (bgM M00) (fun _ => 0)
  unfold lrow at e
  rw [e]
  show EX G m_L_law 23 (LW4 G z 0) [] (hL z K0 (bgM M00) fun _ => 0) _ 351 80001 Q
  exact EX.widen (by decide) (by decide) (law_loop hX hq 513 0 K0 (bgM M00) _ _ rfl INV_0)
end ST
