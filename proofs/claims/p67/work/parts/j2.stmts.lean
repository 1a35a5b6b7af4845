/-! j2: the class's reader, led along a text: statements -/
def GDU (U : HT) (s : Nat → Int32) : Prop := CPL U s ∧ NMS U ∧ HOK U ∧ ZH U
def STM (T0 : KT) (B : Nat → Int32) (n e : Nat) (T1 : KT) (U : HT) : Prop := ¬ T1.2.2.2.2.2.2.2.2.2.2.2.2.2.2.1 = 0 ∧ ∃ T9 q, rdStmt T1 = .inr T9 ∧ T9.2.2.2.2.2.2.2.2.2.2.2.2.2.2.1 = 59 ∧ ATP T0 B n q U T9 ∧ q ≤ e ∧ skp B n q = skp B n e
theorem tx_sets : ∀ x, x < 6 → txL (26 + x) = txL (33 + x) ++ [32] ∧ (0 < (txL (33 + x)).length ∧ (txL (33 + x)).length ≤ 8 ∧ ∀ i, i < (txL (33 + x)).length → isLet ((txL (33 + x)).getD i 0) = true) ∧ isBl ((txL (33 + x)).getD 0 0) = false := by decide +kernel
theorem wd_sets : ∀ x, x < 6 → (∀ k, k < 4 → decide (wdV (txL (33 + x)) = pkT (15 + k) (txL (15 + k)).length) = false) ∧ ∀ k, k < 6 → decide (wdV (txL (33 + x)) = pkT (33 + k) (txL (33 + k)).length) = decide (k = x) := by decide +kernel
section TX
variable {B : Nat → Int32} {n p s : Nat} {T0 T : KT} {U : HT}
theorem tk_dr (T : KT) (V : HT) : (drT T V).2.2.2.2.2.2.2.2.2.2.2.2.2.2.1 = T.2.2.2.2.2.2.2.2.2.2.2.2.2.2.1 := rfl
theorem setN_at {x : Nat} (hx : x < 6) (h1 : T.2.2.2.2.2.2.2.2.2.2.2.2.2.2.1 = 1) (h2 : T.2.2.2.2.2.2.2.2.2.2.2.2.2.2.2.1 = wdV (txL (33 + x))) : isW T 15 = false ∧ isW T 16 = false ∧ isW T 17 = false ∧ isW T 18 = false ∧ setN T = nI x := by
  obtain ⟨w1, w2⟩ := wd_sets x hx
  have e := isW_v h1 h2
  refine ⟨(e 15).trans (w1 0 (by decide)), (e 16).trans (w1 1 (by decide)), (e 17).trans (w1 2 (by decide)), (e 18).trans (w1 3 (by decide)), ?_⟩
  unfold setN
  rw [(e 33).trans (w2 0 (by decide)), (e 34).trans (w2 1 (by decide)), (e 35).trans (w2 2 (by decide)), (e 36).trans (w2 3 (by decide)), (e 37).trans (w2 4 (by decide)), (e 38).trans (w2 5 (by decide))]
  clear e h1 h2 w1 w2
  revert x
  decide +kernel
theorem st_set {te x v : Nat} {r : List Int32} (ht : te = 22 ∨ te = 25) (hx : x < 6) (hv : v < 100) (hb : ¬ nI v < stG 0 (nI x) ∧ nI v ≤ stG 1 (nI x)) (h : ATP T0 B n p U T) (hp : p ≤ n) (hn : n ≤ 600) (hs : skp B n p = s) (hS : SUF B n s (txL (26 + x) ++ decL v ++ txL te ++ r)) :
    STM T0 B n (s + (txL (26 + x) ++ decL v ++ txL te).length) (adv T) (seU (nI x) (nI v) U) := by
  obtain ⟨x1, x2, -⟩ := tx_sets x hx
  obtain ⟨c, t, et, hc1, hc2⟩ := te_hd ht
  rw [x1] at hS ⊢
  have hS1 : SUF B n s (txL (33 + x) ++ 32 :: (decL v ++ c :: (t ++ r))) := by
    rw [et] at hS
    simpa only [List.append_assoc, List.cons_append, List.nil_append] using hS
  obtain ⟨a1, a2, a3, a4⟩ := tok_w h hp hn hs hS1 x2 (by decide)
  generalize adv T = T1 at a1 a2 a3 ⊢
  obtain ⟨w1, w2, w3, w4, w5⟩ := setN_at hx a1 a2
  obtain ⟨b1, b2, b3, b4⟩ := tok_d hv a3 hn a4 hc2
  have b4 : SUF B n (s + (txL (33 + x)).length + 1 + (decL v).length) (txL te ++ r) := by rw [et]; exact b4
  have el : s + (txL (33 + x) ++ [32] ++ decL v ++ txL te).length = s + (txL (33 + x)).length + 1 + (decL v).length + (txL te).length := by
    simp only [List.length_append, List.length_cons, List.length_nil]
    omega
  rw [el]
  refine ⟨by rw [a1]; decide, ?_⟩
  unfold rdStmt rdSet
  rw [w1, w2, w3, w4, w5]
  have hm : ¬ nI x = -1 := nI_m1 (by omega)
  simp only [Bool.false_eq_true, if_false, if_neg hm]
  unfold rdSet1
  generalize adv T1 = T2 at b1 b2 b3 ⊢
  obtain ⟨c1, q, c2, c3, c4, -⟩ := tok_e ht b3 hn b4
  unfold kNum
  rw [if_neg (fun y => y b1), b2, if_neg (fun y => y.elim hb.1 (fun y => y hb.2))]
  unfold rdSet2
  generalize adv T2 = T3 at c1 c2 ⊢
  rw [c2.2.1]
  exact ⟨_, q, rfl, (tk_dr T3 _).trans c1, ATP_dr c2, c3, c4⟩
theorem GDU_set {s : Nat → Int32} {x v : Nat} (hx : x < 6) (hb : ¬ nI v < stG 0 (nI x) ∧ nI v ≤ stG 1 (nI x)) (h : GDU U s) : GDU (seU (nI x) (nI v) U) (upd s x (nI v)) := by
  obtain ⟨hC, hn, ho, hz⟩ := h
  have e : seU (nI x) (nI v) U = seW x (nI v) U := by
    unfold seU seW
    rw [rset_k hx (by decide)]
  rw [e]
  have hZ := HZ_sw (k := x) (v := nI v) ⟨ho, hz⟩ hx
  exact ⟨CPL_se hC hx (SETB_upd hC.2.2.2.2.2.2 hx (fun y => y.elim hb.1 (fun y => y hb.2))), hn, hZ.1, hZ.2⟩
theorem wd_nm : ∀ k, k < 12 → wdV [114, nI (97 + k)] = NMC k ∧ isLet (nI (97 + k)) = true := by decide +kernel
/-- ' r' and a letter -/
theorem tok_r {k : Nat} {r : List Int32} {c : Int32} (hk : k < 12) (h : ATP T0 B n p U T) (hn : n ≤ 600) (hS : SUF B n p (32 :: 114 :: nI (97 + k) :: c :: r)) (hc : isLet c = false) :
    (adv T).2.2.2.2.2.2.2.2.2.2.2.2.2.2.1 = 1 ∧ (adv T).2.2.2.2.2.2.2.2.2.2.2.2.2.2.2.1 = NMC k ∧ ATP T0 B n (p + 3) U (adv T) ∧ SUF B n (p + 3) (c :: r) := by
  obtain ⟨e1, e2⟩ := sk_1 hS (by decide)
  obtain ⟨w1, w2⟩ := wd_nm k hk
  obtain ⟨t1, t2, t3, t4⟩ := tok_w (w := [114, nI (97 + k)]) h (SUF_le hS) hn e1 e2 ⟨by show 0 < 2; decide, by show 2 ≤ 8; decide, fun i hi => by
    have hi : i < 2 := hi
    match i, hi with
    | 0, _ => show isLet 114 = true; decide
    | 1, _ => exact w2
    | i + 2, h => omega⟩ hc
  exact ⟨t1, t2.trans w1, t3, t4⟩
theorem fnd_at {k : Nat} (hn : NMS U) (hk : k < U.2.2.2.2.2.2.2.2.2.1) (h12 : U.2.2.2.2.2.2.2.2.2.1 ≤ 12) : fnd U (NMC k) = nI k :=
  frst_at hk (by show (U.1 k == NMC k) = true; rw [hn k hk]; exact beq_self_eq_true _) (fun j hj => by
    show (U.1 j == NMC k) = false
    rw [hn j (by omega)]
    exact beq_eq_false_iff_ne.mpr (NMC_ne (by omega) (by omega) (by omega)))
theorem fnd_no {k : Nat} (hn : NMS U) (hk : k = U.2.2.2.2.2.2.2.2.2.1) (h12 : U.2.2.2.2.2.2.2.2.2.1 < 12) : fnd U (NMC k) = -1 :=
  frst_no (fun j hj => by
    show (U.1 j == NMC k) = false
    rw [hn j hj]
    exact beq_eq_false_iff_ne.mpr (NMC_ne (by omega) (by omega) (by omega)))
theorem tx_wds : txL 32 = txL 15 ++ [32, 114] ∧ txL 47 = txL 16 ++ [32, 114] ∧ txL 50 = txL 17 ++ [32, 114] ∧ txL 42 = [32] ∧ txL 48 = [32, 114] ∧ txL 43 = 32 :: txL 19 ∧ txL 46 = 32 :: txL 20 ∧ txL 49 = 32 :: txL 21 ∧ txL 45 = [] := by decide +kernel
theorem tx_lets : ∀ k, k < 22 → 14 ≤ k → (0 < (txL k).length ∧ (txL k).length ≤ 8 ∧ ∀ i, i < (txL k).length → isLet ((txL k).getD i 0) = true) ∧ isBl ((txL k).getD 0 0) = false := by decide +kernel
theorem wd_is : ∀ k, k < 22 → 14 ≤ k → ∀ j, j < 22 → 14 ≤ j → decide (wdV (txL k) = pkT j (txL j).length) = decide (j = k) := by decide +kernel
theorem adv_dr (T : KT) (V : HT) : adv (drT T V) = drT (adv T) V := rfl
theorem isW_dr (T : KT) (V : HT) (j : Nat) : isW (drT T V) j = isW T j := rfl
theorem dr_dr (T : KT) (V W : HT) : drT (drT T V) W = drT T W := rfl
/-- an option's word, behind it the statement's end -/
theorem tok_o {te w o : Nat} {f : HT → HT} {q : Bool} {r : List Int32} (ht : te = 22 ∨ te = 25) (hw : w < 22 ∧ 14 ≤ w) (ho : txL o = 32 :: txL w) (h : ATP T0 B n p U T) (hn : n ≤ 600) (hS : SUF B n p (txL (if q then o else 45) ++ (txL te ++ r))) :
    (∀ j, j < 22 → 14 ≤ j → ¬ j = w → isW (adv T) j = false) ∧ ∃ q2, q2 ≤ p + (txL (if q then o else 45)).length + (txL te).length ∧ skp B n q2 = skp B n (p + (txL (if q then o else 45)).length + (txL te).length) ∧
      ∀ V, (flT w f (drT (adv T) V)).2.2.2.2.2.2.2.2.2.2.2.2.2.2.1 = 59 ∧ ATP T0 B n q2 (if q then f V else V) (flT w f (drT (adv T) V)) := by
  obtain ⟨c, t, et, hc1, hc2⟩ := te_hd ht
  have x45 := tx_wds.2.2.2.2.2.2.2.2
  cases q with
  | false =>
    have hS : SUF B n p (txL 45 ++ (txL te ++ r)) := hS
    rw [x45] at hS
    have hS : SUF B n p (txL te ++ r) := hS
    obtain ⟨c1, q2, c2, c3, c4, -⟩ := tok_e ht h hn hS
    generalize adv T = T1 at c1 c2 ⊢
    have nw : ∀ j, isW T1 j = false := fun j => by
      unfold isW
      rw [c1]
      rfl
    refine ⟨fun j _ _ _ => nw j, q2, ?_, ?_, fun V => ?_⟩
    · show q2 ≤ p + (txL 45).length + _
      rw [x45]; exact c3
    · show _ = skp B n (p + (txL 45).length + _)
      rw [x45]; exact c4
    · have e : flT w f (drT T1 V) = drT T1 V := if_neg (by rw [isW_dr, nw w]; decide)
      rw [e]
      exact ⟨c1, ATP_dr c2⟩
  | true =>
    have hS : SUF B n p (txL o ++ (txL te ++ r)) := hS
    obtain ⟨l1, l2⟩ := tx_lets w hw.1 hw.2
    rw [ho, et] at hS
    have hS : SUF B n p (32 :: (txL w ++ c :: (t ++ r))) := by simpa only [List.cons_append] using hS
    obtain ⟨x, y, ex⟩ : ∃ x y, txL w = x :: y := by
      cases e : txL w with
      | nil => rw [e] at l1; exact absurd l1.1 (Nat.not_lt_zero _)
      | cons x y => exact ⟨x, y, rfl⟩
    have e1 : skp B n p = p + 1 := (sk_1 (by rw [ex] at hS; exact hS) (by rw [ex] at l2; exact l2)).1
    obtain ⟨t1, t2, t3, t4⟩ := tok_w h (SUF_le hS) hn e1 (SUF_tl hS).2.2 l1 hc1
    have t4 : SUF B n (p + 1 + (txL w).length) (txL te ++ r) := by rw [et]; exact t4
    generalize adv T = T1 at t1 t2 t3 ⊢
    refine ⟨fun j h1 h2 h3 => by rw [isW_v t1 t2, wd_is w hw.1 hw.2 j h1 h2]; exact decide_eq_false h3, ?_⟩
    obtain ⟨c1, q2, c2, c3, c4, -⟩ := tok_e ht t3 hn t4
    refine ⟨q2, ?_, ?_, fun V => ?_⟩
    · show q2 ≤ p + (txL o).length + _
      rw [ho, List.length_cons]; omega
    · show _ = skp B n (p + (txL o).length + _)
      rw [ho, List.length_cons, show p + ((txL w).length + 1) + (txL te).length = p + 1 + (txL w).length + (txL te).length by omega]
      exact c4
    · have e : flT w f (drT T1 V) = drT (drT (adv T1) V) (f V) := by
        rw [← adv_dr]
        exact if_pos (by rw [isW_dr, isW_v t1 t2, wd_is w hw.1 hw.2 w hw.1 hw.2]; exact decide_eq_true rfl)
      rw [e]
      generalize adv T1 = T2 at c1 c2 ⊢
      exact ⟨c1, ATP_dr (ATP_dr c2)⟩
end TX
