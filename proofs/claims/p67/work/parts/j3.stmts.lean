/-! j3: the class's reader, led along a text: rooms, doors, the ghost -/
def roomX (te k v : Nat) (q1 q2 : Bool) : List Int32 := txL 32 ++ [nI (97 + k)] ++ txL 42 ++ decL v ++ txL (if q1 then 43 else 45) ++ txL (if q2 then 46 else 45) ++ txL te
def doorX (te x y v : Nat) (q : Bool) : List Int32 := txL 47 ++ [nI (97 + x)] ++ txL 48 ++ [nI (97 + y)] ++ txL 42 ++ decL v ++ txL (if q then 49 else 45) ++ txL te
def ghostX (te g : Nat) : List Int32 := txL 50 ++ [nI (97 + g)] ++ txL te
def roomU (k v : Nat) (q1 q2 : Bool) (U : HT) : HT := if q2 then miU (nI k) (if q1 then thU (nI k) (apR U (NMC k) (nI v) 1) else apR U (NMC k) (nI v) 1) else (if q1 then thU (nI k) (apR U (NMC k) (nI v) 1) else apR U (NMC k) (nI v) 1)
def doorU (x y v : Nat) (q : Bool) (U : HT) : HT := if q then clU (nI U.2.2.2.2.2.2.2.2.2.2.1) (apD U (nI x) (nI y) (nI v)) else apD U (nI x) (nI y) (nI v)
section TX
variable {B : Nat → Int32} {n p s : Nat} {T0 T : KT} {U : HT}
theorem opt_hd {te o : Nat} {q : Bool} (ht : te = 22 ∨ te = 25) (ho : o = 43 ∨ o = 46 ∨ o = 49) (r : List Int32) : ∃ c t, txL (if q then o else 45) ++ (txL te ++ r) = c :: t ∧ isLet c = false ∧ isDig c = false := by
  obtain ⟨-, -, -, -, -, x43, x46, x49, x45⟩ := tx_wds
  cases q with
  | false =>
    obtain ⟨c, t, et, hc⟩ := te_hd ht
    exact ⟨c, t ++ r, by show txL 45 ++ _ = _; rw [x45, et]; rfl, hc⟩
  | true =>
    rcases ho with rfl | rfl | rfl
    · exact ⟨32, txL 19 ++ (txL te ++ r), by show txL 43 ++ _ = _; rw [x43]; rfl, by decide, by decide⟩
    · exact ⟨32, txL 20 ++ (txL te ++ r), by show txL 46 ++ _ = _; rw [x46]; rfl, by decide, by decide⟩
    · exact ⟨32, txL 21 ++ (txL te ++ r), by show txL 49 ++ _ = _; rw [x49]; rfl, by decide, by decide⟩
/-- both options of a room -/
theorem tok_oo {te : Nat} {f g : HT → HT} {q1 q2 : Bool} {r : List Int32} (ht : te = 22 ∨ te = 25) (h : ATP T0 B n p U T) (hn : n ≤ 600) (hS : SUF B n p (txL (if q1 then 43 else 45) ++ (txL (if q2 then 46 else 45) ++ (txL te ++ r)))) (V : HT) :
    ∃ T9 q, flT 20 g (flT 19 f (drT (adv T) V)) = T9 ∧ T9.2.2.2.2.2.2.2.2.2.2.2.2.2.2.1 = 59 ∧ ATP T0 B n q (if q2 then g (if q1 then f V else V) else (if q1 then f V else V)) T9 ∧ q ≤ p + (txL (if q1 then 43 else 45)).length + (txL (if q2 then 46 else 45)).length + (txL te).length ∧ skp B n q = skp B n (p + (txL (if q1 then 43 else 45)).length + (txL (if q2 then 46 else 45)).length + (txL te).length) := by
  obtain ⟨-, -, -, -, -, x43, x46, x49, x45⟩ := tx_wds
  cases q1 with
  | false =>
    have hS : SUF B n p (txL 45 ++ (txL (if q2 then 46 else 45) ++ (txL te ++ r))) := hS
    rw [x45] at hS
    obtain ⟨o1, q, o2, o3, o4⟩ := tok_o (w := 20) (o := 46) (f := g) ht ⟨by decide, by decide⟩ x46 h hn hS
    generalize adv T = T1 at o1 o4 ⊢
    have e : flT 19 f (drT T1 V) = drT T1 V := if_neg (by rw [isW_dr, o1 19 (by decide) (by decide) (by decide)]; decide)
    rw [e]
    refine ⟨_, q, rfl, (o4 V).1, (o4 V).2, ?_, ?_⟩
    · show q ≤ p + (txL 45).length + _ + _
      rw [x45]; exact o2
    · show _ = skp B n (p + (txL 45).length + _ + _)
      rw [x45]; exact o3
  | true =>
    have hS : SUF B n p (txL 43 ++ (txL (if q2 then 46 else 45) ++ (txL te ++ r))) := hS
    obtain ⟨c, t, et, hc1, hc2⟩ := opt_hd (q := q2) ht (Or.inr (Or.inl rfl)) r
    obtain ⟨l1, l2⟩ := tx_lets 19 (by decide) (by decide)
    rw [x43, et] at hS
    have hS : SUF B n p (32 :: (txL 19 ++ c :: t)) := hS
    obtain ⟨x, y, ex⟩ : ∃ x y, txL 19 = x :: y := by
      cases e : txL 19 with
      | nil => rw [e] at l1; exact absurd l1.1 (Nat.not_lt_zero _)
      | cons x y => exact ⟨x, y, rfl⟩
    have e1 : skp B n p = p + 1 := (sk_1 (by rw [ex] at hS; exact hS) (by rw [ex] at l2; exact l2)).1
    obtain ⟨t1, t2, t3, t4⟩ := tok_w h (SUF_le hS) hn e1 (SUF_tl hS).2.2 l1 hc1
    rw [← et] at t4
    generalize adv T = T1 at t1 t2 t3 ⊢
    have e : flT 19 f (drT T1 V) = drT (adv T1) (f V) := by
      rw [← dr_dr (adv T1) V (f V), ← adv_dr]
      exact if_pos (by rw [isW_dr, isW_v t1 t2, wd_is 19 (by decide) (by decide) 19 (by decide) (by decide)]; exact decide_eq_true rfl)
    rw [e]
    obtain ⟨-, q, o2, o3, o4⟩ := tok_o (w := 20) (o := 46) (f := g) ht ⟨by decide, by decide⟩ x46 t3 hn t4
    generalize adv T1 = T2 at o4 ⊢
    have el : p + (txL 43).length = p + 1 + (txL 19).length := by rw [x43, List.length_cons]; omega
    refine ⟨_, q, rfl, (o4 (f V)).1, (o4 (f V)).2, ?_, ?_⟩
    · show q ≤ p + (txL 43).length + _ + _
      rw [el]; exact o2
    · show _ = skp B n (p + (txL 43).length + _ + _)
      rw [el]; exact o3
theorem st_room {te k v : Nat} {q1 q2 : Bool} {r : List Int32} (ht : te = 22 ∨ te = 25) (hk : k = U.2.2.2.2.2.2.2.2.2.1) (hk12 : k < 12) (hv : v < 100) (hN : NMS U) (h : ATP T0 B n p U T) (hp : p ≤ n) (hn : n ≤ 600) (hs : skp B n p = s) (hS : SUF B n s (roomX te k v q1 q2 ++ r)) :
    STM T0 B n (s + (roomX te k v q1 q2).length) (adv T) (roomU k v q1 q2 U) := by
  obtain ⟨x32, -, -, x42, -, -, -, -, -⟩ := tx_wds
  obtain ⟨c, t, et, hc1, hc2⟩ := opt_hd (q := q2) ht (Or.inr (Or.inl rfl)) r
  obtain ⟨c2, t2, et2, hd1, hd2⟩ : ∃ c t, txL (if q1 then 43 else 45) ++ (txL (if q2 then 46 else 45) ++ (txL te ++ r)) = c :: t ∧ isLet c = false ∧ isDig c = false := by
    cases q1 with
    | false => exact ⟨c, t, by show txL 45 ++ _ = _; rw [tx_wds.2.2.2.2.2.2.2.2, et]; rfl, hc1, hc2⟩
    | true => exact ⟨32, txL 19 ++ (txL (if q2 then 46 else 45) ++ (txL te ++ r)), by show txL 43 ++ _ = _; rw [tx_wds.2.2.2.2.2.1]; rfl, by decide, by decide⟩
  have hS1 : SUF B n s (txL 15 ++ 32 :: 114 :: nI (97 + k) :: 32 :: (decL v ++ c2 :: t2)) := by
    unfold roomX at hS
    rw [x32, x42] at hS
    rw [← et2]
    simpa only [List.append_assoc, List.cons_append, List.nil_append] using hS
  obtain ⟨l1, -⟩ := tx_lets 15 (by decide) (by decide)
  obtain ⟨a1, a2, a3, a4⟩ := tok_w h hp hn hs hS1 l1 (by decide)
  generalize adv T = T1 at a1 a2 a3 ⊢
  have el : s + (roomX te k v q1 q2).length = s + (txL 15).length + 3 + 1 + (decL v).length + (txL (if q1 then 43 else 45)).length + (txL (if q2 then 46 else 45)).length + (txL te).length := by
    unfold roomX
    rw [x32, x42]
    simp only [List.length_append, List.length_cons, List.length_nil]
    omega
  rw [el]
  refine ⟨by rw [a1]; decide, ?_⟩
  have w15 : isW T1 15 = true := by rw [isW_v a1 a2, wd_is 15 (by decide) (by decide) 15 (by decide) (by decide)]; exact decide_eq_true rfl
  unfold rdStmt rdRoom
  rw [if_pos w15, a3.2.1, if_neg (fun y => by have := (nI_leI (a := 12) (by decide) (by omega)).mp y; omega)]
  obtain ⟨b1, b2, b3, b4⟩ := tok_r hk12 a3 hn a4 (by decide)
  generalize adv T1 = T2 at b1 b2 b3 ⊢
  unfold rdRoom1
  rw [if_neg (fun y => y b1), b2, b3.2.1, if_neg (fun y => y (fnd_no hN hk (by omega)))]
  obtain ⟨d1, d2, d3, d4⟩ := tok_d hv b3 hn b4 hd2
  rw [← et2] at d4
  unfold rdRoom2
  generalize adv T2 = T3 at d1 d2 d3 ⊢
  unfold kNum
  rw [if_neg (fun y => y d1), d2, if_neg (fun y => y.elim (nI_nng (by omega)) (fun y => y ((nI_leI (b := 99) (by omega) (by decide)).mpr (by omega))))]
  obtain ⟨T9, q, o1, o2, o3, o4, o5⟩ := tok_oo (f := thU (nI k)) (g := miU (nI k)) ht d3 hn d4 (apR U (NMC k) (nI v) 1)
  unfold rdRoom3
  have er : (adv T3).2.2.2.1 = U := (ATP_adv d3 (SUF_le d4) hn rfl).2.2.2.2.1
  rw [er, ← hk, o1]
  exact ⟨T9, q, rfl, o2, o3, o4, o5⟩
theorem st_door {te x y v : Nat} {q : Bool} {r : List Int32} (ht : te = 22 ∨ te = 25) (hx : x < U.2.2.2.2.2.2.2.2.2.1) (hy : y < U.2.2.2.2.2.2.2.2.2.1) (hxy : x ≠ y) (hrc : U.2.2.2.2.2.2.2.2.2.1 ≤ 12) (hdc : U.2.2.2.2.2.2.2.2.2.2.1 < 24) (hno : dro U (nI x) (nI y) = -1) (hv : v < 10) (hN : NMS U) (h : ATP T0 B n p U T) (hp : p ≤ n) (hn : n ≤ 600) (hs : skp B n p = s) (hS : SUF B n s (doorX te x y v q ++ r)) :
    STM T0 B n (s + (doorX te x y v q).length) (adv T) (doorU x y v q U) := by
  obtain ⟨-, x47, -, x42, x48, -, -, x49, x45⟩ := tx_wds
  obtain ⟨c2, t2, et2, hd1, hd2⟩ := opt_hd (q := q) ht (Or.inr (Or.inr rfl)) r
  have hS1 : SUF B n s (txL 16 ++ 32 :: 114 :: nI (97 + x) :: 32 :: 114 :: nI (97 + y) :: 32 :: (decL v ++ c2 :: t2)) := by
    unfold doorX at hS
    rw [x47, x42, x48] at hS
    rw [← et2]
    simpa only [List.append_assoc, List.cons_append, List.nil_append] using hS
  obtain ⟨l1, -⟩ := tx_lets 16 (by decide) (by decide)
  obtain ⟨a1, a2, a3, a4⟩ := tok_w h hp hn hs hS1 l1 (by decide)
  generalize adv T = T1 at a1 a2 a3 ⊢
  have el : s + (doorX te x y v q).length = s + (txL 16).length + 3 + 3 + 1 + (decL v).length + (txL (if q then 49 else 45)).length + (txL te).length := by
    unfold doorX
    rw [x47, x42, x48]
    simp only [List.length_append, List.length_cons, List.length_nil]
    omega
  rw [el]
  refine ⟨by rw [a1]; decide, ?_⟩
  have wi := fun j h1 h2 => (isW_v a1 a2 j).trans (wd_is 16 (by decide) (by decide) j h1 h2)
  unfold rdStmt rdDoor
  rw [wi 15 (by decide) (by decide), if_neg (by decide), wi 16 (by decide) (by decide), if_pos (by decide), a3.2.1, if_neg (fun y => by have := (nI_leI (a := 24) (by decide) (by omega)).mp y; omega)]
  obtain ⟨b1, b2, b3, b4⟩ := tok_r (by omega) a3 hn a4 (by decide)
  unfold rdDoor1
  generalize adv T1 = T2 at b1 b2 b3 ⊢
  unfold kRoom
  rw [if_neg (fun y => y b1), b2, b3.2.1, fnd_at hN hx hrc, if_neg (nI_m1 (by omega))]
  obtain ⟨f1, f2, f3, f4⟩ := tok_r (by omega) b3 hn b4 (by decide)
  generalize adv T2 = T3 at f1 f2 f3 ⊢
  unfold rdDoor2
  rw [if_neg (fun y => y f1), f2, f3.2.1, fnd_at hN hy hrc]
  unfold rdDoor3
  rw [if_neg (fun e => hxy ((nI_eq (by omega) (by omega)).mp e).symm), if_neg (nI_m1 (by omega)), f3.2.1, if_neg (fun y => y hno)]
  obtain ⟨d1, d2, d3, d4⟩ := tok_d (by omega) f3 hn f4 hd2
  rw [← et2] at d4
  unfold rdDoor4
  generalize adv T3 = T4 at d1 d2 d3 ⊢
  unfold kNum
  rw [if_neg (fun y => y d1), d2, if_neg (fun y => y.elim (nI_nng (by omega)) (fun y => y ((nI_leI (b := 9) (by omega) (by decide)).mpr (by omega))))]
  obtain ⟨-, qq, o2, o3, o4⟩ := tok_o (w := 21) (o := 49) (f := clU (nI U.2.2.2.2.2.2.2.2.2.2.1)) ht ⟨by decide, by decide⟩ x49 d3 hn d4
  obtain ⟨o5, o6⟩ := o4 (apD U (nI x) (nI y) (nI v))
  unfold rdDoor5
  have er : (adv T4).2.2.2.1 = U := (ATP_adv d3 (SUF_le d4) hn rfl).2.2.2.2.1
  rw [er]
  exact ⟨_, qq, rfl, o5, o6, o2, o3⟩
theorem st_ghost {te g : Nat} {r : List Int32} (ht : te = 22 ∨ te = 25) (hg : g < U.2.2.2.2.2.2.2.2.2.1) (hrc : U.2.2.2.2.2.2.2.2.2.1 ≤ 12) (hpo : bt U.2.2.2.2.2.2.2.2.2.2.2.2.2.2.1 g = true) (hN : NMS U) (h : ATP T0 B n p U T) (hp : p ≤ n) (hn : n ≤ 600) (hs : skp B n p = s) (hS : SUF B n s (ghostX te g ++ r)) :
    STM T0 B n (s + (ghostX te g).length) (adv T) (ghU (nI g) U) := by
  obtain ⟨-, -, x50, -, -, -, -, -, -⟩ := tx_wds
  obtain ⟨c, t, et, hc1, hc2⟩ := te_hd ht
  have hS1 : SUF B n s (txL 17 ++ 32 :: 114 :: nI (97 + g) :: c :: (t ++ r)) := by
    unfold ghostX at hS
    rw [x50, et] at hS
    simpa only [List.append_assoc, List.cons_append, List.nil_append] using hS
  obtain ⟨l1, -⟩ := tx_lets 17 (by decide) (by decide)
  obtain ⟨a1, a2, a3, a4⟩ := tok_w h hp hn hs hS1 l1 (by decide)
  generalize adv T = T1 at a1 a2 a3 ⊢
  have el : s + (ghostX te g).length = s + (txL 17).length + 3 + (txL te).length := by
    unfold ghostX
    rw [x50]
    simp only [List.length_append, List.length_cons, List.length_nil]
    omega
  rw [el]
  refine ⟨by rw [a1]; decide, ?_⟩
  have wi := fun j h1 h2 => (isW_v a1 a2 j).trans (wd_is 17 (by decide) (by decide) j h1 h2)
  unfold rdStmt rdGhost
  rw [wi 15 (by decide) (by decide), if_neg (by decide), wi 16 (by decide) (by decide), if_neg (by decide), wi 17 (by decide) (by decide), if_pos (by decide)]
  obtain ⟨b1, b2, b3, b4⟩ := tok_r (by omega) a3 hn a4 hc1
  have b4 : SUF B n (s + (txL 17).length + 3) (txL te ++ r) := by rw [et]; exact b4
  generalize adv T1 = T2 at b1 b2 b3 ⊢
  unfold rdGhost1
  rw [if_neg (fun y => y b1), b2, b3.2.1, fnd_at hN hg hrc]
  unfold rdGhost2
  obtain ⟨c1, q, c2, c3, c4, -⟩ := tok_e ht b3 hn b4
  rw [if_neg (nI_m1 (by omega)), b3.2.1, if_neg (fun y => y (by rw [ctn_k (by omega)]; exact hpo))]
  generalize adv T2 = T3 at c1 c2 ⊢
  exact ⟨_, q, rfl, (tk_dr T3 _).trans c1, ATP_dr c2, c3, c4⟩
end TX
