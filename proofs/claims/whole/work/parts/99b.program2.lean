/-! 99b: a read script grows -/
theorem CCV_19 {c : Int32} (h : CCV c) : ¬ c = 19 := by
  rcases h with ⟨x, hx, rfl⟩ | rfl | rfl | rfl | rfl | rfl | rfl | rfl | rfl | rfl
  · have : ∀ x, x < 5 → ¬ nI x = 19 := by decide
    exact this x hx
  all_goals decide
theorem PRG_cmd {K K2 : KT} {T M : MT} {n c d : Nat} {cc a b : Int32} (h : PRG K T n c d) (hk : KF K K2) (hc : c < 30) (hcc : CCV cc) (h18 : ¬ cc = 18) (hv : suV2 K.2.2.1 cc a b) (hA : AR2 T M n a b cc) : PRG (addK cc a b K2) M (n + 1) (c + 1) d := by
  obtain ⟨⟨z1, z2⟩, ⟨w1, w2⟩, ⟨v1, v2⟩, ⟨l1, l2⟩, hC, hP, st, hS, hO⟩ := h
  obtain ⟨k1, k2, k3, k4, k5, k6, k7, k8⟩ := hk
  obtain ⟨a1, a2, a3, a4, a5, a6, a7⟩ := hA
  have h19 := CCV_19 hcc
  have hn : n < 60 := by omega
  obtain ⟨f1, f2, f3, f4⟩ := addK_f (c := cc) (a := a) (b := b) (k4.trans z1) hn
  rw [k1] at f1
  rw [k2] at f2
  rw [k3] at f3
  refine ⟨⟨f4, a2⟩, ⟨?_, ?_⟩, ⟨?_, ?_⟩, ⟨by omega, by omega⟩, fun k hk => ?_, fun k hk => ?_, stU st (n + 1) (st n), ?_, ?_⟩
  · show K2.2.2.2.2.2.2.2.2.2.2.2.2.2.2.2.2.2.2.2.2.2.2.2.2.2.2.1 = _
    rw [k5, w1]; exact nI_add c 1
  · rw [a3, w2]; exact nI_add c 1
  · show K2.2.2.2.2.2.2.2.2.2.2.2.2.2.2.2.2.2.2.2.2.2.2.2.2.2.2.2.1 = _
    rw [k6]; exact v1
  · rw [a4, if_neg h18]; exact v2
  · by_cases e : k = n
    · subst e
      unfold CODE
      rw [f1, f2, f3]
      have g1 : ∀ (f : Nat → Int32) v, upd f k v k = v := fun f v => if_pos rfl
      rw [g1, g1, g1, a1]
      exact ⟨g1 _ _, Or.inr (by rw [a5]; exact g1 _ _), a7⟩
    · have g1 : ∀ (f : Nat → Int32) v, upd f n v k = f k := fun f v => if_neg e
      have g := hC k (by omega)
      unfold CODE at g ⊢
      rw [f1, f2, f3, g1, g1, g1, a1, g1]
      refine ⟨g.1, ?_, fun x => ?_⟩
      · rcases g.2.1 with g2 | g2
        · exact Or.inl g2
        · exact Or.inr (by rw [a5, g1]; exact g2)
      · rw [a6 k e]; exact g.2.2 x
  · have e8 : (addK cc a b K2).2.2.1 = K.2.2.1 := k8
    by_cases e : k = n
    · subst e
      unfold PVK
      rw [f1, f2, f3, e8]
      have g1 : ∀ (f : Nat → Int32) v, upd f k v k = v := fun f v => if_pos rfl
      rw [g1, g1, g1]
      exact Or.inr (Or.inr ⟨hcc, h18, hv⟩)
    · have g1 : ∀ (f : Nat → Int32) v, upd f n v k = f k := fun f v => if_neg e
      have g := hP k (by omega)
      unfold PVK at g ⊢
      rw [f1, f2, f3, e8, g1, g1, g1]
      exact g
  · rw [f1, f2]
    exact ⟨STK_ext hS.1 ⟨fun x => absurd x h18, fun x => absurd x h19, fun _ _ => rfl⟩, LEN_ext hS.2 (hS.2 n (Nat.le_refl n))⟩
  · have e7 : (addK cc a b K2).2.2.2.2.2.2.2.2.2.2.2.2.2.2.2.2.2.2.2.2.2.2.2.2.2.2.2.2.1 = K.2.2.2.2.2.2.2.2.2.2.2.2.2.2.2.2.2.2.2.2.2.2.2.2.2.2.2.2.1 := k7
    unfold OPN
    rw [e7, f3, stU_at]
    have g1 : ∀ (f : Nat → Int32) v k, k < n → upd f n v k = f k := fun f v k hk => if_neg (by omega)
    rcases hO with ⟨o1, o2, o3⟩ | ⟨o1, b0, o2, o3, o4, o5, o6⟩ | ⟨o1, b0, b1, o2, o3, o4, o5, o6, o7, o8, o9⟩
    · exact Or.inl ⟨o1, o2, o3⟩
    · exact Or.inr (Or.inl ⟨o1, b0, by omega, o3, o4, by rw [g1 _ _ _ o2]; exact o5, by rw [stU_ne (by omega)]; exact o6⟩)
    · exact Or.inr (Or.inr ⟨o1, b0, b1, by omega, by omega, o4, o5, by rw [g1 _ _ _ o3]; exact o6, by rw [g1 _ _ _ o2]; exact o7, by rw [stU_ne (by omega)]; exact o8, by rw [stU_ne (by omega)]; exact o9⟩)
theorem addK_g (c a b : Int32) (K : KT) : (addK c a b K).2.2.2.2.2.2.2.2.2.2.2.2.2.2.2.2.2.2.2.2.2.2.2.2.2.2.1 = K.2.2.2.2.2.2.2.2.2.2.2.2.2.2.2.2.2.2.2.2.2.2.2.2.2.2.1 ∧ (addK c a b K).2.2.2.2.2.2.2.2.2.2.2.2.2.2.2.2.2.2.2.2.2.2.2.2.2.2.2.1 = K.2.2.2.2.2.2.2.2.2.2.2.2.2.2.2.2.2.2.2.2.2.2.2.2.2.2.2.1 ∧ (addK c a b K).2.2.2.2.2.2.2.2.2.2.2.2.2.2.2.2.2.2.2.2.2.2.2.2.2.2.2.2.1 = K.2.2.2.2.2.2.2.2.2.2.2.2.2.2.2.2.2.2.2.2.2.2.2.2.2.2.2.2.1 ∧ (addK c a b K).2.2.1 = K.2.2.1 := ⟨rfl, rfl, rfl, rfl⟩
theorem opK_f (Y : KT) : (opK Y).2.2.2.2.2.2.2.2.2.2.2.2.2.2.2.2.2.2.2.2.2.2.2.2.2.2.2.2.2.1 = Y.2.2.2.2.2.2.2.2.2.2.2.2.2.2.2.2.2.2.2.2.2.2.2.2.2.2.2.2.2.1 ∧ (opK Y).2.2.2.2.2.2.2.2.2.2.2.2.2.2.2.2.2.2.2.2.2.2.2.2.2.2.2.2.2.2.1 = Y.2.2.2.2.2.2.2.2.2.2.2.2.2.2.2.2.2.2.2.2.2.2.2.2.2.2.2.2.2.2.1 ∧ (opK Y).2.2.2.2.2.2.2.2.2.2.2.2.2.2.2.2.2.2.2.2.2.2.2.2.2.2.2.2.2.2.2.1 = Y.2.2.2.2.2.2.2.2.2.2.2.2.2.2.2.2.2.2.2.2.2.2.2.2.2.2.2.2.2.2.2.1 ∧ (opK Y).2.2.2.2.2.2.2.2.2.2.2.2.2.2.2.2.2.2.2.2.2.2.2.2.2.1 = Y.2.2.2.2.2.2.2.2.2.2.2.2.2.2.2.2.2.2.2.2.2.2.2.2.2.1 ∧ (opK Y).2.2.2.2.2.2.2.2.2.2.2.2.2.2.2.2.2.2.2.2.2.2.2.2.2.2.1 = Y.2.2.2.2.2.2.2.2.2.2.2.2.2.2.2.2.2.2.2.2.2.2.2.2.2.2.1 ∧ (opK Y).2.2.2.2.2.2.2.2.2.2.2.2.2.2.2.2.2.2.2.2.2.2.2.2.2.2.2.1 = Y.2.2.2.2.2.2.2.2.2.2.2.2.2.2.2.2.2.2.2.2.2.2.2.2.2.2.2.1 + 1 ∧ (opK Y).2.2.2.2.2.2.2.2.2.2.2.2.2.2.2.2.2.2.2.2.2.2.2.2.2.2.2.2.1 = Y.2.2.2.2.2.2.2.2.2.2.2.2.2.2.2.2.2.2.2.2.2.2.2.2.2.1 - 1 ∧ (opK Y).2.2.1 = Y.2.2.1 := ⟨rfl, rfl, rfl, rfl, rfl, rfl, rfl, rfl⟩
theorem clK_f (Y : KT) : (clK Y).2.2.2.2.2.2.2.2.2.2.2.2.2.2.2.2.2.2.2.2.2.2.2.2.2.2.2.2.2.1 = Y.2.2.2.2.2.2.2.2.2.2.2.2.2.2.2.2.2.2.2.2.2.2.2.2.2.2.2.2.2.1 ∧ (clK Y).2.2.2.2.2.2.2.2.2.2.2.2.2.2.2.2.2.2.2.2.2.2.2.2.2.2.2.2.2.2.1 = Y.2.2.2.2.2.2.2.2.2.2.2.2.2.2.2.2.2.2.2.2.2.2.2.2.2.2.2.2.2.2.1 ∧ (clK Y).2.2.2.2.2.2.2.2.2.2.2.2.2.2.2.2.2.2.2.2.2.2.2.2.2.2.2.2.2.2.2.1 = Y.2.2.2.2.2.2.2.2.2.2.2.2.2.2.2.2.2.2.2.2.2.2.2.2.2.2.2.2.2.2.2.1 ∧ (clK Y).2.2.2.2.2.2.2.2.2.2.2.2.2.2.2.2.2.2.2.2.2.2.2.2.2.1 = Y.2.2.2.2.2.2.2.2.2.2.2.2.2.2.2.2.2.2.2.2.2.2.2.2.2.1 ∧ (clK Y).2.2.2.2.2.2.2.2.2.2.2.2.2.2.2.2.2.2.2.2.2.2.2.2.2.2.1 = Y.2.2.2.2.2.2.2.2.2.2.2.2.2.2.2.2.2.2.2.2.2.2.2.2.2.2.1 ∧ (clK Y).2.2.2.2.2.2.2.2.2.2.2.2.2.2.2.2.2.2.2.2.2.2.2.2.2.2.2.1 = Y.2.2.2.2.2.2.2.2.2.2.2.2.2.2.2.2.2.2.2.2.2.2.2.2.2.2.2.1 - 1 ∧ (clK Y).2.2.2.2.2.2.2.2.2.2.2.2.2.2.2.2.2.2.2.2.2.2.2.2.2.2.2.2.1 = rget 60 Y.2.2.2.2.2.2.2.2.2.2.2.2.2.2.2.2.2.2.2.2.2.2.2.2.2.2.2.2.2.2.2.1 Y.2.2.2.2.2.2.2.2.2.2.2.2.2.2.2.2.2.2.2.2.2.2.2.2.2.2.2.2.1 ∧ (clK Y).2.2.1 = Y.2.2.1 := ⟨rfl, rfl, rfl, rfl, rfl, rfl, rfl, rfl⟩
theorem PRG_rep {K K2 : KT} {T M : MT} {n c d r : Nat} {a b : Int32} (h : PRG K T n c d) (hk : KF K K2) (hc : c < 30) (hd : d < 2) (hr : 1 ≤ r ∧ r ≤ 20) (ea : a = nI r) (eb : b = K.2.2.2.2.2.2.2.2.2.2.2.2.2.2.2.2.2.2.2.2.2.2.2.2.2.2.2.2.1) (hA : AR2 T M n a b 18) : PRG (opK (addK 18 a b K2)) M (n + 1) (c + 1) (d + 1) := by
  obtain ⟨⟨z1, z2⟩, ⟨w1, w2⟩, ⟨v1, v2⟩, ⟨l1, l2⟩, hC, hP, st, hS, hO⟩ := h
  obtain ⟨k1, k2, k3, k4, k5, k6, k7, k8⟩ := hk
  obtain ⟨a1, a2, a3, a4, a5, a6, a7⟩ := hA
  have hn : n < 60 := by omega
  obtain ⟨f1, f2, f3, f4⟩ := addK_f (c := 18) (a := a) (b := b) (k4.trans z1) hn
  rw [k1] at f1
  rw [k2] at f2
  rw [k3] at f3
  obtain ⟨j1, j2, j3, j4⟩ := addK_g 18 a b K2
  generalize addK 18 a b K2 = Y at *
  obtain ⟨i1, i2, i3, i4, i5, i6, i7, i8⟩ := opK_f Y
  generalize opK Y = W at *
  replace f1 := i1.trans f1
  replace f2 := i2.trans f2
  replace f3 := i3.trans f3
  have f4b := i4.trans f4
  refine ⟨⟨f4b, a2⟩, ⟨?_, ?_⟩, ⟨?_, ?_⟩, ⟨by omega, by omega⟩, fun k hk => ?_, fun k hk => ?_, stU st (n + 1) (st n ++ [n]), ?_, ?_⟩
  · rw [i5, j1, k5, w1]; exact nI_add c 1
  · rw [a3, w2]; exact nI_add c 1
  · rw [i6, j2, k6, v1]; exact nI_add d 1
  · rw [a4, if_pos rfl, v2]; exact nI_add d 1
  · by_cases e : k = n
    · subst e
      unfold CODE
      rw [f1, f2, f3]
      have g1 : ∀ (f : Nat → Int32) v, upd f k v k = v := fun f v => if_pos rfl
      rw [g1, g1, g1, a1]
      exact ⟨g1 _ _, Or.inr (by rw [a5]; exact g1 _ _), a7⟩
    · have g1 : ∀ (f : Nat → Int32) v, upd f n v k = f k := fun f v => if_neg e
      have g := hC k (by omega)
      unfold CODE at g ⊢
      rw [f1, f2, f3, g1, g1, g1, a1, g1]
      refine ⟨g.1, ?_, fun x => ?_⟩
      · rcases g.2.1 with g2 | g2
        · exact Or.inl g2
        · exact Or.inr (by rw [a5, g1]; exact g2)
      · rw [a6 k e]; exact g.2.2 x
  · have e8 : W.2.2.1 = K.2.2.1 := i8.trans (j4.trans k8)
    by_cases e : k = n
    · subst e
      unfold PVK
      rw [f1, f2, f3, e8]
      have g1 : ∀ (f : Nat → Int32) v, upd f k v k = v := fun f v => if_pos rfl
      rw [g1, g1, g1]
      exact Or.inl ⟨rfl, r, hr.1, hr.2, ea⟩
    · have g1 : ∀ (f : Nat → Int32) v, upd f n v k = f k := fun f v => if_neg e
      have g := hP k (by omega)
      unfold PVK at g ⊢
      rw [f1, f2, f3, e8, g1, g1, g1]
      exact g
  · rw [f1, f2]
    refine ⟨STK_ext hS.1 ⟨fun _ => rfl, fun x => absurd x (by decide), fun x => absurd rfl x⟩, LEN_ext hS.2 ?_⟩
    rcases hO with ⟨o1, o2, o3⟩ | ⟨o1, b0, o2, o3, -⟩ | ⟨o1, -⟩
    · rw [o2]; exact Nat.le_succ 1
    · rw [o3]; exact Nat.le_refl 2
    · omega
  · have e7 : W.2.2.2.2.2.2.2.2.2.2.2.2.2.2.2.2.2.2.2.2.2.2.2.2.2.2.2.2.1 = nI n := by
      rw [i7, f4]
      exact nI_subN (a := n + 1) (b := 1) (by omega)
    unfold OPN
    rw [e7, f3, stU_at]
    have g1 : ∀ (f : Nat → Int32) v k, k < n → upd f n v k = f k := fun f v k hk => if_neg (by omega)
    have g2 : upd K.2.2.2.2.2.2.2.2.2.2.2.2.2.2.2.2.2.2.2.2.2.2.2.2.2.2.2.2.2.2.2.1 n b n = b := if_pos rfl
    rcases hO with ⟨o1, o2, o3⟩ | ⟨o1, b0, o2, o3, o4, o5, o6⟩ | ⟨o1, b0, b1, o2, o3, o4, o5, o6, o7, o8, o9⟩
    · exact Or.inr (Or.inl ⟨by omega, n, by omega, by rw [o2]; rfl, rfl, by rw [g2, eb]; exact o3, by rw [stU_at, o2]; rfl⟩)
    · exact Or.inr (Or.inr ⟨by omega, b0, n, by omega, by omega, by rw [o3]; rfl, rfl, by rw [g2, eb]; exact o4, by rw [g1 _ _ _ o2]; exact o5, by rw [stU_ne (by omega)]; exact o6, by rw [stU_at, o3]; rfl⟩)
    · omega
theorem PRG_end {K : KT} {T M : MT} {n c d : Nat} (h : PRG K T n c (d + 1)) (a1 : M.2.2.2.2.2.2.2.2.2.2.2.2.2.2.2.2.2.2.2.2.2.2.2.2.1 = upd T.2.2.2.2.2.2.2.2.2.2.2.2.2.2.2.2.2.2.2.2.2.2.2.2.1 n 14) (a2 : M.2.2.2.2.2.2.2.2.2.2.2.2.2.2.2.2.2.2.2.2.2.2.2.2.2.2.2.2.2.1 = nI (n + 1)) (a3 : M.2.2.2.2.2.2.2.2.2.2.2.2.2.2.2.2.2.2.2.2.2.2.2.2.2.2.2.2.2.2.1 = T.2.2.2.2.2.2.2.2.2.2.2.2.2.2.2.2.2.2.2.2.2.2.2.2.2.2.2.2.2.2.1) (a4 : M.2.2.2.2.2.2.2.2.2.2.2.2.2.2.2.2.2.2.2.2.2.2.2.2.2.2.2.2.2.2.2.1 = nI d) (a5 : M.2.2.2.2.2.2.2.2.2.2.2.2.2.2.2.2.2.2.2.2.2.2.2.2.2.1 = T.2.2.2.2.2.2.2.2.2.2.2.2.2.2.2.2.2.2.2.2.2.2.2.2.2.1) (a6 : M.2.2.2.2.2.2.2.2.2.2.2.2.2.2.2.2.2.2.2.2.2.2.2.2.2.2.1 = T.2.2.2.2.2.2.2.2.2.2.2.2.2.2.2.2.2.2.2.2.2.2.2.2.2.2.1) : PRG (clK (addK 19 K.2.2.2.2.2.2.2.2.2.2.2.2.2.2.2.2.2.2.2.2.2.2.2.2.2.2.2.2.1 0 K)) M (n + 1) c d := by
  obtain ⟨⟨z1, z2⟩, ⟨w1, w2⟩, ⟨v1, v2⟩, ⟨l1, l2⟩, hC, hP, st, hS, hO⟩ := h
  have hn : n < 60 := by omega
  obtain ⟨f1, f2, f3, f4⟩ := addK_f (c := 19) (a := K.2.2.2.2.2.2.2.2.2.2.2.2.2.2.2.2.2.2.2.2.2.2.2.2.2.2.2.2.1) (b := 0) z1 hn
  have c19 : cdK 19 = 14 := by decide
  obtain ⟨j1, j2, j3, j4⟩ := addK_g 19 K.2.2.2.2.2.2.2.2.2.2.2.2.2.2.2.2.2.2.2.2.2.2.2.2.2.2.2.2.1 0 K
  generalize addK 19 K.2.2.2.2.2.2.2.2.2.2.2.2.2.2.2.2.2.2.2.2.2.2.2.2.2.2.2.2.1 0 K = Y at *
  obtain ⟨i1, i2, i3, i4, i5, i6, i7, i8⟩ := clK_f Y
  generalize clK Y = W at *
  have e7 : ∀ b, b < n → K.2.2.2.2.2.2.2.2.2.2.2.2.2.2.2.2.2.2.2.2.2.2.2.2.2.2.2.2.1 = nI b → W.2.2.2.2.2.2.2.2.2.2.2.2.2.2.2.2.2.2.2.2.2.2.2.2.2.2.2.2.1 = K.2.2.2.2.2.2.2.2.2.2.2.2.2.2.2.2.2.2.2.2.2.2.2.2.2.2.2.2.2.2.2.1 b := fun b hb e => by
    rw [i7, f3, j3, e, rget_k (by omega) (by decide)]
    exact if_neg (by omega)
  replace f1 := i1.trans f1
  replace f2 := i2.trans f2
  replace f3 := i3.trans f3
  replace f4 := i4.trans f4
  have key : ∃ l b, b < n ∧ st n = l ++ [b] ∧ K.2.2.2.2.2.2.2.2.2.2.2.2.2.2.2.2.2.2.2.2.2.2.2.2.2.2.2.2.1 = nI b ∧ st (b + 1) = l ++ [b] ∧ ((d = 0 ∧ l = [] ∧ K.2.2.2.2.2.2.2.2.2.2.2.2.2.2.2.2.2.2.2.2.2.2.2.2.2.2.2.2.2.2.2.1 b = -1) ∨ (d = 1 ∧ ∃ b0, b0 < n ∧ l = [b0] ∧ K.2.2.2.2.2.2.2.2.2.2.2.2.2.2.2.2.2.2.2.2.2.2.2.2.2.2.2.2.2.2.2.1 b = nI b0 ∧ K.2.2.2.2.2.2.2.2.2.2.2.2.2.2.2.2.2.2.2.2.2.2.2.2.2.2.2.2.2.2.2.1 b0 = -1 ∧ st (b0 + 1) = [b0])) := by
    rcases hO with ⟨o1, o2, o3⟩ | ⟨o1, b0, o2, o3, o4, o5, o6⟩ | ⟨o1, b0, b1, o2, o3, o4, o5, o6, o7, o8, o9⟩
    · omega
    · exact ⟨[], b0, o2, o3, o4, o6, Or.inl ⟨by omega, rfl, o5⟩⟩
    · exact ⟨[b0], b1, o3, o4, o5, o9, Or.inr ⟨by omega, b0, o2, rfl, o6, o7, o8⟩⟩
  obtain ⟨l, b, hb, y1, y2, y3, y4⟩ := key
  refine ⟨⟨f4, a2⟩, ⟨(i5.trans j1).trans w1, a3.trans w2⟩, ⟨?_, a4⟩, ⟨l1, by omega⟩, fun k hk => ?_, fun k hk => ?_, stU st (n + 1) l, ?_, ?_⟩
  · rw [i6, j2, v1]
    exact nI_subN (a := d + 1) (b := 1) (by omega)
  · by_cases e : k = n
    · subst e
      unfold CODE
      rw [f1, f2, f3]
      have g1 : ∀ (f : Nat → Int32) v, upd f k v k = v := fun f v => if_pos rfl
      rw [g1, g1, g1, a1]
      exact ⟨(g1 _ _).trans c19.symm, Or.inl rfl, fun x => absurd x (by decide)⟩
    · have g1 : ∀ (f : Nat → Int32) v, upd f n v k = f k := fun f v => if_neg e
      have g := hC k (by omega)
      unfold CODE at g ⊢
      rw [f1, f2, f3, g1, g1, g1, a1, g1]
      refine ⟨g.1, ?_, fun x => ?_⟩
      · rw [a5]; exact g.2.1
      · rw [a6]; exact g.2.2 x
  · have e8 : W.2.2.1 = K.2.2.1 := i8.trans j4
    by_cases e : k = n
    · subst e
      unfold PVK
      rw [f1, f2, f3, e8]
      have g1 : ∀ (f : Nat → Int32) v, upd f k v k = v := fun f v => if_pos rfl
      rw [g1, g1, g1]
      exact Or.inr (Or.inl ⟨rfl, b, hb, y2⟩)
    · have g1 : ∀ (f : Nat → Int32) v, upd f n v k = f k := fun f v => if_neg e
      have g := hP k (by omega)
      unfold PVK at g ⊢
      rw [f1, f2, f3, e8, g1, g1, g1]
      exact g
  · rw [f1, f2]
    refine ⟨STK_ext hS.1 ⟨fun x => absurd x (by decide), fun _ => ⟨l, b, hb, y1, y2, rfl, y3⟩, fun _ x => absurd rfl x⟩, LEN_ext hS.2 ?_⟩
    have := hS.2 n (Nat.le_refl n)
    rw [y1, List.length_append] at this
    exact Nat.le_trans (Nat.le_add_right _ _) this
  · unfold OPN
    rw [e7 b hb y2, f3, stU_at]
    have g1 : ∀ (f : Nat → Int32) v k, k < n → upd f n v k = f k := fun f v k hk => if_neg (by omega)
    rcases y4 with ⟨o1, o2, o3⟩ | ⟨o1, b0, o2, o3, o4, o5, o6⟩
    · exact Or.inl ⟨o1, o2, o3⟩
    · exact Or.inr (Or.inl ⟨o1, b0, by omega, o3, o4, by rw [g1 _ _ _ o2]; exact o5, by rw [stU_ne (by omega)]; exact o6⟩)
theorem PRG_K {K K2 : KT} {M : MT} {n c d : Nat} (h : PRG K M n c d) (hk : TKE K K2) : PRG K2 M n c d := by
  unfold TKE at hk
  rw [← hk]
  exact h
theorem PRG_M {K : KT} {T M : MT} {n c d : Nat} (h : PRG K T n c d) (hk : KEP T M) : PRG K M n c d := by
  obtain ⟨⟨z1, z2⟩, ⟨w1, w2⟩, ⟨v1, v2⟩, ⟨l1, l2⟩, hC, hP, st, hS, hO⟩ := h
  obtain ⟨k1, k2, k3, k4, k5, k6⟩ := hk
  refine ⟨⟨z1, k4.trans z2⟩, ⟨w1, k5.trans w2⟩, ⟨v1, k6.trans v2⟩, ⟨l1, l2⟩, fun k hk => ?_, hP, st, hS, hO⟩
  have g := hC k hk
  unfold CODE at g ⊢
  rw [k1, k2, k3]
  exact g
/-- the program with no step -/
theorem PRG_0 {K : KT} {M : MT} (e1 : K.2.2.2.2.2.2.2.2.2.2.2.2.2.2.2.2.2.2.2.2.2.2.2.2.2.1 = 0) (e2 : M.2.2.2.2.2.2.2.2.2.2.2.2.2.2.2.2.2.2.2.2.2.2.2.2.2.2.2.2.2.1 = 0) (e3 : K.2.2.2.2.2.2.2.2.2.2.2.2.2.2.2.2.2.2.2.2.2.2.2.2.2.2.1 = 0) (e4 : M.2.2.2.2.2.2.2.2.2.2.2.2.2.2.2.2.2.2.2.2.2.2.2.2.2.2.2.2.2.2.1 = 0) (e5 : K.2.2.2.2.2.2.2.2.2.2.2.2.2.2.2.2.2.2.2.2.2.2.2.2.2.2.2.1 = 0) (e6 : M.2.2.2.2.2.2.2.2.2.2.2.2.2.2.2.2.2.2.2.2.2.2.2.2.2.2.2.2.2.2.2.1 = 0) (e7 : K.2.2.2.2.2.2.2.2.2.2.2.2.2.2.2.2.2.2.2.2.2.2.2.2.2.2.2.2.1 = -1) : PRG K M 0 0 0 :=
  ⟨⟨e1, e2⟩, ⟨e3, e4⟩, ⟨e5, e6⟩, ⟨by decide, by decide⟩, fun k hk => absurd hk (Nat.not_lt_zero k), fun k hk => absurd hk (Nat.not_lt_zero k), fun _ => [], ⟨⟨rfl, fun k hk => absurd hk (Nat.not_lt_zero k)⟩, fun _ _ => Nat.zero_le 2⟩, Or.inl ⟨rfl, rfl, e7⟩⟩
