/-! j4: what is written is what the class will have read -/
theorem upd_same {s : Nat → Int32} {i : Nat} {v : Int32} (h : s i = v) : ∀ j, upd s i v j = s j := fun j => by
  by_cases c : j = i
  · subst c; exact (if_pos rfl).trans h.symm
  · exact if_neg c
theorem GDU_th {U : HT} {s : Nat → Int32} {k : Nat} {q : Bool} (h : GDU U s) (hk : k < U.2.2.2.2.2.2.2.2.2.1) (h0 : s (12 + 9 * k + 3) = 0) : GDU (if q then thU (nI k) U else U) (upd s (12 + 9 * k + 3) (tI q)) := by
  obtain ⟨hC, hn, ho, hz⟩ := h
  have h12 := ho.1
  cases q with
  | true => exact ⟨CPL_th (c := true) hC hk (fun j => bt_or_k (by omega) j), hn, ho, hz⟩
  | false => exact ⟨CPL_cong hC (fun i _ => upd_same h0 i), hn, ho, hz⟩
theorem GDU_mi {U : HT} {s : Nat → Int32} {k : Nat} {q : Bool} (h : GDU U s) (hk : k < U.2.2.2.2.2.2.2.2.2.1) (h0 : s (12 + 9 * k + 4) = 0) : GDU (if q then miU (nI k) U else U) (upd s (12 + 9 * k + 4) (tI q)) := by
  obtain ⟨hC, hn, ho, hz⟩ := h
  have h12 := ho.1
  cases q with
  | true => exact ⟨CPL_mi (c := true) hC hk (fun j => bt_or_k (by omega) j), hn, ho, hz⟩
  | false => exact ⟨CPL_cong hC (fun i _ => upd_same h0 i), hn, ho, hz⟩
theorem GDU_cl {U : HT} {s : Nat → Int32} {d : Nat} {q : Bool} (h : GDU U s) (hd : d < U.2.2.2.2.2.2.2.2.2.2.1) (h0 : s (120 + 4 * d + 3) = 1) : GDU (if q then clU (nI d) U else U) (upd s (120 + 4 * d + 3) (tI (!q))) := by
  obtain ⟨hC, hn, ho, hz⟩ := h
  have h24 := ho.2
  cases q with
  | true => exact ⟨CPL_od (c := false) hC hd (fun j => bt_an_k (by omega) j), hn, ho, hz⟩
  | false => exact ⟨CPL_cong hC (fun i _ => upd_same h0 i), hn, ho, hz⟩
theorem GDU_apR {U : HT} {s : Nat → Int32} {k v : Nat} (h : GDU U s) (hk : k = nR s) (h12 : k < 12) (hv : v < 100) : GDU (apR U (NMC k) (nI v) 1) (adR s (lN (576 + (1 + k))) (nI v) 1) ∧ (apR U (NMC k) (nI v) 1).2.2.2.2.2.2.2.2.2.1 = k + 1 := by
  obtain ⟨hC, hn, ho, hz⟩ := h
  have hr := (geo_n hC.1).1
  rw [hr] at hk
  subst hk
  have hZ := HZ_apR (x := NMC U.2.2.2.2.2.2.2.2.2.1) (c := nI v) (b := 1) ⟨ho, hz⟩ h12
  refine ⟨⟨CPL_apR (c := v) hC h12 (NMC_r h12) (by omega) (Or.inr rfl) (fun _ => rfl), fun k hk => ?_, hZ.1, hZ.2⟩, rfl⟩
  have hk : k < U.2.2.2.2.2.2.2.2.2.1 + 1 := hk
  show vp_updL U.1 U.2.2.2.2.2.2.2.2.2.1 (NMC U.2.2.2.2.2.2.2.2.2.1) k = NMC k
  unfold vp_updL
  by_cases c : k = U.2.2.2.2.2.2.2.2.2.1
  · rw [if_pos c, c]
  · rw [if_neg c]
    exact hn k (by omega)
def roomS (s : Nat → Int32) (k v : Nat) (q1 q2 : Bool) : Nat → Int32 := upd (upd (adR s (lN (576 + (1 + k))) (nI v) 1) (12 + 9 * k + 3) (tI q1)) (12 + 9 * k + 4) (tI q2)
def doorS (s : Nat → Int32) (x y v d : Nat) (q : Bool) : Nat → Int32 := upd (addD s (nI x) (nI y) (nI v)) (120 + 4 * d + 3) (tI (!q))
theorem th_rc (i : Int32) (A : HT) (q : Bool) : (if q then thU i A else A).2.2.2.2.2.2.2.2.2.1 = A.2.2.2.2.2.2.2.2.2.1 := by
  cases q
  · rfl
  · rfl
theorem GDU_room {U : HT} {s : Nat → Int32} {k v : Nat} {q1 q2 : Bool} (h : GDU U s) (hk : k = nR s) (h12 : k < 12) (hv : v < 100) : GDU (roomU k v q1 q2 U) (roomS s k v q1 q2) := by
  obtain ⟨h1, hr⟩ := GDU_apR h hk h12 hv
  obtain ⟨-, -, -, -, -, a3, a4, -⟩ := adR_at (s := s) (x := lN (576 + (1 + k))) (c := nI v) (b := 1) hk.symm
  unfold roomU roomS
  generalize apR U (NMC k) (nI v) 1 = A at h1 hr ⊢
  generalize adR s (lN (576 + (1 + k))) (nI v) 1 = t at h1 a3 a4 ⊢
  have hk1 : k < A.2.2.2.2.2.2.2.2.2.1 := by omega
  have h2 := GDU_th (q := q1) h1 hk1 a3
  have hr2 : k < (if q1 then thU (nI k) A else A).2.2.2.2.2.2.2.2.2.1 := by rw [th_rc]; exact hk1
  generalize (if q1 then thU (nI k) A else A) = A2 at h2 hr2 ⊢
  have a5 : upd t (12 + 9 * k + 3) (tI q1) (12 + 9 * k + 4) = 0 := by
    unfold upd
    rw [if_neg (by omega)]
    exact a4
  generalize upd t (12 + 9 * k + 3) (tI q1) = t2 at h2 a5 ⊢
  exact GDU_mi (q := q2) h2 hr2 a5
theorem GDU_door {U : HT} {s : Nat → Int32} {x y v : Nat} {q : Bool} (h : GDU U s) (hx : x < nR s) (hy : y < nR s) (hxy : x ≠ y) (hd : nD s < 24) (hno : btw s (nI x) (nI y) = -1) (hv : v < 10) : GDU (doorU x y v q U) (doorS s x y v (nD s) q) := by
  obtain ⟨hC, hn, ho, hz⟩ := h
  have hr := (geo_n hC.1).1
  have hdd := (geo_n hC.1).2
  have hno2 : dro U (nI x) (nI y) = -1 := (geo_btw hC.1 (nI x) (nI y)).symm.trans hno
  have hZ := HZ_apD (a := nI x) (b := nI y) (c := nI v) ⟨ho, hz⟩ (by rw [← hdd]; exact hd)
  have h1 : GDU (apD U (nI x) (nI y) (nI v)) (addD s (nI x) (nI y) (nI v)) := ⟨CPL_apD hC (by rw [← hdd]; exact hd) (by rw [← hr]; exact hx) (by rw [← hr]; exact hy) hxy hno2 (by omega), hn, hZ.1, hZ.2⟩
  unfold doorU doorS
  rw [hdd]
  refine GDU_cl (q := q) h1 (by show U.2.2.2.2.2.2.2.2.2.2.1 < U.2.2.2.2.2.2.2.2.2.2.1 + 1; omega) ?_
  rw [← hdd]
  exact (addD_at (s := s) (a := nI x) (b := nI y) (c := nI v) rfl hd).2.2.2.2.2
theorem GDU_ghost {U : HT} {s : Nat → Int32} {g : Nat} (h : GDU U s) (hg : g < nR s) : GDU (ghU (nI g) U) (upd s 11 (nI g)) := by
  obtain ⟨hC, hn, ho, hz⟩ := h
  have hr := (geo_n hC.1).1
  exact ⟨CPL_gh hC (by rw [← hr]; exact hg), hn, ho, hz⟩
theorem GDU_0 {V : HT} (hz : ZH V) : GDU (clrT V) S00 := by
  refine ⟨CPL_cong (CPL_clr V S00) (fun i hi => ?_), fun k hk => absurd hk (Nat.not_lt_zero k), ⟨Nat.zero_le _, Nat.zero_le _⟩, hz.1, hz.2.1, fun i hi => ?_⟩
  · obtain ⟨b0, b1, b2, b3, b4, b5, bz⟩ := bgS_6 S00
    match i with
    | 0 => rw [b0]; rfl
    | 1 => rw [b1]; rfl
    | 2 => rw [b2]; rfl
    | 3 => rw [b3]; rfl
    | 4 => rw [b4]; rfl
    | 5 => rw [b5]; rfl
    | i + 6 =>
      rw [bz (i + 6) (by omega) hi]
      unfold S00
      rw [if_neg (by omega), if_neg (by omega), if_neg (by omega), if_neg (by omega), if_neg (by omega)]
  · show fa_fill (fun d => stG 2 (nI d)) V.2.2.2.2.2.2.2.2.1 6 i = 0
    unfold fa_fill
    rw [if_neg (by omega)]
    exact hz.2.2 i hi
/-- the text l, read from its beginning on, makes the row s -/
theorem ZH_0 : ZH H0 := ⟨fun _ _ => ⟨rfl, rfl, rfl, rfl, rfl⟩, fun _ _ => ⟨rfl, rfl, rfl⟩, fun _ _ => rfl⟩
def PINV (c : Nat) (l : List Int32) (s : Nat → Int32) : Prop := (NB l ∧ 0 < l.length) ∧ (∃ U, GDU U s) ∧ ∀ T0 B n r, (ZH T0.2.2.2.1 ∧ T0.2.2.2.2.2.2.2.2.2.1 = nI n ∧ T0.2.2.2.2.2.2.2.2.2.2.1 = B) → n ≤ 600 → SUF B n 0 (l ++ r) → ∃ f T p U, rdText T0 = rdLoop f (adv T) ∧ f + c = 600 ∧ ATP T0 B n p U T ∧ p ≤ l.length ∧ skp B n p = skp B n l.length ∧ GDU U s
theorem PINV_step {c : Nat} {l st : List Int32} {s t : Nat → Int32} (h : PINV c l s) (hc : c < 600) (hNB : NB st) (hd : ∃ x y, st = x :: y ∧ isBl x = false)
    (hst : ∀ U, GDU U s → ∃ U2, GDU U2 t ∧ ∀ T0 B n p T r, ATP T0 B n p U T → p ≤ n → n ≤ 600 → skp B n p = l.length → SUF B n l.length (st ++ r) → STM T0 B n (l.length + st.length) (adv T) U2) : PINV (c + 1) (l ++ st) t := by
  obtain ⟨⟨nb, l0⟩, ⟨U0, hU0⟩, H⟩ := h
  obtain ⟨U1, hU1, -⟩ := hst U0 hU0
  refine ⟨⟨NB_ap nb hNB, by rw [List.length_append]; omega⟩, ⟨U1, hU1⟩, fun T0 B n r hT hn hS => ?_⟩
  rw [List.append_assoc] at hS
  obtain ⟨f, T, p, U, e, ef, hA, hp, hs, hG⟩ := H T0 B n (st ++ r) hT hn hS
  have h2 := (SUF_ap hS).2
  rw [Nat.zero_add] at h2
  have hpn := SUF_le h2
  obtain ⟨x, y, ex, hx⟩ := hd
  have hk : skp B n l.length = l.length := sk_no (by rw [ex] at h2; exact h2) hx
  obtain ⟨U2, hU2, hS2⟩ := hst U hG
  obtain ⟨z, T9, q, e1, e2, e3, e4, e5⟩ := hS2 T0 B n p T r hA (by omega) hn (hs.trans hk) h2
  obtain ⟨f, rfl⟩ : ∃ g, f = g + 1 := ⟨f - 1, by omega⟩
  refine ⟨f, T9, q, U2, ?_, by omega, e3, by rw [List.length_append]; exact e4, by rw [List.length_append]; exact e5, hU2⟩
  rw [e, rdLoop, if_neg z, e1]
  exact if_neg (fun y => y e2)
theorem PINV_0 (te : Nat) (ht : te = 22 ∨ te = 25) : PINV 0 (txL 14 ++ txL te) S00 := by
  refine ⟨⟨NB_ap (NB_tx 14 (by decide) (by decide)) (NB_tx te (by omega) (by omega)), by rw [List.length_append]; have := (tx_lets 14 (by decide) (by decide)).1.1; omega⟩, ⟨_, GDU_0 ZH_0⟩, fun T0 B n r hT hn hS => ?_⟩
  obtain ⟨hz, hl, hB⟩ := hT
  rw [List.append_assoc] at hS
  obtain ⟨c, t, et, hc1, -⟩ := te_hd ht
  obtain ⟨l1, l2⟩ := tx_lets 14 (by decide) (by decide)
  have hS1 : SUF B n 0 (txL 14 ++ c :: (t ++ r)) := by rw [et] at hS; exact hS
  obtain ⟨x, y, ex⟩ : ∃ x y, txL 14 = x :: y := by
    cases e : txL 14 with
    | nil => rw [e] at l1; exact absurd l1.1 (Nat.not_lt_zero _)
    | cons x y => exact ⟨x, y, rfl⟩
  have e1 : skp B n 0 = 0 := sk_no (by rw [ex] at hS1; exact hS1) (by rw [ex] at l2; exact l2)
  obtain ⟨D, eD⟩ : ∃ D : KT, D = drT T0 (clrT T0.2.2.2.1) := ⟨_, rfl⟩
  obtain ⟨T1, eT1⟩ : ∃ T1 : KT, T1 = (D.1, D.2.1, D.2.2.1, D.2.2.2.1, D.2.2.2.2.1, D.2.2.2.2.2.1, D.2.2.2.2.2.2.1, D.2.2.2.2.2.2.2.1, D.2.2.2.2.2.2.2.2.1, 0, D.2.2.2.2.2.2.2.2.2.2.1, D.2.2.2.2.2.2.2.2.2.1, 0, D.2.2.2.2.2.2.2.2.2.2.2.2.2.1, D.2.2.2.2.2.2.2.2.2.2.2.2.2.2.1, D.2.2.2.2.2.2.2.2.2.2.2.2.2.2.2.1, D.2.2.2.2.2.2.2.2.2.2.2.2.2.2.2.2.1, 0, -1, D.2.2.2.2.2.2.2.2.2.2.2.2.2.2.2.2.2.2.2.1, D.2.2.2.2.2.2.2.2.2.2.2.2.2.2.2.2.2.2.2.2.1, D.2.2.2.2.2.2.2.2.2.2.2.2.2.2.2.2.2.2.2.2.2.1, D.2.2.2.2.2.2.2.2.2.2.2.2.2.2.2.2.2.2.2.2.2.2.1, D.2.2.2.2.2.2.2.2.2.2.2.2.2.2.2.2.2.2.2.2.2.2.2.1, D.2.2.2.2.2.2.2.2.2.2.2.2.2.2.2.2.2.2.2.2.2.2.2.2.1, D.2.2.2.2.2.2.2.2.2.2.2.2.2.2.2.2.2.2.2.2.2.2.2.2.2.1, D.2.2.2.2.2.2.2.2.2.2.2.2.2.2.2.2.2.2.2.2.2.2.2.2.2.2.1, D.2.2.2.2.2.2.2.2.2.2.2.2.2.2.2.2.2.2.2.2.2.2.2.2.2.2.2.1, D.2.2.2.2.2.2.2.2.2.2.2.2.2.2.2.2.2.2.2.2.2.2.2.2.2.2.2.2.1, D.2.2.2.2.2.2.2.2.2.2.2.2.2.2.2.2.2.2.2.2.2.2.2.2.2.2.2.2.2.1, D.2.2.2.2.2.2.2.2.2.2.2.2.2.2.2.2.2.2.2.2.2.2.2.2.2.2.2.2.2.2.1, D.2.2.2.2.2.2.2.2.2.2.2.2.2.2.2.2.2.2.2.2.2.2.2.2.2.2.2.2.2.2.2.1, D.2.2.2.2.2.2.2.2.2.2.2.2.2.2.2.2.2.2.2.2.2.2.2.2.2.2.2.2.2.2.2.2.1, D.2.2.2.2.2.2.2.2.2.2.2.2.2.2.2.2.2.2.2.2.2.2.2.2.2.2.2.2.2.2.2.2.2) := ⟨_, rfl⟩
  have hA : ATP T0 B n 0 (clrT T0.2.2.2.1) T1 := by
    rw [eT1, eD]
    exact ⟨⟨hB, hl, rfl, rfl⟩, rfl, rfl, rfl, rfl, rfl, rfl⟩
  obtain ⟨a1, a2, a3, a4⟩ := tok_w hA (Nat.zero_le _) hn e1 hS1 l1 hc1
  have eb : begT (drT T0 (clrT T0.2.2.2.1)) = adv T1 := by rw [← eD, eT1]; rfl
  clear eT1 hA
  generalize adv T1 = T2 at a1 a2 a3 eb
  have a4 : SUF B n (0 + (txL 14).length) (txL te ++ r) := by rw [et]; exact a4
  obtain ⟨c1, q, c2, c3, c4, c5⟩ := tok_e ht a3 hn a4
  refine ⟨600, adv T2, q, clrT T0.2.2.2.1, ?_, rfl, c2, ?_, ?_, GDU_0 hz⟩
  · unfold rdText
    rw [eb]
    unfold rdText0
    have w14 : isW T2 14 = true := by rw [isW_v a1 a2, wd_is 14 (by decide) (by decide) 14 (by decide) (by decide)]; exact decide_eq_true rfl
    rw [if_pos w14]
    unfold rdText1
    exact if_neg (fun y => y c1)
  · rw [List.length_append]; rw [Nat.zero_add] at c3; exact c3
  · rw [List.length_append]; rw [Nat.zero_add] at c4; exact c4
theorem PINV_set {c te x v : Nat} {l : List Int32} {s : Nat → Int32} (h : PINV c l s) (hc : c < 600) (ht : te = 22 ∨ te = 25) (hx : x < 6) (hv : v < 100) (hb : ¬ nI v < stG 0 (nI x) ∧ nI v ≤ stG 1 (nI x)) : PINV (c + 1) (l ++ txL (26 + x) ++ decL v ++ txL te) (upd s x (nI v)) := by
  obtain ⟨x1, x2, x3⟩ := tx_sets x hx
  rw [show l ++ txL (26 + x) ++ decL v ++ txL te = l ++ (txL (26 + x) ++ decL v ++ txL te) by simp only [List.append_assoc]]
  refine PINV_step h hc (NB_ap (NB_ap (NB_tx (26 + x) (by omega) (by omega)) (NB_d v hv)) (NB_tx te (by omega) (by omega))) ?_ (fun U hU => ⟨_, GDU_set hx hb hU, fun T0 B n p T r hA hp hn hs hS => st_set ht hx hv hb hA hp hn hs hS⟩)
  cases e : txL (33 + x) with
  | nil => rw [e] at x2; exact absurd x2.1 (Nat.not_lt_zero _)
  | cons a b =>
    rw [e] at x3
    exact ⟨a, b ++ [32] ++ decL v ++ txL te, by rw [x1, e]; simp only [List.cons_append], x3⟩
theorem PINV_room {c te k v : Nat} {q1 q2 : Bool} {l : List Int32} {s : Nat → Int32} (h : PINV c l s) (hc : c < 600) (ht : te = 22 ∨ te = 25) (hk : k = nR s) (h12 : k < 12) (hv : v < 100) : PINV (c + 1) (l ++ roomX te k v q1 q2) (roomS s k v q1 q2) := by
  refine PINV_step h hc ?_ ?_ (fun U hU => ⟨_, GDU_room hU hk h12 hv, fun T0 B n p T r hA hp hn hs hS => st_room ht (by rw [hk, (geo_n hU.1.1).1]) h12 hv hU.2.1 hA hp hn hs hS⟩)
  · unfold roomX
    refine NB_ap (NB_ap (NB_ap (NB_ap (NB_ap (NB_ap (NB_tx 32 (by omega) (by omega)) (NB_c h12)) (NB_tx 42 (by omega) (by omega))) (NB_d v hv)) ?_) ?_) (NB_tx te (by omega) (by omega))
    · exact NB_tx _ (by split <;> omega) (by split <;> omega)
    · exact NB_tx _ (by split <;> omega) (by split <;> omega)
  · obtain ⟨y9, ey⟩ : ∃ y, txL 32 = 114 :: y := ⟨(txL 32).drop 1, by decide +kernel⟩
    refine ⟨114, y9 ++ [nI (97 + k)] ++ txL 42 ++ decL v ++ txL (if q1 then 43 else 45) ++ txL (if q2 then 46 else 45) ++ txL te, ?_, by decide⟩
    unfold roomX
    rw [ey]
    simp only [List.cons_append]
theorem PINV_door {c te x y v : Nat} {q : Bool} {l : List Int32} {s : Nat → Int32} (h : PINV c l s) (hc : c < 600) (ht : te = 22 ∨ te = 25) (hx : x < nR s) (hy : y < nR s) (hxy : x ≠ y) (hd : nD s < 24) (hno : btw s (nI x) (nI y) = -1) (hv : v < 10) : PINV (c + 1) (l ++ doorX te x y v q) (doorS s x y v (nD s) q) := by
  have h12 : nR s ≤ 12 := by obtain ⟨-, ⟨U, hU⟩, -⟩ := h; exact (geo_RW hU.1.1).2.1
  refine PINV_step h hc ?_ ?_ (fun U hU => ⟨_, GDU_door hU hx hy hxy hd hno hv, fun T0 B n p T r hA hp hn hs hS => st_door ht (by rw [← (geo_n hU.1.1).1]; exact hx) (by rw [← (geo_n hU.1.1).1]; exact hy) hxy hU.2.2.1.1 (by rw [← (geo_n hU.1.1).2]; exact hd) ((geo_btw hU.1.1 (nI x) (nI y)).symm.trans hno) hv hU.2.1 hA hp hn hs hS⟩)
  · unfold doorX
    refine NB_ap (NB_ap (NB_ap (NB_ap (NB_ap (NB_ap (NB_ap (NB_tx 47 (by omega) (by omega)) (NB_c (by omega))) (NB_tx 48 (by omega) (by omega))) (NB_c (by omega))) (NB_tx 42 (by omega) (by omega))) (NB_d v (by omega))) ?_) (NB_tx te (by omega) (by omega))
    exact NB_tx _ (by split <;> omega) (by split <;> omega)
  · obtain ⟨y9, ey⟩ : ∃ y, txL 47 = 100 :: y := ⟨(txL 47).drop 1, by decide +kernel⟩
    refine ⟨100, y9 ++ [nI (97 + x)] ++ txL 48 ++ [nI (97 + y)] ++ txL 42 ++ decL v ++ txL (if q then 49 else 45) ++ txL te, ?_, by decide⟩
    unfold doorX
    rw [ey]
    simp only [List.cons_append]
theorem PINV_ghost {c te g : Nat} {l : List Int32} {s : Nat → Int32} (h : PINV c l s) (hc : c < 600) (ht : te = 22 ∨ te = 25) (hg : g < nR s) (h5 : s (12 + 9 * g + 5) = 1) : PINV (c + 1) (l ++ ghostX te g) (upd s 11 (nI g)) := by
  have h12 : nR s ≤ 12 := by obtain ⟨-, ⟨U, hU⟩, -⟩ := h; exact (geo_RW hU.1.1).2.1
  refine PINV_step h hc ?_ ?_ (fun U hU => ⟨_, GDU_ghost hU hg, fun T0 B n p T r hA hp hn hs hS => st_ghost ht (by rw [← (geo_n hU.1.1).1]; exact hg) hU.2.2.1.1 ?_ hU.2.1 hA hp hn hs hS⟩)
  · unfold ghostX
    exact NB_ap (NB_ap (NB_tx 50 (by omega) (by omega)) (NB_c (by omega))) (NB_tx te (by omega) (by omega))
  · obtain ⟨y9, ey⟩ : ∃ y, txL 50 = 103 :: y := ⟨(txL 50).drop 1, by decide +kernel⟩
    refine ⟨103, y9 ++ [nI (97 + g)] ++ txL te, ?_, by decide⟩
    unfold ghostX
    rw [ey]
    simp only [List.cons_append]
  · have e := (ctn_S hU.1 hg).2.2
    rw [h5] at e
    cases hb : bt U.2.2.2.2.2.2.2.2.2.2.2.2.2.2.1 g with
    | true => rfl
    | false => rw [hb] at e; exact absurd e (by decide)
theorem LIV_mk {T : KT} {s : Nat → Int32} {a : Nat} (h1 : HOK T.2.2.2.1) (h3 : HOK T.2.2.2.2.2.2.2.2.2.2.2.2.2.2.2.2.2.2.2.1) (h4 : ∀ i, HOK (T.2.2.2.2.2.2.2.2.2.2.2.2.2.2.2.2.2.2.2.2.2.2.1 i)) (h5 : ∀ i, 7 ≤ i → T.2.2.2.2.2.2.2.2.2.2.2.2.2.2.2.2.2.2.2.2.2.2.1 i = H0) (h6 : ZH T.2.2.2.1) (h7 : ∀ i, i < 7 → ZH (T.2.2.2.2.2.2.2.2.2.2.2.2.2.2.2.2.2.2.2.2.2.2.1 i)) (hC : CPL T.2.2.2.1 s) (ha : a < 7) (hO : T.2.2.2.2.2.2.2.2.2.2.2.2.2.2.2.2.2.2.2.2.1 = nI a) (hn : NMS T.2.2.2.1) (hk : T.2.2.2.2.2.2.2.2.2.1 = 0) : LIV (T.1, T.2.1, T.2.2.2.1, T.2.2.2.1, T.2.2.2.2.1, T.2.2.2.2.2.1, T.2.2.2.2.2.2.1, T.2.2.2.2.2.2.2.1, T.2.2.2.2.2.2.2.2.1, T.2.2.2.2.2.2.2.2.2.1, T.2.2.2.2.2.2.2.2.2.2.1, T.2.2.2.2.2.2.2.2.2.2.2.1, T.2.2.2.2.2.2.2.2.2.2.2.2.1, T.2.2.2.2.2.2.2.2.2.2.2.2.2.1, T.2.2.2.2.2.2.2.2.2.2.2.2.2.2.1, T.2.2.2.2.2.2.2.2.2.2.2.2.2.2.2.1, T.2.2.2.2.2.2.2.2.2.2.2.2.2.2.2.2.1, T.2.2.2.2.2.2.2.2.2.2.2.2.2.2.2.2.2.1, T.2.2.2.2.2.2.2.2.2.2.2.2.2.2.2.2.2.2.1, T.2.2.2.2.2.2.2.2.2.2.2.2.2.2.2.2.2.2.2.1, T.2.2.2.2.2.2.2.2.2.2.2.2.2.2.2.2.2.2.2.2.1, 0, T.2.2.2.2.2.2.2.2.2.2.2.2.2.2.2.2.2.2.2.2.2.2.1, T.2.2.2.2.2.2.2.2.2.2.2.2.2.2.2.2.2.2.2.2.2.2.2.1, T.2.2.2.2.2.2.2.2.2.2.2.2.2.2.2.2.2.2.2.2.2.2.2.2.1, T.2.2.2.2.2.2.2.2.2.2.2.2.2.2.2.2.2.2.2.2.2.2.2.2.2.1, T.2.2.2.2.2.2.2.2.2.2.2.2.2.2.2.2.2.2.2.2.2.2.2.2.2.2.1, T.2.2.2.2.2.2.2.2.2.2.2.2.2.2.2.2.2.2.2.2.2.2.2.2.2.2.2.1, T.2.2.2.2.2.2.2.2.2.2.2.2.2.2.2.2.2.2.2.2.2.2.2.2.2.2.2.2.1, T.2.2.2.2.2.2.2.2.2.2.2.2.2.2.2.2.2.2.2.2.2.2.2.2.2.2.2.2.2.1, T.2.2.2.2.2.2.2.2.2.2.2.2.2.2.2.2.2.2.2.2.2.2.2.2.2.2.2.2.2.2.1, T.2.2.2.2.2.2.2.2.2.2.2.2.2.2.2.2.2.2.2.2.2.2.2.2.2.2.2.2.2.2.2.1, T.2.2.2.2.2.2.2.2.2.2.2.2.2.2.2.2.2.2.2.2.2.2.2.2.2.2.2.2.2.2.2.2.1, T.2.2.2.2.2.2.2.2.2.2.2.2.2.2.2.2.2.2.2.2.2.2.2.2.2.2.2.2.2.2.2.2.2) s :=
  ⟨⟨⟨h1, h1, h3, h4, h5⟩, h6, h6, h7⟩, hC, ⟨a, 0, ha, Nat.zero_le _, hO, rfl⟩, hn, hk⟩
theorem PINV_LIV {c : Nat} {l : List Int32} {s : Nat → Int32} {T0 : KT} {a : Nat} (h : PINV c l s) (hc : c < 600) (hl : l.length ≤ 600) (ok : GOK T0) (zh : ZH T0.2.2.1) (zd : ZH T0.2.2.2.1) (hz : HZ T0) (ha : a < 7) (hO : T0.2.2.2.2.2.2.2.2.2.2.2.2.2.2.2.2.2.2.2.2.1 = nI a) (hk : T0.2.2.2.2.2.2.2.2.2.1 = nI l.length) (hg : ∀ i, i < l.length → T0.2.2.2.2.2.2.2.2.2.2.1 i = fdB l i) :
    KLI T0 ∧ ∃ K, rdText T0 = .inr K ∧ (ZH K.2.2.1 ∧ ZH K.2.2.2.1) ∧ K.2.2.2.1.2.2.2.2.2.2.2.2.2.1 = nR s ∧ LIV (K.1, K.2.1, K.2.2.2.1, K.2.2.2.1, K.2.2.2.2.1, K.2.2.2.2.2.1, K.2.2.2.2.2.2.1, K.2.2.2.2.2.2.2.1, K.2.2.2.2.2.2.2.2.1, K.2.2.2.2.2.2.2.2.2.1, K.2.2.2.2.2.2.2.2.2.2.1, K.2.2.2.2.2.2.2.2.2.2.2.1, K.2.2.2.2.2.2.2.2.2.2.2.2.1, K.2.2.2.2.2.2.2.2.2.2.2.2.2.1, K.2.2.2.2.2.2.2.2.2.2.2.2.2.2.1, K.2.2.2.2.2.2.2.2.2.2.2.2.2.2.2.1, K.2.2.2.2.2.2.2.2.2.2.2.2.2.2.2.2.1, K.2.2.2.2.2.2.2.2.2.2.2.2.2.2.2.2.2.1, K.2.2.2.2.2.2.2.2.2.2.2.2.2.2.2.2.2.2.1, K.2.2.2.2.2.2.2.2.2.2.2.2.2.2.2.2.2.2.2.1, K.2.2.2.2.2.2.2.2.2.2.2.2.2.2.2.2.2.2.2.2.1, 0, K.2.2.2.2.2.2.2.2.2.2.2.2.2.2.2.2.2.2.2.2.2.2.1, K.2.2.2.2.2.2.2.2.2.2.2.2.2.2.2.2.2.2.2.2.2.2.2.1, K.2.2.2.2.2.2.2.2.2.2.2.2.2.2.2.2.2.2.2.2.2.2.2.2.1, K.2.2.2.2.2.2.2.2.2.2.2.2.2.2.2.2.2.2.2.2.2.2.2.2.2.1, K.2.2.2.2.2.2.2.2.2.2.2.2.2.2.2.2.2.2.2.2.2.2.2.2.2.2.1, K.2.2.2.2.2.2.2.2.2.2.2.2.2.2.2.2.2.2.2.2.2.2.2.2.2.2.2.1, K.2.2.2.2.2.2.2.2.2.2.2.2.2.2.2.2.2.2.2.2.2.2.2.2.2.2.2.2.1, K.2.2.2.2.2.2.2.2.2.2.2.2.2.2.2.2.2.2.2.2.2.2.2.2.2.2.2.2.2.1, K.2.2.2.2.2.2.2.2.2.2.2.2.2.2.2.2.2.2.2.2.2.2.2.2.2.2.2.2.2.2.1, K.2.2.2.2.2.2.2.2.2.2.2.2.2.2.2.2.2.2.2.2.2.2.2.2.2.2.2.2.2.2.2.1, K.2.2.2.2.2.2.2.2.2.2.2.2.2.2.2.2.2.2.2.2.2.2.2.2.2.2.2.2.2.2.2.2.1, K.2.2.2.2.2.2.2.2.2.2.2.2.2.2.2.2.2.2.2.2.2.2.2.2.2.2.2.2.2.2.2.2.2) s := by
  obtain ⟨⟨nb, -⟩, -, H⟩ := h
  have hS : SUF T0.2.2.2.2.2.2.2.2.2.2.1 l.length 0 (l ++ []) := by
    rw [List.append_nil]
    refine ⟨Nat.zero_add _, fun i hi => ?_⟩
    rw [Nat.zero_add, hg i hi]
    unfold fdB
    rw [if_pos hi]
    refine nb _ ?_
    rw [List.getD_eq_getElem?_getD, List.getElem?_eq_getElem hi]
    exact List.getElem_mem hi
  obtain ⟨f, T, p, U, e, ef, hA, hp, hs, hG⟩ := H T0 T0.2.2.2.2.2.2.2.2.2.2.1 l.length [] ⟨zd, hk, rfl⟩ hl hS
  have e0 : skp T0.2.2.2.2.2.2.2.2.2.2.1 l.length l.length = l.length := rnE_end (Nat.le_refl _)
  obtain ⟨z1, z2⟩ := tok_z hA hp hl (hs.trans e0)
  obtain ⟨f, rfl⟩ : ∃ g, f = g + 1 := ⟨f - 1, by omega⟩
  have e2 : rdText T0 = .inr (adv T) := by rw [e, rdLoop, if_pos z1]
  clear e hA z1
  generalize adv T = T1 at e2 z2
  obtain ⟨⟨y1, y2, y3, y4⟩, y5, y6, y7, y8, y9, y10⟩ := z2
  obtain ⟨hC, hn, ho, hzU⟩ := hG
  obtain ⟨g1, g2, g3, g4, g5⟩ := ok
  subst y5
  refine ⟨⟨l.length, hl, hk⟩, T1, e2, ⟨y6 ▸ zh, hzU⟩, (geo_n hC.1).1.symm, ?_⟩
  exact LIV_mk ho (y7 ▸ g3) (fun i => by rw [y10]; exact g4 i) (fun i hi => by rw [y10]; exact g5 i hi) hzU (fun i hi => by rw [y10]; exact hz i hi) hC ha (y8.trans hO) hn y4
