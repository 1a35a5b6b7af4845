/-! j1: the class's reader, led along a text: tokens -/
section TX
variable {B : Nat → Int32} {n p s : Nat} {T0 T : KT} {U : HT}
def NB (l : List Int32) : Prop := ∀ x ∈ l, x &&& 255 = x
theorem NB_ap {a b : List Int32} (ha : NB a) (hb : NB b) : NB (a ++ b) := fun x hx => (List.mem_append.mp hx).elim (ha x) (hb x)
theorem NB_c {k : Nat} (hk : k < 12) : NB [nI (97 + k)] := fun x hx => by
  rw [List.mem_singleton.mp hx]
  exact (c_97 k hk).2
theorem NB_tx : ∀ k, k < 52 → 14 ≤ k → ∀ x ∈ txL k, x &&& 255 = x := by decide +kernel
theorem NB_d : ∀ v, v < 100 → ∀ x ∈ decL v, x &&& 255 = x := by decide +kernel
def SUF (B : Nat → Int32) (n p : Nat) (r : List Int32) : Prop := p + r.length = n ∧ ∀ i, i < r.length → B (p + i) = r.getD i 0
theorem SUF_tl {x : Int32} {r : List Int32} (h : SUF B n p (x :: r)) : B p = x ∧ p < n ∧ SUF B n (p + 1) r := by
  obtain ⟨h1, h2⟩ := h
  rw [List.length_cons] at h1
  refine ⟨h2 0 (Nat.succ_pos _), by omega, by omega, fun i hi => ?_⟩
  have := h2 (i + 1) (by rw [List.length_cons]; omega)
  rw [show p + 1 + i = p + (i + 1) by omega]
  exact this
theorem SUF_ap {a : List Int32} : ∀ {p : Nat} {r : List Int32}, SUF B n p (a ++ r) → (∀ i, i < a.length → B (p + i) = a.getD i 0) ∧ SUF B n (p + a.length) r := by
  induction a with
  | nil => exact fun h => ⟨fun i hi => absurd hi (Nat.not_lt_zero i), h⟩
  | cons x a ih =>
    intro p r h
    obtain ⟨h1, h2, h3⟩ := SUF_tl (show SUF B n p (x :: (a ++ r)) from h)
    obtain ⟨h4, h5⟩ := ih h3
    refine ⟨fun i hi => ?_, by rw [List.length_cons, show p + (a.length + 1) = p + 1 + a.length by omega]; exact h5⟩
    cases i with
    | zero => exact h1
    | succ i =>
      rw [show p + (i + 1) = p + 1 + i by omega]
      exact h4 i (by rw [List.length_cons] at hi; omega)
theorem SUF_le {r : List Int32} (h : SUF B n p r) : p ≤ n := by have := h.1; omega
theorem sk_no {x : Int32} {r : List Int32} (h : SUF B n p (x :: r)) (hx : isBl x = false) : skp B n p = p := rnE_no (by show isBl (B p) = false; rw [(SUF_tl h).1]; exact hx)
theorem sk_bl {x : Int32} {r : List Int32} (h : SUF B n p (x :: r)) (hx : isBl x = true) : skp B n p = skp B n (p + 1) := rnE_yes (SUF_tl h).2.1 (by show isBl (B p) = true; rw [(SUF_tl h).1]; exact hx)
theorem sk_nil (h : SUF B n p []) : skp B n p = p := rnE_end (by have := h.1; rw [List.length_nil] at this; omega)
theorem sk_1 {x : Int32} {r : List Int32} (h : SUF B n p (32 :: x :: r)) (hx : isBl x = false) : skp B n p = p + 1 ∧ SUF B n (p + 1) (x :: r) := by
  have h2 := (SUF_tl h).2.2
  exact ⟨(sk_bl h (by decide)).trans (sk_no h2 hx), h2⟩
/-- the reader stands at p, the draft is U, all else is as in T0 -/
def ATP (T0 : KT) (B : Nat → Int32) (n p : Nat) (U : HT) (T : KT) : Prop := (T.2.2.2.2.2.2.2.2.2.2.1 = B ∧ T.2.2.2.2.2.2.2.2.2.2.2.1 = nI n ∧ T.2.2.2.2.2.2.2.2.2.2.2.2.1 = nI p ∧ T.2.2.2.2.2.2.2.2.2.1 = 0) ∧ T.2.2.2.1 = U ∧ (T.2.2.1 = T0.2.2.1 ∧ T.2.2.2.2.2.2.2.2.2.2.2.2.2.2.2.2.2.2.2.1 = T0.2.2.2.2.2.2.2.2.2.2.2.2.2.2.2.2.2.2.2.1 ∧ T.2.2.2.2.2.2.2.2.2.2.2.2.2.2.2.2.2.2.2.2.1 = T0.2.2.2.2.2.2.2.2.2.2.2.2.2.2.2.2.2.2.2.2.1 ∧ T.2.2.2.2.2.2.2.2.2.2.2.2.2.2.2.2.2.2.2.2.2.1 = T0.2.2.2.2.2.2.2.2.2.2.2.2.2.2.2.2.2.2.2.2.2.1 ∧ T.2.2.2.2.2.2.2.2.2.2.2.2.2.2.2.2.2.2.2.2.2.2.1 = T0.2.2.2.2.2.2.2.2.2.2.2.2.2.2.2.2.2.2.2.2.2.2.1)
theorem ATP_dr {V : HT} (h : ATP T0 B n p U T) : ATP T0 B n p V (drT T V) := ⟨h.1, rfl, h.2.2⟩
theorem ATP_adv (h : ATP T0 B n p U T) (hp : p ≤ n) (hn : n ≤ 600) (hs : skp B n p = s) : (adv T).2.2.2.2.2.2.2.2.2.2.2.2.2.2.1 = tkK B n s ∧ (adv T).2.2.2.2.2.2.2.2.2.2.2.2.2.2.2.1 = tkW T.2.2.2.2.2.2.2.2.2.2.2.2.2.2.2.1 B n s ∧ (adv T).2.2.2.2.2.2.2.2.2.2.2.2.2.2.2.2.1 = tkN T.2.2.2.2.2.2.2.2.2.2.2.2.2.2.2.2.1 B n s ∧ ATP T0 B n (tkE B n s) U (adv T) := by
  obtain ⟨⟨rfl, h2, h3, h4⟩, h5, h6⟩ := h
  have e : adv T = advT T n p := (adv_at ⟨hp, hn, h3, h2⟩).symm
  rw [e]
  unfold advT
  rw [hs]
  exact ⟨rfl, rfl, rfl, ⟨rfl, h2, rfl, h4⟩, h5, h6⟩
theorem w8_eq {w : List Int32} (h : ∀ i, i < w.length → B (s + i) = w.getD i 0) : ∀ k, k ≤ w.length → w8 B s k = w8 (fun i => w.getD i 0) 0 k := by
  intro k
  induction k with
  | zero => exact fun _ => rfl
  | succ k ih =>
    intro hk
    rw [w8, w8, ih (by omega), h k (by omega), Nat.zero_add]
theorem n10_eq {w : List Int32} (h : ∀ i, i < w.length → B (s + i) = w.getD i 0) : ∀ k, k ≤ w.length → n10 B s k = n10 (fun i => w.getD i 0) 0 k := by
  intro k
  induction k with
  | zero => exact fun _ => rfl
  | succ k ih =>
    intro hk
    rw [n10, n10, ih (by omega), h k (by omega), Nat.zero_add]
def wdV (w : List Int32) : Int64 := w8 (fun i => w.getD i 0) 0 w.length
theorem tok_w {w r : List Int32} {c : Int32} (h : ATP T0 B n p U T) (hp : p ≤ n) (hn : n ≤ 600) (hs : skp B n p = s) (hS : SUF B n s (w ++ c :: r)) (hw : 0 < w.length ∧ w.length ≤ 8 ∧ ∀ i, i < w.length → isLet (w.getD i 0) = true) (hc : isLet c = false) :
    (adv T).2.2.2.2.2.2.2.2.2.2.2.2.2.2.1 = 1 ∧ (adv T).2.2.2.2.2.2.2.2.2.2.2.2.2.2.2.1 = wdV w ∧ ATP T0 B n (s + w.length) U (adv T) ∧ SUF B n (s + w.length) (c :: r) := by
  obtain ⟨h1, h2, -, h4⟩ := ATP_adv h hp hn hs
  obtain ⟨a1, a2⟩ := SUF_ap hS
  obtain ⟨w1, w2, w3⟩ := hw
  obtain ⟨c1, c2, -⟩ := SUF_tl a2
  have hl : isLet (B s) = true := by
    have := a1 0 w1
    rw [Nat.add_zero] at this
    rw [this]
    exact w3 0 w1
  have hE : wdE B n s = s + w.length := rn_at (P := fun i => isLet (B i)) (by omega) (by omega) (fun i i1 i2 => by
    have := a1 (i - s) (by omega)
    rw [show s + (i - s) = i by omega] at this
    show isLet (B i) = true
    rw [this]
    exact w3 _ (by omega)) (Or.inr (by show isLet (B (s + w.length)) = false; rw [c1]; exact hc))
  have hns : ¬ n ≤ s := by omega
  refine ⟨?_, ?_, ?_, a2⟩
  · rw [h1]
    unfold tkK wdK
    rw [if_neg hns, if_pos hl, hE, if_pos (by omega)]
  · rw [h2]
    unfold tkW wdV
    rw [if_neg hns, if_pos hl, hE, show s + w.length - s = w.length by omega]
    exact w8_eq a1 _ (Nat.le_refl _)
  · have e : tkE B n s = s + w.length := by
      unfold tkE
      rw [if_neg hns, if_pos hl, hE]
    rw [← e]
    exact h4
theorem tok_n {w r : List Int32} {c : Int32} (h : ATP T0 B n p U T) (hp : p ≤ n) (hn : n ≤ 600) (hs : skp B n p = s) (hS : SUF B n s (w ++ c :: r)) (hw : 0 < w.length ∧ w.length ≤ 4 ∧ isLet (w.getD 0 0) = false ∧ ∀ i, i < w.length → isDig (w.getD i 0) = true) (hc : isDig c = false) :
    (adv T).2.2.2.2.2.2.2.2.2.2.2.2.2.2.1 = 2 ∧ (adv T).2.2.2.2.2.2.2.2.2.2.2.2.2.2.2.2.1 = n10 (fun i => w.getD i 0) 0 w.length ∧ ATP T0 B n (s + w.length) U (adv T) ∧ SUF B n (s + w.length) (c :: r) := by
  obtain ⟨h1, -, h3, h4⟩ := ATP_adv h hp hn hs
  obtain ⟨a1, a2⟩ := SUF_ap hS
  obtain ⟨w1, w2, w0, w3⟩ := hw
  obtain ⟨c1, c2, -⟩ := SUF_tl a2
  have hb := a1 0 w1
  rw [Nat.add_zero] at hb
  have hl : ¬ isLet (B s) = true := by rw [hb, w0]; decide
  have hd : isDig (B s) = true := by rw [hb]; exact w3 0 w1
  have hE : dgE B n s = s + w.length := rn_at (P := fun i => isDig (B i)) (by omega) (by omega) (fun i i1 i2 => by
    have := a1 (i - s) (by omega)
    rw [show s + (i - s) = i by omega] at this
    show isDig (B i) = true
    rw [this]
    exact w3 _ (by omega)) (Or.inr (by show isDig (B (s + w.length)) = false; rw [c1]; exact hc))
  have hns : ¬ n ≤ s := by omega
  refine ⟨?_, ?_, ?_, a2⟩
  · rw [h1]
    unfold tkK dgK
    rw [if_neg hns, if_neg hl, if_pos hd, hE, if_pos (by omega)]
  · rw [h3]
    unfold tkN
    rw [if_neg hns, if_neg hl, if_pos hd, hE, show s + w.length - s = w.length by omega]
    exact n10_eq a1 _ (Nat.le_refl _)
  · have e : tkE B n s = s + w.length := by
      unfold tkE
      rw [if_neg hns, if_neg hl, if_pos hd, hE]
    rw [← e]
    exact h4
theorem tok_s {r : List Int32} (h : ATP T0 B n p U T) (hp : p ≤ n) (hn : n ≤ 600) (hs : skp B n p = s) (hS : SUF B n s (59 :: r)) : (adv T).2.2.2.2.2.2.2.2.2.2.2.2.2.2.1 = 59 ∧ ATP T0 B n (s + 1) U (adv T) ∧ SUF B n (s + 1) r := by
  obtain ⟨h1, -, -, h4⟩ := ATP_adv h hp hn hs
  obtain ⟨a1, a2, a3⟩ := SUF_tl hS
  have hns : ¬ n ≤ s := by omega
  have l0 : ¬ isLet 59 = true := by decide
  have d0 : ¬ isDig 59 = true := by decide
  refine ⟨?_, ?_, a3⟩
  · rw [h1]
    unfold tkK
    rw [if_neg hns, a1, if_neg l0, if_neg d0, if_pos rfl]
  · have e : tkE B n s = s + 1 := by
      unfold tkE
      rw [if_neg hns, a1, if_neg l0, if_neg d0]
    rw [← e]
    exact h4
theorem tok_z (h : ATP T0 B n p U T) (hp : p ≤ n) (hn : n ≤ 600) (hs : skp B n p = n) : (adv T).2.2.2.2.2.2.2.2.2.2.2.2.2.2.1 = 0 ∧ ATP T0 B n n U (adv T) := by
  obtain ⟨h1, -, -, h4⟩ := ATP_adv h hp hn hs
  refine ⟨?_, ?_⟩
  · rw [h1]
    unfold tkK
    rw [if_pos (Nat.le_refl _)]
  · have e : tkE B n n = n := by
      unfold tkE
      rw [if_pos (Nat.le_refl _)]
    rw [e] at h4
    exact h4
/-- a statement's end: ';' or ' ;' and a new line -/
theorem tok_e {te : Nat} {r : List Int32} (ht : te = 22 ∨ te = 25) (h : ATP T0 B n p U T) (hn : n ≤ 600) (hS : SUF B n p (txL te ++ r)) : (adv T).2.2.2.2.2.2.2.2.2.2.2.2.2.2.1 = 59 ∧ ∃ q, ATP T0 B n q U (adv T) ∧ q ≤ p + (txL te).length ∧ skp B n q = skp B n (p + (txL te).length) ∧ SUF B n (p + (txL te).length) r := by
  have hp := SUF_le hS
  rcases ht with rfl | rfl
  · rw [tx_22] at hS ⊢
    have hS : SUF B n p (59 :: r) := hS
    obtain ⟨t1, t2, t3⟩ := tok_s h hp hn (sk_no hS (by decide)) hS
    exact ⟨t1, p + 1, t2, Nat.le_refl _, rfl, t3⟩
  · rw [tx_25] at hS ⊢
    have hS : SUF B n p (32 :: 59 :: 10 :: r) := hS
    obtain ⟨e1, e2⟩ := sk_1 hS (by decide)
    obtain ⟨t1, t2, t3⟩ := tok_s h hp hn e1 e2
    have e3 := sk_bl t3 (by decide)
    exact ⟨t1, p + 1 + 1, t2, by show p + 1 + 1 ≤ p + 3; omega, e3, (SUF_tl t3).2.2⟩
theorem te_hd {te : Nat} (ht : te = 22 ∨ te = 25) : ∃ c t, txL te = c :: t ∧ isLet c = false ∧ isDig c = false := by
  rcases ht with rfl | rfl
  · exact ⟨59, [], tx_22, by decide, by decide⟩
  · exact ⟨32, [59, 10], tx_25, by decide, by decide⟩
theorem dec_at : ∀ v, v < 100 → (0 < (decL v).length ∧ (decL v).length ≤ 4 ∧ isLet ((decL v).getD 0 0) = false ∧ ∀ i, i < (decL v).length → isDig ((decL v).getD i 0) = true) ∧ n10 (fun i => (decL v).getD i 0) 0 (decL v).length = nI v ∧ isBl ((decL v).getD 0 0) = false := by decide +kernel
theorem dec_hd {v : Nat} (hv : v < 100) : ∃ c t, decL v = c :: t ∧ isBl c = false := by
  have := (dec_at v hv).2.2
  cases e : decL v with
  | nil =>
    have h := (dec_at v hv).1.1
    rw [e] at h
    exact absurd h (Nat.not_lt_zero _)
  | cons c t => rw [e] at this; exact ⟨c, t, rfl, this⟩
/-- ' ' and a number -/
theorem tok_d {v : Nat} {r : List Int32} {c : Int32} (hv : v < 100) (h : ATP T0 B n p U T) (hn : n ≤ 600) (hS : SUF B n p (32 :: (decL v ++ c :: r))) (hc : isDig c = false) :
    (adv T).2.2.2.2.2.2.2.2.2.2.2.2.2.2.1 = 2 ∧ (adv T).2.2.2.2.2.2.2.2.2.2.2.2.2.2.2.2.1 = nI v ∧ ATP T0 B n (p + 1 + (decL v).length) U (adv T) ∧ SUF B n (p + 1 + (decL v).length) (c :: r) := by
  obtain ⟨x, t, e, hx⟩ := dec_hd hv
  have hp := SUF_le hS
  obtain ⟨d1, d2, -⟩ := dec_at v hv
  have hS2 : SUF B n p (32 :: x :: (t ++ c :: r)) := by rw [e] at hS; exact hS
  obtain ⟨e1, -⟩ := sk_1 hS2 hx
  obtain ⟨t1, t2, t3, t4⟩ := tok_n h hp hn e1 (SUF_tl hS).2.2 d1 hc
  exact ⟨t1, t2.trans d2, t3, t4⟩
theorem isW_v {v : Int64} (h1 : T.2.2.2.2.2.2.2.2.2.2.2.2.2.2.1 = 1) (h2 : T.2.2.2.2.2.2.2.2.2.2.2.2.2.2.2.1 = v) (k : Nat) : isW T k = decide (v = pkT k (txL k).length) := by
  unfold isW
  rw [h1, h2]
  rfl
end TX
