/-! 72: where the ghost goes, whole; what the sensors report (pure) -/
section PU3
variable {T : HT} {s : Nat → Int32}
def SETB (se : Nat → Int32) : Prop := (∃ c, c ≤ 2 ∧ se 0 = nI c) ∧ (∃ c, 1 ≤ c ∧ c ≤ 9 ∧ se 1 = nI c) ∧ (∃ c, c ≤ 9 ∧ se 2 = nI c) ∧ (∃ c, 1 ≤ c ∧ c ≤ 9 ∧ se 3 = nI c) ∧ (∃ c, c ≤ 15 ∧ se 4 = nI c) ∧ (∃ c, c ≤ 999 ∧ se 5 = nI c)
theorem geo_drS (h : GEO T s) : GEO T (drS s) := by
  obtain ⟨⟨h1, h2, h3, h4⟩, h5, h6⟩ := h
  have u : ∀ i, i ≠ 4 → drS s i = s i := fun i hi => if_neg hi
  refine ⟨⟨(u 9 (by decide)).trans h1, (u 10 (by decide)).trans h2, h3, h4⟩, fun d hd => ?_, h6⟩
  obtain ⟨a, b, n, g1, g2, g3, g4, g5, g6, g7, g8, g9, g10⟩ := h5 d hd
  exact ⟨a, b, n, g1, g2, g3, g4, (u _ (by omega)).trans g5, (u _ (by omega)).trans g6, g7, (u _ (by omega)).trans g8, g9, (u _ (by omega)).trans g10⟩
theorem drN_T (h : GEO T s) {g : Nat} (hg : g < T.2.2.2.2.2.2.2.2.2.1) : drN s (nI g) = orF (nbF T.2.2.2.2.2.1 T.2.2.2.2.2.2.1 T.2.2.2.2.2.2.2.2.2.2.2.1 (nI g)) T.2.2.2.2.2.2.2.2.2.2.1 := by
  have hr := h.1.2.2.1
  unfold drN
  exact (nbS_eq (geo_drS h) (by omega)).symm
theorem drN_small (h : GEO T s) {g : Nat} (hg : g < T.2.2.2.2.2.2.2.2.2.1) : (∀ j, T.2.2.2.2.2.2.2.2.2.1 ≤ j → bt (drN s (nI g)) j = false) ∧ ∃ n, n < 4096 ∧ drN s (nI g) = nI n := by
  have hr := h.1.2.2.1
  have h1 : ∀ j, T.2.2.2.2.2.2.2.2.2.1 ≤ j → bt (drN s (nI g)) j = false := fun j hj => by
    rw [drN_T h hg]
    exact nb_big h (by omega) hj
  exact ⟨h1, small_of (m := 12) (by decide) fun j hj => h1 j (by omega)⟩
/-- the third mode -/
theorem rnd_T (h : GEO T s) {g : Nat} (hg : g < T.2.2.2.2.2.2.2.2.2.1) (h4 : ∃ c, c ≤ 15 ∧ s 4 = nI c) (e4 : T.2.2.2.2.2.2.2.2.1 4 = s 4) : rdS T.2.2.2.2.2.2.2.2.1 = drV s ∧ (∃ c, c ≤ 15 ∧ drV s = nI c) ∧ DRW s (nI g) ∧
    (∃ x, x < T.2.2.2.2.2.2.2.2.2.1 ∧ rdF T.2.2.2.2.2.2.2.2.2.1 T.2.2.2.2.2.2.2.2.1 (orF (nbF T.2.2.2.2.2.1 T.2.2.2.2.2.2.1 T.2.2.2.2.2.2.2.2.2.2.2.1 (nI g)) T.2.2.2.2.2.2.2.2.2.2.1) (nI g) = nI x ∧ (if drL s (nI g) = 0 then nI g else drG (drN s (nI g)) 12 0 (drL s (nI g))) = nI x) := by
  have hr := h.1.2.2.1
  obtain ⟨c, hc, ec⟩ := h4
  obtain ⟨k1, q, hq, k2⟩ := rd_rng c (by omega)
  have e1 : rdS T.2.2.2.2.2.2.2.2.1 = drV s := by unfold rdS drV; rw [e4, ec]; exact k1
  have e2 : drV s = nI q := by rw [← e1]; unfold rdS; rw [e4, ec]; exact k2
  obtain ⟨hb, n, hn, en⟩ := drN_small h hg
  have hs : sizF (drN s (nI g)) 12 = nI (fb_ct (bt (drN s (nI g))) 12) := sizF_ct _ 12 (by decide)
  have hw : fb_ct (bt (drN s (nI g))) 12 ≤ 12 := fb_ct_le _ _
  have hbc : bcF (drN s (nI g)) = nI (fb_ct (bt (drN s (nI g))) 12) := by rw [en, bc_siz hn, ← en, hs]
  have hcut : fb_ct (bt (drN s (nI g))) 12 = fb_ct (bt (drN s (nI g))) T.2.2.2.2.2.2.2.2.2.1 := by
    have := fb_ct_split (bt (drN s (nI g))) T.2.2.2.2.2.2.2.2.2.1 (12 - T.2.2.2.2.2.2.2.2.2.1)
    rw [show T.2.2.2.2.2.2.2.2.2.1 + (12 - T.2.2.2.2.2.2.2.2.2.1) = 12 by omega] at this
    have z : fb_ct (fun k => bt (drN s (nI g)) (T.2.2.2.2.2.2.2.2.2.1 + k)) (12 - T.2.2.2.2.2.2.2.2.2.1) = 0 := fb_ct_zero.mpr (fun k hk => hb _ (by omega))
    rw [this, z, Nat.add_zero]
  have eL : drL s (nI g) = drV s - drV s / (nI (fb_ct (bt (drN s (nI g))) 12) + 1) * (nI (fb_ct (bt (drN s (nI g))) 12) + 1) := by unfold drL; rw [hs]
  rw [← drN_T h hg]
  unfold DRW rdF
  rw [hbc, hs, e1, eL, e2]
  generalize hW : fb_ct (bt (drN s (nI g))) 12 = w at *
  obtain ⟨l, hl, el⟩ := rem_rng q hq w (by omega)
  rw [el]
  refine ⟨rfl, ⟨q, by omega, rfl⟩, ⟨?_, ?_⟩, ?_⟩
  · rw [nI_1]; exact nI_ne0 (by omega) (by omega)
  · intro hl0
    have hlp : 1 ≤ l := by
      apply Nat.pos_of_ne_zero
      intro e
      subst e
      exact hl0 rfl
    refine ⟨fun e => ?_, ?_⟩
    · have := (nI_leI (b := 0) (show l < 2 ^ 31 by omega) (by decide)).mp e
      omega
    · exact (drawn_eq (gh := nI g) hr hb T.2.2.2.2.2.2.2.2.2.1 0 l (by omega) hlp (by rw [← hcut]; show 0 + l ≤ w; omega) 12 rfl).2
  · by_cases c0 : l = 0
    · subst c0
      rw [if_pos (show nI 0 = 0 from rfl)]
      refine ⟨g, hg, ?_, rfl⟩
      split
      · cases hrc : T.2.2.2.2.2.2.2.2.2.1 with
        | zero => omega
        | succ m => rw [rdG, if_pos (by decide)]
      · rfl
    · have hw0 : (0 : Int32) < nI w := (nI_ltI (a := 0) (by decide) (by omega)).mpr (by omega)
      rw [if_pos hw0, if_neg (nI_ne0 (by omega) (by omega))]
      obtain ⟨⟨r, h1, h2, h3⟩, -⟩ := drawn_eq (gh := nI g) hr hb T.2.2.2.2.2.2.2.2.2.1 0 l (by omega) (by omega) (by rw [← hcut]; show 0 + l ≤ w; omega) 12 rfl
      exact ⟨r, h1, h2, h3⟩
theorem dst_T (h : GEO T s) {g : Nat} (hg : g < T.2.2.2.2.2.2.2.2.2.1) (egh : T.2.2.2.2.2.2.2.2.2.2.2.2.2.2.2.1 = nI g) (hco : ∀ k, k < T.2.2.2.2.2.2.2.2.2.1 → T.2.1 k = s (12 + 9 * k + 2)) (hse : ∀ i, i < 6 → T.2.2.2.2.2.2.2.2.1 i = s i) (hB : SETB T.2.2.2.2.2.2.2.2.1) :
    (∃ x, x < T.2.2.2.2.2.2.2.2.2.1 ∧ dst T = nI x ∧ dsM s (nI g) = nI x) ∧ DRW s (nI g) ∧ (∀ i, i < 6 → dsS T i = dsQ s i) ∧ (∀ i, 6 ≤ i → dsQ s i = s i ∧ dsS T i = T.2.2.2.2.2.2.2.2.1 i) ∧ SETB (dsS T) := by
  have h4 : ∃ c, c ≤ 15 ∧ s 4 = nI c := by rw [← hse 4 (by decide)]; exact hB.2.2.2.2.1
  obtain ⟨k1, k2, k3, x3, hx3, e3, e3'⟩ := rnd_T h hg h4 (hse 4 (by decide))
  obtain ⟨m, hm, em⟩ := hB.1
  have e0 : s 0 = nI m := (hse 0 (by decide)).symm.trans em
  have u1 : ∀ i, upd T.2.2.2.2.2.2.2.2.1 4 (rdS T.2.2.2.2.2.2.2.2.1) i = if i = 4 then rdS T.2.2.2.2.2.2.2.2.1 else T.2.2.2.2.2.2.2.2.1 i := fun _ => rfl
  have u2 : ∀ i, drS s i = if i = 4 then drV s else s i := fun _ => rfl
  refine ⟨?_, k3, ?_⟩
  · unfold dst dsM
    rw [em, e0, egh, (geo_n h).1]
    split
    · obtain ⟨e1, x, hx, e2⟩ := wrm_T h hg hco T.2.2.2.2.2.2.2.2.2.1 (Nat.le_refl _)
      exact ⟨x, hx, e1.trans e2, e2⟩
    · split
      · obtain ⟨e1, x, hx, e2⟩ := qui_qts h hg
        exact ⟨x, hx, e1.trans e2, e2⟩
      · exact ⟨x3, hx3, e3, e3'⟩
  · unfold dsS dsQ
    rw [em, e0]
    split
    · exact ⟨hse, fun i _ => ⟨rfl, rfl⟩, hB⟩
    · split
      · exact ⟨hse, fun i _ => ⟨rfl, rfl⟩, hB⟩
      · refine ⟨fun i hi => ?_, fun i hi => ?_, ?_⟩
        · rw [u1, u2]
          split
          · exact k1
          · exact hse i hi
        · rw [u1, u2, if_neg (by omega), if_neg (by omega)]
          exact ⟨rfl, rfl⟩
        · obtain ⟨b0, b1, b2, b3, b4, b5⟩ := hB
          unfold SETB
          rw [u1, u1, u1, u1, u1, u1]
          exact ⟨b0, b1, b2, b3, by rw [if_pos rfl, k1]; exact k2, b5⟩
-- sensors
theorem frst_le {p q : Nat → Bool} {n m : Nat} (hnm : n ≤ m) (h : ∀ k, k < n → p k = q k) (h2 : ∀ k, n ≤ k → k < m → p k = false) : frst m p = frst n q := by
  rcases frst_cases q n with ⟨e, h1⟩ | ⟨i, hi, e, h1, h3⟩
  · rw [e]
    refine frst_no fun k hk => ?_
    by_cases c : k < n
    · rw [h k c]; exact h1 k c
    · exact h2 k (by omega) hk
  · rw [e]
    refine frst_at (by omega) (by rw [h i hi]; exact h1) fun k hk => ?_
    rw [h k (by omega)]
    exact h3 k hk
theorem low_frst {x : Int32} {p : Nat → Bool} {n : Nat} (hn : n ≤ 24) (h : ∀ k, k < n → bt x k = p k) (h2 : ∀ k, n ≤ k → bt x k = false) : low x = frst n p := by
  unfold low
  exact frst_le hn (fun k hk => by rw [ctn_k (by omega)]; exact h k hk) fun k hk hk2 => by rw [ctn_k hk2]; exact h2 k hk
theorem zero_frst {x : Int32} {p : Nat → Bool} {n : Nat} (hn : n ≤ 24) (h : ∀ k, k < n → bt x k = p k) (h2 : ∀ k, n ≤ k → bt x k = false) : x = 0 ↔ frst n p = -1 := by
  rw [z_bits]
  constructor
  · intro hz
    refine frst_no fun k hk => ?_
    rw [← h k hk]
    exact hz k (by omega)
  · intro e i hi
    by_cases c : i < n
    · rcases frst_cases p n with ⟨-, h1⟩ | ⟨j, hj, e2, -⟩
      · rw [h i c]; exact h1 i c
      · rw [e] at e2
        exact absurd e2.symm (nI_m1 (by omega))
    · exact h2 i (by omega)
theorem bt_reF (co : Nat → Int32) (th : Int32) : ∀ n, n ≤ 24 → ∀ j, j < 32 → bt (reF co th n) j = (bt th j && !(decide (j < n) && decide (¬ co j < 99))) := by
  intro n
  induction n with
  | zero => intro _ j _; simp [reF]
  | succ n ih =>
    intro hn j hj
    rw [reF]
    by_cases c : co n < 99
    · rw [if_pos c, ih (by omega) j hj]
      by_cases e : j = n
      · subst e; simp [c]
      · rw [show decide (j < n + 1) = decide (j < n) from decide_eq_decide.mpr (by omega)]
    · rw [if_neg c, b_and, ih (by omega) j hj]
      have : bt (~~~ cbit (nI n)) j = !decide (n = j) := by
        unfold bt
        rw [Int32.toBitVec_not, BitVec.getLsbD_not]
        have := bt_cbit (k := n) (by omega) j
        unfold bt at this
        rw [this]
        simp [hj]
      rw [this]
      by_cases e : n = j
      · subst e; simp [c]
      · rw [show decide (j < n + 1) = decide (j < n) from decide_eq_decide.mpr (by omega)]
        simp [e]
end PU3
