/-! 85: what a change of the house does to both -/
theorem nmS_cong {s t : Nat → Int32} {k : Nat} (h0 : t (12 + 9 * k) = s (12 + 9 * k)) (h1 : t (12 + 9 * k + 1) = s (12 + 9 * k + 1)) : nmS t k = nmS s k := by
  unfold nmS; rw [h0, h1]
theorem rmc_same {T U : HT} {s t : Nat → Int32} {k : Nat} (h : RMC T s k) (ht : ∀ i, 12 + 9 * k ≤ i → i < 12 + 9 * k + 9 → t i = s i) (e1 : U.2.1 k = T.2.1 k) (e2 : bt U.2.2.2.2.2.2.2.2.2.2.2.2.1 k = bt T.2.2.2.2.2.2.2.2.2.2.2.2.1 k) (e3 : bt U.2.2.2.2.2.2.2.2.2.2.2.2.2.1 k = bt T.2.2.2.2.2.2.2.2.2.2.2.2.2.1 k) (e4 : bt U.2.2.2.2.2.2.2.2.2.2.2.2.2.2.1 k = bt T.2.2.2.2.2.2.2.2.2.2.2.2.2.2.1 k) (e5 : U.2.2.1 k = T.2.2.1 k) (e6 : U.2.2.2.1 k = T.2.2.2.1 k) (e7 : U.2.2.2.2.1 k = T.2.2.2.2.1 k) (e8 : U.1 k = T.1 k) : RMC U t k := by
  obtain ⟨a1, a2, a3, a4, a5, a6, a7, a8, a9⟩ := h
  refine ⟨?_, ?_, ?_, ?_, ?_, ?_, ?_, ?_, ?_⟩
  · rw [e1, ht _ (by omega) (by omega)]; exact a1
  · rw [e1]; exact a2
  · rw [e2, ht _ (by omega) (by omega)]; exact a3
  · rw [e3, ht _ (by omega) (by omega)]; exact a4
  · rw [e4, ht _ (by omega) (by omega)]; exact a5
  · rw [e5, ht _ (by omega) (by omega)]; exact a6
  · rw [e6, ht _ (by omega) (by omega)]; exact a7
  · rw [e7, ht _ (by omega) (by omega)]; exact a8
  · rw [e8, nmS_cong (ht _ (by omega) (by omega)) (ht _ (by omega) (by omega))]; exact a9
theorem b_not {x : Int32} {j : Nat} (hj : j < 32) : bt (~~~x) j = !bt x j := by
  unfold bt
  rw [Int32.toBitVec_not, BitVec.getLsbD_not]
  simp [hj]
theorem bt_32 {x : Int32} {j : Nat} (hj : 32 ≤ j) : bt x j = false := by
  unfold bt
  exact BitVec.getLsbD_of_ge _ _ hj
theorem bt_or_k {x : Int32} {k : Nat} (hk : k < 24) (j : Nat) : bt (x ||| cbit (nI k)) j = if j = k then true else bt x j := by
  rw [b_or, bt_cbit hk]
  by_cases e : j = k
  · subst e; simp
  · rw [if_neg e, decide_eq_false (fun x => e x.symm), Bool.or_false]
theorem bt_xor_k {x : Int32} {k : Nat} (hk : k < 24) (j : Nat) : bt (x ^^^ cbit (nI k)) j = if j = k then !bt x k else bt x j := by
  rw [b_xor, bt_cbit hk]
  by_cases e : j = k
  · subst e; simp
  · rw [if_neg e, decide_eq_false (fun x => e x.symm)]; simp
theorem bt_an_k {x : Int32} {k : Nat} (hk : k < 24) (j : Nat) : bt (x &&& ~~~ cbit (nI k)) j = if j = k then false else bt x j := by
  rw [b_and]
  by_cases hj : j < 32
  · rw [b_not hj, bt_cbit hk]
    by_cases e : j = k
    · subst e; simp
    · rw [if_neg e, decide_eq_false (fun x => e x.symm)]; simp
  · rw [bt_32 (by omega), Bool.false_and]
    split
    · rfl
    · rfl
theorem CPL_th {T : HT} {s : Nat → Int32} {k : Nat} {w : Int32} {c : Bool} (h : CPL T s) (hk : k < T.2.2.2.2.2.2.2.2.2.1) (hw : ∀ j, bt w j = if j = k then c else bt T.2.2.2.2.2.2.2.2.2.2.2.2.1 j) : CPL (T.1, T.2.1, T.2.2.1, T.2.2.2.1, T.2.2.2.2.1, T.2.2.2.2.2.1, T.2.2.2.2.2.2.1, T.2.2.2.2.2.2.2.1, T.2.2.2.2.2.2.2.2.1, T.2.2.2.2.2.2.2.2.2.1, T.2.2.2.2.2.2.2.2.2.2.1, T.2.2.2.2.2.2.2.2.2.2.2.1, w, T.2.2.2.2.2.2.2.2.2.2.2.2.2.1, T.2.2.2.2.2.2.2.2.2.2.2.2.2.2.1, T.2.2.2.2.2.2.2.2.2.2.2.2.2.2.2.1, T.2.2.2.2.2.2.2.2.2.2.2.2.2.2.2.2.1, T.2.2.2.2.2.2.2.2.2.2.2.2.2.2.2.2.2.1, T.2.2.2.2.2.2.2.2.2.2.2.2.2.2.2.2.2.2) (upd s (12 + 9 * k + 3) (tI c)) := by
  obtain ⟨hG, hse, ⟨hcs, hnn, hgm⟩, hgh, hrm, ⟨hmk, hmd⟩, hset⟩ := h
  have hrc := hG.1.2.2.1
  have hdc := hG.1.2.2.2
  have u : ∀ j, j ≠ 12 + 9 * k + 3 → upd s (12 + 9 * k + 3) (tI c) j = s j := fun j hj => if_neg hj
  refine ⟨geo_upd hG (by omega) (by omega) (by omega), fun i hi => (hse i hi).trans (u i (by omega)).symm, ⟨hcs.trans (u 6 (by omega)).symm, hnn.trans (u 7 (by omega)).symm, hgm.trans (u 8 (by omega)).symm⟩, ⟨fun e => ?_, fun e => ?_⟩, fun j hj => ?_, ⟨fun j hj => ?_, hmd⟩, hset⟩
  · rw [u 11 (by omega)]; exact hgh.1 e
  · rw [u 11 (by omega)]; exact hgh.2 e
  · by_cases e : j = k
    · subst e
      obtain ⟨a1, a2, a3, a4, a5, a6, a7, a8, a9⟩ := hrm j hj
      refine ⟨?_, a2, ?_, ?_, ?_, ?_, ?_, ?_, ?_⟩
      · rw [u _ (by omega)]; exact a1
      · show _ = tI (bt w j)
        rw [hw, if_pos rfl]; exact if_pos rfl
      · rw [u _ (by omega)]; exact a4
      · rw [u _ (by omega)]; exact a5
      · rw [u _ (by omega)]; exact a6
      · rw [u _ (by omega)]; exact a7
      · rw [u _ (by omega)]; exact a8
      · rw [nmS_cong (u _ (by omega)) (u _ (by omega))]; exact a9
    · refine rmc_same (hrm j hj) (fun i h1 h2 => u i (by omega)) rfl (by show bt w j = _; rw [hw, if_neg e]) rfl rfl rfl rfl rfl rfl
  · obtain ⟨m1, m2, m3⟩ := hmk j hj
    refine ⟨(by show bt w j = false; rw [hw, if_neg (by have : T.2.2.2.2.2.2.2.2.2.1 ≤ j := hj; omega)]; exact m1), m2, m3⟩
theorem CPL_mi {T : HT} {s : Nat → Int32} {k : Nat} {w : Int32} {c : Bool} (h : CPL T s) (hk : k < T.2.2.2.2.2.2.2.2.2.1) (hw : ∀ j, bt w j = if j = k then c else bt T.2.2.2.2.2.2.2.2.2.2.2.2.2.1 j) : CPL (T.1, T.2.1, T.2.2.1, T.2.2.2.1, T.2.2.2.2.1, T.2.2.2.2.2.1, T.2.2.2.2.2.2.1, T.2.2.2.2.2.2.2.1, T.2.2.2.2.2.2.2.2.1, T.2.2.2.2.2.2.2.2.2.1, T.2.2.2.2.2.2.2.2.2.2.1, T.2.2.2.2.2.2.2.2.2.2.2.1, T.2.2.2.2.2.2.2.2.2.2.2.2.1, w, T.2.2.2.2.2.2.2.2.2.2.2.2.2.2.1, T.2.2.2.2.2.2.2.2.2.2.2.2.2.2.2.1, T.2.2.2.2.2.2.2.2.2.2.2.2.2.2.2.2.1, T.2.2.2.2.2.2.2.2.2.2.2.2.2.2.2.2.2.1, T.2.2.2.2.2.2.2.2.2.2.2.2.2.2.2.2.2.2) (upd s (12 + 9 * k + 4) (tI c)) := by
  obtain ⟨hG, hse, ⟨hcs, hnn, hgm⟩, hgh, hrm, ⟨hmk, hmd⟩, hset⟩ := h
  have hrc := hG.1.2.2.1
  have hdc := hG.1.2.2.2
  have u : ∀ j, j ≠ 12 + 9 * k + 4 → upd s (12 + 9 * k + 4) (tI c) j = s j := fun j hj => if_neg hj
  refine ⟨geo_upd hG (by omega) (by omega) (by omega), fun i hi => (hse i hi).trans (u i (by omega)).symm, ⟨hcs.trans (u 6 (by omega)).symm, hnn.trans (u 7 (by omega)).symm, hgm.trans (u 8 (by omega)).symm⟩, ⟨fun e => ?_, fun e => ?_⟩, fun j hj => ?_, ⟨fun j hj => ?_, hmd⟩, hset⟩
  · rw [u 11 (by omega)]; exact hgh.1 e
  · rw [u 11 (by omega)]; exact hgh.2 e
  · by_cases e : j = k
    · subst e
      obtain ⟨a1, a2, a3, a4, a5, a6, a7, a8, a9⟩ := hrm j hj
      refine ⟨?_, a2, ?_, ?_, ?_, ?_, ?_, ?_, ?_⟩
      · rw [u _ (by omega)]; exact a1
      · rw [u _ (by omega)]; exact a3
      · show _ = tI (bt w j)
        rw [hw, if_pos rfl]; exact if_pos rfl
      · rw [u _ (by omega)]; exact a5
      · rw [u _ (by omega)]; exact a6
      · rw [u _ (by omega)]; exact a7
      · rw [u _ (by omega)]; exact a8
      · rw [nmS_cong (u _ (by omega)) (u _ (by omega))]; exact a9
    · refine rmc_same (hrm j hj) (fun i h1 h2 => u i (by omega)) rfl rfl (by show bt w j = _; rw [hw, if_neg e]) rfl rfl rfl rfl rfl
  · obtain ⟨m1, m2, m3⟩ := hmk j hj
    refine ⟨m1, (by show bt w j = false; rw [hw, if_neg (by have : T.2.2.2.2.2.2.2.2.2.1 ≤ j := hj; omega)]; exact m2), m3⟩
theorem CPL_od {T : HT} {s : Nat → Int32} {d : Nat} {w : Int32} {c : Bool} (h : CPL T s) (hd : d < T.2.2.2.2.2.2.2.2.2.2.1) (hw : ∀ j, bt w j = if j = d then c else bt T.2.2.2.2.2.2.2.2.2.2.2.1 j) : CPL (T.1, T.2.1, T.2.2.1, T.2.2.2.1, T.2.2.2.2.1, T.2.2.2.2.2.1, T.2.2.2.2.2.2.1, T.2.2.2.2.2.2.2.1, T.2.2.2.2.2.2.2.2.1, T.2.2.2.2.2.2.2.2.2.1, T.2.2.2.2.2.2.2.2.2.2.1, w, T.2.2.2.2.2.2.2.2.2.2.2.2.1, T.2.2.2.2.2.2.2.2.2.2.2.2.2.1, T.2.2.2.2.2.2.2.2.2.2.2.2.2.2.1, T.2.2.2.2.2.2.2.2.2.2.2.2.2.2.2.1, T.2.2.2.2.2.2.2.2.2.2.2.2.2.2.2.2.1, T.2.2.2.2.2.2.2.2.2.2.2.2.2.2.2.2.2.1, T.2.2.2.2.2.2.2.2.2.2.2.2.2.2.2.2.2.2) (upd s (120 + 4 * d + 3) (tI c)) := by
  obtain ⟨hG, hse, ⟨hcs, hnn, hgm⟩, hgh, hrm, ⟨hmk, hmd⟩, hset⟩ := h
  have hrc := hG.1.2.2.1
  have hdc := hG.1.2.2.2
  have u : ∀ j, j ≠ 120 + 4 * d + 3 → upd s (120 + 4 * d + 3) (tI c) j = s j := fun j hj => if_neg hj
  obtain ⟨⟨g1, g2, g3, g4⟩, g5, g6⟩ := hG
  refine ⟨⟨⟨(u 9 (by omega)).trans g1, (u 10 (by omega)).trans g2, g3, g4⟩, fun e he => ?_, g6⟩, fun i hi => (hse i hi).trans (u i (by omega)).symm, ⟨hcs.trans (u 6 (by omega)).symm, hnn.trans (u 7 (by omega)).symm, hgm.trans (u 8 (by omega)).symm⟩, ⟨fun e => ?_, fun e => ?_⟩, fun j hj => ?_, ⟨hmk, fun j hj => ?_⟩, hset⟩
  · obtain ⟨a, b, n, y1, y2, y3, y4, y5, y6, y7, y8, y9, y10⟩ := g5 e he
    refine ⟨a, b, n, y1, y2, y3, y4, (u _ (by omega)).trans y5, (u _ (by omega)).trans y6, y7, (u _ (by omega)).trans y8, y9, ?_⟩
    show _ = tI (bt w e)
    rw [hw]
    by_cases x : e = d
    · subst x; rw [if_pos rfl]; exact if_pos rfl
    · rw [if_neg x, u _ (by omega)]; exact y10
  · rw [u 11 (by omega)]; exact hgh.1 e
  · rw [u 11 (by omega)]; exact hgh.2 e
  · have : j < T.2.2.2.2.2.2.2.2.2.1 := hj
    exact rmc_same (hrm j hj) (fun i h1 h2 => u i (by omega)) rfl rfl rfl rfl rfl rfl rfl rfl
  · show bt w j = false
    rw [hw, if_neg (by have : T.2.2.2.2.2.2.2.2.2.2.1 ≤ j := hj; omega)]; exact hmd j hj
theorem CPL_se {T : HT} {s : Nat → Int32} {x : Nat} {v : Int32} (h : CPL T s) (hx : x < 6) (hB : SETB (upd T.2.2.2.2.2.2.2.2.1 x v)) : CPL (T.1, T.2.1, T.2.2.1, T.2.2.2.1, T.2.2.2.2.1, T.2.2.2.2.2.1, T.2.2.2.2.2.2.1, T.2.2.2.2.2.2.2.1, upd T.2.2.2.2.2.2.2.2.1 x v, T.2.2.2.2.2.2.2.2.2.1, T.2.2.2.2.2.2.2.2.2.2.1, T.2.2.2.2.2.2.2.2.2.2.2.1, T.2.2.2.2.2.2.2.2.2.2.2.2.1, T.2.2.2.2.2.2.2.2.2.2.2.2.2.1, T.2.2.2.2.2.2.2.2.2.2.2.2.2.2.1, T.2.2.2.2.2.2.2.2.2.2.2.2.2.2.2.1, T.2.2.2.2.2.2.2.2.2.2.2.2.2.2.2.2.1, T.2.2.2.2.2.2.2.2.2.2.2.2.2.2.2.2.2.1, T.2.2.2.2.2.2.2.2.2.2.2.2.2.2.2.2.2.2) (upd s x v) := by
  obtain ⟨hG, hse, ⟨hcs, hnn, hgm⟩, hgh, hrm, ⟨hmk, hmd⟩, hset⟩ := h
  have hrc := hG.1.2.2.1
  have hdc := hG.1.2.2.2
  have u : ∀ j, j ≠ x → upd s x v j = s j := fun j hj => if_neg hj
  refine ⟨geo_upd hG (by omega) (by omega) (by omega), fun i hi => ?_, ⟨hcs.trans (u 6 (by omega)).symm, hnn.trans (u 7 (by omega)).symm, hgm.trans (u 8 (by omega)).symm⟩, ⟨fun e => ?_, fun e => ?_⟩, fun j hj => ?_, ⟨hmk, hmd⟩, hB⟩
  · show upd T.2.2.2.2.2.2.2.2.1 x v i = upd s x v i
    unfold upd
    split
    · rfl
    · exact hse i hi
  · rw [u 11 (by omega)]; exact hgh.1 e
  · rw [u 11 (by omega)]; exact hgh.2 e
  · exact rmc_same (hrm j hj) (fun i h1 h2 => u i (by omega)) rfl rfl rfl rfl rfl rfl rfl rfl
theorem CPL_gh {T : HT} {s : Nat → Int32} {g : Nat} (h : CPL T s) (hg : g < T.2.2.2.2.2.2.2.2.2.1) : CPL (T.1, T.2.1, T.2.2.1, T.2.2.2.1, T.2.2.2.2.1, T.2.2.2.2.2.1, T.2.2.2.2.2.2.1, T.2.2.2.2.2.2.2.1, T.2.2.2.2.2.2.2.2.1, T.2.2.2.2.2.2.2.2.2.1, T.2.2.2.2.2.2.2.2.2.2.1, T.2.2.2.2.2.2.2.2.2.2.2.1, T.2.2.2.2.2.2.2.2.2.2.2.2.1, T.2.2.2.2.2.2.2.2.2.2.2.2.2.1, T.2.2.2.2.2.2.2.2.2.2.2.2.2.2.1, nI g, T.2.2.2.2.2.2.2.2.2.2.2.2.2.2.2.2.1, T.2.2.2.2.2.2.2.2.2.2.2.2.2.2.2.2.2.1, T.2.2.2.2.2.2.2.2.2.2.2.2.2.2.2.2.2.2) (upd s 11 (nI g)) := by
  obtain ⟨hG, hse, ⟨hcs, hnn, hgm⟩, hgh, hrm, ⟨hmk, hmd⟩, hset⟩ := h
  have hrc := hG.1.2.2.1
  have hdc := hG.1.2.2.2
  have u : ∀ j, j ≠ 11 → upd s 11 (nI g) j = s j := fun j hj => if_neg hj
  refine ⟨geo_upd hG (by omega) (by omega) (by omega), fun i hi => (hse i hi).trans (u i (by omega)).symm, ⟨hcs, hnn, hgm⟩, ⟨fun e => ?_, fun e => ⟨rfl, g, hg, rfl⟩⟩, fun j hj => ?_, ⟨hmk, hmd⟩, hset⟩
  · have e : T.2.2.2.2.2.2.2.2.2.1 = 0 := e
    omega
  · exact rmc_same (hrm j hj) (fun i h1 h2 => u i (by omega)) rfl rfl rfl rfl rfl rfl rfl rfl
theorem CPL_co {T : HT} {s : Nat → Int32} {k c : Nat} (h : CPL T s) (hk : k < T.2.2.2.2.2.2.2.2.2.1) (hc : c ≤ 99) : CPL (T.1, upd T.2.1 k (nI c), T.2.2.1, T.2.2.2.1, T.2.2.2.2.1, T.2.2.2.2.2.1, T.2.2.2.2.2.2.1, T.2.2.2.2.2.2.2.1, T.2.2.2.2.2.2.2.2.1, T.2.2.2.2.2.2.2.2.2.1, T.2.2.2.2.2.2.2.2.2.2.1, T.2.2.2.2.2.2.2.2.2.2.2.1, T.2.2.2.2.2.2.2.2.2.2.2.2.1, T.2.2.2.2.2.2.2.2.2.2.2.2.2.1, T.2.2.2.2.2.2.2.2.2.2.2.2.2.2.1, T.2.2.2.2.2.2.2.2.2.2.2.2.2.2.2.1, T.2.2.2.2.2.2.2.2.2.2.2.2.2.2.2.2.1, T.2.2.2.2.2.2.2.2.2.2.2.2.2.2.2.2.2.1, T.2.2.2.2.2.2.2.2.2.2.2.2.2.2.2.2.2.2) (upd s (12 + 9 * k + 2) (nI c)) := by
  obtain ⟨hG, hse, ⟨hcs, hnn, hgm⟩, hgh, hrm, ⟨hmk, hmd⟩, hset⟩ := h
  have hrc := hG.1.2.2.1
  have hdc := hG.1.2.2.2
  have u : ∀ j, j ≠ 12 + 9 * k + 2 → upd s (12 + 9 * k + 2) (nI c) j = s j := fun j hj => if_neg hj
  refine ⟨geo_upd hG (by omega) (by omega) (by omega), fun i hi => (hse i hi).trans (u i (by omega)).symm, ⟨hcs.trans (u 6 (by omega)).symm, hnn.trans (u 7 (by omega)).symm, hgm.trans (u 8 (by omega)).symm⟩, ⟨fun e => ?_, fun e => ?_⟩, fun j hj => ?_, ⟨hmk, hmd⟩, hset⟩
  · rw [u 11 (by omega)]; exact hgh.1 e
  · rw [u 11 (by omega)]; exact hgh.2 e
  · have hj : j < T.2.2.2.2.2.2.2.2.2.1 := hj
    by_cases e : j = k
    · subst e
      obtain ⟨a1, a2, a3, a4, a5, a6, a7, a8, a9⟩ := hrm j hj
      have e1 : upd T.2.1 j (nI c) j = nI c := if_pos rfl
      refine ⟨e1.trans (if_pos rfl).symm, ⟨c, hc, e1⟩, ?_, ?_, ?_, ?_, ?_, ?_, ?_⟩
      · rw [u _ (by omega)]; exact a3
      · rw [u _ (by omega)]; exact a4
      · rw [u _ (by omega)]; exact a5
      · rw [u _ (by omega)]; exact a6
      · rw [u _ (by omega)]; exact a7
      · rw [u _ (by omega)]; exact a8
      · rw [nmS_cong (u _ (by omega)) (u _ (by omega))]; exact a9
    · exact rmc_same (hrm j hj) (fun i h1 h2 => u i (by omega)) (if_neg e) rfl rfl rfl rfl rfl rfl rfl
theorem CPL_cs {T : HT} {s : Nat → Int32} {v : Int32} (h : CPL T s) : CPL (T.1, T.2.1, T.2.2.1, T.2.2.2.1, T.2.2.2.2.1, T.2.2.2.2.2.1, T.2.2.2.2.2.2.1, T.2.2.2.2.2.2.2.1, T.2.2.2.2.2.2.2.2.1, T.2.2.2.2.2.2.2.2.2.1, T.2.2.2.2.2.2.2.2.2.2.1, T.2.2.2.2.2.2.2.2.2.2.2.1, T.2.2.2.2.2.2.2.2.2.2.2.2.1, T.2.2.2.2.2.2.2.2.2.2.2.2.2.1, T.2.2.2.2.2.2.2.2.2.2.2.2.2.2.1, T.2.2.2.2.2.2.2.2.2.2.2.2.2.2.2.1, T.2.2.2.2.2.2.2.2.2.2.2.2.2.2.2.2.1, T.2.2.2.2.2.2.2.2.2.2.2.2.2.2.2.2.2.1, v) (upd s 6 v) := by
  obtain ⟨hG, hse, ⟨hcs, hnn, hgm⟩, hgh, hrm, ⟨hmk, hmd⟩, hset⟩ := h
  have hrc := hG.1.2.2.1
  have hdc := hG.1.2.2.2
  have u : ∀ j, j ≠ 6 → upd s 6 v j = s j := fun j hj => if_neg hj
  refine ⟨geo_upd hG (by omega) (by omega) (by omega), fun i hi => (hse i hi).trans (u i (by omega)).symm, ⟨rfl, hnn, hgm⟩, ⟨fun e => ?_, fun e => ?_⟩, fun j hj => ?_, ⟨hmk, hmd⟩, hset⟩
  · rw [u 11 (by omega)]; exact hgh.1 e
  · rw [u 11 (by omega)]; exact hgh.2 e
  · exact rmc_same (hrm j hj) (fun i h1 h2 => u i (by omega)) rfl rfl rfl rfl rfl rfl rfl rfl
/-- the row of a new room -/
theorem adR_at {s : Nat → Int32} {x : Int64} {c b : Int32} {k : Nat} (hk : nR s = k) : (∀ i, i ≠ 9 → ¬ (12 + 9 * k ≤ i ∧ i < 12 + 9 * k + 9) → adR s x c b i = s i) ∧ adR s x c b 9 = nI (k + 1) ∧ adR s x c b (12 + 9 * k) = adHi x ∧ adR s x c b (12 + 9 * k + 1) = adLo x ∧ adR s x c b (12 + 9 * k + 2) = c ∧ adR s x c b (12 + 9 * k + 3) = 0 ∧ adR s x c b (12 + 9 * k + 4) = 0 ∧ adR s x c b (12 + 9 * k + 5) = trI b ∧ adR s x c b (12 + 9 * k + 6) = (if b = 0 then 5 else 0) ∧ adR s x c b (12 + 9 * k + 7) = -1 ∧ adR s x c b (12 + 9 * k + 8) = -1 := by
  unfold adR tw zrR cpy upd
  rw [hk]
  refine ⟨fun i h1 h2 => ?_, ?_, ?_, ?_, ?_, ?_, ?_, ?_, ?_, ?_, ?_⟩
  · dsimp only
    rw [if_neg h1, if_neg (by omega), if_neg (by omega), if_neg (by omega), if_neg (by omega), if_neg (by omega), if_neg (by omega), if_neg (by omega), if_neg (by omega)]
  · exact if_pos rfl
  · dsimp only
    rw [if_neg (by omega), if_neg (by omega), if_neg (by omega), if_neg (by omega), if_neg (by omega), if_neg (by omega), if_neg (by omega), if_pos (by omega)]
  · dsimp only
    rw [if_neg (by omega), if_neg (by omega), if_neg (by omega), if_neg (by omega), if_neg (by omega), if_neg (by omega), if_pos (by omega)]
  · dsimp only
    rw [if_neg (by omega), if_neg (by omega), if_neg (by omega), if_neg (by omega), if_neg (by omega), if_pos (by omega)]
  · dsimp only
    rw [if_neg (by omega), if_neg (by omega), if_neg (by omega), if_neg (by omega), if_neg (by omega), if_neg (by omega), if_neg (by omega), if_neg (by omega), if_pos (by omega)]
  · dsimp only
    rw [if_neg (by omega), if_neg (by omega), if_neg (by omega), if_neg (by omega), if_neg (by omega), if_neg (by omega), if_neg (by omega), if_neg (by omega), if_pos (by omega)]
  · dsimp only
    rw [if_neg (by omega), if_neg (by omega), if_neg (by omega), if_neg (by omega), if_pos (by omega)]
  · dsimp only
    rw [if_neg (by omega), if_neg (by omega), if_neg (by omega), if_pos (by omega)]
  · dsimp only
    rw [if_neg (by omega), if_neg (by omega), if_pos (by omega)]
  · dsimp only
    rw [if_neg (by omega), if_pos (by omega)]
theorem lN_sshr {n k : Nat} (hn : n < 2 ^ 63) (hk : k < 64) : lN n >>> ((nI k).toInt64 &&& 63) = lN (n / 2 ^ k) := by
  rw [wb_c k hk]
  apply wb_inj
  rw [Int64.toBitVec_shiftRight]
  show (lN n).toBitVec.sshiftRight ((lN k).toBitVec.smod 64).toNat = _
  have hm : (lN n).toBitVec.msb = false := by
    rw [BitVec.msb_eq_false_iff_two_mul_lt, lN_nat (by omega)]; omega
  rw [wb_tb, wb_tb, wb_tb, wb_sm k hk, BitVec.toNat_ofNat, Nat.mod_eq_of_lt (show k < 2 ^ 64 by omega)]
  rw [wb_tb] at hm
  apply BitVec.eq_of_getLsbD_eq
  intro i hi
  rw [BitVec.getLsbD_sshiftRight, hm, BitVec.getLsbD_ofNat, BitVec.getLsbD_ofNat, Nat.testBit_div_two_pow]
  rw [Nat.add_comm i k]
  by_cases c : k + i < 64
  · simp [hi, c]
  · have : n.testBit (k + i) = false := Nat.testBit_lt_two_pow (Nat.lt_of_lt_of_le hn (Nat.pow_le_pow_right (by decide) (by omega)))
    simp [hi, c, this]
theorem lN_32 (m : Nat) : (lN m).toInt32 = nI m := by
  apply Int32.toBitVec_inj.mp
  show ((lN m).toBitVec).signExtend 32 = BitVec.ofNat 32 m
  rw [wb_tb, BitVec.signExtend_eq_setWidth_of_le _ (by decide)]
  apply BitVec.eq_of_getLsbD_eq
  intro i hi
  rw [BitVec.getLsbD_setWidth, BitVec.getLsbD_ofNat, BitVec.getLsbD_ofNat]
  simp [hi]
  omega
theorem nI_lN {m : Nat} (hm : m < 2 ^ 31) : (nI m).toInt64 = lN m := by
  apply Int64.toInt_inj.mp
  rw [Int32.toInt_toInt64, lN_ti (by omega), if_pos (by omega)]
  exact Int32.toInt_ofNat_of_lt hm
theorem nm_split {n : Nat} (h : n < 2 ^ 40) : ((adHi (lN n)).toInt64 <<< ((20 : Int32).toInt64 &&& 63)) ||| (adLo (lN n)).toInt64 = lN n := by
  have e1 : adHi (lN n) = nI (n / 2 ^ 20) := by
    unfold adHi
    rw [show (20 : Int32) = nI 20 from rfl, lN_sshr (by omega) (by decide), lN_32]
  have e2 : adLo (lN n) = nI (n % 2 ^ 20) := by
    unfold adLo
    rw [show (1048575 : Int64) = lN (2 ^ 20 - 1) from by decide +kernel, wb_mask (by omega) (by decide), lN_32]
  have g1 : n / 2 ^ 20 < 2 ^ 20 := Nat.div_lt_of_lt_mul (by omega)
  have g2 : n % 2 ^ 20 < 2 ^ 20 := Nat.mod_lt _ (by decide)
  rw [e1, e2, nI_lN (by omega), nI_lN (by omega)]
  rw [show (20 : Int32) = nI 20 from rfl, sh_or 20 (by decide) g2]
  congr 1
  omega
theorem CPL_apR {T : HT} {s : Nat → Int32} {x y : Int64} {c : Nat} {b : Int32} (h : CPL T s) (hk : T.2.2.2.2.2.2.2.2.2.1 < 12) (hn : NMR x y) (hc : c ≤ 99) (hb : b = 0 ∨ b = 1) (h0 : T.2.2.2.2.2.2.2.2.2.1 = 0 → b = 1) : CPL (apR T x (nI c) b) (adR s y (nI c) b) := by
  obtain ⟨hG, hse, ⟨hcs, hnn, hgm⟩, hgh, hrm, ⟨hmk, hmd⟩, hset⟩ := h
  have hrc := hG.1.2.2.1
  have hdc := hG.1.2.2.2
  have hnr := (geo_n hG).1
  obtain ⟨u, v9, v0, v1, v2, v3, v4, v5, v6, v7, v8⟩ := adR_at (x := y) (c := nI c) (b := b) hnr
  obtain ⟨⟨g1, g2, g3, g4⟩, g5, g6⟩ := hG
  have tb : trI b = tI (decide (b = 1)) := by rcases hb with rfl | rfl <;> decide
  have hpo : ∀ j, bt (if b = 0 then T.2.2.2.2.2.2.2.2.2.2.2.2.2.2.1 else T.2.2.2.2.2.2.2.2.2.2.2.2.2.2.1 ||| cbit (nI T.2.2.2.2.2.2.2.2.2.1)) j = if j = T.2.2.2.2.2.2.2.2.2.1 then decide (b = 1) else bt T.2.2.2.2.2.2.2.2.2.2.2.2.2.2.1 j := by
    intro j
    rcases hb with rfl | rfl
    · rw [if_pos rfl]
      by_cases e : j = T.2.2.2.2.2.2.2.2.2.1
      · subst e; rw [if_pos rfl]; exact (hmk _ (Nat.le_refl _)).2.2
      · rw [if_neg e]
    · rw [if_neg (by decide), bt_or_k (by omega)]; rfl
  refine ⟨⟨⟨?_, ?_, ?_, g4⟩, fun d hd => ?_, g6⟩, fun i hi => (hse i hi).trans (u i (by omega) (by omega)).symm, ⟨hcs.trans (u 6 (by omega) (by omega)).symm, hnn.trans (u 7 (by omega) (by omega)).symm, hgm.trans (u 8 (by omega) (by omega)).symm⟩, ⟨fun e => ?_, fun _ => ?_⟩, fun j hj => ?_, ⟨fun j hj => ?_, hmd⟩, hset⟩
  · show adR s y (nI c) b 9 = nI (T.2.2.2.2.2.2.2.2.2.1 + 1)
    rw [v9]
  · exact (u 10 (by omega) (by omega)).trans g2
  · show T.2.2.2.2.2.2.2.2.2.1 + 1 ≤ 12
    omega
  · obtain ⟨a, b2, n, y1, y2, y3, y4, y5, y6, y7, y8, y9, y10⟩ := g5 d hd
    have hd : d < T.2.2.2.2.2.2.2.2.2.2.1 := hd
    exact ⟨a, b2, n, y1, by show b2 < T.2.2.2.2.2.2.2.2.2.1 + 1; omega, y3, y4, (u _ (by omega) (by omega)).trans y5, (u _ (by omega) (by omega)).trans y6, y7, (u _ (by omega) (by omega)).trans y8, y9, (u _ (by omega) (by omega)).trans y10⟩
  · exact absurd (show T.2.2.2.2.2.2.2.2.2.1 + 1 = 0 from e) (by omega)
  · show (if T.2.2.2.2.2.2.2.2.2.1 = 0 then 0 else T.2.2.2.2.2.2.2.2.2.2.2.2.2.2.2.1) = _ ∧ ∃ g, g < T.2.2.2.2.2.2.2.2.2.1 + 1 ∧ _
    rw [u 11 (by omega) (by omega)]
    by_cases e : T.2.2.2.2.2.2.2.2.2.1 = 0
    · obtain ⟨-, q⟩ := hgh.1 (by omega)
      rw [if_pos (by omega), q]
      exact ⟨rfl, 0, by omega, rfl⟩
    · obtain ⟨q1, g, q2, q3⟩ := hgh.2 (by omega)
      rw [if_neg (by omega)]
      exact ⟨q1, g, by omega, q3⟩
  · have hj : j < T.2.2.2.2.2.2.2.2.2.1 + 1 := hj
    by_cases e : j = T.2.2.2.2.2.2.2.2.2.1
    · subst e
      obtain ⟨l, hl, rfl, rfl⟩ := NMR_of hn
      have i0 : ∀ (f : Nat → Int32) v, upd f T.2.2.2.2.2.2.2.2.2.1 v T.2.2.2.2.2.2.2.2.2.1 = v := fun f v => if_pos rfl
      refine ⟨(i0 _ _).trans v2.symm, ⟨c, hc, i0 _ _⟩, ?_, ?_, ?_, (i0 _ _).trans v6.symm, (i0 _ _).trans v7.symm, (i0 _ _).trans v8.symm, ?_⟩
      · rw [v3]; show _ = tI (bt T.2.2.2.2.2.2.2.2.2.2.2.2.1 T.2.2.2.2.2.2.2.2.2.1); rw [(hmk _ (Nat.le_refl _)).1]; rfl
      · rw [v4]; show _ = tI (bt T.2.2.2.2.2.2.2.2.2.2.2.2.2.1 T.2.2.2.2.2.2.2.2.2.1); rw [(hmk _ (Nat.le_refl _)).2.1]; rfl
      · rw [v5, tb]
        show _ = tI (bt (if b = 0 then T.2.2.2.2.2.2.2.2.2.2.2.2.2.2.1 else T.2.2.2.2.2.2.2.2.2.2.2.2.2.2.1 ||| cbit (nI T.2.2.2.2.2.2.2.2.2.1)) T.2.2.2.2.2.2.2.2.2.1)
        rw [hpo, if_pos rfl]
      · have e1 : (apR T (lN (vl 256 96 l)) (nI c) b).1 T.2.2.2.2.2.2.2.2.2.1 = lN (vl 256 96 l) := if_pos rfl
        rw [e1]
        unfold nmS
        rw [v0, v1, nm_split (vl5_lt hl)]
        exact NMR_mk hl
    · have z : ∀ (f : Nat → Int32) v, upd f T.2.2.2.2.2.2.2.2.2.1 v j = f j := fun f v => if_neg (by omega)
      refine rmc_same (hrm j (by omega)) (fun i h1 h2 => u i (by omega) (by omega)) (z _ _) rfl rfl ?_ (z _ _) (z _ _) (z _ _) (if_neg (by omega))
      show bt (if b = 0 then T.2.2.2.2.2.2.2.2.2.2.2.2.2.2.1 else T.2.2.2.2.2.2.2.2.2.2.2.2.2.2.1 ||| cbit (nI T.2.2.2.2.2.2.2.2.2.1)) j = _
      rw [hpo, if_neg e]
  · have hj : T.2.2.2.2.2.2.2.2.2.1 + 1 ≤ j := hj
    obtain ⟨m1, m2, m3⟩ := hmk j (by omega)
    refine ⟨m1, m2, ?_⟩
    show bt (if b = 0 then T.2.2.2.2.2.2.2.2.2.2.2.2.2.2.1 else T.2.2.2.2.2.2.2.2.2.2.2.2.2.2.1 ||| cbit (nI T.2.2.2.2.2.2.2.2.2.1)) j = false
    rw [hpo, if_neg (by omega)]; exact m3
theorem addD_at {s : Nat → Int32} {a b c : Int32} {k : Nat} (hk : nD s = k) (h24 : k < 24) : (∀ i, i ≠ 10 → ¬ (120 + 4 * k ≤ i ∧ i < 120 + 4 * k + 4) → addD s a b c i = s i) ∧ addD s a b c 10 = nI (k + 1) ∧ addD s a b c (120 + 4 * k) = (if b ≤ a then b else a) ∧ addD s a b c (120 + 4 * k + 1) = (if b ≤ a then a else b) ∧ addD s a b c (120 + 4 * k + 2) = c ∧ addD s a b c (120 + 4 * k + 3) = 1 := by
  unfold addD upd
  rw [hk]
  refine ⟨fun i h1 h2 => ?_, ?_, ?_, ?_, ?_, ?_⟩
  · try dsimp only
    rw [if_neg h1, if_neg (by omega), if_neg (by omega), if_neg (by omega), if_neg (by omega)]
  · exact if_pos rfl
  · try dsimp only
    rw [if_neg (by omega), if_neg (by omega), if_neg (by omega), if_neg (by omega), if_pos rfl]
  · try dsimp only
    rw [if_neg (by omega), if_neg (by omega), if_neg (by omega), if_pos rfl]
  · try dsimp only
    rw [if_neg (by omega), if_neg (by omega), if_pos rfl]
  · try dsimp only
    rw [if_neg (by omega), if_pos rfl]
theorem CPL_apD {T : HT} {s : Nat → Int32} {i j n : Nat} (h : CPL T s) (hd : T.2.2.2.2.2.2.2.2.2.2.1 < 24) (hi : i < T.2.2.2.2.2.2.2.2.2.1) (hj : j < T.2.2.2.2.2.2.2.2.2.1) (hij : i ≠ j) (hno : dro T (nI i) (nI j) = -1) (hn : n ≤ 9) : CPL (apD T (nI i) (nI j) (nI n)) (addD s (nI i) (nI j) (nI n)) := by
  obtain ⟨hG, hse, ⟨hcs, hnn, hgm⟩, hgh, hrm, ⟨hmk, hmd⟩, hset⟩ := h
  have hrc := hG.1.2.2.1
  have hdc := hG.1.2.2.2
  have hnr := (geo_n hG).2
  have hED : ∀ d, d < T.2.2.2.2.2.2.2.2.2.2.1 → ¬ ED T d i j := by
    rcases door_at hG (a := i) (b := j) (by omega) (by omega) with ⟨-, q⟩ | ⟨d, q1, q2, q3⟩
    · exact q
    · rw [geo_btw hG] at q2
      have e : dro T (nI i) (nI j) = nI d := q2
      rw [hno] at e
      exact absurd e.symm (nI_m1 (by omega))
  obtain ⟨u, v9, v0, v1, v2, v3⟩ := addD_at (a := nI i) (b := nI j) (c := nI n) hnr (by omega)
  obtain ⟨⟨g1, g2, g3, g4⟩, g5, g6⟩ := hG
  obtain ⟨a, b, hab, hb, eab, ea1, ea2, eb1, eb2⟩ : ∃ a b, a < b ∧ b < T.2.2.2.2.2.2.2.2.2.1 ∧ ((a = i ∧ b = j) ∨ (a = j ∧ b = i)) ∧ (if nI j < nI i then nI j else nI i) = nI a ∧ (if nI j ≤ nI i then nI j else nI i) = nI a ∧ (if nI i < nI j then nI j else nI i) = nI b ∧ (if nI j ≤ nI i then nI i else nI j) = nI b := by
    by_cases c : i < j
    · have c1 : nI i < nI j := nI_lt c (by omega)
      have c2 : ¬ nI j < nI i := fun x => Int32.lt_irrefl (Int32.lt_trans x c1)
      have c3 : ¬ nI j ≤ nI i := fun x => Int32.lt_irrefl (Int32.lt_of_lt_of_le c1 x)
      exact ⟨i, j, c, hj, Or.inl ⟨rfl, rfl⟩, if_neg c2, if_neg c3, if_pos c1, if_neg c3⟩
    · have c0 : j < i := by omega
      have c1 : nI j < nI i := nI_lt c0 (by omega)
      have c2 : ¬ nI i < nI j := fun x => Int32.lt_irrefl (Int32.lt_trans x c1)
      have c3 : nI j ≤ nI i := Int32.le_of_lt c1
      exact ⟨j, i, c0, hi, Or.inr ⟨rfl, rfl⟩, if_pos c1, if_pos c3, if_neg c2, if_pos c3⟩
  have hod : ∀ e, bt (T.2.2.2.2.2.2.2.2.2.2.2.1 ||| cbit (nI T.2.2.2.2.2.2.2.2.2.2.1)) e = if e = T.2.2.2.2.2.2.2.2.2.2.1 then true else bt T.2.2.2.2.2.2.2.2.2.2.2.1 e := bt_or_k (by omega)
  have z : ∀ (f : Nat → Int32) v e, e ≠ T.2.2.2.2.2.2.2.2.2.2.1 → upd f T.2.2.2.2.2.2.2.2.2.2.1 v e = f e := fun f v e he => if_neg (by omega)
  have z2 : ∀ (f : Nat → Int32) v, upd f T.2.2.2.2.2.2.2.2.2.2.1 v T.2.2.2.2.2.2.2.2.2.2.1 = v := fun f v => if_pos rfl
  have elo : (apD T (nI i) (nI j) (nI n)).2.2.2.2.2.1 = upd T.2.2.2.2.2.1 T.2.2.2.2.2.2.2.2.2.2.1 (nI a) := by
    show upd T.2.2.2.2.2.1 T.2.2.2.2.2.2.2.2.2.2.1 (if nI j < nI i then nI j else nI i) = _
    rw [ea1]
  have ehi : (apD T (nI i) (nI j) (nI n)).2.2.2.2.2.2.1 = upd T.2.2.2.2.2.2.1 T.2.2.2.2.2.2.2.2.2.2.1 (nI b) := by
    show upd T.2.2.2.2.2.2.1 T.2.2.2.2.2.2.2.2.2.2.1 (if nI i < nI j then nI j else nI i) = _
    rw [eb1]
  refine ⟨⟨⟨?_, ?_, g3, ?_⟩, fun e he => ?_, fun d e hd he l1 l2 => ?_⟩, fun i hi => (hse i hi).trans (u i (by omega) (by omega)).symm, ⟨hcs.trans (u 6 (by omega) (by omega)).symm, hnn.trans (u 7 (by omega) (by omega)).symm, hgm.trans (u 8 (by omega) (by omega)).symm⟩, ⟨fun e => ?_, fun e => ?_⟩, fun x hx => ?_, ⟨hmk, fun e he => ?_⟩, hset⟩
  · exact (u 9 (by omega) (by omega)).trans g1
  · show _ = nI (T.2.2.2.2.2.2.2.2.2.2.1 + 1)
    rw [v9]
  · show T.2.2.2.2.2.2.2.2.2.2.1 + 1 ≤ 24
    omega
  · have he : e < T.2.2.2.2.2.2.2.2.2.2.1 + 1 := he
    by_cases c : e = T.2.2.2.2.2.2.2.2.2.2.1
    · subst c
      refine ⟨a, b, n, hab, hb, ?_, ?_, ?_, ?_, z2 _ _, v2, hn, ?_⟩
      · rw [elo]; exact z2 _ _
      · rw [ehi]; exact z2 _ _
      · rw [v0, ea2]
      · rw [v1, eb2]
      · rw [v3]
        show 1 = tI (bt (T.2.2.2.2.2.2.2.2.2.2.2.1 ||| cbit (nI T.2.2.2.2.2.2.2.2.2.2.1)) T.2.2.2.2.2.2.2.2.2.2.1)
        rw [hod, if_pos rfl]; rfl
    · obtain ⟨a2, b2, n2, y1, y2, y3, y4, y5, y6, y7, y8, y9, y10⟩ := g5 e (by omega)
      refine ⟨a2, b2, n2, y1, y2, ?_, ?_, (u _ (by omega) (by omega)).trans y5, (u _ (by omega) (by omega)).trans y6, (z _ _ _ c).trans y7, (u _ (by omega) (by omega)).trans y8, y9, ?_⟩
      · rw [elo, z _ _ _ c]; exact y3
      · rw [ehi, z _ _ _ c]; exact y4
      · rw [u _ (by omega) (by omega)]
        show _ = tI (bt (T.2.2.2.2.2.2.2.2.2.2.2.1 ||| cbit (nI T.2.2.2.2.2.2.2.2.2.2.1)) e)
        rw [hod, if_neg c]; exact y10
  · have hd : d < T.2.2.2.2.2.2.2.2.2.2.1 + 1 := hd
    have he : e < T.2.2.2.2.2.2.2.2.2.2.1 + 1 := he
    rw [elo] at l1
    rw [ehi] at l2
    have key : ∀ f, f < T.2.2.2.2.2.2.2.2.2.2.1 → T.2.2.2.2.2.1 f = nI a → T.2.2.2.2.2.2.1 f = nI b → False := fun f hf q1 q2 => by
      refine hED f (by omega) ?_
      rcases eab with ⟨rfl, rfl⟩ | ⟨rfl, rfl⟩
      · exact Or.inl ⟨q1, q2⟩
      · exact Or.inr ⟨q1, q2⟩
    by_cases c : d = T.2.2.2.2.2.2.2.2.2.2.1
    · subst c
      by_cases c2 : e = T.2.2.2.2.2.2.2.2.2.2.1
      · exact c2.symm
      · rw [z2, z _ _ _ c2] at l1
        rw [z2, z _ _ _ c2] at l2
        exact absurd l2.symm (fun q => key e (by omega) l1.symm q)
    · by_cases c2 : e = T.2.2.2.2.2.2.2.2.2.2.1
      · subst c2
        rw [z2, z _ _ _ c] at l1
        rw [z2, z _ _ _ c] at l2
        exact absurd l2 (fun q => key d (by omega) l1 q)
      · rw [z _ _ _ c, z _ _ _ c2] at l1
        rw [z _ _ _ c, z _ _ _ c2] at l2
        exact g6 d e (by omega) (by omega) l1 l2
  · rw [u 11 (by omega) (by omega)]; exact hgh.1 e
  · rw [u 11 (by omega) (by omega)]; exact hgh.2 e
  · have hx : x < T.2.2.2.2.2.2.2.2.2.1 := hx
    exact rmc_same (hrm x hx) (fun i h1 h2 => u i (by omega) (by omega)) rfl rfl rfl rfl rfl rfl rfl rfl
  · have he : T.2.2.2.2.2.2.2.2.2.2.1 + 1 ≤ e := he
    show bt (T.2.2.2.2.2.2.2.2.2.2.2.1 ||| cbit (nI T.2.2.2.2.2.2.2.2.2.2.1)) e = false
    rw [hod, if_neg (by omega)]; exact hmd e (by omega)
theorem bgS_6 (s : Nat → Int32) : bgS s 0 = 0 ∧ bgS s 1 = 1 ∧ bgS s 2 = 5 ∧ bgS s 3 = 2 ∧ bgS s 4 = 7 ∧ bgS s 5 = 50 ∧ ∀ i, 6 ≤ i → i < 216 → bgS s i = 0 := by
  unfold bgS upd fa_fill
  refine ⟨rfl, rfl, rfl, rfl, rfl, rfl, fun i h1 h2 => ?_⟩
  dsimp only
  rw [if_neg (by omega), if_neg (by omega), if_neg (by omega), if_neg (by omega), if_neg (by omega), if_pos (by omega)]
theorem CPL_clr (T : HT) (s : Nat → Int32) : CPL (clrT T) (bgS s) := by
  obtain ⟨b0, b1, b2, b3, b4, b5, bz⟩ := bgS_6 s
  have e : ∀ i, i < 6 → (clrT T).2.2.2.2.2.2.2.2.1 i = stG 2 (nI i) := fun i hi => by
    show fa_fill (fun d => stG 2 (nI d)) T.2.2.2.2.2.2.2.2.1 6 i = _
    rw [fa_fill_in hi]
  have e0 : (clrT T).2.2.2.2.2.2.2.2.1 0 = 0 := (e 0 (by decide)).trans (by decide)
  have e1 : (clrT T).2.2.2.2.2.2.2.2.1 1 = 1 := (e 1 (by decide)).trans (by decide)
  have e2 : (clrT T).2.2.2.2.2.2.2.2.1 2 = 5 := (e 2 (by decide)).trans (by decide)
  have e3 : (clrT T).2.2.2.2.2.2.2.2.1 3 = 2 := (e 3 (by decide)).trans (by decide)
  have e4 : (clrT T).2.2.2.2.2.2.2.2.1 4 = 7 := (e 4 (by decide)).trans (by decide)
  have e5 : (clrT T).2.2.2.2.2.2.2.2.1 5 = 50 := (e 5 (by decide)).trans (by decide)
  refine ⟨⟨⟨bz 9 (by decide) (by decide), bz 10 (by decide) (by decide), Nat.zero_le _, Nat.zero_le _⟩, fun d hd => absurd hd (Nat.not_lt_zero d), fun d e hd => absurd hd (Nat.not_lt_zero d)⟩, fun i hi => ?_, ⟨(bz 6 (by decide) (by decide)).symm, (bz 7 (by decide) (by decide)).symm, (bz 8 (by decide) (by decide)).symm⟩, ⟨fun _ => ⟨rfl, bz 11 (by decide) (by decide)⟩, fun h => absurd h (Nat.lt_irrefl 0)⟩, fun k hk => absurd hk (Nat.not_lt_zero k), ⟨fun j _ => ⟨b_0 j, b_0 j, b_0 j⟩, fun j _ => b_0 j⟩, ⟨⟨0, by decide, e0⟩, ⟨1, by decide, by decide, e1⟩, ⟨5, by decide, e2⟩, ⟨2, by decide, by decide, e3⟩, ⟨7, by decide, e4⟩, ⟨50, by decide, e5⟩⟩⟩
  match i, hi with
  | 0, _ => rw [e0, b0]
  | 1, _ => rw [e1, b1]
  | 2, _ => rw [e2, b2]
  | 3, _ => rw [e3, b3]
  | 4, _ => rw [e4, b4]
  | 5, _ => rw [e5, b5]
  | i + 6, h => omega
