/-! 76d: the class tries a thermometer, a mode -/
theorem rset_hi {n : Nat} {f : Nat → Int32} {j v : Int32} {i : Nat} (hn : n < 2 ^ 31) (hi : n ≤ i) : rset n f j v i = f i := by
  by_cases c0 : j < 0
  · unfold rset; rw [if_pos c0]
  by_cases c1 : j < nI n
  rotate_left
  · unfold rset; rw [if_neg c0, if_pos (Int32.not_lt.mp c1)]
  obtain ⟨k, hk, rfl⟩ := inR_t (inR_in c0 c1) hn
  rw [rset_k hk hn]
  unfold upd
  rw [if_neg (by omega)]
theorem ZH_nn {T : HT} (z : ZH T) : ZH (nn1 T) := z
theorem ZH_pas {T : HT} (h : HOK T) (z : ZH T) : ZH (pasG T) := by
  unfold pasG
  split
  · exact z
  · obtain ⟨z1, z2, z3⟩ := z
    have h1 := h.1
    refine ⟨fun i hi => ?_, z2, fun i hi => ?_⟩
    · obtain ⟨a1, a2, a3, a4, a5⟩ := z1 i hi
      refine ⟨a1, ?_, ?_, ?_, ?_⟩
      · show pCo T i = 0
        unfold pCo
        rw [rset_hi (by decide) hi]; exact a2
      · unfold pasT; dsimp only
        rw [fa_fill_out (by omega)]; exact a3
      · unfold pasT; dsimp only
        rw [fa_fill_out (by omega)]; exact a4
      · unfold pasT; dsimp only
        rw [fa_fill_out (by omega)]; exact a5
    · show dsS (nn1 T) i = 0
      have hz := z3 i hi
      unfold dsS
      split
      · exact hz
      · split
        · exact hz
        · unfold upd
          rw [if_neg (by omega)]; exact hz
theorem ZH_pasM {T : HT} (h : HOK T) (z : ZH T) (k : Nat) : ZH (pasM T k) := by
  induction k with
  | zero => exact z
  | succ k ih => exact ZH_pas (pasM_ok h k) ih
def thmT (T : HT) (i : Nat) : HT := (T.1, T.2.1, T.2.2.1, T.2.2.2.1, T.2.2.2.2.1, T.2.2.2.2.2.1, T.2.2.2.2.2.2.1, T.2.2.2.2.2.2.2.1, T.2.2.2.2.2.2.2.2.1, T.2.2.2.2.2.2.2.2.2.1, T.2.2.2.2.2.2.2.2.2.2.1, T.2.2.2.2.2.2.2.2.2.2.2.1, T.2.2.2.2.2.2.2.2.2.2.2.2.1 ||| cbit (nI i), T.2.2.2.2.2.2.2.2.2.2.2.2.2.1, T.2.2.2.2.2.2.2.2.2.2.2.2.2.2.1, T.2.2.2.2.2.2.2.2.2.2.2.2.2.2.2.1, T.2.2.2.2.2.2.2.2.2.2.2.2.2.2.2.2.1, T.2.2.2.2.2.2.2.2.2.2.2.2.2.2.2.2.2.1, T.2.2.2.2.2.2.2.2.2.2.2.2.2.2.2.2.2.2)
def mdT (T : HT) (i : Nat) : HT := (T.1, T.2.1, T.2.2.1, T.2.2.2.1, T.2.2.2.2.1, T.2.2.2.2.2.1, T.2.2.2.2.2.2.1, T.2.2.2.2.2.2.2.1, upd T.2.2.2.2.2.2.2.2.1 0 (nI i), T.2.2.2.2.2.2.2.2.2.1, T.2.2.2.2.2.2.2.2.2.2.1, T.2.2.2.2.2.2.2.2.2.2.2.1, T.2.2.2.2.2.2.2.2.2.2.2.2.1, T.2.2.2.2.2.2.2.2.2.2.2.2.2.1, T.2.2.2.2.2.2.2.2.2.2.2.2.2.2.1, T.2.2.2.2.2.2.2.2.2.2.2.2.2.2.2.1, T.2.2.2.2.2.2.2.2.2.2.2.2.2.2.2.2.1, T.2.2.2.2.2.2.2.2.2.2.2.2.2.2.2.2.2.1, T.2.2.2.2.2.2.2.2.2.2.2.2.2.2.2.2.2.2)
def btS (T : HT) : Nat → Int32 × Int32
  | 0 => (-1, 13)
  | i + 1 => if ctn T.2.2.2.2.2.2.2.2.2.2.2.2.1 (nI i) = true then btS T i else if bcF (pasG (thmT T i)).2.2.2.2.2.2.2.2.2.2.2.2.2.2.1 < (btS T i).2 then (nI i, bcF (pasG (thmT T i)).2.2.2.2.2.2.2.2.2.2.2.2.2.2.1) else btS T i
def cmS (T : HT) : Nat → Int32 × Int32
  | 0 => (0, 11)
  | i + 1 => if (pasM (mdT T i) 10).2.2.2.2.2.2.2.2.2.2.2.2.2.2.2.2.2.1 - T.2.2.2.2.2.2.2.2.2.2.2.2.2.2.2.2.2.1 < (cmS T i).2 then (nI i, (pasM (mdT T i) 10).2.2.2.2.2.2.2.2.2.2.2.2.2.2.2.2.2.1 - T.2.2.2.2.2.2.2.2.2.2.2.2.2.2.2.2.2.1) else cmS T i
theorem ZH_md {T : HT} (z : ZH T) (i : Nat) : ZH (mdT T i) := by
  obtain ⟨z1, z2, z3⟩ := z
  refine ⟨z1, z2, fun i hi => ?_⟩
  show upd _ 0 _ i = 0
  unfold upd
  rw [if_neg (by omega)]; exact z3 i hi
theorem hG_DH {h : HM} {z k : Nat} {T : KT} (hk : k < 18) : hG h z T (z + 19 + k) = some (cH (z + 19) T.2.2.2.1 k) := by
  rw [show z + 19 + k = z + (19 + k) by omega, hG_at (by omega)]
  unfold cG
  rw [if_neg (by omega), if_neg (by omega), if_pos (by omega), Nat.add_sub_cancel_left]
theorem hG_D_0 {h : HM} {z : Nat} {T : KT} : hG h z T (z + 19) = some (.inr (3, [.ref (z + 20), .ref (z + 21), .ref (z + 23), .ref (z + 25), .ref (z + 27), .ref (z + 29), .ref (z + 31), .ref (z + 33), .ref (z + 35), .int (nI (T.2.2.2.1.2.2.2.2.2.2.2.2.2.1)), .int (nI (T.2.2.2.1.2.2.2.2.2.2.2.2.2.2.1)), .int (T.2.2.2.1.2.2.2.2.2.2.2.2.2.2.2.1), .int (T.2.2.2.1.2.2.2.2.2.2.2.2.2.2.2.2.1), .int (T.2.2.2.1.2.2.2.2.2.2.2.2.2.2.2.2.2.1), .int (T.2.2.2.1.2.2.2.2.2.2.2.2.2.2.2.2.2.2.1), .int (T.2.2.2.1.2.2.2.2.2.2.2.2.2.2.2.2.2.2.2.1), .int (T.2.2.2.1.2.2.2.2.2.2.2.2.2.2.2.2.2.2.2.2.1), .int (T.2.2.2.1.2.2.2.2.2.2.2.2.2.2.2.2.2.2.2.2.2.1), .int (T.2.2.2.1.2.2.2.2.2.2.2.2.2.2.2.2.2.2.2.2.2.2)])) := (hG_DH (k := 0) (by decide)).trans rfl
theorem hG_D_1 {h : HM} {z : Nat} {T : KT} : hG h z T (z + 20) = some (longs 12 (T.2.2.2.1.1)) := (hG_DH (k := 1) (by decide)).trans rfl
theorem hG_D_2 {h : HM} {z : Nat} {T : KT} : hG h z T (z + 21) = some (.inr (7, [.ref (z + 22)])) := (hG_DH (k := 2) (by decide)).trans rfl
theorem hG_D_3 {h : HM} {z : Nat} {T : KT} : hG h z T (z + 22) = some (ints 12 (T.2.2.2.1.2.1)) := (hG_DH (k := 3) (by decide)).trans rfl
theorem hG_D_4 {h : HM} {z : Nat} {T : KT} : hG h z T (z + 23) = some (.inr (7, [.ref (z + 24)])) := (hG_DH (k := 4) (by decide)).trans rfl
theorem hG_D_5 {h : HM} {z : Nat} {T : KT} : hG h z T (z + 24) = some (ints 12 (T.2.2.2.1.2.2.1)) := (hG_DH (k := 5) (by decide)).trans rfl
theorem hG_D_6 {h : HM} {z : Nat} {T : KT} : hG h z T (z + 25) = some (.inr (7, [.ref (z + 26)])) := (hG_DH (k := 6) (by decide)).trans rfl
theorem hG_D_7 {h : HM} {z : Nat} {T : KT} : hG h z T (z + 26) = some (ints 12 (T.2.2.2.1.2.2.2.1)) := (hG_DH (k := 7) (by decide)).trans rfl
theorem hG_D_8 {h : HM} {z : Nat} {T : KT} : hG h z T (z + 27) = some (.inr (7, [.ref (z + 28)])) := (hG_DH (k := 8) (by decide)).trans rfl
theorem hG_D_9 {h : HM} {z : Nat} {T : KT} : hG h z T (z + 28) = some (ints 12 (T.2.2.2.1.2.2.2.2.1)) := (hG_DH (k := 9) (by decide)).trans rfl
theorem hG_D_10 {h : HM} {z : Nat} {T : KT} : hG h z T (z + 29) = some (.inr (7, [.ref (z + 30)])) := (hG_DH (k := 10) (by decide)).trans rfl
theorem hG_D_11 {h : HM} {z : Nat} {T : KT} : hG h z T (z + 30) = some (ints 24 (T.2.2.2.1.2.2.2.2.2.1)) := (hG_DH (k := 11) (by decide)).trans rfl
theorem hG_D_12 {h : HM} {z : Nat} {T : KT} : hG h z T (z + 31) = some (.inr (7, [.ref (z + 32)])) := (hG_DH (k := 12) (by decide)).trans rfl
theorem hG_D_13 {h : HM} {z : Nat} {T : KT} : hG h z T (z + 32) = some (ints 24 (T.2.2.2.1.2.2.2.2.2.2.1)) := (hG_DH (k := 13) (by decide)).trans rfl
theorem hG_D_14 {h : HM} {z : Nat} {T : KT} : hG h z T (z + 33) = some (.inr (7, [.ref (z + 34)])) := (hG_DH (k := 14) (by decide)).trans rfl
theorem hG_D_15 {h : HM} {z : Nat} {T : KT} : hG h z T (z + 34) = some (ints 24 (T.2.2.2.1.2.2.2.2.2.2.2.1)) := (hG_DH (k := 15) (by decide)).trans rfl
theorem hG_D_16 {h : HM} {z : Nat} {T : KT} : hG h z T (z + 35) = some (.inr (7, [.ref (z + 36)])) := (hG_DH (k := 16) (by decide)).trans rfl
theorem hG_D_17 {h : HM} {z : Nat} {T : KT} : hG h z T (z + 36) = some (ints 6 (T.2.2.2.1.2.2.2.2.2.2.2.2.1)) := (hG_DH (k := 17) (by decide)).trans rfl
theorem hG_Du0 {h : HM} {z : Nat} {T : KT} {v_rc : Nat} {v_dc : Nat} {v_od : Int32} {v_th : Int32} {v_mi : Int32} {v_po : Int32} {v_gh : Int32} {v_nn : Int32} {v_gm : Int32} {v_cs : Int32} : hup (hG h z T) (z + 19) (.inr (3, [.ref (z + 20), .ref (z + 21), .ref (z + 23), .ref (z + 25), .ref (z + 27), .ref (z + 29), .ref (z + 31), .ref (z + 33), .ref (z + 35), .int (nI v_rc), .int (nI v_dc), .int v_od, .int v_th, .int v_mi, .int v_po, .int v_gh, .int v_nn, .int v_gm, .int v_cs])) = hG h z (T.1, T.2.1, T.2.2.1, (T.2.2.2.1.1, T.2.2.2.1.2.1, T.2.2.2.1.2.2.1, T.2.2.2.1.2.2.2.1, T.2.2.2.1.2.2.2.2.1, T.2.2.2.1.2.2.2.2.2.1, T.2.2.2.1.2.2.2.2.2.2.1, T.2.2.2.1.2.2.2.2.2.2.2.1, T.2.2.2.1.2.2.2.2.2.2.2.2.1, v_rc, v_dc, v_od, v_th, v_mi, v_po, v_gh, v_nn, v_gm, v_cs), T.2.2.2.2.1, T.2.2.2.2.2.1, T.2.2.2.2.2.2.1, T.2.2.2.2.2.2.2.1, T.2.2.2.2.2.2.2.2.1, T.2.2.2.2.2.2.2.2.2.1, T.2.2.2.2.2.2.2.2.2.2.1, T.2.2.2.2.2.2.2.2.2.2.2.1, T.2.2.2.2.2.2.2.2.2.2.2.2.1, T.2.2.2.2.2.2.2.2.2.2.2.2.2.1, T.2.2.2.2.2.2.2.2.2.2.2.2.2.2.1, T.2.2.2.2.2.2.2.2.2.2.2.2.2.2.2.1, T.2.2.2.2.2.2.2.2.2.2.2.2.2.2.2.2.1, T.2.2.2.2.2.2.2.2.2.2.2.2.2.2.2.2.2.1, T.2.2.2.2.2.2.2.2.2.2.2.2.2.2.2.2.2.2.1, T.2.2.2.2.2.2.2.2.2.2.2.2.2.2.2.2.2.2.2.1, T.2.2.2.2.2.2.2.2.2.2.2.2.2.2.2.2.2.2.2.2.1, T.2.2.2.2.2.2.2.2.2.2.2.2.2.2.2.2.2.2.2.2.2.1, T.2.2.2.2.2.2.2.2.2.2.2.2.2.2.2.2.2.2.2.2.2.2.1, T.2.2.2.2.2.2.2.2.2.2.2.2.2.2.2.2.2.2.2.2.2.2.2.1, T.2.2.2.2.2.2.2.2.2.2.2.2.2.2.2.2.2.2.2.2.2.2.2.2.1, T.2.2.2.2.2.2.2.2.2.2.2.2.2.2.2.2.2.2.2.2.2.2.2.2.2.1, T.2.2.2.2.2.2.2.2.2.2.2.2.2.2.2.2.2.2.2.2.2.2.2.2.2.2.1, T.2.2.2.2.2.2.2.2.2.2.2.2.2.2.2.2.2.2.2.2.2.2.2.2.2.2.2.1, T.2.2.2.2.2.2.2.2.2.2.2.2.2.2.2.2.2.2.2.2.2.2.2.2.2.2.2.2.1, T.2.2.2.2.2.2.2.2.2.2.2.2.2.2.2.2.2.2.2.2.2.2.2.2.2.2.2.2.2.1, T.2.2.2.2.2.2.2.2.2.2.2.2.2.2.2.2.2.2.2.2.2.2.2.2.2.2.2.2.2.2.1, T.2.2.2.2.2.2.2.2.2.2.2.2.2.2.2.2.2.2.2.2.2.2.2.2.2.2.2.2.2.2.2.1, T.2.2.2.2.2.2.2.2.2.2.2.2.2.2.2.2.2.2.2.2.2.2.2.2.2.2.2.2.2.2.2.2.1, T.2.2.2.2.2.2.2.2.2.2.2.2.2.2.2.2.2.2.2.2.2.2.2.2.2.2.2.2.2.2.2.2.2) := by
  have e : hH (hG h z T) (z + 19) T.2.2.2.1 = hG h z T := hG_h19 (U := T.2.2.2.1)
  have e2 := hH_up0 (h := hG h z T) (p := z + 19) (T := T.2.2.2.1) (v_rc := v_rc) (v_dc := v_dc) (v_od := v_od) (v_th := v_th) (v_mi := v_mi) (v_po := v_po) (v_gh := v_gh) (v_nn := v_nn) (v_gm := v_gm) (v_cs := v_cs)
  rw [e, hG_h19] at e2
  exact e2
theorem hG_Du17 {h : HM} {z : Nat} {T : KT} {v_se : Nat → Int32} : hup (hG h z T) (z + 36) (ints 6 v_se) = hG h z (T.1, T.2.1, T.2.2.1, (T.2.2.2.1.1, T.2.2.2.1.2.1, T.2.2.2.1.2.2.1, T.2.2.2.1.2.2.2.1, T.2.2.2.1.2.2.2.2.1, T.2.2.2.1.2.2.2.2.2.1, T.2.2.2.1.2.2.2.2.2.2.1, T.2.2.2.1.2.2.2.2.2.2.2.1, v_se, T.2.2.2.1.2.2.2.2.2.2.2.2.2.1, T.2.2.2.1.2.2.2.2.2.2.2.2.2.2.1, T.2.2.2.1.2.2.2.2.2.2.2.2.2.2.2.1, T.2.2.2.1.2.2.2.2.2.2.2.2.2.2.2.2.1, T.2.2.2.1.2.2.2.2.2.2.2.2.2.2.2.2.2.1, T.2.2.2.1.2.2.2.2.2.2.2.2.2.2.2.2.2.2.1, T.2.2.2.1.2.2.2.2.2.2.2.2.2.2.2.2.2.2.2.1, T.2.2.2.1.2.2.2.2.2.2.2.2.2.2.2.2.2.2.2.2.1, T.2.2.2.1.2.2.2.2.2.2.2.2.2.2.2.2.2.2.2.2.2.1, T.2.2.2.1.2.2.2.2.2.2.2.2.2.2.2.2.2.2.2.2.2.2), T.2.2.2.2.1, T.2.2.2.2.2.1, T.2.2.2.2.2.2.1, T.2.2.2.2.2.2.2.1, T.2.2.2.2.2.2.2.2.1, T.2.2.2.2.2.2.2.2.2.1, T.2.2.2.2.2.2.2.2.2.2.1, T.2.2.2.2.2.2.2.2.2.2.2.1, T.2.2.2.2.2.2.2.2.2.2.2.2.1, T.2.2.2.2.2.2.2.2.2.2.2.2.2.1, T.2.2.2.2.2.2.2.2.2.2.2.2.2.2.1, T.2.2.2.2.2.2.2.2.2.2.2.2.2.2.2.1, T.2.2.2.2.2.2.2.2.2.2.2.2.2.2.2.2.1, T.2.2.2.2.2.2.2.2.2.2.2.2.2.2.2.2.2.1, T.2.2.2.2.2.2.2.2.2.2.2.2.2.2.2.2.2.2.1, T.2.2.2.2.2.2.2.2.2.2.2.2.2.2.2.2.2.2.2.1, T.2.2.2.2.2.2.2.2.2.2.2.2.2.2.2.2.2.2.2.2.1, T.2.2.2.2.2.2.2.2.2.2.2.2.2.2.2.2.2.2.2.2.2.1, T.2.2.2.2.2.2.2.2.2.2.2.2.2.2.2.2.2.2.2.2.2.2.1, T.2.2.2.2.2.2.2.2.2.2.2.2.2.2.2.2.2.2.2.2.2.2.2.1, T.2.2.2.2.2.2.2.2.2.2.2.2.2.2.2.2.2.2.2.2.2.2.2.2.1, T.2.2.2.2.2.2.2.2.2.2.2.2.2.2.2.2.2.2.2.2.2.2.2.2.2.1, T.2.2.2.2.2.2.2.2.2.2.2.2.2.2.2.2.2.2.2.2.2.2.2.2.2.2.1, T.2.2.2.2.2.2.2.2.2.2.2.2.2.2.2.2.2.2.2.2.2.2.2.2.2.2.2.1, T.2.2.2.2.2.2.2.2.2.2.2.2.2.2.2.2.2.2.2.2.2.2.2.2.2.2.2.2.1, T.2.2.2.2.2.2.2.2.2.2.2.2.2.2.2.2.2.2.2.2.2.2.2.2.2.2.2.2.2.1, T.2.2.2.2.2.2.2.2.2.2.2.2.2.2.2.2.2.2.2.2.2.2.2.2.2.2.2.2.2.2.1, T.2.2.2.2.2.2.2.2.2.2.2.2.2.2.2.2.2.2.2.2.2.2.2.2.2.2.2.2.2.2.2.1, T.2.2.2.2.2.2.2.2.2.2.2.2.2.2.2.2.2.2.2.2.2.2.2.2.2.2.2.2.2.2.2.2.1, T.2.2.2.2.2.2.2.2.2.2.2.2.2.2.2.2.2.2.2.2.2.2.2.2.2.2.2.2.2.2.2.2.2) := by
  have e : hH (hG h z T) (z + 19) T.2.2.2.1 = hG h z T := hG_h19 (U := T.2.2.2.1)
  have e2 := hH_up17 (h := hG h z T) (p := z + 19) (T := T.2.2.2.1) (v_se := v_se)
  rw [e, hG_h19] at e2
  exact e2
set_option maxRecDepth 8000
section AC
variable {G : GG} {as : List Value} {h : HM} {o : Option Nat} {Q : XQ}
end AC
