/-! e1: the law's wrappers -/
set_option maxRecDepth 8000
/-- behind a wrapper: what came back lies in the row at w, and 0 is told; or what was thrown, by its number -/
def WQ (cs : List (Nat × Int32)) (w : Nat) (Q : XQ) : XQ := fun u h o => match u with
  | .inl (some (.int v)) => ∃ f, h w = some (lrow f) ∧ Q (.inl (some (.int 0))) (hup h w (lrow (vp_updL f 0 v.toInt64))) o
  | .inr E => ∃ q, q ∈ cs ∧ E = exN q.1 ∧ Q (.inl (some (.int q.2))) h o
  | _ => False
def WQB (cs : List (Nat × Int32)) (w : Nat) (Q : XQ) : XQ := fun u h o => match u with
  | .inl (some (.int v)) => ∃ f, h w = some (lrow f) ∧ Q (.inl (some (.int 0))) (hup h w (lrow (vp_updL f 0 (if v = 0 then 0 else 1)))) o
  | .inr E => ∃ q, q ∈ cs ∧ E = exN q.1 ∧ Q (.inl (some (.int q.2))) h o
  | _ => False
theorem WQ_to {cs : List (Nat × Int32)} {w : Nat} {Q Q2 : XQ} (h1 : ∀ v f h o, h w = some (lrow f) → Q (.inl (some (.int 0))) (hup h w (lrow (vp_updL f 0 v.toInt64))) o → Q2 (.inl (some (.int v))) h o) (h2 : ∀ kd c h o, (kd, c) ∈ cs → Q (.inl (some (.int c))) h o → Q2 (.inr (exN kd)) h o) : ∀ u h o, WQ cs w Q u h o → Q2 u h o := by
  intro u h o hq
  cases u with
  | inl v => cases v with
    | none => exact False.elim hq
    | some v => cases v with
      | int v =>
        obtain ⟨f, e1, e2⟩ := hq
        exact h1 v f h o e1 e2
      | _ => exact False.elim hq
  | inr E =>
    obtain ⟨q, hm, e1, e2⟩ := hq
    rw [e1]
    exact h2 q.1 q.2 h o hm e2
theorem WQB_to {cs : List (Nat × Int32)} {w : Nat} {Q Q2 : XQ} (h1 : ∀ v f h o, h w = some (lrow f) → Q (.inl (some (.int 0))) (hup h w (lrow (vp_updL f 0 (if v = 0 then 0 else 1)))) o → Q2 (.inl (some (.int v))) h o) (h2 : ∀ kd c h o, (kd, c) ∈ cs → Q (.inl (some (.int c))) h o → Q2 (.inr (exN kd)) h o) : ∀ u h o, WQB cs w Q u h o → Q2 u h o := by
  intro u h o hq
  cases u with
  | inl v => cases v with
    | none => exact False.elim hq
    | some v => cases v with
      | int v =>
        obtain ⟨f, e1, e2⟩ := hq
        exact h1 v f h o e1 e2
      | _ => exact False.elim hq
  | inr E =>
    obtain ⟨q, hm, e1, e2⟩ := hq
    rw [e1]
    exact h2 q.1 q.2 h o hm e2
section LW
variable {G : GG} {h : HM} {o : Option Nat} {Q : XQ}
theorem l_feed {z w : Nat} {a1 a2 a3 a4 a5 : Int32} {fs : List Value} (hz : h z = some (.inr (10, fs))) (hr : Runs G m_G_feed [.ref z, .int a1, .int a2, .int a3, .int a4, .int a5] h o (WQ [(0, 1)] w Q)) : Runs G m_L_feed [.ref z, .int a1, .int a2, .int a3, .int a4, .int a5, .ref w] h o Q := by
  refine Runs.of (by decide +kernel) (Nat.le_of_ble_eq_true rfl) ?_
  refine s_aload (z := 6) (by decide +kernel) rfl ?_
  refine s_iconst (z := 0) (v := 0) (by decide +kernel) (by decide) ?_
  refine s_aload_n (z := 0) (by decide +kernel) rfl ?_
  refine s_iload_n (z := 1) (by decide +kernel) rfl ?_
  refine s_iload_n (z := 2) (by decide +kernel) rfl ?_
  refine s_iload_n (z := 3) (by decide +kernel) rfl ?_
  refine s_iload (z := 4) (by decide +kernel) rfl ?_
  refine s_iload (z := 5) (by decide +kernel) rfl ?_
  refine s_callV (b := z) (ci := 10) (idx := 7) (nest := 0) (j := m_G_feed) (as := [.int a1, .int a2, .int a3, .int a4, .int a5]) (st := [.int 0, .ref w]) (by decide +kernel) (by decide +kernel) rfl (by decide +kernel) (by decide +kernel) rfl (by decide +kernel) (show 2 ≤ 8 by decide) (show 5 = mNp m_G_feed by decide +kernel) hz (by decide +kernel) ?_
  refine hr.mono (WQ_to (fun v f h o e1 e2 => ?_) (fun kd c h o hm e2 => ?_))
  · show EX G m_L_feed 14 (lv_args 0 [.ref z, .int a1, .int a2, .int a3, .int a4, .int a5, .ref w]) [.int v, .int 0, .ref w] h o _ _ Q
    refine s_i2l (by decide +kernel) ?_
    refine s_lastore (by decide +kernel) e1 (by unfold vp_in; decide) ?_
    refine s_goto (off := 7) (tgt := 23) (by decide +kernel) (by decide) ?_
    refine s_iconst (z := 0) (v := 0) (by decide +kernel) (by decide) ?_
    exact s_ireturn (by decide +kernel) (by decide +kernel) (by decide +kernel) (by decide +kernel) e2
  · simp only [List.mem_cons, Prod.mk.injEq, List.not_mem_nil, or_false] at hm
    obtain ⟨rfl, rfl⟩ := hm
    show EXT G m_L_feed 11 (lv_args 0 [.ref z, .int a1, .int a2, .int a3, .int a4, .int a5, .ref w]) (exN 0) h o _ _ Q
    refine EXT.caught (kd := 0) (pre := []) (suf := []) (x := { startPc := 0, endPc := 16, handlerPc := 19, catchType := 13 }) (by decide) rfl (fun z hz => absurd hz (by simp)) (by decide) (by decide) (by decide +kernel) (fun q => ?_)
    show EX G m_L_feed 19 (lv_args 0 [.ref z, .int a1, .int a2, .int a3, .int a4, .int a5, .ref w]) [.ref q] h o _ _ Q
    refine s_astore (z := 7) (by decide +kernel) (by decide +kernel) ?_
    refine s_iconst (z := 1) (v := 1) (by decide +kernel) (by decide) ?_
    exact s_ireturn (by decide +kernel) (by decide +kernel) (by decide +kernel) (by decide +kernel) e2
theorem l_truncate {z w : Nat} {a1 : Int32} {fs : List Value} (hz : h z = some (.inr (10, fs))) (hr : Runs G m_G_truncate [.ref z, .int a1] h o (WQ [(1, 1)] w Q)) : Runs G m_L_truncate [.ref z, .int a1, .ref w] h o Q := by
  refine Runs.of (by decide +kernel) (Nat.le_of_ble_eq_true rfl) ?_
  refine s_aload_n (z := 2) (by decide +kernel) rfl ?_
  refine s_iconst (z := 0) (v := 0) (by decide +kernel) (by decide) ?_
  refine s_aload_n (z := 0) (by decide +kernel) rfl ?_
  refine s_iload_n (z := 1) (by decide +kernel) rfl ?_
  refine s_callV (b := z) (ci := 10) (idx := 15) (nest := 0) (j := m_G_truncate) (as := [.int a1]) (st := [.int 0, .ref w]) (by decide +kernel) (by decide +kernel) rfl (by decide +kernel) (by decide +kernel) rfl (by decide +kernel) (show 2 ≤ 8 by decide) (show 1 = mNp m_G_truncate by decide +kernel) hz (by decide +kernel) ?_
  refine hr.mono (WQ_to (fun v f h o e1 e2 => ?_) (fun kd c h o hm e2 => ?_))
  · show EX G m_L_truncate 7 (lv_args 0 [.ref z, .int a1, .ref w]) [.int v, .int 0, .ref w] h o _ _ Q
    refine s_i2l (by decide +kernel) ?_
    refine s_lastore (by decide +kernel) e1 (by unfold vp_in; decide) ?_
    refine s_goto (off := 6) (tgt := 15) (by decide +kernel) (by decide) ?_
    refine s_iconst (z := 0) (v := 0) (by decide +kernel) (by decide) ?_
    exact s_ireturn (by decide +kernel) (by decide +kernel) (by decide +kernel) (by decide +kernel) e2
  · simp only [List.mem_cons, Prod.mk.injEq, List.not_mem_nil, or_false] at hm
    obtain ⟨rfl, rfl⟩ := hm
    show EXT G m_L_truncate 4 (lv_args 0 [.ref z, .int a1, .ref w]) (exN 1) h o _ _ Q
    refine EXT.caught (kd := 1) (pre := []) (suf := []) (x := { startPc := 0, endPc := 9, handlerPc := 12, catchType := 19 }) (by decide) rfl (fun z hz => absurd hz (by simp)) (by decide) (by decide) (by decide +kernel) (fun q => ?_)
    show EX G m_L_truncate 12 (lv_args 0 [.ref z, .int a1, .ref w]) [.ref q] h o _ _ Q
    refine s_astore_n (z := 3) (by decide +kernel) (by decide +kernel) ?_
    refine s_iconst (z := 1) (v := 1) (by decide +kernel) (by decide) ?_
    exact s_ireturn (by decide +kernel) (by decide +kernel) (by decide +kernel) (by decide +kernel) e2
theorem l_readText {z w : Nat} {fs : List Value} (hz : h z = some (.inr (10, fs))) (hr : Runs G m_G_readText [.ref z] h o (WQ [(1, 1)] w Q)) : Runs G m_L_readText [.ref z, .ref w] h o Q := by
  refine Runs.of (by decide +kernel) (Nat.le_of_ble_eq_true rfl) ?_
  refine s_aload_n (z := 1) (by decide +kernel) rfl ?_
  refine s_iconst (z := 0) (v := 0) (by decide +kernel) (by decide) ?_
  refine s_aload_n (z := 0) (by decide +kernel) rfl ?_
  refine s_callV (b := z) (ci := 10) (idx := 21) (nest := 0) (j := m_G_readText) (as := []) (st := [.int 0, .ref w]) (by decide +kernel) (by decide +kernel) rfl (by decide +kernel) (by decide +kernel) rfl (by decide +kernel) (show 2 ≤ 8 by decide) (show 0 = mNp m_G_readText by decide +kernel) hz (by decide +kernel) ?_
  refine hr.mono (WQ_to (fun v f h o e1 e2 => ?_) (fun kd c h o hm e2 => ?_))
  · show EX G m_L_readText 6 (lv_args 0 [.ref z, .ref w]) [.int v, .int 0, .ref w] h o _ _ Q
    refine s_i2l (by decide +kernel) ?_
    refine s_lastore (by decide +kernel) e1 (by unfold vp_in; decide) ?_
    refine s_goto (off := 6) (tgt := 14) (by decide +kernel) (by decide) ?_
    refine s_iconst (z := 0) (v := 0) (by decide +kernel) (by decide) ?_
    exact s_ireturn (by decide +kernel) (by decide +kernel) (by decide +kernel) (by decide +kernel) e2
  · simp only [List.mem_cons, Prod.mk.injEq, List.not_mem_nil, or_false] at hm
    obtain ⟨rfl, rfl⟩ := hm
    show EXT G m_L_readText 3 (lv_args 0 [.ref z, .ref w]) (exN 1) h o _ _ Q
    refine EXT.caught (kd := 1) (pre := []) (suf := []) (x := { startPc := 0, endPc := 8, handlerPc := 11, catchType := 19 }) (by decide) rfl (fun z hz => absurd hz (by simp)) (by decide) (by decide) (by decide +kernel) (fun q => ?_)
    show EX G m_L_readText 11 (lv_args 0 [.ref z, .ref w]) [.ref q] h o _ _ Q
    refine s_astore_n (z := 2) (by decide +kernel) (by decide +kernel) ?_
    refine s_iconst (z := 1) (v := 1) (by decide +kernel) (by decide) ?_
    exact s_ireturn (by decide +kernel) (by decide +kernel) (by decide +kernel) (by decide +kernel) e2
theorem l_runScript {z w : Nat} {fs : List Value} (hz : h z = some (.inr (10, fs))) (hr : Runs G m_G_runScript [.ref z] h o (WQ [(1, 1)] w Q)) : Runs G m_L_runScript [.ref z, .ref w] h o Q := by
  refine Runs.of (by decide +kernel) (Nat.le_of_ble_eq_true rfl) ?_
  refine s_aload_n (z := 1) (by decide +kernel) rfl ?_
  refine s_iconst (z := 0) (v := 0) (by decide +kernel) (by decide) ?_
  refine s_aload_n (z := 0) (by decide +kernel) rfl ?_
  refine s_callV (b := z) (ci := 10) (idx := 25) (nest := 0) (j := m_G_runScript) (as := []) (st := [.int 0, .ref w]) (by decide +kernel) (by decide +kernel) rfl (by decide +kernel) (by decide +kernel) rfl (by decide +kernel) (show 2 ≤ 8 by decide) (show 0 = mNp m_G_runScript by decide +kernel) hz (by decide +kernel) ?_
  refine hr.mono (WQ_to (fun v f h o e1 e2 => ?_) (fun kd c h o hm e2 => ?_))
  · show EX G m_L_runScript 6 (lv_args 0 [.ref z, .ref w]) [.int v, .int 0, .ref w] h o _ _ Q
    refine s_i2l (by decide +kernel) ?_
    refine s_lastore (by decide +kernel) e1 (by unfold vp_in; decide) ?_
    refine s_goto (off := 6) (tgt := 14) (by decide +kernel) (by decide) ?_
    refine s_iconst (z := 0) (v := 0) (by decide +kernel) (by decide) ?_
    exact s_ireturn (by decide +kernel) (by decide +kernel) (by decide +kernel) (by decide +kernel) e2
  · simp only [List.mem_cons, Prod.mk.injEq, List.not_mem_nil, or_false] at hm
    obtain ⟨rfl, rfl⟩ := hm
    show EXT G m_L_runScript 3 (lv_args 0 [.ref z, .ref w]) (exN 1) h o _ _ Q
    refine EXT.caught (kd := 1) (pre := []) (suf := []) (x := { startPc := 0, endPc := 8, handlerPc := 11, catchType := 19 }) (by decide) rfl (fun z hz => absurd hz (by simp)) (by decide) (by decide) (by decide +kernel) (fun q => ?_)
    show EX G m_L_runScript 11 (lv_args 0 [.ref z, .ref w]) [.ref q] h o _ _ Q
    refine s_astore_n (z := 2) (by decide +kernel) (by decide +kernel) ?_
    refine s_iconst (z := 1) (v := 1) (by decide +kernel) (by decide) ?_
    exact s_ireturn (by decide +kernel) (by decide +kernel) (by decide +kernel) (by decide +kernel) e2
theorem l_nameByte {z w : Nat} {a1 a2 : Int32} {fs : List Value} (hz : h z = some (.inr (10, fs))) (hr : Runs G m_G_nameByte [.ref z, .int a1, .int a2] h o (WQ [(2, 1)] w Q)) : Runs G m_L_nameByte [.ref z, .int a1, .int a2, .ref w] h o Q := by
  refine Runs.of (by decide +kernel) (Nat.le_of_ble_eq_true rfl) ?_
  refine s_aload_n (z := 3) (by decide +kernel) rfl ?_
  refine s_iconst (z := 0) (v := 0) (by decide +kernel) (by decide) ?_
  refine s_aload_n (z := 0) (by decide +kernel) rfl ?_
  refine s_iload_n (z := 1) (by decide +kernel) rfl ?_
  refine s_iload_n (z := 2) (by decide +kernel) rfl ?_
  refine s_callV (b := z) (ci := 10) (idx := 28) (nest := 0) (j := m_G_nameByte) (as := [.int a1, .int a2]) (st := [.int 0, .ref w]) (by decide +kernel) (by decide +kernel) rfl (by decide +kernel) (by decide +kernel) rfl (by decide +kernel) (show 2 ≤ 8 by decide) (show 2 = mNp m_G_nameByte by decide +kernel) hz (by decide +kernel) ?_
  refine hr.mono (WQ_to (fun v f h o e1 e2 => ?_) (fun kd c h o hm e2 => ?_))
  · show EX G m_L_nameByte 8 (lv_args 0 [.ref z, .int a1, .int a2, .ref w]) [.int v, .int 0, .ref w] h o _ _ Q
    refine s_i2l (by decide +kernel) ?_
    refine s_lastore (by decide +kernel) e1 (by unfold vp_in; decide) ?_
    refine s_goto (off := 7) (tgt := 17) (by decide +kernel) (by decide) ?_
    refine s_iconst (z := 0) (v := 0) (by decide +kernel) (by decide) ?_
    exact s_ireturn (by decide +kernel) (by decide +kernel) (by decide +kernel) (by decide +kernel) e2
  · simp only [List.mem_cons, Prod.mk.injEq, List.not_mem_nil, or_false] at hm
    obtain ⟨rfl, rfl⟩ := hm
    show EXT G m_L_nameByte 5 (lv_args 0 [.ref z, .int a1, .int a2, .ref w]) (exN 2) h o _ _ Q
    refine EXT.caught (kd := 2) (pre := []) (suf := []) (x := { startPc := 0, endPc := 10, handlerPc := 13, catchType := 32 }) (by decide) rfl (fun z hz => absurd hz (by simp)) (by decide) (by decide) (by decide +kernel) (fun q => ?_)
    show EX G m_L_nameByte 13 (lv_args 0 [.ref z, .int a1, .int a2, .ref w]) [.ref q] h o _ _ Q
    refine s_astore (z := 4) (by decide +kernel) (by decide +kernel) ?_
    refine s_iconst (z := 1) (v := 1) (by decide +kernel) (by decide) ?_
    exact s_ireturn (by decide +kernel) (by decide +kernel) (by decide +kernel) (by decide +kernel) e2
theorem l_coldness {z w : Nat} {a1 : Int32} {fs : List Value} (hz : h z = some (.inr (10, fs))) (hr : Runs G m_G_coldness [.ref z, .int a1] h o (WQ [(2, 1)] w Q)) : Runs G m_L_coldness [.ref z, .int a1, .ref w] h o Q := by
  refine Runs.of (by decide +kernel) (Nat.le_of_ble_eq_true rfl) ?_
  refine s_aload_n (z := 2) (by decide +kernel) rfl ?_
  refine s_iconst (z := 0) (v := 0) (by decide +kernel) (by decide) ?_
  refine s_aload_n (z := 0) (by decide +kernel) rfl ?_
  refine s_iload_n (z := 1) (by decide +kernel) rfl ?_
  refine s_callV (b := z) (ci := 10) (idx := 34) (nest := 0) (j := m_G_coldness) (as := [.int a1]) (st := [.int 0, .ref w]) (by decide +kernel) (by decide +kernel) rfl (by decide +kernel) (by decide +kernel) rfl (by decide +kernel) (show 2 ≤ 8 by decide) (show 1 = mNp m_G_coldness by decide +kernel) hz (by decide +kernel) ?_
  refine hr.mono (WQ_to (fun v f h o e1 e2 => ?_) (fun kd c h o hm e2 => ?_))
  · show EX G m_L_coldness 7 (lv_args 0 [.ref z, .int a1, .ref w]) [.int v, .int 0, .ref w] h o _ _ Q
    refine s_i2l (by decide +kernel) ?_
    refine s_lastore (by decide +kernel) e1 (by unfold vp_in; decide) ?_
    refine s_goto (off := 6) (tgt := 15) (by decide +kernel) (by decide) ?_
    refine s_iconst (z := 0) (v := 0) (by decide +kernel) (by decide) ?_
    exact s_ireturn (by decide +kernel) (by decide +kernel) (by decide +kernel) (by decide +kernel) e2
  · simp only [List.mem_cons, Prod.mk.injEq, List.not_mem_nil, or_false] at hm
    obtain ⟨rfl, rfl⟩ := hm
    show EXT G m_L_coldness 4 (lv_args 0 [.ref z, .int a1, .ref w]) (exN 2) h o _ _ Q
    refine EXT.caught (kd := 2) (pre := []) (suf := []) (x := { startPc := 0, endPc := 9, handlerPc := 12, catchType := 32 }) (by decide) rfl (fun z hz => absurd hz (by simp)) (by decide) (by decide) (by decide +kernel) (fun q => ?_)
    show EX G m_L_coldness 12 (lv_args 0 [.ref z, .int a1, .ref w]) [.ref q] h o _ _ Q
    refine s_astore_n (z := 3) (by decide +kernel) (by decide +kernel) ?_
    refine s_iconst (z := 1) (v := 1) (by decide +kernel) (by decide) ?_
    exact s_ireturn (by decide +kernel) (by decide +kernel) (by decide +kernel) (by decide +kernel) e2
theorem l_hasThermometer {z w : Nat} {a1 : Int32} {fs : List Value} (hz : h z = some (.inr (10, fs))) (hr : Runs G m_G_hasThermometer [.ref z, .int a1] h o (WQB [(2, 1)] w Q)) : Runs G m_L_hasThermometer [.ref z, .int a1, .ref w] h o Q := by
  refine Runs.of (by decide +kernel) (Nat.le_of_ble_eq_true rfl) ?_
  refine s_aload_n (z := 2) (by decide +kernel) rfl ?_
  refine s_iconst (z := 0) (v := 0) (by decide +kernel) (by decide) ?_
  refine s_aload_n (z := 0) (by decide +kernel) rfl ?_
  refine s_iload_n (z := 1) (by decide +kernel) rfl ?_
  refine s_callV (b := z) (ci := 10) (idx := 37) (nest := 0) (j := m_G_hasThermometer) (as := [.int a1]) (st := [.int 0, .ref w]) (by decide +kernel) (by decide +kernel) rfl (by decide +kernel) (by decide +kernel) rfl (by decide +kernel) (show 2 ≤ 8 by decide) (show 1 = mNp m_G_hasThermometer by decide +kernel) hz (by decide +kernel) ?_
  refine hr.mono (WQB_to (fun v f h o e1 e2 => ?_) (fun kd c h o hm e2 => ?_))
  · show EX G m_L_hasThermometer 7 (lv_args 0 [.ref z, .int a1, .ref w]) [.int v, .int 0, .ref w] h o _ _ Q
    refine s_if_eq (off := 7) (tgt := 14) (by decide +kernel) (by decide) (fun c => ?_) (fun c => ?_)
    · rw [if_pos c] at e2
      refine s_lconst (z := 0) (v := 0) (by decide +kernel) (by decide) ?_
      refine s_lastore (by decide +kernel) e1 (by unfold vp_in; decide) ?_
      refine s_goto (off := 6) (tgt := 22) (by decide +kernel) (by decide) ?_
      refine s_iconst (z := 0) (v := 0) (by decide +kernel) (by decide) ?_
      exact s_ireturn (by decide +kernel) (by decide +kernel) (by decide +kernel) (by decide +kernel) e2
    · rw [if_neg c] at e2
      refine s_lconst (z := 1) (v := 1) (by decide +kernel) (by decide) ?_
      refine s_goto (off := 4) (tgt := 15) (by decide +kernel) (by decide) ?_
      refine s_lastore (by decide +kernel) e1 (by unfold vp_in; decide) ?_
      refine s_goto (off := 6) (tgt := 22) (by decide +kernel) (by decide) ?_
      refine s_iconst (z := 0) (v := 0) (by decide +kernel) (by decide) ?_
      exact s_ireturn (by decide +kernel) (by decide +kernel) (by decide +kernel) (by decide +kernel) e2
  · simp only [List.mem_cons, Prod.mk.injEq, List.not_mem_nil, or_false] at hm
    obtain ⟨rfl, rfl⟩ := hm
    show EXT G m_L_hasThermometer 4 (lv_args 0 [.ref z, .int a1, .ref w]) (exN 2) h o _ _ Q
    refine EXT.caught (kd := 2) (pre := []) (suf := []) (x := { startPc := 0, endPc := 16, handlerPc := 19, catchType := 32 }) (by decide) rfl (fun z hz => absurd hz (by simp)) (by decide) (by decide) (by decide +kernel) (fun q => ?_)
    show EX G m_L_hasThermometer 19 (lv_args 0 [.ref z, .int a1, .ref w]) [.ref q] h o _ _ Q
    refine s_astore_n (z := 3) (by decide +kernel) (by decide +kernel) ?_
    refine s_iconst (z := 1) (v := 1) (by decide +kernel) (by decide) ?_
    exact s_ireturn (by decide +kernel) (by decide +kernel) (by decide +kernel) (by decide +kernel) e2
theorem l_hasMicrophone {z w : Nat} {a1 : Int32} {fs : List Value} (hz : h z = some (.inr (10, fs))) (hr : Runs G m_G_hasMicrophone [.ref z, .int a1] h o (WQB [(2, 1)] w Q)) : Runs G m_L_hasMicrophone [.ref z, .int a1, .ref w] h o Q := by
  refine Runs.of (by decide +kernel) (Nat.le_of_ble_eq_true rfl) ?_
  refine s_aload_n (z := 2) (by decide +kernel) rfl ?_
  refine s_iconst (z := 0) (v := 0) (by decide +kernel) (by decide) ?_
  refine s_aload_n (z := 0) (by decide +kernel) rfl ?_
  refine s_iload_n (z := 1) (by decide +kernel) rfl ?_
  refine s_callV (b := z) (ci := 10) (idx := 41) (nest := 0) (j := m_G_hasMicrophone) (as := [.int a1]) (st := [.int 0, .ref w]) (by decide +kernel) (by decide +kernel) rfl (by decide +kernel) (by decide +kernel) rfl (by decide +kernel) (show 2 ≤ 8 by decide) (show 1 = mNp m_G_hasMicrophone by decide +kernel) hz (by decide +kernel) ?_
  refine hr.mono (WQB_to (fun v f h o e1 e2 => ?_) (fun kd c h o hm e2 => ?_))
  · show EX G m_L_hasMicrophone 7 (lv_args 0 [.ref z, .int a1, .ref w]) [.int v, .int 0, .ref w] h o _ _ Q
    refine s_if_eq (off := 7) (tgt := 14) (by decide +kernel) (by decide) (fun c => ?_) (fun c => ?_)
    · rw [if_pos c] at e2
      refine s_lconst (z := 0) (v := 0) (by decide +kernel) (by decide) ?_
      refine s_lastore (by decide +kernel) e1 (by unfold vp_in; decide) ?_
      refine s_goto (off := 6) (tgt := 22) (by decide +kernel) (by decide) ?_
      refine s_iconst (z := 0) (v := 0) (by decide +kernel) (by decide) ?_
      exact s_ireturn (by decide +kernel) (by decide +kernel) (by decide +kernel) (by decide +kernel) e2
    · rw [if_neg c] at e2
      refine s_lconst (z := 1) (v := 1) (by decide +kernel) (by decide) ?_
      refine s_goto (off := 4) (tgt := 15) (by decide +kernel) (by decide) ?_
      refine s_lastore (by decide +kernel) e1 (by unfold vp_in; decide) ?_
      refine s_goto (off := 6) (tgt := 22) (by decide +kernel) (by decide) ?_
      refine s_iconst (z := 0) (v := 0) (by decide +kernel) (by decide) ?_
      exact s_ireturn (by decide +kernel) (by decide +kernel) (by decide +kernel) (by decide +kernel) e2
  · simp only [List.mem_cons, Prod.mk.injEq, List.not_mem_nil, or_false] at hm
    obtain ⟨rfl, rfl⟩ := hm
    show EXT G m_L_hasMicrophone 4 (lv_args 0 [.ref z, .int a1, .ref w]) (exN 2) h o _ _ Q
    refine EXT.caught (kd := 2) (pre := []) (suf := []) (x := { startPc := 0, endPc := 16, handlerPc := 19, catchType := 32 }) (by decide) rfl (fun z hz => absurd hz (by simp)) (by decide) (by decide) (by decide +kernel) (fun q => ?_)
    show EX G m_L_hasMicrophone 19 (lv_args 0 [.ref z, .int a1, .ref w]) [.ref q] h o _ _ Q
    refine s_astore_n (z := 3) (by decide +kernel) (by decide +kernel) ?_
    refine s_iconst (z := 1) (v := 1) (by decide +kernel) (by decide) ?_
    exact s_ireturn (by decide +kernel) (by decide +kernel) (by decide +kernel) (by decide +kernel) e2
theorem l_neighbors {z w : Nat} {a1 : Int32} {fs : List Value} (hz : h z = some (.inr (10, fs))) (hr : Runs G m_G_neighbors [.ref z, .int a1] h o (WQ [(2, 1)] w Q)) : Runs G m_L_neighbors [.ref z, .int a1, .ref w] h o Q := by
  refine Runs.of (by decide +kernel) (Nat.le_of_ble_eq_true rfl) ?_
  refine s_aload_n (z := 2) (by decide +kernel) rfl ?_
  refine s_iconst (z := 0) (v := 0) (by decide +kernel) (by decide) ?_
  refine s_aload_n (z := 0) (by decide +kernel) rfl ?_
  refine s_iload_n (z := 1) (by decide +kernel) rfl ?_
  refine s_callV (b := z) (ci := 10) (idx := 44) (nest := 0) (j := m_G_neighbors) (as := [.int a1]) (st := [.int 0, .ref w]) (by decide +kernel) (by decide +kernel) rfl (by decide +kernel) (by decide +kernel) rfl (by decide +kernel) (show 2 ≤ 8 by decide) (show 1 = mNp m_G_neighbors by decide +kernel) hz (by decide +kernel) ?_
  refine hr.mono (WQ_to (fun v f h o e1 e2 => ?_) (fun kd c h o hm e2 => ?_))
  · show EX G m_L_neighbors 7 (lv_args 0 [.ref z, .int a1, .ref w]) [.int v, .int 0, .ref w] h o _ _ Q
    refine s_i2l (by decide +kernel) ?_
    refine s_lastore (by decide +kernel) e1 (by unfold vp_in; decide) ?_
    refine s_goto (off := 6) (tgt := 15) (by decide +kernel) (by decide) ?_
    refine s_iconst (z := 0) (v := 0) (by decide +kernel) (by decide) ?_
    exact s_ireturn (by decide +kernel) (by decide +kernel) (by decide +kernel) (by decide +kernel) e2
  · simp only [List.mem_cons, Prod.mk.injEq, List.not_mem_nil, or_false] at hm
    obtain ⟨rfl, rfl⟩ := hm
    show EXT G m_L_neighbors 4 (lv_args 0 [.ref z, .int a1, .ref w]) (exN 2) h o _ _ Q
    refine EXT.caught (kd := 2) (pre := []) (suf := []) (x := { startPc := 0, endPc := 9, handlerPc := 12, catchType := 32 }) (by decide) rfl (fun z hz => absurd hz (by simp)) (by decide) (by decide) (by decide +kernel) (fun q => ?_)
    show EX G m_L_neighbors 12 (lv_args 0 [.ref z, .int a1, .ref w]) [.ref q] h o _ _ Q
    refine s_astore_n (z := 3) (by decide +kernel) (by decide +kernel) ?_
    refine s_iconst (z := 1) (v := 1) (by decide +kernel) (by decide) ?_
    exact s_ireturn (by decide +kernel) (by decide +kernel) (by decide +kernel) (by decide +kernel) e2
theorem l_lowRoom {z w : Nat} {a1 : Int32} {fs : List Value} (hz : h z = some (.inr (10, fs))) (hr : Runs G m_G_lowRoom [.ref z, .int a1] h o (WQ [(2, 1)] w Q)) : Runs G m_L_lowRoom [.ref z, .int a1, .ref w] h o Q := by
  refine Runs.of (by decide +kernel) (Nat.le_of_ble_eq_true rfl) ?_
  refine s_aload_n (z := 2) (by decide +kernel) rfl ?_
  refine s_iconst (z := 0) (v := 0) (by decide +kernel) (by decide) ?_
  refine s_aload_n (z := 0) (by decide +kernel) rfl ?_
  refine s_iload_n (z := 1) (by decide +kernel) rfl ?_
  refine s_callV (b := z) (ci := 10) (idx := 47) (nest := 0) (j := m_G_lowRoom) (as := [.int a1]) (st := [.int 0, .ref w]) (by decide +kernel) (by decide +kernel) rfl (by decide +kernel) (by decide +kernel) rfl (by decide +kernel) (show 2 ≤ 8 by decide) (show 1 = mNp m_G_lowRoom by decide +kernel) hz (by decide +kernel) ?_
  refine hr.mono (WQ_to (fun v f h o e1 e2 => ?_) (fun kd c h o hm e2 => ?_))
  · show EX G m_L_lowRoom 7 (lv_args 0 [.ref z, .int a1, .ref w]) [.int v, .int 0, .ref w] h o _ _ Q
    refine s_i2l (by decide +kernel) ?_
    refine s_lastore (by decide +kernel) e1 (by unfold vp_in; decide) ?_
    refine s_goto (off := 6) (tgt := 15) (by decide +kernel) (by decide) ?_
    refine s_iconst (z := 0) (v := 0) (by decide +kernel) (by decide) ?_
    exact s_ireturn (by decide +kernel) (by decide +kernel) (by decide +kernel) (by decide +kernel) e2
  · simp only [List.mem_cons, Prod.mk.injEq, List.not_mem_nil, or_false] at hm
    obtain ⟨rfl, rfl⟩ := hm
    show EXT G m_L_lowRoom 4 (lv_args 0 [.ref z, .int a1, .ref w]) (exN 2) h o _ _ Q
    refine EXT.caught (kd := 2) (pre := []) (suf := []) (x := { startPc := 0, endPc := 9, handlerPc := 12, catchType := 32 }) (by decide) rfl (fun z hz => absurd hz (by simp)) (by decide) (by decide) (by decide +kernel) (fun q => ?_)
    show EX G m_L_lowRoom 12 (lv_args 0 [.ref z, .int a1, .ref w]) [.ref q] h o _ _ Q
    refine s_astore_n (z := 3) (by decide +kernel) (by decide +kernel) ?_
    refine s_iconst (z := 1) (v := 1) (by decide +kernel) (by decide) ?_
    exact s_ireturn (by decide +kernel) (by decide +kernel) (by decide +kernel) (by decide +kernel) e2
theorem l_highRoom {z w : Nat} {a1 : Int32} {fs : List Value} (hz : h z = some (.inr (10, fs))) (hr : Runs G m_G_highRoom [.ref z, .int a1] h o (WQ [(2, 1)] w Q)) : Runs G m_L_highRoom [.ref z, .int a1, .ref w] h o Q := by
  refine Runs.of (by decide +kernel) (Nat.le_of_ble_eq_true rfl) ?_
  refine s_aload_n (z := 2) (by decide +kernel) rfl ?_
  refine s_iconst (z := 0) (v := 0) (by decide +kernel) (by decide) ?_
  refine s_aload_n (z := 0) (by decide +kernel) rfl ?_
  refine s_iload_n (z := 1) (by decide +kernel) rfl ?_
  refine s_callV (b := z) (ci := 10) (idx := 50) (nest := 0) (j := m_G_highRoom) (as := [.int a1]) (st := [.int 0, .ref w]) (by decide +kernel) (by decide +kernel) rfl (by decide +kernel) (by decide +kernel) rfl (by decide +kernel) (show 2 ≤ 8 by decide) (show 1 = mNp m_G_highRoom by decide +kernel) hz (by decide +kernel) ?_
  refine hr.mono (WQ_to (fun v f h o e1 e2 => ?_) (fun kd c h o hm e2 => ?_))
  · show EX G m_L_highRoom 7 (lv_args 0 [.ref z, .int a1, .ref w]) [.int v, .int 0, .ref w] h o _ _ Q
    refine s_i2l (by decide +kernel) ?_
    refine s_lastore (by decide +kernel) e1 (by unfold vp_in; decide) ?_
    refine s_goto (off := 6) (tgt := 15) (by decide +kernel) (by decide) ?_
    refine s_iconst (z := 0) (v := 0) (by decide +kernel) (by decide) ?_
    exact s_ireturn (by decide +kernel) (by decide +kernel) (by decide +kernel) (by decide +kernel) e2
  · simp only [List.mem_cons, Prod.mk.injEq, List.not_mem_nil, or_false] at hm
    obtain ⟨rfl, rfl⟩ := hm
    show EXT G m_L_highRoom 4 (lv_args 0 [.ref z, .int a1, .ref w]) (exN 2) h o _ _ Q
    refine EXT.caught (kd := 2) (pre := []) (suf := []) (x := { startPc := 0, endPc := 9, handlerPc := 12, catchType := 32 }) (by decide) rfl (fun z hz => absurd hz (by simp)) (by decide) (by decide) (by decide +kernel) (fun q => ?_)
    show EX G m_L_highRoom 12 (lv_args 0 [.ref z, .int a1, .ref w]) [.ref q] h o _ _ Q
    refine s_astore_n (z := 3) (by decide +kernel) (by decide +kernel) ?_
    refine s_iconst (z := 1) (v := 1) (by decide +kernel) (by decide) ?_
    exact s_ireturn (by decide +kernel) (by decide +kernel) (by decide +kernel) (by decide +kernel) e2
theorem l_noise {z w : Nat} {a1 : Int32} {fs : List Value} (hz : h z = some (.inr (10, fs))) (hr : Runs G m_G_noise [.ref z, .int a1] h o (WQ [(2, 1)] w Q)) : Runs G m_L_noise [.ref z, .int a1, .ref w] h o Q := by
  refine Runs.of (by decide +kernel) (Nat.le_of_ble_eq_true rfl) ?_
  refine s_aload_n (z := 2) (by decide +kernel) rfl ?_
  refine s_iconst (z := 0) (v := 0) (by decide +kernel) (by decide) ?_
  refine s_aload_n (z := 0) (by decide +kernel) rfl ?_
  refine s_iload_n (z := 1) (by decide +kernel) rfl ?_
  refine s_callV (b := z) (ci := 10) (idx := 53) (nest := 0) (j := m_G_noise) (as := [.int a1]) (st := [.int 0, .ref w]) (by decide +kernel) (by decide +kernel) rfl (by decide +kernel) (by decide +kernel) rfl (by decide +kernel) (show 2 ≤ 8 by decide) (show 1 = mNp m_G_noise by decide +kernel) hz (by decide +kernel) ?_
  refine hr.mono (WQ_to (fun v f h o e1 e2 => ?_) (fun kd c h o hm e2 => ?_))
  · show EX G m_L_noise 7 (lv_args 0 [.ref z, .int a1, .ref w]) [.int v, .int 0, .ref w] h o _ _ Q
    refine s_i2l (by decide +kernel) ?_
    refine s_lastore (by decide +kernel) e1 (by unfold vp_in; decide) ?_
    refine s_goto (off := 6) (tgt := 15) (by decide +kernel) (by decide) ?_
    refine s_iconst (z := 0) (v := 0) (by decide +kernel) (by decide) ?_
    exact s_ireturn (by decide +kernel) (by decide +kernel) (by decide +kernel) (by decide +kernel) e2
  · simp only [List.mem_cons, Prod.mk.injEq, List.not_mem_nil, or_false] at hm
    obtain ⟨rfl, rfl⟩ := hm
    show EXT G m_L_noise 4 (lv_args 0 [.ref z, .int a1, .ref w]) (exN 2) h o _ _ Q
    refine EXT.caught (kd := 2) (pre := []) (suf := []) (x := { startPc := 0, endPc := 9, handlerPc := 12, catchType := 32 }) (by decide) rfl (fun z hz => absurd hz (by simp)) (by decide) (by decide) (by decide +kernel) (fun q => ?_)
    show EX G m_L_noise 12 (lv_args 0 [.ref z, .int a1, .ref w]) [.ref q] h o _ _ Q
    refine s_astore_n (z := 3) (by decide +kernel) (by decide +kernel) ?_
    refine s_iconst (z := 1) (v := 1) (by decide +kernel) (by decide) ?_
    exact s_ireturn (by decide +kernel) (by decide +kernel) (by decide +kernel) (by decide +kernel) e2
theorem l_isOpen {z w : Nat} {a1 : Int32} {fs : List Value} (hz : h z = some (.inr (10, fs))) (hr : Runs G m_G_isOpen [.ref z, .int a1] h o (WQB [(2, 1)] w Q)) : Runs G m_L_isOpen [.ref z, .int a1, .ref w] h o Q := by
  refine Runs.of (by decide +kernel) (Nat.le_of_ble_eq_true rfl) ?_
  refine s_aload_n (z := 2) (by decide +kernel) rfl ?_
  refine s_iconst (z := 0) (v := 0) (by decide +kernel) (by decide) ?_
  refine s_aload_n (z := 0) (by decide +kernel) rfl ?_
  refine s_iload_n (z := 1) (by decide +kernel) rfl ?_
  refine s_callV (b := z) (ci := 10) (idx := 56) (nest := 0) (j := m_G_isOpen) (as := [.int a1]) (st := [.int 0, .ref w]) (by decide +kernel) (by decide +kernel) rfl (by decide +kernel) (by decide +kernel) rfl (by decide +kernel) (show 2 ≤ 8 by decide) (show 1 = mNp m_G_isOpen by decide +kernel) hz (by decide +kernel) ?_
  refine hr.mono (WQB_to (fun v f h o e1 e2 => ?_) (fun kd c h o hm e2 => ?_))
  · show EX G m_L_isOpen 7 (lv_args 0 [.ref z, .int a1, .ref w]) [.int v, .int 0, .ref w] h o _ _ Q
    refine s_if_eq (off := 7) (tgt := 14) (by decide +kernel) (by decide) (fun c => ?_) (fun c => ?_)
    · rw [if_pos c] at e2
      refine s_lconst (z := 0) (v := 0) (by decide +kernel) (by decide) ?_
      refine s_lastore (by decide +kernel) e1 (by unfold vp_in; decide) ?_
      refine s_goto (off := 6) (tgt := 22) (by decide +kernel) (by decide) ?_
      refine s_iconst (z := 0) (v := 0) (by decide +kernel) (by decide) ?_
      exact s_ireturn (by decide +kernel) (by decide +kernel) (by decide +kernel) (by decide +kernel) e2
    · rw [if_neg c] at e2
      refine s_lconst (z := 1) (v := 1) (by decide +kernel) (by decide) ?_
      refine s_goto (off := 4) (tgt := 15) (by decide +kernel) (by decide) ?_
      refine s_lastore (by decide +kernel) e1 (by unfold vp_in; decide) ?_
      refine s_goto (off := 6) (tgt := 22) (by decide +kernel) (by decide) ?_
      refine s_iconst (z := 0) (v := 0) (by decide +kernel) (by decide) ?_
      exact s_ireturn (by decide +kernel) (by decide +kernel) (by decide +kernel) (by decide +kernel) e2
  · simp only [List.mem_cons, Prod.mk.injEq, List.not_mem_nil, or_false] at hm
    obtain ⟨rfl, rfl⟩ := hm
    show EXT G m_L_isOpen 4 (lv_args 0 [.ref z, .int a1, .ref w]) (exN 2) h o _ _ Q
    refine EXT.caught (kd := 2) (pre := []) (suf := []) (x := { startPc := 0, endPc := 16, handlerPc := 19, catchType := 32 }) (by decide) rfl (fun z hz => absurd hz (by simp)) (by decide) (by decide) (by decide +kernel) (fun q => ?_)
    show EX G m_L_isOpen 19 (lv_args 0 [.ref z, .int a1, .ref w]) [.ref q] h o _ _ Q
    refine s_astore_n (z := 3) (by decide +kernel) (by decide +kernel) ?_
    refine s_iconst (z := 1) (v := 1) (by decide +kernel) (by decide) ?_
    exact s_ireturn (by decide +kernel) (by decide +kernel) (by decide +kernel) (by decide +kernel) e2
theorem l_isMonitored {z w : Nat} {a1 : Int32} {fs : List Value} (hz : h z = some (.inr (10, fs))) (hr : Runs G m_G_isMonitored [.ref z, .int a1] h o (WQB [(2, 1)] w Q)) : Runs G m_L_isMonitored [.ref z, .int a1, .ref w] h o Q := by
  refine Runs.of (by decide +kernel) (Nat.le_of_ble_eq_true rfl) ?_
  refine s_aload_n (z := 2) (by decide +kernel) rfl ?_
  refine s_iconst (z := 0) (v := 0) (by decide +kernel) (by decide) ?_
  refine s_aload_n (z := 0) (by decide +kernel) rfl ?_
  refine s_iload_n (z := 1) (by decide +kernel) rfl ?_
  refine s_callV (b := z) (ci := 10) (idx := 59) (nest := 0) (j := m_G_isMonitored) (as := [.int a1]) (st := [.int 0, .ref w]) (by decide +kernel) (by decide +kernel) rfl (by decide +kernel) (by decide +kernel) rfl (by decide +kernel) (show 2 ≤ 8 by decide) (show 1 = mNp m_G_isMonitored by decide +kernel) hz (by decide +kernel) ?_
  refine hr.mono (WQB_to (fun v f h o e1 e2 => ?_) (fun kd c h o hm e2 => ?_))
  · show EX G m_L_isMonitored 7 (lv_args 0 [.ref z, .int a1, .ref w]) [.int v, .int 0, .ref w] h o _ _ Q
    refine s_if_eq (off := 7) (tgt := 14) (by decide +kernel) (by decide) (fun c => ?_) (fun c => ?_)
    · rw [if_pos c] at e2
      refine s_lconst (z := 0) (v := 0) (by decide +kernel) (by decide) ?_
      refine s_lastore (by decide +kernel) e1 (by unfold vp_in; decide) ?_
      refine s_goto (off := 6) (tgt := 22) (by decide +kernel) (by decide) ?_
      refine s_iconst (z := 0) (v := 0) (by decide +kernel) (by decide) ?_
      exact s_ireturn (by decide +kernel) (by decide +kernel) (by decide +kernel) (by decide +kernel) e2
    · rw [if_neg c] at e2
      refine s_lconst (z := 1) (v := 1) (by decide +kernel) (by decide) ?_
      refine s_goto (off := 4) (tgt := 15) (by decide +kernel) (by decide) ?_
      refine s_lastore (by decide +kernel) e1 (by unfold vp_in; decide) ?_
      refine s_goto (off := 6) (tgt := 22) (by decide +kernel) (by decide) ?_
      refine s_iconst (z := 0) (v := 0) (by decide +kernel) (by decide) ?_
      exact s_ireturn (by decide +kernel) (by decide +kernel) (by decide +kernel) (by decide +kernel) e2
  · simp only [List.mem_cons, Prod.mk.injEq, List.not_mem_nil, or_false] at hm
    obtain ⟨rfl, rfl⟩ := hm
    show EXT G m_L_isMonitored 4 (lv_args 0 [.ref z, .int a1, .ref w]) (exN 2) h o _ _ Q
    refine EXT.caught (kd := 2) (pre := []) (suf := []) (x := { startPc := 0, endPc := 16, handlerPc := 19, catchType := 32 }) (by decide) rfl (fun z hz => absurd hz (by simp)) (by decide) (by decide) (by decide +kernel) (fun q => ?_)
    show EX G m_L_isMonitored 19 (lv_args 0 [.ref z, .int a1, .ref w]) [.ref q] h o _ _ Q
    refine s_astore_n (z := 3) (by decide +kernel) (by decide +kernel) ?_
    refine s_iconst (z := 1) (v := 1) (by decide +kernel) (by decide) ?_
    exact s_ireturn (by decide +kernel) (by decide +kernel) (by decide +kernel) (by decide +kernel) e2
theorem l_doorBetween {z w : Nat} {a1 a2 : Int32} {fs : List Value} (hz : h z = some (.inr (10, fs))) (hr : Runs G m_G_doorBetween [.ref z, .int a1, .int a2] h o (WQ [(2, 1)] w Q)) : Runs G m_L_doorBetween [.ref z, .int a1, .int a2, .ref w] h o Q := by
  refine Runs.of (by decide +kernel) (Nat.le_of_ble_eq_true rfl) ?_
  refine s_aload_n (z := 3) (by decide +kernel) rfl ?_
  refine s_iconst (z := 0) (v := 0) (by decide +kernel) (by decide) ?_
  refine s_aload_n (z := 0) (by decide +kernel) rfl ?_
  refine s_iload_n (z := 1) (by decide +kernel) rfl ?_
  refine s_iload_n (z := 2) (by decide +kernel) rfl ?_
  refine s_callV (b := z) (ci := 10) (idx := 62) (nest := 0) (j := m_G_doorBetween) (as := [.int a1, .int a2]) (st := [.int 0, .ref w]) (by decide +kernel) (by decide +kernel) rfl (by decide +kernel) (by decide +kernel) rfl (by decide +kernel) (show 2 ≤ 8 by decide) (show 2 = mNp m_G_doorBetween by decide +kernel) hz (by decide +kernel) ?_
  refine hr.mono (WQ_to (fun v f h o e1 e2 => ?_) (fun kd c h o hm e2 => ?_))
  · show EX G m_L_doorBetween 8 (lv_args 0 [.ref z, .int a1, .int a2, .ref w]) [.int v, .int 0, .ref w] h o _ _ Q
    refine s_i2l (by decide +kernel) ?_
    refine s_lastore (by decide +kernel) e1 (by unfold vp_in; decide) ?_
    refine s_goto (off := 7) (tgt := 17) (by decide +kernel) (by decide) ?_
    refine s_iconst (z := 0) (v := 0) (by decide +kernel) (by decide) ?_
    exact s_ireturn (by decide +kernel) (by decide +kernel) (by decide +kernel) (by decide +kernel) e2
  · simp only [List.mem_cons, Prod.mk.injEq, List.not_mem_nil, or_false] at hm
    obtain ⟨rfl, rfl⟩ := hm
    show EXT G m_L_doorBetween 5 (lv_args 0 [.ref z, .int a1, .int a2, .ref w]) (exN 2) h o _ _ Q
    refine EXT.caught (kd := 2) (pre := []) (suf := []) (x := { startPc := 0, endPc := 10, handlerPc := 13, catchType := 32 }) (by decide) rfl (fun z hz => absurd hz (by simp)) (by decide) (by decide) (by decide +kernel) (fun q => ?_)
    show EX G m_L_doorBetween 13 (lv_args 0 [.ref z, .int a1, .int a2, .ref w]) [.ref q] h o _ _ Q
    refine s_astore (z := 4) (by decide +kernel) (by decide +kernel) ?_
    refine s_iconst (z := 1) (v := 1) (by decide +kernel) (by decide) ?_
    exact s_ireturn (by decide +kernel) (by decide +kernel) (by decide +kernel) (by decide +kernel) e2
theorem l_quietestPath {z w : Nat} {a1 a2 : Int32} {fs : List Value} (hz : h z = some (.inr (10, fs))) (hr : Runs G m_G_quietestPath [.ref z, .int a1, .int a2] h o (WQ [(2, 1)] w Q)) : Runs G m_L_quietestPath [.ref z, .int a1, .int a2, .ref w] h o Q := by
  refine Runs.of (by decide +kernel) (Nat.le_of_ble_eq_true rfl) ?_
  refine s_aload_n (z := 3) (by decide +kernel) rfl ?_
  refine s_iconst (z := 0) (v := 0) (by decide +kernel) (by decide) ?_
  refine s_aload_n (z := 0) (by decide +kernel) rfl ?_
  refine s_iload_n (z := 1) (by decide +kernel) rfl ?_
  refine s_iload_n (z := 2) (by decide +kernel) rfl ?_
  refine s_callV (b := z) (ci := 10) (idx := 65) (nest := 0) (j := m_G_quietestPath) (as := [.int a1, .int a2]) (st := [.int 0, .ref w]) (by decide +kernel) (by decide +kernel) rfl (by decide +kernel) (by decide +kernel) rfl (by decide +kernel) (show 2 ≤ 8 by decide) (show 2 = mNp m_G_quietestPath by decide +kernel) hz (by decide +kernel) ?_
  refine hr.mono (WQ_to (fun v f h o e1 e2 => ?_) (fun kd c h o hm e2 => ?_))
  · show EX G m_L_quietestPath 8 (lv_args 0 [.ref z, .int a1, .int a2, .ref w]) [.int v, .int 0, .ref w] h o _ _ Q
    refine s_i2l (by decide +kernel) ?_
    refine s_lastore (by decide +kernel) e1 (by unfold vp_in; decide) ?_
    refine s_goto (off := 7) (tgt := 17) (by decide +kernel) (by decide) ?_
    refine s_iconst (z := 0) (v := 0) (by decide +kernel) (by decide) ?_
    exact s_ireturn (by decide +kernel) (by decide +kernel) (by decide +kernel) (by decide +kernel) e2
  · simp only [List.mem_cons, Prod.mk.injEq, List.not_mem_nil, or_false] at hm
    obtain ⟨rfl, rfl⟩ := hm
    show EXT G m_L_quietestPath 5 (lv_args 0 [.ref z, .int a1, .int a2, .ref w]) (exN 2) h o _ _ Q
    refine EXT.caught (kd := 2) (pre := []) (suf := []) (x := { startPc := 0, endPc := 10, handlerPc := 13, catchType := 32 }) (by decide) rfl (fun z hz => absurd hz (by simp)) (by decide) (by decide) (by decide +kernel) (fun q => ?_)
    show EX G m_L_quietestPath 13 (lv_args 0 [.ref z, .int a1, .int a2, .ref w]) [.ref q] h o _ _ Q
    refine s_astore (z := 4) (by decide +kernel) (by decide +kernel) ?_
    refine s_iconst (z := 1) (v := 1) (by decide +kernel) (by decide) ?_
    exact s_ireturn (by decide +kernel) (by decide +kernel) (by decide +kernel) (by decide +kernel) e2
theorem l_exclusionReason {z w : Nat} {a1 : Int32} {fs : List Value} (hz : h z = some (.inr (10, fs))) (hr : Runs G m_G_exclusionReason [.ref z, .int a1] h o (WQ [(2, 1)] w Q)) : Runs G m_L_exclusionReason [.ref z, .int a1, .ref w] h o Q := by
  refine Runs.of (by decide +kernel) (Nat.le_of_ble_eq_true rfl) ?_
  refine s_aload_n (z := 2) (by decide +kernel) rfl ?_
  refine s_iconst (z := 0) (v := 0) (by decide +kernel) (by decide) ?_
  refine s_aload_n (z := 0) (by decide +kernel) rfl ?_
  refine s_iload_n (z := 1) (by decide +kernel) rfl ?_
  refine s_callV (b := z) (ci := 10) (idx := 68) (nest := 0) (j := m_G_exclusionReason) (as := [.int a1]) (st := [.int 0, .ref w]) (by decide +kernel) (by decide +kernel) rfl (by decide +kernel) (by decide +kernel) rfl (by decide +kernel) (show 2 ≤ 8 by decide) (show 1 = mNp m_G_exclusionReason by decide +kernel) hz (by decide +kernel) ?_
  refine hr.mono (WQ_to (fun v f h o e1 e2 => ?_) (fun kd c h o hm e2 => ?_))
  · show EX G m_L_exclusionReason 7 (lv_args 0 [.ref z, .int a1, .ref w]) [.int v, .int 0, .ref w] h o _ _ Q
    refine s_i2l (by decide +kernel) ?_
    refine s_lastore (by decide +kernel) e1 (by unfold vp_in; decide) ?_
    refine s_goto (off := 6) (tgt := 15) (by decide +kernel) (by decide) ?_
    refine s_iconst (z := 0) (v := 0) (by decide +kernel) (by decide) ?_
    exact s_ireturn (by decide +kernel) (by decide +kernel) (by decide +kernel) (by decide +kernel) e2
  · simp only [List.mem_cons, Prod.mk.injEq, List.not_mem_nil, or_false] at hm
    obtain ⟨rfl, rfl⟩ := hm
    show EXT G m_L_exclusionReason 4 (lv_args 0 [.ref z, .int a1, .ref w]) (exN 2) h o _ _ Q
    refine EXT.caught (kd := 2) (pre := []) (suf := []) (x := { startPc := 0, endPc := 9, handlerPc := 12, catchType := 32 }) (by decide) rfl (fun z hz => absurd hz (by simp)) (by decide) (by decide) (by decide +kernel) (fun q => ?_)
    show EX G m_L_exclusionReason 12 (lv_args 0 [.ref z, .int a1, .ref w]) [.ref q] h o _ _ Q
    refine s_astore_n (z := 3) (by decide +kernel) (by decide +kernel) ?_
    refine s_iconst (z := 1) (v := 1) (by decide +kernel) (by decide) ?_
    exact s_ireturn (by decide +kernel) (by decide +kernel) (by decide +kernel) (by decide +kernel) e2
theorem l_exclusionEvidence {z w : Nat} {a1 : Int32} {fs : List Value} (hz : h z = some (.inr (10, fs))) (hr : Runs G m_G_exclusionEvidence [.ref z, .int a1] h o (WQ [(2, 1)] w Q)) : Runs G m_L_exclusionEvidence [.ref z, .int a1, .ref w] h o Q := by
  refine Runs.of (by decide +kernel) (Nat.le_of_ble_eq_true rfl) ?_
  refine s_aload_n (z := 2) (by decide +kernel) rfl ?_
  refine s_iconst (z := 0) (v := 0) (by decide +kernel) (by decide) ?_
  refine s_aload_n (z := 0) (by decide +kernel) rfl ?_
  refine s_iload_n (z := 1) (by decide +kernel) rfl ?_
  refine s_callV (b := z) (ci := 10) (idx := 71) (nest := 0) (j := m_G_exclusionEvidence) (as := [.int a1]) (st := [.int 0, .ref w]) (by decide +kernel) (by decide +kernel) rfl (by decide +kernel) (by decide +kernel) rfl (by decide +kernel) (show 2 ≤ 8 by decide) (show 1 = mNp m_G_exclusionEvidence by decide +kernel) hz (by decide +kernel) ?_
  refine hr.mono (WQ_to (fun v f h o e1 e2 => ?_) (fun kd c h o hm e2 => ?_))
  · show EX G m_L_exclusionEvidence 7 (lv_args 0 [.ref z, .int a1, .ref w]) [.int v, .int 0, .ref w] h o _ _ Q
    refine s_i2l (by decide +kernel) ?_
    refine s_lastore (by decide +kernel) e1 (by unfold vp_in; decide) ?_
    refine s_goto (off := 6) (tgt := 15) (by decide +kernel) (by decide) ?_
    refine s_iconst (z := 0) (v := 0) (by decide +kernel) (by decide) ?_
    exact s_ireturn (by decide +kernel) (by decide +kernel) (by decide +kernel) (by decide +kernel) e2
  · simp only [List.mem_cons, Prod.mk.injEq, List.not_mem_nil, or_false] at hm
    obtain ⟨rfl, rfl⟩ := hm
    show EXT G m_L_exclusionEvidence 4 (lv_args 0 [.ref z, .int a1, .ref w]) (exN 2) h o _ _ Q
    refine EXT.caught (kd := 2) (pre := []) (suf := []) (x := { startPc := 0, endPc := 9, handlerPc := 12, catchType := 32 }) (by decide) rfl (fun z hz => absurd hz (by simp)) (by decide) (by decide) (by decide +kernel) (fun q => ?_)
    show EX G m_L_exclusionEvidence 12 (lv_args 0 [.ref z, .int a1, .ref w]) [.ref q] h o _ _ Q
    refine s_astore_n (z := 3) (by decide +kernel) (by decide +kernel) ?_
    refine s_iconst (z := 1) (v := 1) (by decide +kernel) (by decide) ?_
    exact s_ireturn (by decide +kernel) (by decide +kernel) (by decide +kernel) (by decide +kernel) e2
theorem l_exclusionSource {z w : Nat} {a1 : Int32} {fs : List Value} (hz : h z = some (.inr (10, fs))) (hr : Runs G m_G_exclusionSource [.ref z, .int a1] h o (WQ [(2, 1)] w Q)) : Runs G m_L_exclusionSource [.ref z, .int a1, .ref w] h o Q := by
  refine Runs.of (by decide +kernel) (Nat.le_of_ble_eq_true rfl) ?_
  refine s_aload_n (z := 2) (by decide +kernel) rfl ?_
  refine s_iconst (z := 0) (v := 0) (by decide +kernel) (by decide) ?_
  refine s_aload_n (z := 0) (by decide +kernel) rfl ?_
  refine s_iload_n (z := 1) (by decide +kernel) rfl ?_
  refine s_callV (b := z) (ci := 10) (idx := 74) (nest := 0) (j := m_G_exclusionSource) (as := [.int a1]) (st := [.int 0, .ref w]) (by decide +kernel) (by decide +kernel) rfl (by decide +kernel) (by decide +kernel) rfl (by decide +kernel) (show 2 ≤ 8 by decide) (show 1 = mNp m_G_exclusionSource by decide +kernel) hz (by decide +kernel) ?_
  refine hr.mono (WQ_to (fun v f h o e1 e2 => ?_) (fun kd c h o hm e2 => ?_))
  · show EX G m_L_exclusionSource 7 (lv_args 0 [.ref z, .int a1, .ref w]) [.int v, .int 0, .ref w] h o _ _ Q
    refine s_i2l (by decide +kernel) ?_
    refine s_lastore (by decide +kernel) e1 (by unfold vp_in; decide) ?_
    refine s_goto (off := 6) (tgt := 15) (by decide +kernel) (by decide) ?_
    refine s_iconst (z := 0) (v := 0) (by decide +kernel) (by decide) ?_
    exact s_ireturn (by decide +kernel) (by decide +kernel) (by decide +kernel) (by decide +kernel) e2
  · simp only [List.mem_cons, Prod.mk.injEq, List.not_mem_nil, or_false] at hm
    obtain ⟨rfl, rfl⟩ := hm
    show EXT G m_L_exclusionSource 4 (lv_args 0 [.ref z, .int a1, .ref w]) (exN 2) h o _ _ Q
    refine EXT.caught (kd := 2) (pre := []) (suf := []) (x := { startPc := 0, endPc := 9, handlerPc := 12, catchType := 32 }) (by decide) rfl (fun z hz => absurd hz (by simp)) (by decide) (by decide) (by decide +kernel) (fun q => ?_)
    show EX G m_L_exclusionSource 12 (lv_args 0 [.ref z, .int a1, .ref w]) [.ref q] h o _ _ Q
    refine s_astore_n (z := 3) (by decide +kernel) (by decide +kernel) ?_
    refine s_iconst (z := 1) (v := 1) (by decide +kernel) (by decide) ?_
    exact s_ireturn (by decide +kernel) (by decide +kernel) (by decide +kernel) (by decide +kernel) e2
end LW
