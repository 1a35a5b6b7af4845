/-! e1b: the law's wrappers, the other half -/
set_option maxRecDepth 8000
section LW
variable {G : GG} {h : HM} {o : Option Nat} {Q : XQ}
theorem l_ghostRoomAfter {z w : Nat} {a1 : Int32} {fs : List Value} (hz : h z = some (.inr (10, fs))) (hr : Runs G m_G_ghostRoomAfter [.ref z, .int a1] h o (WQ [(1, 1)] w Q)) : Runs G m_L_ghostRoomAfter [.ref z, .int a1, .ref w] h o Q := by
  refine Runs.of (by decide +kernel) (Nat.le_of_ble_eq_true rfl) ?_
  refine s_aload_n (z := 2) (by decide +kernel) rfl ?_
  refine s_iconst (z := 0) (v := 0) (by decide +kernel) (by decide) ?_
  refine s_aload_n (z := 0) (by decide +kernel) rfl ?_
  refine s_iload_n (z := 1) (by decide +kernel) rfl ?_
  refine s_callV (b := z) (ci := 10) (idx := 77) (nest := 0) (j := m_G_ghostRoomAfter) (as := [.int a1]) (st := [.int 0, .ref w]) (by decide +kernel) (by decide +kernel) rfl (by decide +kernel) (by decide +kernel) rfl (by decide +kernel) (show 2 ≤ 8 by decide) (show 1 = mNp m_G_ghostRoomAfter by decide +kernel) hz (by decide +kernel) ?_
  refine hr.mono (WQ_to (fun v f h o e1 e2 => ?_) (fun kd c h o hm e2 => ?_))
  · show EX G m_L_ghostRoomAfter 7 (lv_args 0 [.ref z, .int a1, .ref w]) [.int v, .int 0, .ref w] h o _ _ Q
    refine s_i2l (by decide +kernel) ?_
    refine s_lastore (by decide +kernel) e1 (by unfold vp_in; decide) ?_
    refine s_goto (off := 6) (tgt := 15) (by decide +kernel) (by decide) ?_
    refine s_iconst (z := 0) (v := 0) (by decide +kernel) (by decide) ?_
    exact s_ireturn (by decide +kernel) (by decide +kernel) (by decide +kernel) (by decide +kernel) e2
  · simp only [List.mem_cons, Prod.mk.injEq, List.not_mem_nil, or_false] at hm
    obtain ⟨rfl, rfl⟩ := hm
    show EXT G m_L_ghostRoomAfter 4 (lv_args 0 [.ref z, .int a1, .ref w]) (exN 1) h o _ _ Q
    refine EXT.caught (kd := 1) (pre := []) (suf := []) (x := { startPc := 0, endPc := 9, handlerPc := 12, catchType := 19 }) (by decide) rfl (fun z hz => absurd hz (by simp)) (by decide) (by decide) (by decide +kernel) (fun q => ?_)
    show EX G m_L_ghostRoomAfter 12 (lv_args 0 [.ref z, .int a1, .ref w]) [.ref q] h o _ _ Q
    refine s_astore_n (z := 3) (by decide +kernel) (by decide +kernel) ?_
    refine s_iconst (z := 1) (v := 1) (by decide +kernel) (by decide) ?_
    exact s_ireturn (by decide +kernel) (by decide +kernel) (by decide +kernel) (by decide +kernel) e2
theorem l_possibleRoomsAfter {z w : Nat} {a1 : Int32} {fs : List Value} (hz : h z = some (.inr (10, fs))) (hr : Runs G m_G_possibleRoomsAfter [.ref z, .int a1] h o (WQ [(1, 1)] w Q)) : Runs G m_L_possibleRoomsAfter [.ref z, .int a1, .ref w] h o Q := by
  refine Runs.of (by decide +kernel) (Nat.le_of_ble_eq_true rfl) ?_
  refine s_aload_n (z := 2) (by decide +kernel) rfl ?_
  refine s_iconst (z := 0) (v := 0) (by decide +kernel) (by decide) ?_
  refine s_aload_n (z := 0) (by decide +kernel) rfl ?_
  refine s_iload_n (z := 1) (by decide +kernel) rfl ?_
  refine s_callV (b := z) (ci := 10) (idx := 80) (nest := 0) (j := m_G_possibleRoomsAfter) (as := [.int a1]) (st := [.int 0, .ref w]) (by decide +kernel) (by decide +kernel) rfl (by decide +kernel) (by decide +kernel) rfl (by decide +kernel) (show 2 ≤ 8 by decide) (show 1 = mNp m_G_possibleRoomsAfter by decide +kernel) hz (by decide +kernel) ?_
  refine hr.mono (WQ_to (fun v f h o e1 e2 => ?_) (fun kd c h o hm e2 => ?_))
  · show EX G m_L_possibleRoomsAfter 7 (lv_args 0 [.ref z, .int a1, .ref w]) [.int v, .int 0, .ref w] h o _ _ Q
    refine s_i2l (by decide +kernel) ?_
    refine s_lastore (by decide +kernel) e1 (by unfold vp_in; decide) ?_
    refine s_goto (off := 6) (tgt := 15) (by decide +kernel) (by decide) ?_
    refine s_iconst (z := 0) (v := 0) (by decide +kernel) (by decide) ?_
    exact s_ireturn (by decide +kernel) (by decide +kernel) (by decide +kernel) (by decide +kernel) e2
  · simp only [List.mem_cons, Prod.mk.injEq, List.not_mem_nil, or_false] at hm
    obtain ⟨rfl, rfl⟩ := hm
    show EXT G m_L_possibleRoomsAfter 4 (lv_args 0 [.ref z, .int a1, .ref w]) (exN 1) h o _ _ Q
    refine EXT.caught (kd := 1) (pre := []) (suf := []) (x := { startPc := 0, endPc := 9, handlerPc := 12, catchType := 19 }) (by decide) rfl (fun z hz => absurd hz (by simp)) (by decide) (by decide) (by decide +kernel) (fun q => ?_)
    show EX G m_L_possibleRoomsAfter 12 (lv_args 0 [.ref z, .int a1, .ref w]) [.ref q] h o _ _ Q
    refine s_astore_n (z := 3) (by decide +kernel) (by decide +kernel) ?_
    refine s_iconst (z := 1) (v := 1) (by decide +kernel) (by decide) ?_
    exact s_ireturn (by decide +kernel) (by decide +kernel) (by decide +kernel) (by decide +kernel) e2
theorem l_addRoom {z w : Nat} {a1 : Int32} {fs : List Value} (hz : h z = some (.inr (10, fs))) (hr : Runs G m_G_addRoom [.ref z, .int a1] h o (WQ [(1, 1), (0, 2)] w Q)) : Runs G m_L_addRoom [.ref z, .int a1, .ref w] h o Q := by
  refine Runs.of (by decide +kernel) (Nat.le_of_ble_eq_true rfl) ?_
  refine s_aload_n (z := 2) (by decide +kernel) rfl ?_
  refine s_iconst (z := 0) (v := 0) (by decide +kernel) (by decide) ?_
  refine s_aload_n (z := 0) (by decide +kernel) rfl ?_
  refine s_iload_n (z := 1) (by decide +kernel) rfl ?_
  refine s_callV (b := z) (ci := 10) (idx := 83) (nest := 0) (j := m_G_addRoom) (as := [.int a1]) (st := [.int 0, .ref w]) (by decide +kernel) (by decide +kernel) rfl (by decide +kernel) (by decide +kernel) rfl (by decide +kernel) (show 2 ≤ 8 by decide) (show 1 = mNp m_G_addRoom by decide +kernel) hz (by decide +kernel) ?_
  refine hr.mono (WQ_to (fun v f h o e1 e2 => ?_) (fun kd c h o hm e2 => ?_))
  · show EX G m_L_addRoom 7 (lv_args 0 [.ref z, .int a1, .ref w]) [.int v, .int 0, .ref w] h o _ _ Q
    refine s_i2l (by decide +kernel) ?_
    refine s_lastore (by decide +kernel) e1 (by unfold vp_in; decide) ?_
    refine s_goto (off := 9) (tgt := 18) (by decide +kernel) (by decide) ?_
    refine s_iconst (z := 0) (v := 0) (by decide +kernel) (by decide) ?_
    exact s_ireturn (by decide +kernel) (by decide +kernel) (by decide +kernel) (by decide +kernel) e2
  · simp only [List.mem_cons, Prod.mk.injEq, List.not_mem_nil, or_false] at hm
    rcases hm with ⟨rfl, rfl⟩ | ⟨rfl, rfl⟩
    · show EXT G m_L_addRoom 4 (lv_args 0 [.ref z, .int a1, .ref w]) (exN 1) h o _ _ Q
      refine EXT.caught (kd := 1) (pre := []) (suf := [{ startPc := 0, endPc := 9, handlerPc := 15, catchType := 13 }]) (x := { startPc := 0, endPc := 9, handlerPc := 12, catchType := 19 }) (by decide) rfl (fun z hz => absurd hz (by simp)) (by decide) (by decide) (by decide +kernel) (fun q => ?_)
      show EX G m_L_addRoom 12 (lv_args 0 [.ref z, .int a1, .ref w]) [.ref q] h o _ _ Q
      refine s_astore_n (z := 3) (by decide +kernel) (by decide +kernel) ?_
      refine s_iconst (z := 1) (v := 1) (by decide +kernel) (by decide) ?_
      exact s_ireturn (by decide +kernel) (by decide +kernel) (by decide +kernel) (by decide +kernel) e2
    · show EXT G m_L_addRoom 4 (lv_args 0 [.ref z, .int a1, .ref w]) (exN 0) h o _ _ Q
      refine EXT.caught (kd := 0) (pre := [{ startPc := 0, endPc := 9, handlerPc := 12, catchType := 19 }]) (suf := []) (x := { startPc := 0, endPc := 9, handlerPc := 15, catchType := 13 }) (by decide) rfl (fun z hz => by rw [List.mem_singleton.mp hz]; exact ⟨by decide, 1, by decide, by decide, by decide +kernel⟩) (by decide) (by decide) (by decide +kernel) (fun q => ?_)
      show EX G m_L_addRoom 15 (lv_args 0 [.ref z, .int a1, .ref w]) [.ref q] h o _ _ Q
      refine s_astore_n (z := 3) (by decide +kernel) (by decide +kernel) ?_
      refine s_iconst (z := 2) (v := 2) (by decide +kernel) (by decide) ?_
      exact s_ireturn (by decide +kernel) (by decide +kernel) (by decide +kernel) (by decide +kernel) e2
theorem l_addDoor {z w : Nat} {a1 a2 a3 : Int32} {fs : List Value} (hz : h z = some (.inr (10, fs))) (hr : Runs G m_G_addDoor [.ref z, .int a1, .int a2, .int a3] h o (WQ [(2, 1), (1, 2), (0, 3)] w Q)) : Runs G m_L_addDoor [.ref z, .int a1, .int a2, .int a3, .ref w] h o Q := by
  refine Runs.of (by decide +kernel) (Nat.le_of_ble_eq_true rfl) ?_
  refine s_aload (z := 4) (by decide +kernel) rfl ?_
  refine s_iconst (z := 0) (v := 0) (by decide +kernel) (by decide) ?_
  refine s_aload_n (z := 0) (by decide +kernel) rfl ?_
  refine s_iload_n (z := 1) (by decide +kernel) rfl ?_
  refine s_iload_n (z := 2) (by decide +kernel) rfl ?_
  refine s_iload_n (z := 3) (by decide +kernel) rfl ?_
  refine s_callV (b := z) (ci := 10) (idx := 86) (nest := 0) (j := m_G_addDoor) (as := [.int a1, .int a2, .int a3]) (st := [.int 0, .ref w]) (by decide +kernel) (by decide +kernel) rfl (by decide +kernel) (by decide +kernel) rfl (by decide +kernel) (show 2 ≤ 8 by decide) (show 3 = mNp m_G_addDoor by decide +kernel) hz (by decide +kernel) ?_
  refine hr.mono (WQ_to (fun v f h o e1 e2 => ?_) (fun kd c h o hm e2 => ?_))
  · show EX G m_L_addDoor 10 (lv_args 0 [.ref z, .int a1, .int a2, .int a3, .ref w]) [.int v, .int 0, .ref w] h o _ _ Q
    refine s_i2l (by decide +kernel) ?_
    refine s_lastore (by decide +kernel) e1 (by unfold vp_in; decide) ?_
    refine s_goto (off := 15) (tgt := 27) (by decide +kernel) (by decide) ?_
    refine s_iconst (z := 0) (v := 0) (by decide +kernel) (by decide) ?_
    exact s_ireturn (by decide +kernel) (by decide +kernel) (by decide +kernel) (by decide +kernel) e2
  · simp only [List.mem_cons, Prod.mk.injEq, List.not_mem_nil, or_false] at hm
    rcases hm with ⟨rfl, rfl⟩ | ⟨rfl, rfl⟩ | ⟨rfl, rfl⟩
    · show EXT G m_L_addDoor 7 (lv_args 0 [.ref z, .int a1, .int a2, .int a3, .ref w]) (exN 2) h o _ _ Q
      refine EXT.caught (kd := 2) (pre := []) (suf := [{ startPc := 0, endPc := 12, handlerPc := 19, catchType := 19 }, { startPc := 0, endPc := 12, handlerPc := 23, catchType := 13 }]) (x := { startPc := 0, endPc := 12, handlerPc := 15, catchType := 32 }) (by decide) rfl (fun z hz => absurd hz (by simp)) (by decide) (by decide) (by decide +kernel) (fun q => ?_)
      show EX G m_L_addDoor 15 (lv_args 0 [.ref z, .int a1, .int a2, .int a3, .ref w]) [.ref q] h o _ _ Q
      refine s_astore (z := 5) (by decide +kernel) (by decide +kernel) ?_
      refine s_iconst (z := 1) (v := 1) (by decide +kernel) (by decide) ?_
      exact s_ireturn (by decide +kernel) (by decide +kernel) (by decide +kernel) (by decide +kernel) e2
    · show EXT G m_L_addDoor 7 (lv_args 0 [.ref z, .int a1, .int a2, .int a3, .ref w]) (exN 1) h o _ _ Q
      refine EXT.caught (kd := 1) (pre := [{ startPc := 0, endPc := 12, handlerPc := 15, catchType := 32 }]) (suf := [{ startPc := 0, endPc := 12, handlerPc := 23, catchType := 13 }]) (x := { startPc := 0, endPc := 12, handlerPc := 19, catchType := 19 }) (by decide) rfl (fun z hz => by rw [List.mem_singleton.mp hz]; exact ⟨by decide, 2, by decide, by decide, by decide +kernel⟩) (by decide) (by decide) (by decide +kernel) (fun q => ?_)
      show EX G m_L_addDoor 19 (lv_args 0 [.ref z, .int a1, .int a2, .int a3, .ref w]) [.ref q] h o _ _ Q
      refine s_astore (z := 5) (by decide +kernel) (by decide +kernel) ?_
      refine s_iconst (z := 2) (v := 2) (by decide +kernel) (by decide) ?_
      exact s_ireturn (by decide +kernel) (by decide +kernel) (by decide +kernel) (by decide +kernel) e2
    · show EXT G m_L_addDoor 7 (lv_args 0 [.ref z, .int a1, .int a2, .int a3, .ref w]) (exN 0) h o _ _ Q
      refine EXT.caught (kd := 0) (pre := [{ startPc := 0, endPc := 12, handlerPc := 15, catchType := 32 }, { startPc := 0, endPc := 12, handlerPc := 19, catchType := 19 }]) (suf := []) (x := { startPc := 0, endPc := 12, handlerPc := 23, catchType := 13 }) (by decide) rfl (fun z hz => by
        simp only [List.mem_cons, List.not_mem_nil, or_false] at hz
        rcases hz with rfl | rfl
        · exact ⟨by decide, 2, by decide, by decide, by decide +kernel⟩
        · exact ⟨by decide, 1, by decide, by decide, by decide +kernel⟩
        ) (by decide) (by decide) (by decide +kernel) (fun q => ?_)
      show EX G m_L_addDoor 23 (lv_args 0 [.ref z, .int a1, .int a2, .int a3, .ref w]) [.ref q] h o _ _ Q
      refine s_astore (z := 5) (by decide +kernel) (by decide +kernel) ?_
      refine s_iconst (z := 3) (v := 3) (by decide +kernel) (by decide) ?_
      exact s_ireturn (by decide +kernel) (by decide +kernel) (by decide +kernel) (by decide +kernel) e2
theorem l_setDoorOpen {z w : Nat} {a1 a2 : Int32} {fs : List Value} (hz : h z = some (.inr (10, fs))) (hr : Runs G m_G_setDoorOpen [.ref z, .int a1, .int a2] h o (WQ [(2, 1), (0, 2)] w Q)) : Runs G m_L_setDoorOpen [.ref z, .int a1, .int a2, .ref w] h o Q := by
  refine Runs.of (by decide +kernel) (Nat.le_of_ble_eq_true rfl) ?_
  refine s_aload_n (z := 3) (by decide +kernel) rfl ?_
  refine s_iconst (z := 0) (v := 0) (by decide +kernel) (by decide) ?_
  refine s_aload_n (z := 0) (by decide +kernel) rfl ?_
  refine s_iload_n (z := 1) (by decide +kernel) rfl ?_
  refine s_iload_n (z := 2) (by decide +kernel) rfl ?_
  refine s_callV (b := z) (ci := 10) (idx := 90) (nest := 0) (j := m_G_setDoorOpen) (as := [.int a1, .int a2]) (st := [.int 0, .ref w]) (by decide +kernel) (by decide +kernel) rfl (by decide +kernel) (by decide +kernel) rfl (by decide +kernel) (show 2 ≤ 8 by decide) (show 2 = mNp m_G_setDoorOpen by decide +kernel) hz (by decide +kernel) ?_
  refine hr.mono (WQ_to (fun v f h o e1 e2 => ?_) (fun kd c h o hm e2 => ?_))
  · show EX G m_L_setDoorOpen 8 (lv_args 0 [.ref z, .int a1, .int a2, .ref w]) [.int v, .int 0, .ref w] h o _ _ Q
    refine s_i2l (by decide +kernel) ?_
    refine s_lastore (by decide +kernel) e1 (by unfold vp_in; decide) ?_
    refine s_goto (off := 11) (tgt := 21) (by decide +kernel) (by decide) ?_
    refine s_iconst (z := 0) (v := 0) (by decide +kernel) (by decide) ?_
    exact s_ireturn (by decide +kernel) (by decide +kernel) (by decide +kernel) (by decide +kernel) e2
  · simp only [List.mem_cons, Prod.mk.injEq, List.not_mem_nil, or_false] at hm
    rcases hm with ⟨rfl, rfl⟩ | ⟨rfl, rfl⟩
    · show EXT G m_L_setDoorOpen 5 (lv_args 0 [.ref z, .int a1, .int a2, .ref w]) (exN 2) h o _ _ Q
      refine EXT.caught (kd := 2) (pre := []) (suf := [{ startPc := 0, endPc := 10, handlerPc := 17, catchType := 13 }]) (x := { startPc := 0, endPc := 10, handlerPc := 13, catchType := 32 }) (by decide) rfl (fun z hz => absurd hz (by simp)) (by decide) (by decide) (by decide +kernel) (fun q => ?_)
      show EX G m_L_setDoorOpen 13 (lv_args 0 [.ref z, .int a1, .int a2, .ref w]) [.ref q] h o _ _ Q
      refine s_astore (z := 4) (by decide +kernel) (by decide +kernel) ?_
      refine s_iconst (z := 1) (v := 1) (by decide +kernel) (by decide) ?_
      exact s_ireturn (by decide +kernel) (by decide +kernel) (by decide +kernel) (by decide +kernel) e2
    · show EXT G m_L_setDoorOpen 5 (lv_args 0 [.ref z, .int a1, .int a2, .ref w]) (exN 0) h o _ _ Q
      refine EXT.caught (kd := 0) (pre := [{ startPc := 0, endPc := 10, handlerPc := 13, catchType := 32 }]) (suf := []) (x := { startPc := 0, endPc := 10, handlerPc := 17, catchType := 13 }) (by decide) rfl (fun z hz => by rw [List.mem_singleton.mp hz]; exact ⟨by decide, 2, by decide, by decide, by decide +kernel⟩) (by decide) (by decide) (by decide +kernel) (fun q => ?_)
      show EX G m_L_setDoorOpen 17 (lv_args 0 [.ref z, .int a1, .int a2, .ref w]) [.ref q] h o _ _ Q
      refine s_astore (z := 4) (by decide +kernel) (by decide +kernel) ?_
      refine s_iconst (z := 2) (v := 2) (by decide +kernel) (by decide) ?_
      exact s_ireturn (by decide +kernel) (by decide +kernel) (by decide +kernel) (by decide +kernel) e2
theorem l_setThermometer {z w : Nat} {a1 a2 : Int32} {fs : List Value} (hz : h z = some (.inr (10, fs))) (hr : Runs G m_G_setThermometer [.ref z, .int a1, .int a2] h o (WQ [(2, 1), (0, 2)] w Q)) : Runs G m_L_setThermometer [.ref z, .int a1, .int a2, .ref w] h o Q := by
  refine Runs.of (by decide +kernel) (Nat.le_of_ble_eq_true rfl) ?_
  refine s_aload_n (z := 3) (by decide +kernel) rfl ?_
  refine s_iconst (z := 0) (v := 0) (by decide +kernel) (by decide) ?_
  refine s_aload_n (z := 0) (by decide +kernel) rfl ?_
  refine s_iload_n (z := 1) (by decide +kernel) rfl ?_
  refine s_iload_n (z := 2) (by decide +kernel) rfl ?_
  refine s_callV (b := z) (ci := 10) (idx := 94) (nest := 0) (j := m_G_setThermometer) (as := [.int a1, .int a2]) (st := [.int 0, .ref w]) (by decide +kernel) (by decide +kernel) rfl (by decide +kernel) (by decide +kernel) rfl (by decide +kernel) (show 2 ≤ 8 by decide) (show 2 = mNp m_G_setThermometer by decide +kernel) hz (by decide +kernel) ?_
  refine hr.mono (WQ_to (fun v f h o e1 e2 => ?_) (fun kd c h o hm e2 => ?_))
  · show EX G m_L_setThermometer 8 (lv_args 0 [.ref z, .int a1, .int a2, .ref w]) [.int v, .int 0, .ref w] h o _ _ Q
    refine s_i2l (by decide +kernel) ?_
    refine s_lastore (by decide +kernel) e1 (by unfold vp_in; decide) ?_
    refine s_goto (off := 11) (tgt := 21) (by decide +kernel) (by decide) ?_
    refine s_iconst (z := 0) (v := 0) (by decide +kernel) (by decide) ?_
    exact s_ireturn (by decide +kernel) (by decide +kernel) (by decide +kernel) (by decide +kernel) e2
  · simp only [List.mem_cons, Prod.mk.injEq, List.not_mem_nil, or_false] at hm
    rcases hm with ⟨rfl, rfl⟩ | ⟨rfl, rfl⟩
    · show EXT G m_L_setThermometer 5 (lv_args 0 [.ref z, .int a1, .int a2, .ref w]) (exN 2) h o _ _ Q
      refine EXT.caught (kd := 2) (pre := []) (suf := [{ startPc := 0, endPc := 10, handlerPc := 17, catchType := 13 }]) (x := { startPc := 0, endPc := 10, handlerPc := 13, catchType := 32 }) (by decide) rfl (fun z hz => absurd hz (by simp)) (by decide) (by decide) (by decide +kernel) (fun q => ?_)
      show EX G m_L_setThermometer 13 (lv_args 0 [.ref z, .int a1, .int a2, .ref w]) [.ref q] h o _ _ Q
      refine s_astore (z := 4) (by decide +kernel) (by decide +kernel) ?_
      refine s_iconst (z := 1) (v := 1) (by decide +kernel) (by decide) ?_
      exact s_ireturn (by decide +kernel) (by decide +kernel) (by decide +kernel) (by decide +kernel) e2
    · show EXT G m_L_setThermometer 5 (lv_args 0 [.ref z, .int a1, .int a2, .ref w]) (exN 0) h o _ _ Q
      refine EXT.caught (kd := 0) (pre := [{ startPc := 0, endPc := 10, handlerPc := 13, catchType := 32 }]) (suf := []) (x := { startPc := 0, endPc := 10, handlerPc := 17, catchType := 13 }) (by decide) rfl (fun z hz => by rw [List.mem_singleton.mp hz]; exact ⟨by decide, 2, by decide, by decide, by decide +kernel⟩) (by decide) (by decide) (by decide +kernel) (fun q => ?_)
      show EX G m_L_setThermometer 17 (lv_args 0 [.ref z, .int a1, .int a2, .ref w]) [.ref q] h o _ _ Q
      refine s_astore (z := 4) (by decide +kernel) (by decide +kernel) ?_
      refine s_iconst (z := 2) (v := 2) (by decide +kernel) (by decide) ?_
      exact s_ireturn (by decide +kernel) (by decide +kernel) (by decide +kernel) (by decide +kernel) e2
theorem l_setMicrophone {z w : Nat} {a1 a2 : Int32} {fs : List Value} (hz : h z = some (.inr (10, fs))) (hr : Runs G m_G_setMicrophone [.ref z, .int a1, .int a2] h o (WQ [(2, 1), (0, 2)] w Q)) : Runs G m_L_setMicrophone [.ref z, .int a1, .int a2, .ref w] h o Q := by
  refine Runs.of (by decide +kernel) (Nat.le_of_ble_eq_true rfl) ?_
  refine s_aload_n (z := 3) (by decide +kernel) rfl ?_
  refine s_iconst (z := 0) (v := 0) (by decide +kernel) (by decide) ?_
  refine s_aload_n (z := 0) (by decide +kernel) rfl ?_
  refine s_iload_n (z := 1) (by decide +kernel) rfl ?_
  refine s_iload_n (z := 2) (by decide +kernel) rfl ?_
  refine s_callV (b := z) (ci := 10) (idx := 97) (nest := 0) (j := m_G_setMicrophone) (as := [.int a1, .int a2]) (st := [.int 0, .ref w]) (by decide +kernel) (by decide +kernel) rfl (by decide +kernel) (by decide +kernel) rfl (by decide +kernel) (show 2 ≤ 8 by decide) (show 2 = mNp m_G_setMicrophone by decide +kernel) hz (by decide +kernel) ?_
  refine hr.mono (WQ_to (fun v f h o e1 e2 => ?_) (fun kd c h o hm e2 => ?_))
  · show EX G m_L_setMicrophone 8 (lv_args 0 [.ref z, .int a1, .int a2, .ref w]) [.int v, .int 0, .ref w] h o _ _ Q
    refine s_i2l (by decide +kernel) ?_
    refine s_lastore (by decide +kernel) e1 (by unfold vp_in; decide) ?_
    refine s_goto (off := 11) (tgt := 21) (by decide +kernel) (by decide) ?_
    refine s_iconst (z := 0) (v := 0) (by decide +kernel) (by decide) ?_
    exact s_ireturn (by decide +kernel) (by decide +kernel) (by decide +kernel) (by decide +kernel) e2
  · simp only [List.mem_cons, Prod.mk.injEq, List.not_mem_nil, or_false] at hm
    rcases hm with ⟨rfl, rfl⟩ | ⟨rfl, rfl⟩
    · show EXT G m_L_setMicrophone 5 (lv_args 0 [.ref z, .int a1, .int a2, .ref w]) (exN 2) h o _ _ Q
      refine EXT.caught (kd := 2) (pre := []) (suf := [{ startPc := 0, endPc := 10, handlerPc := 17, catchType := 13 }]) (x := { startPc := 0, endPc := 10, handlerPc := 13, catchType := 32 }) (by decide) rfl (fun z hz => absurd hz (by simp)) (by decide) (by decide) (by decide +kernel) (fun q => ?_)
      show EX G m_L_setMicrophone 13 (lv_args 0 [.ref z, .int a1, .int a2, .ref w]) [.ref q] h o _ _ Q
      refine s_astore (z := 4) (by decide +kernel) (by decide +kernel) ?_
      refine s_iconst (z := 1) (v := 1) (by decide +kernel) (by decide) ?_
      exact s_ireturn (by decide +kernel) (by decide +kernel) (by decide +kernel) (by decide +kernel) e2
    · show EXT G m_L_setMicrophone 5 (lv_args 0 [.ref z, .int a1, .int a2, .ref w]) (exN 0) h o _ _ Q
      refine EXT.caught (kd := 0) (pre := [{ startPc := 0, endPc := 10, handlerPc := 13, catchType := 32 }]) (suf := []) (x := { startPc := 0, endPc := 10, handlerPc := 17, catchType := 13 }) (by decide) rfl (fun z hz => by rw [List.mem_singleton.mp hz]; exact ⟨by decide, 2, by decide, by decide, by decide +kernel⟩) (by decide) (by decide) (by decide +kernel) (fun q => ?_)
      show EX G m_L_setMicrophone 17 (lv_args 0 [.ref z, .int a1, .int a2, .ref w]) [.ref q] h o _ _ Q
      refine s_astore (z := 4) (by decide +kernel) (by decide +kernel) ?_
      refine s_iconst (z := 2) (v := 2) (by decide +kernel) (by decide) ?_
      exact s_ireturn (by decide +kernel) (by decide +kernel) (by decide +kernel) (by decide +kernel) e2
theorem l_warm {z w : Nat} {a1 a2 : Int32} {fs : List Value} (hz : h z = some (.inr (10, fs))) (hr : Runs G m_G_warm [.ref z, .int a1, .int a2] h o (WQ [(2, 1), (1, 2), (0, 3)] w Q)) : Runs G m_L_warm [.ref z, .int a1, .int a2, .ref w] h o Q := by
  refine Runs.of (by decide +kernel) (Nat.le_of_ble_eq_true rfl) ?_
  refine s_aload_n (z := 3) (by decide +kernel) rfl ?_
  refine s_iconst (z := 0) (v := 0) (by decide +kernel) (by decide) ?_
  refine s_aload_n (z := 0) (by decide +kernel) rfl ?_
  refine s_iload_n (z := 1) (by decide +kernel) rfl ?_
  refine s_iload_n (z := 2) (by decide +kernel) rfl ?_
  refine s_callV (b := z) (ci := 10) (idx := 100) (nest := 0) (j := m_G_warm) (as := [.int a1, .int a2]) (st := [.int 0, .ref w]) (by decide +kernel) (by decide +kernel) rfl (by decide +kernel) (by decide +kernel) rfl (by decide +kernel) (show 2 ≤ 8 by decide) (show 2 = mNp m_G_warm by decide +kernel) hz (by decide +kernel) ?_
  refine hr.mono (WQ_to (fun v f h o e1 e2 => ?_) (fun kd c h o hm e2 => ?_))
  · show EX G m_L_warm 8 (lv_args 0 [.ref z, .int a1, .int a2, .ref w]) [.int v, .int 0, .ref w] h o _ _ Q
    refine s_i2l (by decide +kernel) ?_
    refine s_lastore (by decide +kernel) e1 (by unfold vp_in; decide) ?_
    refine s_goto (off := 15) (tgt := 25) (by decide +kernel) (by decide) ?_
    refine s_iconst (z := 0) (v := 0) (by decide +kernel) (by decide) ?_
    exact s_ireturn (by decide +kernel) (by decide +kernel) (by decide +kernel) (by decide +kernel) e2
  · simp only [List.mem_cons, Prod.mk.injEq, List.not_mem_nil, or_false] at hm
    rcases hm with ⟨rfl, rfl⟩ | ⟨rfl, rfl⟩ | ⟨rfl, rfl⟩
    · show EXT G m_L_warm 5 (lv_args 0 [.ref z, .int a1, .int a2, .ref w]) (exN 2) h o _ _ Q
      refine EXT.caught (kd := 2) (pre := []) (suf := [{ startPc := 0, endPc := 10, handlerPc := 17, catchType := 19 }, { startPc := 0, endPc := 10, handlerPc := 21, catchType := 13 }]) (x := { startPc := 0, endPc := 10, handlerPc := 13, catchType := 32 }) (by decide) rfl (fun z hz => absurd hz (by simp)) (by decide) (by decide) (by decide +kernel) (fun q => ?_)
      show EX G m_L_warm 13 (lv_args 0 [.ref z, .int a1, .int a2, .ref w]) [.ref q] h o _ _ Q
      refine s_astore (z := 4) (by decide +kernel) (by decide +kernel) ?_
      refine s_iconst (z := 1) (v := 1) (by decide +kernel) (by decide) ?_
      exact s_ireturn (by decide +kernel) (by decide +kernel) (by decide +kernel) (by decide +kernel) e2
    · show EXT G m_L_warm 5 (lv_args 0 [.ref z, .int a1, .int a2, .ref w]) (exN 1) h o _ _ Q
      refine EXT.caught (kd := 1) (pre := [{ startPc := 0, endPc := 10, handlerPc := 13, catchType := 32 }]) (suf := [{ startPc := 0, endPc := 10, handlerPc := 21, catchType := 13 }]) (x := { startPc := 0, endPc := 10, handlerPc := 17, catchType := 19 }) (by decide) rfl (fun z hz => by rw [List.mem_singleton.mp hz]; exact ⟨by decide, 2, by decide, by decide, by decide +kernel⟩) (by decide) (by decide) (by decide +kernel) (fun q => ?_)
      show EX G m_L_warm 17 (lv_args 0 [.ref z, .int a1, .int a2, .ref w]) [.ref q] h o _ _ Q
      refine s_astore (z := 4) (by decide +kernel) (by decide +kernel) ?_
      refine s_iconst (z := 2) (v := 2) (by decide +kernel) (by decide) ?_
      exact s_ireturn (by decide +kernel) (by decide +kernel) (by decide +kernel) (by decide +kernel) e2
    · show EXT G m_L_warm 5 (lv_args 0 [.ref z, .int a1, .int a2, .ref w]) (exN 0) h o _ _ Q
      refine EXT.caught (kd := 0) (pre := [{ startPc := 0, endPc := 10, handlerPc := 13, catchType := 32 }, { startPc := 0, endPc := 10, handlerPc := 17, catchType := 19 }]) (suf := []) (x := { startPc := 0, endPc := 10, handlerPc := 21, catchType := 13 }) (by decide) rfl (fun z hz => by
        simp only [List.mem_cons, List.not_mem_nil, or_false] at hz
        rcases hz with rfl | rfl
        · exact ⟨by decide, 2, by decide, by decide, by decide +kernel⟩
        · exact ⟨by decide, 1, by decide, by decide, by decide +kernel⟩
        ) (by decide) (by decide) (by decide +kernel) (fun q => ?_)
      show EX G m_L_warm 21 (lv_args 0 [.ref z, .int a1, .int a2, .ref w]) [.ref q] h o _ _ Q
      refine s_astore (z := 4) (by decide +kernel) (by decide +kernel) ?_
      refine s_iconst (z := 3) (v := 3) (by decide +kernel) (by decide) ?_
      exact s_ireturn (by decide +kernel) (by decide +kernel) (by decide +kernel) (by decide +kernel) e2
theorem l_passNights {z w : Nat} {a1 : Int32} {fs : List Value} (hz : h z = some (.inr (10, fs))) (hr : Runs G m_G_passNights [.ref z, .int a1] h o (WQ [(1, 1), (0, 2)] w Q)) : Runs G m_L_passNights [.ref z, .int a1, .ref w] h o Q := by
  refine Runs.of (by decide +kernel) (Nat.le_of_ble_eq_true rfl) ?_
  refine s_aload_n (z := 2) (by decide +kernel) rfl ?_
  refine s_iconst (z := 0) (v := 0) (by decide +kernel) (by decide) ?_
  refine s_aload_n (z := 0) (by decide +kernel) rfl ?_
  refine s_iload_n (z := 1) (by decide +kernel) rfl ?_
  refine s_callV (b := z) (ci := 10) (idx := 103) (nest := 0) (j := m_G_passNights) (as := [.int a1]) (st := [.int 0, .ref w]) (by decide +kernel) (by decide +kernel) rfl (by decide +kernel) (by decide +kernel) rfl (by decide +kernel) (show 2 ≤ 8 by decide) (show 1 = mNp m_G_passNights by decide +kernel) hz (by decide +kernel) ?_
  refine hr.mono (WQ_to (fun v f h o e1 e2 => ?_) (fun kd c h o hm e2 => ?_))
  · show EX G m_L_passNights 7 (lv_args 0 [.ref z, .int a1, .ref w]) [.int v, .int 0, .ref w] h o _ _ Q
    refine s_i2l (by decide +kernel) ?_
    refine s_lastore (by decide +kernel) e1 (by unfold vp_in; decide) ?_
    refine s_goto (off := 9) (tgt := 18) (by decide +kernel) (by decide) ?_
    refine s_iconst (z := 0) (v := 0) (by decide +kernel) (by decide) ?_
    exact s_ireturn (by decide +kernel) (by decide +kernel) (by decide +kernel) (by decide +kernel) e2
  · simp only [List.mem_cons, Prod.mk.injEq, List.not_mem_nil, or_false] at hm
    rcases hm with ⟨rfl, rfl⟩ | ⟨rfl, rfl⟩
    · show EXT G m_L_passNights 4 (lv_args 0 [.ref z, .int a1, .ref w]) (exN 1) h o _ _ Q
      refine EXT.caught (kd := 1) (pre := []) (suf := [{ startPc := 0, endPc := 9, handlerPc := 15, catchType := 13 }]) (x := { startPc := 0, endPc := 9, handlerPc := 12, catchType := 19 }) (by decide) rfl (fun z hz => absurd hz (by simp)) (by decide) (by decide) (by decide +kernel) (fun q => ?_)
      show EX G m_L_passNights 12 (lv_args 0 [.ref z, .int a1, .ref w]) [.ref q] h o _ _ Q
      refine s_astore_n (z := 3) (by decide +kernel) (by decide +kernel) ?_
      refine s_iconst (z := 1) (v := 1) (by decide +kernel) (by decide) ?_
      exact s_ireturn (by decide +kernel) (by decide +kernel) (by decide +kernel) (by decide +kernel) e2
    · show EXT G m_L_passNights 4 (lv_args 0 [.ref z, .int a1, .ref w]) (exN 0) h o _ _ Q
      refine EXT.caught (kd := 0) (pre := [{ startPc := 0, endPc := 9, handlerPc := 12, catchType := 19 }]) (suf := []) (x := { startPc := 0, endPc := 9, handlerPc := 15, catchType := 13 }) (by decide) rfl (fun z hz => by rw [List.mem_singleton.mp hz]; exact ⟨by decide, 1, by decide, by decide, by decide +kernel⟩) (by decide) (by decide) (by decide +kernel) (fun q => ?_)
      show EX G m_L_passNights 15 (lv_args 0 [.ref z, .int a1, .ref w]) [.ref q] h o _ _ Q
      refine s_astore_n (z := 3) (by decide +kernel) (by decide +kernel) ?_
      refine s_iconst (z := 2) (v := 2) (by decide +kernel) (by decide) ?_
      exact s_ireturn (by decide +kernel) (by decide +kernel) (by decide +kernel) (by decide +kernel) e2
theorem l_holdSeance {z w : Nat} {a1 : Int32} {fs : List Value} (hz : h z = some (.inr (10, fs))) (hr : Runs G m_G_holdSeance [.ref z, .int a1] h o (WQB [(0, 1)] w Q)) : Runs G m_L_holdSeance [.ref z, .int a1, .ref w] h o Q := by
  refine Runs.of (by decide +kernel) (Nat.le_of_ble_eq_true rfl) ?_
  refine s_aload_n (z := 2) (by decide +kernel) rfl ?_
  refine s_iconst (z := 0) (v := 0) (by decide +kernel) (by decide) ?_
  refine s_aload_n (z := 0) (by decide +kernel) rfl ?_
  refine s_iload_n (z := 1) (by decide +kernel) rfl ?_
  refine s_callV (b := z) (ci := 10) (idx := 106) (nest := 0) (j := m_G_holdSeance) (as := [.int a1]) (st := [.int 0, .ref w]) (by decide +kernel) (by decide +kernel) rfl (by decide +kernel) (by decide +kernel) rfl (by decide +kernel) (show 2 ≤ 8 by decide) (show 1 = mNp m_G_holdSeance by decide +kernel) hz (by decide +kernel) ?_
  refine hr.mono (WQB_to (fun v f h o e1 e2 => ?_) (fun kd c h o hm e2 => ?_))
  · show EX G m_L_holdSeance 7 (lv_args 0 [.ref z, .int a1, .ref w]) [.int v, .int 0, .ref w] h o _ _ Q
    refine s_if_eq (off := 7) (tgt := 14) (by decide +kernel) (by decide) (fun c => ?_) (fun c => ?_)
    · rw [if_pos c] at e2
      refine s_lconst (z := 0) (v := 0) (by decide +kernel) (by decide) ?_
      refine s_lastore (by decide +kernel) e1 (by unfold vp_in; decide) ?_
      refine s_goto (off := 6) (tgt := 22) (by decide +kernel) (by decide) ?_
      refine s_iconst (z := 0) (v := 0) (by decide +kernel) (by decide) ?_
      exact s_ireturn (by decide +kernel) (by decide +kernel) (by decide +kernel) (by decide +kernel) e2
    · rw [if_neg c] at e2
      refine s_lconst (z := 1) (v := 1) (by decide +kernel) (by decide) ?_
      refine s_goto (off := 4) (tgt := 15) (by decide +kernel) (by decide) ?_
      refine s_lastore (by decide +kernel) e1 (by unfold vp_in; decide) ?_
      refine s_goto (off := 6) (tgt := 22) (by decide +kernel) (by decide) ?_
      refine s_iconst (z := 0) (v := 0) (by decide +kernel) (by decide) ?_
      exact s_ireturn (by decide +kernel) (by decide +kernel) (by decide +kernel) (by decide +kernel) e2
  · simp only [List.mem_cons, Prod.mk.injEq, List.not_mem_nil, or_false] at hm
    obtain ⟨rfl, rfl⟩ := hm
    show EXT G m_L_holdSeance 4 (lv_args 0 [.ref z, .int a1, .ref w]) (exN 0) h o _ _ Q
    refine EXT.caught (kd := 0) (pre := []) (suf := []) (x := { startPc := 0, endPc := 16, handlerPc := 19, catchType := 13 }) (by decide) rfl (fun z hz => absurd hz (by simp)) (by decide) (by decide) (by decide +kernel) (fun q => ?_)
    show EX G m_L_holdSeance 19 (lv_args 0 [.ref z, .int a1, .ref w]) [.ref q] h o _ _ Q
    refine s_astore_n (z := 3) (by decide +kernel) (by decide +kernel) ?_
    refine s_iconst (z := 1) (v := 1) (by decide +kernel) (by decide) ?_
    exact s_ireturn (by decide +kernel) (by decide +kernel) (by decide +kernel) (by decide +kernel) e2
theorem l_earnCoins {z w : Nat} {a1 : Int32} {fs : List Value} (hz : h z = some (.inr (10, fs))) (hr : Runs G m_G_earnCoins [.ref z, .int a1] h o (WQ [(1, 1), (0, 2)] w Q)) : Runs G m_L_earnCoins [.ref z, .int a1, .ref w] h o Q := by
  refine Runs.of (by decide +kernel) (Nat.le_of_ble_eq_true rfl) ?_
  refine s_aload_n (z := 2) (by decide +kernel) rfl ?_
  refine s_iconst (z := 0) (v := 0) (by decide +kernel) (by decide) ?_
  refine s_aload_n (z := 0) (by decide +kernel) rfl ?_
  refine s_iload_n (z := 1) (by decide +kernel) rfl ?_
  refine s_callV (b := z) (ci := 10) (idx := 109) (nest := 0) (j := m_G_earnCoins) (as := [.int a1]) (st := [.int 0, .ref w]) (by decide +kernel) (by decide +kernel) rfl (by decide +kernel) (by decide +kernel) rfl (by decide +kernel) (show 2 ≤ 8 by decide) (show 1 = mNp m_G_earnCoins by decide +kernel) hz (by decide +kernel) ?_
  refine hr.mono (WQ_to (fun v f h o e1 e2 => ?_) (fun kd c h o hm e2 => ?_))
  · show EX G m_L_earnCoins 7 (lv_args 0 [.ref z, .int a1, .ref w]) [.int v, .int 0, .ref w] h o _ _ Q
    refine s_i2l (by decide +kernel) ?_
    refine s_lastore (by decide +kernel) e1 (by unfold vp_in; decide) ?_
    refine s_goto (off := 9) (tgt := 18) (by decide +kernel) (by decide) ?_
    refine s_iconst (z := 0) (v := 0) (by decide +kernel) (by decide) ?_
    exact s_ireturn (by decide +kernel) (by decide +kernel) (by decide +kernel) (by decide +kernel) e2
  · simp only [List.mem_cons, Prod.mk.injEq, List.not_mem_nil, or_false] at hm
    rcases hm with ⟨rfl, rfl⟩ | ⟨rfl, rfl⟩
    · show EXT G m_L_earnCoins 4 (lv_args 0 [.ref z, .int a1, .ref w]) (exN 1) h o _ _ Q
      refine EXT.caught (kd := 1) (pre := []) (suf := [{ startPc := 0, endPc := 9, handlerPc := 15, catchType := 13 }]) (x := { startPc := 0, endPc := 9, handlerPc := 12, catchType := 19 }) (by decide) rfl (fun z hz => absurd hz (by simp)) (by decide) (by decide) (by decide +kernel) (fun q => ?_)
      show EX G m_L_earnCoins 12 (lv_args 0 [.ref z, .int a1, .ref w]) [.ref q] h o _ _ Q
      refine s_astore_n (z := 3) (by decide +kernel) (by decide +kernel) ?_
      refine s_iconst (z := 1) (v := 1) (by decide +kernel) (by decide) ?_
      exact s_ireturn (by decide +kernel) (by decide +kernel) (by decide +kernel) (by decide +kernel) e2
    · show EXT G m_L_earnCoins 4 (lv_args 0 [.ref z, .int a1, .ref w]) (exN 0) h o _ _ Q
      refine EXT.caught (kd := 0) (pre := [{ startPc := 0, endPc := 9, handlerPc := 12, catchType := 19 }]) (suf := []) (x := { startPc := 0, endPc := 9, handlerPc := 15, catchType := 13 }) (by decide) rfl (fun z hz => by rw [List.mem_singleton.mp hz]; exact ⟨by decide, 1, by decide, by decide, by decide +kernel⟩) (by decide) (by decide) (by decide +kernel) (fun q => ?_)
      show EX G m_L_earnCoins 15 (lv_args 0 [.ref z, .int a1, .ref w]) [.ref q] h o _ _ Q
      refine s_astore_n (z := 3) (by decide +kernel) (by decide +kernel) ?_
      refine s_iconst (z := 2) (v := 2) (by decide +kernel) (by decide) ?_
      exact s_ireturn (by decide +kernel) (by decide +kernel) (by decide +kernel) (by decide +kernel) e2
theorem l_setMode {z w : Nat} {a1 : Int32} {fs : List Value} (hz : h z = some (.inr (10, fs))) (hr : Runs G m_G_setMode [.ref z, .int a1] h o (WQ [(1, 1)] w Q)) : Runs G m_L_setMode [.ref z, .int a1, .ref w] h o Q := by
  refine Runs.of (by decide +kernel) (Nat.le_of_ble_eq_true rfl) ?_
  refine s_aload_n (z := 2) (by decide +kernel) rfl ?_
  refine s_iconst (z := 0) (v := 0) (by decide +kernel) (by decide) ?_
  refine s_aload_n (z := 0) (by decide +kernel) rfl ?_
  refine s_iload_n (z := 1) (by decide +kernel) rfl ?_
  refine s_callV (b := z) (ci := 10) (idx := 112) (nest := 0) (j := m_G_setMode) (as := [.int a1]) (st := [.int 0, .ref w]) (by decide +kernel) (by decide +kernel) rfl (by decide +kernel) (by decide +kernel) rfl (by decide +kernel) (show 2 ≤ 8 by decide) (show 1 = mNp m_G_setMode by decide +kernel) hz (by decide +kernel) ?_
  refine hr.mono (WQ_to (fun v f h o e1 e2 => ?_) (fun kd c h o hm e2 => ?_))
  · show EX G m_L_setMode 7 (lv_args 0 [.ref z, .int a1, .ref w]) [.int v, .int 0, .ref w] h o _ _ Q
    refine s_i2l (by decide +kernel) ?_
    refine s_lastore (by decide +kernel) e1 (by unfold vp_in; decide) ?_
    refine s_goto (off := 6) (tgt := 15) (by decide +kernel) (by decide) ?_
    refine s_iconst (z := 0) (v := 0) (by decide +kernel) (by decide) ?_
    exact s_ireturn (by decide +kernel) (by decide +kernel) (by decide +kernel) (by decide +kernel) e2
  · simp only [List.mem_cons, Prod.mk.injEq, List.not_mem_nil, or_false] at hm
    obtain ⟨rfl, rfl⟩ := hm
    show EXT G m_L_setMode 4 (lv_args 0 [.ref z, .int a1, .ref w]) (exN 1) h o _ _ Q
    refine EXT.caught (kd := 1) (pre := []) (suf := []) (x := { startPc := 0, endPc := 9, handlerPc := 12, catchType := 19 }) (by decide) rfl (fun z hz => absurd hz (by simp)) (by decide) (by decide) (by decide +kernel) (fun q => ?_)
    show EX G m_L_setMode 12 (lv_args 0 [.ref z, .int a1, .ref w]) [.ref q] h o _ _ Q
    refine s_astore_n (z := 3) (by decide +kernel) (by decide +kernel) ?_
    refine s_iconst (z := 1) (v := 1) (by decide +kernel) (by decide) ?_
    exact s_ireturn (by decide +kernel) (by decide +kernel) (by decide +kernel) (by decide +kernel) e2
theorem l_setChill {z w : Nat} {a1 : Int32} {fs : List Value} (hz : h z = some (.inr (10, fs))) (hr : Runs G m_G_setChill [.ref z, .int a1] h o (WQ [(1, 1)] w Q)) : Runs G m_L_setChill [.ref z, .int a1, .ref w] h o Q := by
  refine Runs.of (by decide +kernel) (Nat.le_of_ble_eq_true rfl) ?_
  refine s_aload_n (z := 2) (by decide +kernel) rfl ?_
  refine s_iconst (z := 0) (v := 0) (by decide +kernel) (by decide) ?_
  refine s_aload_n (z := 0) (by decide +kernel) rfl ?_
  refine s_iload_n (z := 1) (by decide +kernel) rfl ?_
  refine s_callV (b := z) (ci := 10) (idx := 115) (nest := 0) (j := m_G_setChill) (as := [.int a1]) (st := [.int 0, .ref w]) (by decide +kernel) (by decide +kernel) rfl (by decide +kernel) (by decide +kernel) rfl (by decide +kernel) (show 2 ≤ 8 by decide) (show 1 = mNp m_G_setChill by decide +kernel) hz (by decide +kernel) ?_
  refine hr.mono (WQ_to (fun v f h o e1 e2 => ?_) (fun kd c h o hm e2 => ?_))
  · show EX G m_L_setChill 7 (lv_args 0 [.ref z, .int a1, .ref w]) [.int v, .int 0, .ref w] h o _ _ Q
    refine s_i2l (by decide +kernel) ?_
    refine s_lastore (by decide +kernel) e1 (by unfold vp_in; decide) ?_
    refine s_goto (off := 6) (tgt := 15) (by decide +kernel) (by decide) ?_
    refine s_iconst (z := 0) (v := 0) (by decide +kernel) (by decide) ?_
    exact s_ireturn (by decide +kernel) (by decide +kernel) (by decide +kernel) (by decide +kernel) e2
  · simp only [List.mem_cons, Prod.mk.injEq, List.not_mem_nil, or_false] at hm
    obtain ⟨rfl, rfl⟩ := hm
    show EXT G m_L_setChill 4 (lv_args 0 [.ref z, .int a1, .ref w]) (exN 1) h o _ _ Q
    refine EXT.caught (kd := 1) (pre := []) (suf := []) (x := { startPc := 0, endPc := 9, handlerPc := 12, catchType := 19 }) (by decide) rfl (fun z hz => absurd hz (by simp)) (by decide) (by decide) (by decide +kernel) (fun q => ?_)
    show EX G m_L_setChill 12 (lv_args 0 [.ref z, .int a1, .ref w]) [.ref q] h o _ _ Q
    refine s_astore_n (z := 3) (by decide +kernel) (by decide +kernel) ?_
    refine s_iconst (z := 1) (v := 1) (by decide +kernel) (by decide) ?_
    exact s_ireturn (by decide +kernel) (by decide +kernel) (by decide +kernel) (by decide +kernel) e2
theorem l_setHearingThreshold {z w : Nat} {a1 : Int32} {fs : List Value} (hz : h z = some (.inr (10, fs))) (hr : Runs G m_G_setHearingThreshold [.ref z, .int a1] h o (WQ [(1, 1)] w Q)) : Runs G m_L_setHearingThreshold [.ref z, .int a1, .ref w] h o Q := by
  refine Runs.of (by decide +kernel) (Nat.le_of_ble_eq_true rfl) ?_
  refine s_aload_n (z := 2) (by decide +kernel) rfl ?_
  refine s_iconst (z := 0) (v := 0) (by decide +kernel) (by decide) ?_
  refine s_aload_n (z := 0) (by decide +kernel) rfl ?_
  refine s_iload_n (z := 1) (by decide +kernel) rfl ?_
  refine s_callV (b := z) (ci := 10) (idx := 118) (nest := 0) (j := m_G_setHearingThreshold) (as := [.int a1]) (st := [.int 0, .ref w]) (by decide +kernel) (by decide +kernel) rfl (by decide +kernel) (by decide +kernel) rfl (by decide +kernel) (show 2 ≤ 8 by decide) (show 1 = mNp m_G_setHearingThreshold by decide +kernel) hz (by decide +kernel) ?_
  refine hr.mono (WQ_to (fun v f h o e1 e2 => ?_) (fun kd c h o hm e2 => ?_))
  · show EX G m_L_setHearingThreshold 7 (lv_args 0 [.ref z, .int a1, .ref w]) [.int v, .int 0, .ref w] h o _ _ Q
    refine s_i2l (by decide +kernel) ?_
    refine s_lastore (by decide +kernel) e1 (by unfold vp_in; decide) ?_
    refine s_goto (off := 6) (tgt := 15) (by decide +kernel) (by decide) ?_
    refine s_iconst (z := 0) (v := 0) (by decide +kernel) (by decide) ?_
    exact s_ireturn (by decide +kernel) (by decide +kernel) (by decide +kernel) (by decide +kernel) e2
  · simp only [List.mem_cons, Prod.mk.injEq, List.not_mem_nil, or_false] at hm
    obtain ⟨rfl, rfl⟩ := hm
    show EXT G m_L_setHearingThreshold 4 (lv_args 0 [.ref z, .int a1, .ref w]) (exN 1) h o _ _ Q
    refine EXT.caught (kd := 1) (pre := []) (suf := []) (x := { startPc := 0, endPc := 9, handlerPc := 12, catchType := 19 }) (by decide) rfl (fun z hz => absurd hz (by simp)) (by decide) (by decide) (by decide +kernel) (fun q => ?_)
    show EX G m_L_setHearingThreshold 12 (lv_args 0 [.ref z, .int a1, .ref w]) [.ref q] h o _ _ Q
    refine s_astore_n (z := 3) (by decide +kernel) (by decide +kernel) ?_
    refine s_iconst (z := 1) (v := 1) (by decide +kernel) (by decide) ?_
    exact s_ireturn (by decide +kernel) (by decide +kernel) (by decide +kernel) (by decide +kernel) e2
theorem l_setSeancePrice {z w : Nat} {a1 : Int32} {fs : List Value} (hz : h z = some (.inr (10, fs))) (hr : Runs G m_G_setSeancePrice [.ref z, .int a1] h o (WQ [(1, 1)] w Q)) : Runs G m_L_setSeancePrice [.ref z, .int a1, .ref w] h o Q := by
  refine Runs.of (by decide +kernel) (Nat.le_of_ble_eq_true rfl) ?_
  refine s_aload_n (z := 2) (by decide +kernel) rfl ?_
  refine s_iconst (z := 0) (v := 0) (by decide +kernel) (by decide) ?_
  refine s_aload_n (z := 0) (by decide +kernel) rfl ?_
  refine s_iload_n (z := 1) (by decide +kernel) rfl ?_
  refine s_callV (b := z) (ci := 10) (idx := 121) (nest := 0) (j := m_G_setSeancePrice) (as := [.int a1]) (st := [.int 0, .ref w]) (by decide +kernel) (by decide +kernel) rfl (by decide +kernel) (by decide +kernel) rfl (by decide +kernel) (show 2 ≤ 8 by decide) (show 1 = mNp m_G_setSeancePrice by decide +kernel) hz (by decide +kernel) ?_
  refine hr.mono (WQ_to (fun v f h o e1 e2 => ?_) (fun kd c h o hm e2 => ?_))
  · show EX G m_L_setSeancePrice 7 (lv_args 0 [.ref z, .int a1, .ref w]) [.int v, .int 0, .ref w] h o _ _ Q
    refine s_i2l (by decide +kernel) ?_
    refine s_lastore (by decide +kernel) e1 (by unfold vp_in; decide) ?_
    refine s_goto (off := 6) (tgt := 15) (by decide +kernel) (by decide) ?_
    refine s_iconst (z := 0) (v := 0) (by decide +kernel) (by decide) ?_
    exact s_ireturn (by decide +kernel) (by decide +kernel) (by decide +kernel) (by decide +kernel) e2
  · simp only [List.mem_cons, Prod.mk.injEq, List.not_mem_nil, or_false] at hm
    obtain ⟨rfl, rfl⟩ := hm
    show EXT G m_L_setSeancePrice 4 (lv_args 0 [.ref z, .int a1, .ref w]) (exN 1) h o _ _ Q
    refine EXT.caught (kd := 1) (pre := []) (suf := []) (x := { startPc := 0, endPc := 9, handlerPc := 12, catchType := 19 }) (by decide) rfl (fun z hz => absurd hz (by simp)) (by decide) (by decide) (by decide +kernel) (fun q => ?_)
    show EX G m_L_setSeancePrice 12 (lv_args 0 [.ref z, .int a1, .ref w]) [.ref q] h o _ _ Q
    refine s_astore_n (z := 3) (by decide +kernel) (by decide +kernel) ?_
    refine s_iconst (z := 1) (v := 1) (by decide +kernel) (by decide) ?_
    exact s_ireturn (by decide +kernel) (by decide +kernel) (by decide +kernel) (by decide +kernel) e2
theorem l_setRandomState {z w : Nat} {a1 : Int32} {fs : List Value} (hz : h z = some (.inr (10, fs))) (hr : Runs G m_G_setRandomState [.ref z, .int a1] h o (WQ [(1, 1)] w Q)) : Runs G m_L_setRandomState [.ref z, .int a1, .ref w] h o Q := by
  refine Runs.of (by decide +kernel) (Nat.le_of_ble_eq_true rfl) ?_
  refine s_aload_n (z := 2) (by decide +kernel) rfl ?_
  refine s_iconst (z := 0) (v := 0) (by decide +kernel) (by decide) ?_
  refine s_aload_n (z := 0) (by decide +kernel) rfl ?_
  refine s_iload_n (z := 1) (by decide +kernel) rfl ?_
  refine s_callV (b := z) (ci := 10) (idx := 124) (nest := 0) (j := m_G_setRandomState) (as := [.int a1]) (st := [.int 0, .ref w]) (by decide +kernel) (by decide +kernel) rfl (by decide +kernel) (by decide +kernel) rfl (by decide +kernel) (show 2 ≤ 8 by decide) (show 1 = mNp m_G_setRandomState by decide +kernel) hz (by decide +kernel) ?_
  refine hr.mono (WQ_to (fun v f h o e1 e2 => ?_) (fun kd c h o hm e2 => ?_))
  · show EX G m_L_setRandomState 7 (lv_args 0 [.ref z, .int a1, .ref w]) [.int v, .int 0, .ref w] h o _ _ Q
    refine s_i2l (by decide +kernel) ?_
    refine s_lastore (by decide +kernel) e1 (by unfold vp_in; decide) ?_
    refine s_goto (off := 6) (tgt := 15) (by decide +kernel) (by decide) ?_
    refine s_iconst (z := 0) (v := 0) (by decide +kernel) (by decide) ?_
    exact s_ireturn (by decide +kernel) (by decide +kernel) (by decide +kernel) (by decide +kernel) e2
  · simp only [List.mem_cons, Prod.mk.injEq, List.not_mem_nil, or_false] at hm
    obtain ⟨rfl, rfl⟩ := hm
    show EXT G m_L_setRandomState 4 (lv_args 0 [.ref z, .int a1, .ref w]) (exN 1) h o _ _ Q
    refine EXT.caught (kd := 1) (pre := []) (suf := []) (x := { startPc := 0, endPc := 9, handlerPc := 12, catchType := 19 }) (by decide) rfl (fun z hz => absurd hz (by simp)) (by decide) (by decide) (by decide +kernel) (fun q => ?_)
    show EX G m_L_setRandomState 12 (lv_args 0 [.ref z, .int a1, .ref w]) [.ref q] h o _ _ Q
    refine s_astore_n (z := 3) (by decide +kernel) (by decide +kernel) ?_
    refine s_iconst (z := 1) (v := 1) (by decide +kernel) (by decide) ?_
    exact s_ireturn (by decide +kernel) (by decide +kernel) (by decide +kernel) (by decide +kernel) e2
theorem l_undo {z w : Nat} {fs : List Value} (hz : h z = some (.inr (10, fs))) (hr : Runs G m_G_undo [.ref z] h o (WQ [(0, 1)] w Q)) : Runs G m_L_undo [.ref z, .ref w] h o Q := by
  refine Runs.of (by decide +kernel) (Nat.le_of_ble_eq_true rfl) ?_
  refine s_aload_n (z := 1) (by decide +kernel) rfl ?_
  refine s_iconst (z := 0) (v := 0) (by decide +kernel) (by decide) ?_
  refine s_aload_n (z := 0) (by decide +kernel) rfl ?_
  refine s_callV (b := z) (ci := 10) (idx := 127) (nest := 0) (j := m_G_undo) (as := []) (st := [.int 0, .ref w]) (by decide +kernel) (by decide +kernel) rfl (by decide +kernel) (by decide +kernel) rfl (by decide +kernel) (show 2 ≤ 8 by decide) (show 0 = mNp m_G_undo by decide +kernel) hz (by decide +kernel) ?_
  refine hr.mono (WQ_to (fun v f h o e1 e2 => ?_) (fun kd c h o hm e2 => ?_))
  · show EX G m_L_undo 6 (lv_args 0 [.ref z, .ref w]) [.int v, .int 0, .ref w] h o _ _ Q
    refine s_i2l (by decide +kernel) ?_
    refine s_lastore (by decide +kernel) e1 (by unfold vp_in; decide) ?_
    refine s_goto (off := 6) (tgt := 14) (by decide +kernel) (by decide) ?_
    refine s_iconst (z := 0) (v := 0) (by decide +kernel) (by decide) ?_
    exact s_ireturn (by decide +kernel) (by decide +kernel) (by decide +kernel) (by decide +kernel) e2
  · simp only [List.mem_cons, Prod.mk.injEq, List.not_mem_nil, or_false] at hm
    obtain ⟨rfl, rfl⟩ := hm
    show EXT G m_L_undo 3 (lv_args 0 [.ref z, .ref w]) (exN 0) h o _ _ Q
    refine EXT.caught (kd := 0) (pre := []) (suf := []) (x := { startPc := 0, endPc := 8, handlerPc := 11, catchType := 13 }) (by decide) rfl (fun z hz => absurd hz (by simp)) (by decide) (by decide) (by decide +kernel) (fun q => ?_)
    show EX G m_L_undo 11 (lv_args 0 [.ref z, .ref w]) [.ref q] h o _ _ Q
    refine s_astore_n (z := 2) (by decide +kernel) (by decide +kernel) ?_
    refine s_iconst (z := 1) (v := 1) (by decide +kernel) (by decide) ?_
    exact s_ireturn (by decide +kernel) (by decide +kernel) (by decide +kernel) (by decide +kernel) e2
theorem l_outputByte {z w : Nat} {a1 : Int32} {fs : List Value} (hz : h z = some (.inr (10, fs))) (hr : Runs G m_G_outputByte [.ref z, .int a1] h o (WQ [(2, 1)] w Q)) : Runs G m_L_outputByte [.ref z, .int a1, .ref w] h o Q := by
  refine Runs.of (by decide +kernel) (Nat.le_of_ble_eq_true rfl) ?_
  refine s_aload_n (z := 2) (by decide +kernel) rfl ?_
  refine s_iconst (z := 0) (v := 0) (by decide +kernel) (by decide) ?_
  refine s_aload_n (z := 0) (by decide +kernel) rfl ?_
  refine s_iload_n (z := 1) (by decide +kernel) rfl ?_
  refine s_callV (b := z) (ci := 10) (idx := 130) (nest := 0) (j := m_G_outputByte) (as := [.int a1]) (st := [.int 0, .ref w]) (by decide +kernel) (by decide +kernel) rfl (by decide +kernel) (by decide +kernel) rfl (by decide +kernel) (show 2 ≤ 8 by decide) (show 1 = mNp m_G_outputByte by decide +kernel) hz (by decide +kernel) ?_
  refine hr.mono (WQ_to (fun v f h o e1 e2 => ?_) (fun kd c h o hm e2 => ?_))
  · show EX G m_L_outputByte 7 (lv_args 0 [.ref z, .int a1, .ref w]) [.int v, .int 0, .ref w] h o _ _ Q
    refine s_i2l (by decide +kernel) ?_
    refine s_lastore (by decide +kernel) e1 (by unfold vp_in; decide) ?_
    refine s_goto (off := 6) (tgt := 15) (by decide +kernel) (by decide) ?_
    refine s_iconst (z := 0) (v := 0) (by decide +kernel) (by decide) ?_
    exact s_ireturn (by decide +kernel) (by decide +kernel) (by decide +kernel) (by decide +kernel) e2
  · simp only [List.mem_cons, Prod.mk.injEq, List.not_mem_nil, or_false] at hm
    obtain ⟨rfl, rfl⟩ := hm
    show EXT G m_L_outputByte 4 (lv_args 0 [.ref z, .int a1, .ref w]) (exN 2) h o _ _ Q
    refine EXT.caught (kd := 2) (pre := []) (suf := []) (x := { startPc := 0, endPc := 9, handlerPc := 12, catchType := 32 }) (by decide) rfl (fun z hz => absurd hz (by simp)) (by decide) (by decide) (by decide +kernel) (fun q => ?_)
    show EX G m_L_outputByte 12 (lv_args 0 [.ref z, .int a1, .ref w]) [.ref q] h o _ _ Q
    refine s_astore_n (z := 3) (by decide +kernel) (by decide +kernel) ?_
    refine s_iconst (z := 1) (v := 1) (by decide +kernel) (by decide) ?_
    exact s_ireturn (by decide +kernel) (by decide +kernel) (by decide +kernel) (by decide +kernel) e2
theorem l_restoreState {z w : Nat} {fs : List Value} (hz : h z = some (.inr (10, fs))) (hr : Runs G m_G_restoreState [.ref z] h o (WQ [(0, 1)] w Q)) : Runs G m_L_restoreState [.ref z, .ref w] h o Q := by
  refine Runs.of (by decide +kernel) (Nat.le_of_ble_eq_true rfl) ?_
  refine s_aload_n (z := 1) (by decide +kernel) rfl ?_
  refine s_iconst (z := 0) (v := 0) (by decide +kernel) (by decide) ?_
  refine s_aload_n (z := 0) (by decide +kernel) rfl ?_
  refine s_callV (b := z) (ci := 10) (idx := 133) (nest := 0) (j := m_G_restoreState) (as := []) (st := [.int 0, .ref w]) (by decide +kernel) (by decide +kernel) rfl (by decide +kernel) (by decide +kernel) rfl (by decide +kernel) (show 2 ≤ 8 by decide) (show 0 = mNp m_G_restoreState by decide +kernel) hz (by decide +kernel) ?_
  refine hr.mono (WQ_to (fun v f h o e1 e2 => ?_) (fun kd c h o hm e2 => ?_))
  · show EX G m_L_restoreState 6 (lv_args 0 [.ref z, .ref w]) [.int v, .int 0, .ref w] h o _ _ Q
    refine s_i2l (by decide +kernel) ?_
    refine s_lastore (by decide +kernel) e1 (by unfold vp_in; decide) ?_
    refine s_goto (off := 6) (tgt := 14) (by decide +kernel) (by decide) ?_
    refine s_iconst (z := 0) (v := 0) (by decide +kernel) (by decide) ?_
    exact s_ireturn (by decide +kernel) (by decide +kernel) (by decide +kernel) (by decide +kernel) e2
  · simp only [List.mem_cons, Prod.mk.injEq, List.not_mem_nil, or_false] at hm
    obtain ⟨rfl, rfl⟩ := hm
    show EXT G m_L_restoreState 3 (lv_args 0 [.ref z, .ref w]) (exN 0) h o _ _ Q
    refine EXT.caught (kd := 0) (pre := []) (suf := []) (x := { startPc := 0, endPc := 8, handlerPc := 11, catchType := 13 }) (by decide) rfl (fun z hz => absurd hz (by simp)) (by decide) (by decide) (by decide +kernel) (fun q => ?_)
    show EX G m_L_restoreState 11 (lv_args 0 [.ref z, .ref w]) [.ref q] h o _ _ Q
    refine s_astore_n (z := 2) (by decide +kernel) (by decide +kernel) ?_
    refine s_iconst (z := 1) (v := 1) (by decide +kernel) (by decide) ?_
    exact s_ireturn (by decide +kernel) (by decide +kernel) (by decide +kernel) (by decide +kernel) e2
end LW
