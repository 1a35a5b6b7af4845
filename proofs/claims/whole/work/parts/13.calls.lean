/-! 13: the calls, a row each -/
section ST13
variable {G : GG} {i pc j : Nat} {L : List (Nat × Value)} {as st : List Value} {h : HM} {o : Option Nat} {k n : Nat} {Q : XQ}
/-- what comes behind a call of j at pc of i -/
def cont (G : GG) (i pc j : Nat) (L : List (Nat × Value)) (st : List Value) (k n : Nat) (Q : XQ) : XQ := fun u h' o' => match u with
  | .inl v => EX G i (pc + 3) L (v.toList ++ st) h' o' (k + (mRc j).1) (n + (mRc j).2) Q
  | .inr E => EXT G i pc L E h' o' (k + (mMc j).1) (n + (mMc j).2) Q
def roomOK (i j k n : Nat) : Bool := decide ((mF j).1 + 1 ≤ (mF i).1) && decide (8 + (mL j + 11) + (mF j).2 ≤ (mF i).2) && decide (k + (mMc j).1 ≤ (mMc i).1) && decide (n + (mMc j).2 ≤ (mMc i).2)
theorem roomOK_spec (h : roomOK i j k n = true) : ((mF j).1 + 1 ≤ (mF i).1 ∧ 8 + (mL j + 11) + (mF j).2 ≤ (mF i).2) ∧ k + (mMc j).1 ≤ (mMc i).1 ∧ n + (mMc j).2 ≤ (mMc i).2 := by
  simp only [roomOK, Bool.and_eq_true, decide_eq_true_eq] at h
  exact ⟨⟨h.1.1.1, h.1.1.2⟩, h.1.2, h.2⟩
theorem np_of (hd : (parseMethodDescriptor (mN j).desc).map (fun d => d.parameters.length) = some (mNp j)) (hn : as.length = mNp j) : ∀ sig, parseMethodDescriptor (mN j).desc = some sig → as.length = sig.parameters.length := by
  intro sig h
  rw [h] at hd
  exact hn.trans (Option.some.inj hd).symm
theorem clN {h0 : HM} {ci : Nat} {C : String} {r : vw_C} (h : vwCl[ci]? = some r) (hC : r.1 = C) {a : Nat} {fs : List Value} {s : State} {H : Heap} (hK : KK G s) (hR : Rep G h0 o H) (ha : h0 a = some (.inr (ci, fs))) : ∃ cell : Cell, H[a]? = some cell ∧ cell.vm.isStatics = false ∧ s.vm.findClass C = some cell.cls := by
  have := va_recv (cl := vwCl) hK.1 (hR.one ha) (ci := ci) (q0 := 0) h rfl
  rw [hC] at this
  exact this
theorem ini_chk : (List.range 405).all (fun j => !(mK j == 2) || (mR j).isNone) = true := by decide +kernel
theorem ini_void {j : Nat} (hj : j < 405) (hk : mK j = 2) : mR j = none := by
  have h := List.all_eq_true.mp ini_chk j (List.mem_range.mpr hj)
  rw [hk] at h
  simpa using h
/-- invokevirtual -/
theorem s_callV {b ci idx nest : Nat} {fs : List Value} (hd : decode (mC i) pc = .ok (.invokevirtual idx, 3)) (hm : ((mN i).cls, idx, j, nest) ∈ MLk) (hnest : nest = 0) (hj : mOwn j = true) (hk0 : mK j = 0) (hhh : mHH j = []) (hroom : roomOK i j k n = true) (hcat : (st.map fun v => v.category).sum ≤ 8) (hn : as.length = mNp j)
    (hb : h b = some (.inr (ci, fs))) (hci : (vwCl[ci]?).map (fun r => r.1) = some (mN j).cls) (hr : Runs G j (.ref b :: as) h o (cont G i pc j L st k n Q)) : EX G i pc L (as.reverse ++ .ref b :: st) h o k n Q := by
  intro p l e s m args below meth c H locs ls C hl hR hS T hT X
  obtain ⟨hj1, hj2⟩ := mOwn_spec hj
  obtain ⟨hc, hi9, -, hin, hsel, -, hy, -, hpar⟩ := cw_in hj2
  obtain ⟨hrm, hkc, hns⟩ := roomOK_spec hroom
  have hts := C.2.2.2.2.2.1
  have hcode : (Cond.code (mN j) (mC j) (mL j) (mR j)).before args s = true := by
    have h1 := hts _ hc
    unfold cw at h1
    rw [hhh] at h1
    exact h1
  have hrc : ∃ cell : Cell, H[b]? = some cell ∧ cell.vm.isStatics = false ∧ s.vm.findClass (mN j).cls = some cell.cls := by
    cases hq : vwCl[ci]? with
    | none => rw [hq] at hci; cases hci
    | some r =>
      rw [hq] at hci
      exact clN hq (Option.some.inj hci) C.2.2.2.2.2.2.2.2.2.1 hR hb
  obtain ⟨cellB, hcB, hoB, hclB⟩ := hrc
  have hlink := hts _ (ML_in hm hnest)
  have hdis := vx_callV X C.1 (own := (mN i).cls) (index := idx) (y := mN j) (C := (mN j).cls) C.2.2.2.2.1 hlink (hts _ (hin (by omega))) (hts _ (hsel hk0)) hcode hy (x_bk C hj hr hrm) (by rw [hT]; exact hcB) hoB hclB
    (g := F0 m pc ls (as.reverse ++ .ref b :: st)) rfl (by rw [C.2.2.2.1]; exact hl.1) (argsL := as) (rest := st) (np_of hpar hn) rfl (lv_room hcat) (by rw [C.2.1]; exact hd)
    (fun vm₁ hW₁ => ⟨hkc, hns, x_pre C hR hS (T.setVm vm₁) hT hW₁⟩)
  exact x_fin (vmz := fun v => ⟨T.setVm v, locs, k, n⟩) (fun v => ⟨hT, rfl, rfl, rfl⟩) C hl hR hS hdis (fun v => rfl) (fun v h' o' hq => hq) (fun E h' o' hq => hq)
theorem s_callS {idx nest : Nat} (hd : decode (mC i) pc = .ok (.invokestatic idx, 3)) (hm : ((mN i).cls, idx, j, nest) ∈ MLk) (hj : mOwn j = true) (hk0 : mK j = 1) (hhh : mHH j = []) (hroom : roomOK i j k n = true) (hcat : (st.map fun v => v.category).sum ≤ 8) (hn : as.length = mNp j)
    (hr : Runs G j as h o (cont G i pc j L st k n Q)) : EX G i pc L (as.reverse ++ st) h o k n Q := by
  intro p l e s m args below meth c H locs ls C hl hR hS T hT X
  obtain ⟨hj1, hj2⟩ := mOwn_spec hj
  obtain ⟨hc, hi9, hstat, -, -, -, hy, -, hpar⟩ := cw_in hj2
  obtain ⟨hrm, hkc, hns⟩ := roomOK_spec hroom
  have hts := C.2.2.2.2.2.1
  have hcode : (Cond.code (mN j) (mC j) (mL j) (mR j)).before args s = true := by
    have h1 := hts _ hc
    unfold cw at h1
    rw [hhh] at h1
    exact h1
  by_cases hnest : nest = 0
  · have hdis := vx_callS X C.1 (own := (mN i).cls) (index := idx) (y := mN j) C.2.2.2.2.1 (hts _ (ML_in hm hnest)) (hts _ (hstat hk0)) (hts _ hi9) hcode hy (x_bk C hj hr hrm)
      (g := F0 m pc ls (as.reverse ++ st)) rfl (by rw [C.2.2.2.1]; exact hl.1) (argsL := as) (rest := st) (np_of hpar hn) rfl (lv_room hcat) (by rw [C.2.1]; exact hd)
      (fun vm₁ hW₁ => ⟨hkc, hns, x_pre C hR hS (T.setVm vm₁) hT hW₁⟩)
    exact x_fin (vmz := fun v => ⟨T.setVm v, locs, k, n⟩) (fun v => ⟨hT, rfl, rfl, rfl⟩) C hl hR hS hdis (fun v => rfl) (fun v h' o' hq => hq) (fun E h' o' hq => hq)
  · have hnl := C.2.2.2.2.2.2.2.2.2.1.2.2.1 _ (NESTS_in hm hnest)
    have hdis := vx_callSN X C.1 (own := (mN i).cls) (index := idx) (host := "GhostRooms") (y := mN j) C.2.2.2.2.1 (va_Nw.use rfl hnl) (hts _ (hstat hk0)) (hts _ hi9) hcode hy (x_bk C hj hr hrm)
      (g := F0 m pc ls (as.reverse ++ st)) rfl (by rw [C.2.2.2.1]; exact hl.1) (argsL := as) (rest := st) (np_of hpar hn) rfl (lv_room hcat) (by rw [C.2.1]; exact hd)
      (fun vm₁ hW₁ => ⟨hkc, hns, x_pre C hR hS (T.setVm vm₁) hT hW₁⟩)
    exact x_fin (vmz := fun v => ⟨T.setVm v, locs, k, n⟩) (fun v => ⟨hT, rfl, rfl, rfl⟩) C hl hR hS hdis (fun v => rfl) (fun v h' o' hq => hq) (fun E h' o' hq => hq)
theorem s_callI {b idx nest : Nat} (hd : decode (mC i) pc = .ok (.invokespecial idx, 3)) (hm : ((mN i).cls, idx, j, nest) ∈ MLk) (hj : mOwn j = true) (hk0 : mK j = 2) (hhh : mHH j = []) (hroom : roomOK i j k n = true) (hcat : (st.map fun v => v.category).sum ≤ 8) (hn : as.length = mNp j)
    (hr : Runs G j (.ref b :: as) h o (cont G i pc j L st k n Q)) : EX G i pc L (as.reverse ++ .ref b :: st) h o k n Q := by
  intro p l e s m args below meth c H locs ls C hl hR hS T hT X
  obtain ⟨hj1, hj2⟩ := mOwn_spec hj
  obtain ⟨hc, hi9, -, hin, -, hnm9, hy, -, hpar⟩ := cw_in hj2
  obtain ⟨hrm, hkc, hns⟩ := roomOK_spec hroom
  have hts := C.2.2.2.2.2.1
  have hcode : (Cond.code (mN j) (mC j) (mL j) (mR j)).before args s = true := by
    have h1 := hts _ hc
    unfold cw at h1
    rw [hhh] at h1
    exact h1
  have hret : mR j = none := by
    exact ini_void hj1 hk0
  rw [hret] at hcode
  by_cases hnest : nest = 0
  · have hdis := vx_callI X C.1 (own := (mN i).cls) (index := idx) (y := mN j) C.2.2.2.2.1 (hnm9 (by omega) (by omega)) (hts _ (ML_in hm hnest)) (hts _ (hin (by omega))) hcode hy (x_bk C hj hr hrm)
      (g := F0 m pc ls (as.reverse ++ .ref b :: st)) rfl (by rw [C.2.2.2.1]; exact hl.1) (a := b) (argsL := as) (rest := st) (np_of hpar hn) rfl (lv_room hcat) (by rw [C.2.1]; exact hd)
      (fun vm₁ hW₁ => ⟨hkc, hns, x_pre C hR hS (T.setVm vm₁) hT hW₁⟩)
    exact x_fin (vmz := fun v => ⟨T.setVm v, locs, k, n⟩) (fun v => ⟨hT, rfl, rfl, rfl⟩) C hl hR hS hdis (fun v => rfl) (fun v h' o' hq => hq) (fun E h' o' hq => hq)
  · have hnl := C.2.2.2.2.2.2.2.2.2.1.2.2.1 _ (NESTS_in hm hnest)
    have hdis := vx_callIN X C.1 (own := (mN i).cls) (index := idx) (host := "GhostRooms") (y := mN j) C.2.2.2.2.1 (hnm9 (by omega) (by omega)) (va_Nw.use rfl hnl) (hts _ (hin (by omega))) hcode hy (x_bk C hj hr hrm)
      (g := F0 m pc ls (as.reverse ++ .ref b :: st)) rfl (by rw [C.2.2.2.1]; exact hl.1) (a := b) (argsL := as) (rest := st) (np_of hpar hn) rfl (lv_room hcat) (by rw [C.2.1]; exact hd)
      (fun vm₁ hW₁ => ⟨hkc, hns, x_pre C hR hS (T.setVm vm₁) hT hW₁⟩)
    exact x_fin (vmz := fun v => ⟨T.setVm v, locs, k, n⟩) (fun v => ⟨hT, rfl, rfl, rfl⟩) C hl hR hS hdis (fun v => rfl) (fun v h' o' hq => hq) (fun E h' o' hq => hq)
end ST13
