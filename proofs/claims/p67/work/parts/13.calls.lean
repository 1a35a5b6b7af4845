/-! 13: the calls, a row each -/
section ST13
variable {G : GG} {i pc j : Nat} {L : List (Nat × Value)} {as st : List Value} {h : HM} {o : Option Nat} {k n : Nat} {Q : XQ}
/-- what comes behind a call of j at pc of i -/
def cont (G : GG) (i pc j : Nat) (L : List (Nat × Value)) (st : List Value) (k n : Nat) (Q : XQ) : XQ := fun u h' o' => match u with
  | .inl v => EX G i (pc + 3) L (v.toList ++ st) h' o' (k + (mRc j).1) (n + (mRc j).2) Q
  | .inr E => EXT G i pc L E h' o' (k + (mMc j).1) (n + (mMc j).2) Q
def roomOK (i j k n : Nat) : Bool := decide ((mF j).1 + 1 ≤ (mF i).1) && decide (8 + (mL j + 11) + (mF j).2 ≤ (mF i).2) && decide (k + (mMc j).1 ≤ (mMc i).1) && decide (n + (mMc j).2 ≤ (mMc i).2)
theorem roomOK_spec (h : roomOK i j k n = true) : ((mF j).1 + 1 ≤ (mF i).1 ∧ 8 + (mL j + 11) + (mF j).2 ≤ (mF i).2) ∧ k + (mMc j).1 ≤ (mMc i).1 ∧ n + (mMc j).2 ≤ (mMc i).2 := by
  simp only [roomOK, Bool.and_eq_true, decide_eq_true_eq] at h
  exact ⟨⟨h.1.1.1, h.1.1.2⟩, h.1.2, h.2⟩
theorem np_of (hd : (parseMethodDescriptor (mN j).desc).map (fun d => d.parameters.length) = some (mNp j)) (hn : as.length = mNp j) : ∀ sig, parseMethodDescriptor (mN j).desc = some sig → as.length = sig.parameters.length := by
  intro sig h
  rw [h] at hd
  exact hn.trans (Option.some.inj hd).symm
theorem clN {h0 : HM} {ci : Nat} {C : String} {r : vw_C} (h : vwCl[ci]? = some r) (hC : r.1 = C) {a : Nat} {fs : List Value} {s : State} {H : Heap} (hK : KK G s) (hR : Rep G h0 o H) (ha : h0 a = some (.inr (ci, fs))) : ∃ cell : Cell, H[a]? = some cell ∧ cell.vm.isStatics = false ∧ s.vm.findClass C = some cell.cls := by
  have := va_recv (cl := vwCl) hK.1 (hR.one ha) (ci := ci) (q0 := 0) h rfl
  rw [hC] at this
  exact this
theorem ini_chk : (List.range 202).all (fun j => !(mK j == 2) || (mR j).isNone) = true := by decide +kernel
theorem ini_void {j : Nat} (hj : j < 202) (hk : mK j = 2) : mR j = none := by
  have h := List.all_eq_true.mp ini_chk j (List.mem_range.mpr hj)
  rw [hk] at h
  simpa using h
/-- invokevirtual -/
theorem s_callV {b ci idx nest : Nat} {fs : List Value} (hd : decode (mC i) pc = .ok (.invokevirtual idx, 3)) (hm : ((mN i).cls, idx, j, nest) ∈ MLk) (hnest : nest = 0) (hj : mOwn j = true) (hk0 : mK j = 0) (hhh : mHH j = []) (hroom : roomOK i j k n = true) (hcat : (st.map fun v => v.category).sum ≤ 8) (hn : as.length = mNp j)
    (hb : h b = some (.inr (ci, fs))) (hci : (vwCl[ci]?).map (fun r => r.1) = some (mN j).cls) (hr : Runs G j (.ref b :: as) h o (cont G i pc j L st k n Q)) : EX G i pc L (as.reverse ++ .ref b :: st) h o k n Q := by
  intro p l e s m args below meth c H locs ls C hl hR hS T hT X
  obtain ⟨hj1, hj2⟩ := mOwn_spec hj
  obtain ⟨hc, hi9, -, hin, hsel, -, hy, -, hpar⟩ := cw_in hj2
  obtain ⟨hrm, hkc, hns⟩ := roomOK_spec hroom
  have hts := C.2.2.2.2.2.1
  have hcode : (Cond.code (mN j) (mC j) (mL j) (mR j)).before args s = true := by
    have h1 := hts _ hc
    unfold cw at h1
    rw [hhh] at h1
    exact h1
  have hrc : ∃ cell : Cell, H[b]? = some cell ∧ cell.vm.isStatics = false ∧ s.vm.findClass (mN j).cls = some cell.cls := by
    cases hq : vwCl[ci]? with
    | none => rw [hq] at hci; cases hci
    | some r =>
      rw [hq] at hci
      exact clN hq (Option.some.inj hci) C.2.2.2.2.2.2.2.2.2.1 hR hb
  obtain ⟨cellB, hcB, hoB, hclB⟩ := hrc
  have hlink := hts _ (ML_in hm hnest)
  have hdis := vx_callV X C.1 (own := (mN i).cls) (index := idx) (y := mN j) (C := (mN j).cls) C.2.2.2.2.1 hlink (hts _ (hin (by omega))) (hts _ (hsel hk0)) hcode hy (x_bk C hj hr hrm) (by rw [hT]; exact hcB) hoB hclB
    (g := F0 m pc ls (as.reverse ++ .ref b :: st)) rfl (by rw [C.2.2.2.1]; exact hl.1) (argsL := as) (rest := st) (np_of hpar hn) rfl (lv_room hcat) (by rw [C.2.1]; exact hd)
    (fun vm₁ hW₁ => ⟨hkc, hns, x_pre C hR hS (T.setVm vm₁) hT hW₁⟩)
  exact x_fin (vmz := fun v => ⟨T.setVm v, locs, k, n⟩) (fun v => ⟨hT, rfl, rfl, rfl⟩) C hl hR hS hdis (fun v => rfl) (fun v h' o' hq => hq) (fun E h' o' hq => hq)
theorem s_callS {idx nest : Nat} (hd : decode (mC i) pc = .ok (.invokestatic idx, 3)) (hm : ((mN i).cls, idx, j, nest) ∈ MLk) (hj : mOwn j = true) (hk0 : mK j = 1) (hhh : mHH j = []) (hroom : roomOK i j k n = true) (hcat : (st.map fun v => v.category).sum ≤ 8) (hn : as.length = mNp j)
    (hr : Runs G j as h o (cont G i pc j L st k n Q)) : EX G i pc L (as.reverse ++ st) h o k n Q := by
  intro p l e s m args below meth c H locs ls C hl hR hS T hT X
  obtain ⟨hj1, hj2⟩ := mOwn_spec hj
  obtain ⟨hc, hi9, hstat, -, -, -, hy, -, hpar⟩ := cw_in hj2
  obtain ⟨hrm, hkc, hns⟩ := roomOK_spec hroom
  have hts := C.2.2.2.2.2.1
  have hcode : (Cond.code (mN j) (mC j) (mL j) (mR j)).before args s = true := by
    have h1 := hts _ hc
    unfold cw at h1
    rw [hhh] at h1
    exact h1
  by_cases hnest : nest = 0
  · have hdis := vx_callS X C.1 (own := (mN i).cls) (index := idx) (y := mN j) C.2.2.2.2.1 (hts _ (ML_in hm hnest)) (hts _ (hstat hk0)) (hts _ hi9) hcode hy (x_bk C hj hr hrm)
      (g := F0 m pc ls (as.reverse ++ st)) rfl (by rw [C.2.2.2.1]; exact hl.1) (argsL := as) (rest := st) (np_of hpar hn) rfl (lv_room hcat) (by rw [C.2.1]; exact hd)
      (fun vm₁ hW₁ => ⟨hkc, hns, x_pre C hR hS (T.setVm vm₁) hT hW₁⟩)
    exact x_fin (vmz := fun v => ⟨T.setVm v, locs, k, n⟩) (fun v => ⟨hT, rfl, rfl, rfl⟩) C hl hR hS hdis (fun v => rfl) (fun v h' o' hq => hq) (fun E h' o' hq => hq)
  · have hnl := C.2.2.2.2.2.2.2.2.2.1.2.2.1 _ (NESTS_in hm hnest)
    have hdis := vx_callSN X C.1 (own := (mN i).cls) (index := idx) (host := nhost (mN i).cls) (y := mN j) C.2.2.2.2.1 (va_Nw.use rfl hnl) (hts _ (hstat hk0)) (hts _ hi9) hcode hy (x_bk C hj hr hrm)
      (g := F0 m pc ls (as.reverse ++ st)) rfl (by rw [C.2.2.2.1]; exact hl.1) (argsL := as) (rest := st) (np_of hpar hn) rfl (lv_room hcat) (by rw [C.2.1]; exact hd)
      (fun vm₁ hW₁ => ⟨hkc, hns, x_pre C hR hS (T.setVm vm₁) hT hW₁⟩)
    exact x_fin (vmz := fun v => ⟨T.setVm v, locs, k, n⟩) (fun v => ⟨hT, rfl, rfl, rfl⟩) C hl hR hS hdis (fun v => rfl) (fun v h' o' hq => hq) (fun E h' o' hq => hq)
theorem s_callI {b idx nest : Nat} (hd : decode (mC i) pc = .ok (.invokespecial idx, 3)) (hm : ((mN i).cls, idx, j, nest) ∈ MLk) (hj : mOwn j = true) (hk0 : mK j = 2) (hhh : mHH j = []) (hroom : roomOK i j k n = true) (hcat : (st.map fun v => v.category).sum ≤ 8) (hn : as.length = mNp j)
    (hr : Runs G j (.ref b :: as) h o (cont G i pc j L st k n Q)) : EX G i pc L (as.reverse ++ .ref b :: st) h o k n Q := by
  intro p l e s m args below meth c H locs ls C hl hR hS T hT X
  obtain ⟨hj1, hj2⟩ := mOwn_spec hj
  obtain ⟨hc, hi9, -, hin, -, hnm9, hy, -, hpar⟩ := cw_in hj2
  obtain ⟨hrm, hkc, hns⟩ := roomOK_spec hroom
  have hts := C.2.2.2.2.2.1
  have hcode : (Cond.code (mN j) (mC j) (mL j) (mR j)).before args s = true := by
    have h1 := hts _ hc
    unfold cw at h1
    rw [hhh] at h1
    exact h1
  have hret : mR j = none := by
    exact ini_void hj1 hk0
  rw [hret] at hcode
  by_cases hnest : nest = 0
  · have hdis := vx_callI X C.1 (own := (mN i).cls) (index := idx) (y := mN j) C.2.2.2.2.1 (hnm9 hk0) (hts _ (ML_in hm hnest)) (hts _ (hin (by omega))) hcode hy (x_bk C hj hr hrm)
      (g := F0 m pc ls (as.reverse ++ .ref b :: st)) rfl (by rw [C.2.2.2.1]; exact hl.1) (a := b) (argsL := as) (rest := st) (np_of hpar hn) rfl (lv_room hcat) (by rw [C.2.1]; exact hd)
      (fun vm₁ hW₁ => ⟨hkc, hns, x_pre C hR hS (T.setVm vm₁) hT hW₁⟩)
    exact x_fin (vmz := fun v => ⟨T.setVm v, locs, k, n⟩) (fun v => ⟨hT, rfl, rfl, rfl⟩) C hl hR hS hdis (fun v => rfl) (fun v h' o' hq => hq) (fun E h' o' hq => hq)
  · have hnl := C.2.2.2.2.2.2.2.2.2.1.2.2.1 _ (NESTS_in hm hnest)
    have hdis := vx_callIN X C.1 (own := (mN i).cls) (index := idx) (host := nhost (mN i).cls) (y := mN j) C.2.2.2.2.1 (hnm9 hk0) (va_Nw.use rfl hnl) (hts _ (hin (by omega))) hcode hy (x_bk C hj hr hrm)
      (g := F0 m pc ls (as.reverse ++ .ref b :: st)) rfl (by rw [C.2.2.2.1]; exact hl.1) (a := b) (argsL := as) (rest := st) (np_of hpar hn) rfl (lv_room hcat) (by rw [C.2.1]; exact hd)
      (fun vm₁ hW₁ => ⟨hkc, hns, x_pre C hR hS (T.setVm vm₁) hT hW₁⟩)
    exact x_fin (vmz := fun v => ⟨T.setVm v, locs, k, n⟩) (fun v => ⟨hT, rfl, rfl, rfl⟩) C hl hR hS hdis (fun v => rfl) (fun v h' o' hq => hq) (fun E h' o' hq => hq)
/-- a method found by the receiver, declared above -/
def UPk : List (String × Nat × Nat × Nat × Nat) := [("java/lang/AbstractStringBuilder", 104, 153, 153, 12), ("java/lang/AbstractStringBuilder", 100, 152, 152, 12), ("java/lang/AbstractStringBuilder", 208, 161, 161, 12), ("java/lang/AbstractStringBuilder", 83, 159, 159, 12), ("java/lang/AbstractStringBuilder", 397, 160, 160, 12), ("java/lang/String", 552, 158, 158, 12), ("java/lang/String", 549, 151, 182, 12), ("java/lang/String", 1047, 159, 159, 12)]
def UPp : List (Nat × Nat × Nat) := [(949, 1583, 1), (945, 1582, 0), (997, 1584, 2), (976, 978, 979), (1001, 1585, 3), (1355, 1357, 1358), (1360, 1589, 1591), (1361, 978, 979)]
def UPchk : List (String × Nat × Nat × Nat × Nat) → List (Nat × Nat × Nat) → Bool
  | [], [] => true
  | q :: l, r :: t => decide (sx_tbl[r.1]? = some (.methodLink q.1 q.2.1 (mN q.2.2.1))) && decide (sx_tbl[r.2.1]? = some (.sameMethod (mN q.2.2.1).cls (mN q.2.2.1).cls (mN q.2.2.1).name (mN q.2.2.1).desc)) && decide (sx_tbl[r.2.2]? = some (.selects (((vwCl[q.2.2.2.2]?).map (fun r => r.1)).getD "") (mN q.2.2.1) (mN q.2.2.2.1))) && (mOwn q.2.2.1 && decide (mK q.2.2.1 ≠ 1) && decide (mK q.2.2.2.1 ≠ 1) && (mHH q.2.2.1).isEmpty && decide (mNp q.2.2.1 = mNp q.2.2.2.1)) && UPchk l t
  | _, _ => false
theorem UP_ok : UPchk UPk UPp = true := by decide +kernel
theorem UP_spec : ∀ {l : List (String × Nat × Nat × Nat × Nat)} {t : List (Nat × Nat × Nat)}, UPchk l t = true → ∀ q ∈ l, Cond.methodLink q.1 q.2.1 (mN q.2.2.1) ∈ TBLg ∧ Cond.sameMethod (mN q.2.2.1).cls (mN q.2.2.1).cls (mN q.2.2.1).name (mN q.2.2.1).desc ∈ TBLg ∧ Cond.selects (((vwCl[q.2.2.2.2]?).map (fun r => r.1)).getD "") (mN q.2.2.1) (mN q.2.2.2.1) ∈ TBLg ∧ mOwn q.2.2.1 = true ∧ mK q.2.2.1 ≠ 1 ∧ mK q.2.2.2.1 ≠ 1 ∧ mHH q.2.2.1 = [] ∧ mNp q.2.2.1 = mNp q.2.2.2.1 := by
  intro l
  induction l with
  | nil => intro t _ q hq; cases hq
  | cons b l ih =>
    intro t h q hq
    cases t with
    | nil => simp [UPchk] at h
    | cons r t =>
      simp only [UPchk, Bool.and_eq_true, decide_eq_true_eq, List.isEmpty_iff] at h
      obtain ⟨⟨⟨⟨h1, h2⟩, h3⟩, ⟨⟨⟨h4, h5⟩, h6⟩, h7⟩, h8⟩, h9⟩ := h
      rcases List.mem_cons.mp hq with rfl | hq
      · exact ⟨inG _ h1 rfl, inG _ h2 rfl, inG _ h3 rfl, h4, h5, h6, h7, h8⟩
      · exact ih h9 q hq
theorem s_callU {b ci idx xi : Nat} {fs : List Value} {r : vw_C} (hd : decode (mC i) pc = .ok (.invokevirtual idx, 3)) (hm : ((mN i).cls, idx, xi, j, ci) ∈ UPk) (hj : mOwn j = true) (hhh : mHH j = []) (hroom : roomOK i j k n = true) (hcat : (st.map fun v => v.category).sum ≤ 8) (hn : as.length = mNp j)
    (hb : h b = some (.inr (ci, fs))) (hci : vwCl[ci]? = some r) (hr : Runs G j (.ref b :: as) h o (cont G i pc j L st k n Q)) : EX G i pc L (as.reverse ++ .ref b :: st) h o k n Q := by
  intro p l e s m args below meth c H locs ls C hl hR hS T hT X
  obtain ⟨hj1, hj2⟩ := mOwn_spec hj
  obtain ⟨hc, hi9, -, hin, -, -, hy, -, hpar⟩ := cw_in hj2
  obtain ⟨w1, w2, w3, x1, x2, x3, x4, x5⟩ := UP_spec UP_ok _ hm
  dsimp only at w1 w2 w3 x1 x2 x3 x4 x5
  obtain ⟨hx1, hx2⟩ := mOwn_spec x1
  obtain ⟨hxc, -, -, hxin, -, -, hxy, -, hxpar⟩ := cw_in hx2
  obtain ⟨hrm, hkc, hns⟩ := roomOK_spec hroom
  have hts := C.2.2.2.2.2.1
  have plain : ∀ {z : Nat}, mHH z = [] → cw z ∈ TBLg → (Cond.code (mN z) (mC z) (mL z) (mR z)).before args s = true := fun {z} hz hzc => by
    have h1 := hts _ hzc
    unfold cw at h1
    rw [hz] at h1
    exact h1
  rw [hci] at w3
  obtain ⟨cellB, hcB, hoB, hclB⟩ := clN (h0 := h) (C := r.1) hci rfl C.2.2.2.2.2.2.2.2.2.1 hR hb
  have hdis := vx_callVU X C.1 (own := (mN i).cls) (index := idx) (x := mN xi) (y := mN j) (C := r.1) (owner := (mN xi).cls) C.2.2.2.2.1 (hts _ w1) (hts _ w2) (va_Decl.of (hts _ (hxin x2)) (plain x4 hxc)) hxy (hts _ w3) (hts _ (hin x3)) (plain hhh hc) (x_bk C hj hr hrm) (by rw [hT]; exact hcB) hoB hclB
    (g := F0 m pc ls (as.reverse ++ .ref b :: st)) rfl (by rw [C.2.2.2.1]; exact hl.1) (argsL := as) (rest := st) (np_of hxpar (hn.trans x5.symm)) rfl (lv_room hcat) (by rw [C.2.1]; exact hd)
    (fun vm₁ hW₁ => ⟨hkc, hns, x_pre C hR hS (T.setVm vm₁) hT hW₁⟩)
  exact x_fin (vmz := fun v => ⟨T.setVm v, locs, k, n⟩) (fun v => ⟨hT, rfl, rfl, rfl⟩) C hl hR hS hdis (fun v => rfl) (fun v h' o' hq => hq) (fun E h' o' hq => hq)
/-- super.m(..) -/
def SUk : List (String × Nat × Nat) := [("java/lang/StringBuilder", 29, 155), ("java/lang/StringBuilder", 50, 156), ("java/lang/StringBuilder", 53, 157), ("java/lang/StringBuilder", 329, 154), ("java/lang/StringBuilder", 343, 151)]
def SUp : List (Nat × Nat × Nat) := [(938, 1580, 877), (1074, 1588, 877), (1043, 1587, 877), (1142, 1590, 877), (1127, 1589, 877)]
def SUchk : List (String × Nat × Nat) → List (Nat × Nat × Nat) → Bool
  | [], [] => true
  | q :: l, r :: t => decide (sx_tbl[r.1]? = some (.methodLink q.1 q.2.1 (mN q.2.2))) && decide (sx_tbl[r.2.1]? = some (.sameMethod (mN q.2.2).cls (mN q.2.2).cls (mN q.2.2).name (mN q.2.2).desc)) && decide (sx_tbl[r.2.2]? = some (.superclass q.1 (mN q.2.2).cls)) && (decide (mK q.2.2 ≠ 1) && decide ((mN q.2.2).name ≠ "<init>")) && SUchk l t
  | _, _ => false
theorem SU_ok : SUchk SUk SUp = true := by decide +kernel
theorem SU_spec : ∀ {l : List (String × Nat × Nat)} {t : List (Nat × Nat × Nat)}, SUchk l t = true → ∀ q ∈ l, Cond.methodLink q.1 q.2.1 (mN q.2.2) ∈ TBLg ∧ Cond.sameMethod (mN q.2.2).cls (mN q.2.2).cls (mN q.2.2).name (mN q.2.2).desc ∈ TBLg ∧ Cond.superclass q.1 (mN q.2.2).cls ∈ TBLg ∧ mK q.2.2 ≠ 1 ∧ (mN q.2.2).name ≠ "<init>" := by
  intro l
  induction l with
  | nil => intro t _ q hq; cases hq
  | cons b l ih =>
    intro t h q hq
    cases t with
    | nil => simp [SUchk] at h
    | cons r t =>
      simp only [SUchk, Bool.and_eq_true, decide_eq_true_eq] at h
      obtain ⟨⟨⟨⟨h1, h2⟩, h3⟩, h4, h5⟩, h9⟩ := h
      rcases List.mem_cons.mp hq with rfl | hq
      · exact ⟨inG _ h1 rfl, inG _ h2 rfl, inG _ h3 rfl, h4, h5⟩
      · exact ih h9 q hq
theorem s_callSU {b ci idx : Nat} {fs : List Value} {r : vw_C} (hd : decode (mC i) pc = .ok (.invokespecial idx, 3)) (hm : ((mN i).cls, idx, j) ∈ SUk) (hj : mOwn j = true) (hhh : mHH j = []) (hroom : roomOK i j k n = true) (hcat : (st.map fun v => v.category).sum ≤ 8) (hn : as.length = mNp j)
    (hb : h b = some (.inr (ci, fs))) (hci : vwCl[ci]? = some r) (hr : Runs G j (.ref b :: as) h o (cont G i pc j L st k n Q)) : EX G i pc L (as.reverse ++ .ref b :: st) h o k n Q := by
  intro p l e s m args below meth c H locs ls C hl hR hS T hT X
  obtain ⟨hj1, hj2⟩ := mOwn_spec hj
  obtain ⟨hc, hi9, -, hin, -, -, hy, -, hpar⟩ := cw_in hj2
  obtain ⟨w1, w2, w3, x3, x4⟩ := SU_spec SU_ok _ hm
  dsimp only at w1 w2 w3 x3 x4
  obtain ⟨hrm, hkc, hns⟩ := roomOK_spec hroom
  have hts := C.2.2.2.2.2.1
  have hcode : (Cond.code (mN j) (mC j) (mL j) (mR j)).before args s = true := by
    have h1 := hts _ hc
    unfold cw at h1
    rw [hhh] at h1
    exact h1
  obtain ⟨cellB, hcB, hoB, hclB⟩ := clN (h0 := h) (C := r.1) hci rfl C.2.2.2.2.2.2.2.2.2.1 hR hb
  obtain ⟨hfc, kB, hkB, -⟩ := (C.2.2.2.2.2.2.2.2.2.1.1.1 ci r hci).2
  have hkB : s.vm.classes[cellB.cls]? = some kB := by rw [← Option.some.inj (hfc.symm.trans hclB)]; exact hkB
  have hdis := vx_callSU X C.1 (own := (mN i).cls) (index := idx) (y := mN j) C.2.2.2.2.1 (hts _ w1) (hts _ w2) (hts _ w3) (hts _ (hin x3)) hcode x4 (x_bk C hj hr hrm) (by rw [hT]; exact hcB) hoB hkB
    (g := F0 m pc ls (as.reverse ++ .ref b :: st)) rfl (by rw [C.2.2.2.1]; exact hl.1) (argsL := as) (rest := st) (np_of hpar hn) rfl (lv_room hcat) (by rw [C.2.1]; exact hd)
    (fun vm₁ hW₁ => ⟨hkc, hns, x_pre C hR hS (T.setVm vm₁) hT hW₁⟩)
  exact x_fin (vmz := fun v => ⟨T.setVm v, locs, k, n⟩) (fun v => ⟨hT, rfl, rfl, rfl⟩) C hl hR hS hdis (fun v => rfl) (fun v h' o' hq => hq) (fun E h' o' hq => hq)
/-- CharSequence.length, charAt -/
def IFk : List (String × Nat × Nat) := [("GhostRoomsLaw", 16, 0), ("GhostRoomsLaw", 22, 1)]
theorem IF_chk : zchk IFk [1114, 1131] (fun q => .methodLink q.1 q.2.1 (ifN q.2.2)) = true := by decide +kernel
theorem IF_sel : zchk [(0, 0), (0, 1), (1, 0), (1, 1)] [1122, 1118, 1137, 1134] (fun q => .selects (ifC q.2) (ifN q.1) (mN (ifY q.1 q.2))) = true := by decide +kernel
theorem IF_y : ([(0, 0), (0, 1), (1, 0), (1, 1)] : List (Nat × Nat)).all (fun q => mOwn (ifY q.1 q.2) && decide (mK (ifY q.1 q.2) ≠ 1) && (mHH (ifY q.1 q.2)).isEmpty && decide (mNp (ifY q.1 q.2) = q.1) && decide ((parseMethodDescriptor (ifN q.1).desc).map (fun d => d.parameters.length) = some q.1)) = true := by decide +kernel
/-- what comes behind a call of five bytes -/
def cont5 (G : GG) (i pc j : Nat) (L : List (Nat × Value)) (st : List Value) (k n : Nat) (Q : XQ) : XQ := fun u h' o' => match u with
  | .inl v => EX G i (pc + 5) L (v.toList ++ st) h' o' (k + (mRc j).1) (n + (mRc j).2) Q
  | .inr E => EXT G i pc L E h' o' (k + (mMc j).1) (n + (mMc j).2) Q
theorem s_callF {b ci idx cnt fi cx : Nat} {fs : List Value} {r : vw_C} (hfi : fi < 2) (hcx : cx < 2) (hjj : j = ifY fi cx) (hd : decode (mC i) pc = .ok (.invokeinterface idx cnt, 5)) (hm : ((mN i).cls, idx, fi) ∈ IFk) (hroom : roomOK i j k n = true) (hcat : (st.map fun v => v.category).sum ≤ 8) (hn : as.length = fi)
    (hb : h b = some (.inr (ci, fs))) (hci : vwCl[ci]? = some r) (hcl : r.1 = ifC cx) (hr : Runs G j (.ref b :: as) h o (cont5 G i pc j L st k n Q)) : EX G i pc L (as.reverse ++ .ref b :: st) h o k n Q := by
  intro p l e s m args below meth c H locs ls C hl hR hS T hT X
  have hmem : (fi, cx) ∈ ([(0, 0), (0, 1), (1, 0), (1, 1)] : List (Nat × Nat)) := by
    rcases (show fi = 0 ∨ fi = 1 by omega) with rfl | rfl <;> rcases (show cx = 0 ∨ cx = 1 by omega) with rfl | rfl <;> decide
  have hY := List.all_eq_true.mp IF_y _ hmem
  simp only [Bool.and_eq_true, decide_eq_true_eq, List.isEmpty_iff] at hY
  obtain ⟨⟨⟨⟨hj, x3⟩, hhh⟩, hnp⟩, hxp⟩ := hY
  rw [← hjj] at hj x3 hhh hnp
  obtain ⟨hj1, hj2⟩ := mOwn_spec hj
  obtain ⟨hc, hi9, -, hin, -, -, hy, -, hpar⟩ := cw_in hj2
  obtain ⟨hrm, hkc, hns⟩ := roomOK_spec hroom
  have hts := C.2.2.2.2.2.1
  have hcode : (Cond.code (mN j) (mC j) (mL j) (mR j)).before args s = true := by
    have h1 := hts _ hc
    unfold cw at h1
    rw [hhh] at h1
    exact h1
  have w1 : Cond.methodLink (mN i).cls idx (ifN fi) ∈ TBLg := List.mem_filter.mpr ⟨zchk_mem IF_chk _ hm, rfl⟩
  have w3 : Cond.selects (ifC cx) (ifN fi) (mN j) ∈ TBLg := by rw [hjj]; exact List.mem_filter.mpr ⟨zchk_mem IF_sel _ hmem, rfl⟩
  have hF := C.2.2.2.2.2.2.2.2.2.1.2.2.2.2.2.2.2.2.2.2.2.2.2.2.2.2.2.2.2 fi cx hfi hcx
  rw [← hjj] at hF
  obtain ⟨cellB, hcB, hoB, hclB⟩ := clN (h0 := h) (C := ifC cx) hci hcl C.2.2.2.2.2.2.2.2.2.1 hR hb
  obtain ⟨hfc, kB, hkB, -⟩ := (C.2.2.2.2.2.2.2.2.2.1.1.1 ci r hci).2
  rw [hcl] at hfc
  have hkB : s.vm.classes[cellB.cls]? = some kB := by rw [← Option.some.inj (hfc.symm.trans hclB)]; exact hkB
  have hxd : ∀ sig, parseMethodDescriptor (ifN fi).desc = some sig → as.length = sig.parameters.length := by
    intro sig h9
    rw [h9] at hxp
    exact hn.trans (Option.some.inj hxp).symm
  have hdis := vx_callIF X C.1 (own := (mN i).cls) (index := idx) (count := cnt) (x := ifN fi) (y := mN j) (C := ifC cx) C.2.2.2.2.1 (hts _ w1) (va_any rfl hF.1) (va_any rfl hF.2.1) (hts _ w3) (hts _ (hin x3)) (va_any rfl hF.2.2.1) (va_any rfl hF.2.2.2.1) (va_any rfl hF.2.2.2.2) hcode (by unfold ifN; split <;> exact ⟨by decide, by decide⟩) (x_bk5 C hj hr hrm) (by rw [hT]; exact hcB) hoB hclB hkB
    (g := F0 m pc ls (as.reverse ++ .ref b :: st)) rfl (by rw [C.2.2.2.1]; exact hl.1) (argsL := as) (rest := st) hxd rfl (lv_room hcat) (by rw [C.2.1]; exact hd)
    (fun vm₁ hW₁ => ⟨hkc, hns, x_pre C hR hS (T.setVm vm₁) hT hW₁⟩)
  exact x_fin5 (vmz := fun v => ⟨T.setVm v, locs, k, n⟩) (fun v => ⟨hT, rfl, rfl, rfl⟩) C hl hR hS hdis (fun v => rfl) (fun v h' o' hq => hq) (fun E h' o' hq => hq)
/-- invokevirtual on a text constant -/
theorem s_callVC {tk idx nest : Nat} (htk : tk < TEXTS.length) (hd : decode (mC i) pc = .ok (.invokevirtual idx, 3)) (hm : ((mN i).cls, idx, j, nest) ∈ MLk) (hnest : nest = 0) (hj : mOwn j = true) (hk0 : mK j = 0) (hhh : mHH j = []) (hroom : roomOK i j k n = true) (hcat : (st.map fun v => v.category).sum ≤ 8) (hn : as.length = mNp j)
    (hcl : (mN j).cls = "java/lang/String") (hr : Runs G j (.ref (gS G tk) :: as) h o (cont G i pc j L st k n Q)) : EX G i pc L (as.reverse ++ .ref (gS G tk) :: st) h o k n Q := by
  intro p l e s m args below meth c H locs ls C hl hR hS T hT X
  obtain ⟨hj1, hj2⟩ := mOwn_spec hj
  obtain ⟨hc, hi9, -, hin, hsel, -, hy, -, hpar⟩ := cw_in hj2
  obtain ⟨hrm, hkc, hns⟩ := roomOK_spec hroom
  have hts := C.2.2.2.2.2.1
  have hcode : (Cond.code (mN j) (mC j) (mL j) (mR j)).before args s = true := by
    have h1 := hts _ hc
    unfold cw at h1
    rw [hhh] at h1
    exact h1
  obtain ⟨cellB, hcB, hoB, hclB⟩ : ∃ cell : Cell, H[gS G tk]? = some cell ∧ cell.vm.isStatics = false ∧ s.vm.findClass (mN j).cls = some cell.cls := by
    obtain ⟨cell, h1, h2, h3, h4⟩ := (C.2.2.2.2.2.2.2.2.2.1.2.2.2.2.2.2.2.2.2.1 tk htk).1
    exact ⟨cell, by rw [hS.2.1 _ (Array.getElem?_eq_some_iff.mp h1).1 h4]; exact h1, h2, by rw [hcl]; exact h3⟩
  have hlink := hts _ (ML_in hm hnest)
  have hdis := vx_callV X C.1 (own := (mN i).cls) (index := idx) (y := mN j) (C := (mN j).cls) C.2.2.2.2.1 hlink (hts _ (hin (by omega))) (hts _ (hsel hk0)) hcode hy (x_bk C hj hr hrm) (by rw [hT]; exact hcB) hoB hclB
    (g := F0 m pc ls (as.reverse ++ .ref (gS G tk) :: st)) rfl (by rw [C.2.2.2.1]; exact hl.1) (argsL := as) (rest := st) (np_of hpar hn) rfl (lv_room hcat) (by rw [C.2.1]; exact hd)
    (fun vm₁ hW₁ => ⟨hkc, hns, x_pre C hR hS (T.setVm vm₁) hT hW₁⟩)
  exact x_fin (vmz := fun v => ⟨T.setVm v, locs, k, n⟩) (fun v => ⟨hT, rfl, rfl, rfl⟩) C hl hR hS hdis (fun v => rfl) (fun v h' o' hq => hq) (fun E h' o' hq => hq)
end ST13
