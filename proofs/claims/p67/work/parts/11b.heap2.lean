/-! 11b: bytes, rows of rows, static values, System.arraycopy, text constants -/
section ST11
variable {G : GG} {i pc : Nat} {L : List (Nat × Value)} {st : List Value} {h : HM} {o : Option Nat} {k n : Nat} {Q : XQ}
theorem s_ineg {x : Int32} (hd : decode (mC i) pc = .ok (.ineg, 1)) (kk : EX G i (pc + 1) L (.int (-x) :: st) h o k n Q) : EX G i pc L (.int x :: st) h o k n Q := by
  intro p l e s m args below meth c H locs ls C hl hR hS
  exact lv_ineg C.1 C.2.1 hd (kk p l e s m args below meth c H locs ls C hl hR hS)
theorem s_i2c {x : Int32} (hd : decode (mC i) pc = .ok (.i2c, 1)) (kk : EX G i (pc + 1) L (.int (x.toUInt32 % 65536).toInt32 :: st) h o k n Q) : EX G i pc L (.int x :: st) h o k n Q := by
  intro p l e s m args below meth c H locs ls C hl hR hS
  exact lv_i2c C.1 C.2.1 hd rfl (kk p l e s m args below meth c H locs ls C hl hR hS)
theorem s_i2b {x : Int32} (hd : decode (mC i) pc = .ok (.i2b, 1)) (kk : EX G i (pc + 1) L (.int x.toInt8.toInt32 :: st) h o k n Q) : EX G i pc L (.int x :: st) h o k n Q := by
  intro p l e s m args below meth c H locs ls C hl hR hS
  exact lv_i2b C.1 C.2.1 hd rfl (kk p l e s m args below meth c H locs ls C hl hR hS)
theorem s_dup_x1 {v w : Value} (hd : decode (mC i) pc = .ok (.dup_x1, 1)) (hv : v.category = 1) (hw : w.category = 1) (kk : EX G i (pc + 1) L (v :: w :: v :: st) h o k n Q) : EX G i pc L (v :: w :: st) h o k n Q := by
  intro p l e s m args below meth c H locs ls C hl hR hS
  exact lv_dup_x1 C.1 C.2.1 hd hv hw (kk p l e s m args below meth c H locs ls C hl hR hS)
theorem s_ifnonnull {x : Nat} {off : Int} {tgt : Nat} (hd : decode (mC i) pc = .ok (.ifnonnull off, 3)) (ht : (pc : Int) + off = (tgt : Int)) (kk : EX G i tgt L st h o k n Q) : EX G i pc L (.ref x :: st) h o k n Q := by
  intro p l e s m args below meth c H locs ls C hl hR hS
  exact lv_ifnonnull C.1 C.2.1 hd ht (kk p l e s m args below meth c H locs ls C hl hR hS)
theorem s_fcmp {x y : UInt32} {op : CmpOp} (hd : decode (mC i) pc = .ok (.fcmp op, 1)) (kk : EX G i (pc + 1) L (.int (Op.cmpValue (FP.fcmp x y) op) :: st) h o k n Q) : EX G i pc L (.float y :: .float x :: st) h o k n Q := by
  intro p l e s m args below meth c H locs ls C hl hR hS
  exact lv_fcmp C.1 C.2.1 hd (kk p l e s m args below meth c H locs ls C hl hR hS)
theorem s_fconst1 (hd : decode (mC i) pc = .ok (.fconst 1, 1)) (kk : EX G i (pc + 1) L (.float FP.fconst1 :: st) h o k n Q) : EX G i pc L st h o k n Q := by
  intro p l e s m args below meth c H locs ls C hl hR hS
  exact lv_fconst1 C.1 C.2.1 hd (kk p l e s m args below meth c H locs ls C hl hR hS)
theorem s_baload {a len : Nat} {f : Nat → Int32} {j : Int32} (hd : decode (mC i) pc = .ok (.baload, 1)) (ha : h a = some (.inl (3, len, .inl f))) (hin : vp_in j len)
    (kk : EX G i (pc + 1) L (.int (f j.toNatClampNeg) :: st) h o k n Q) : EX G i pc L (.int j :: .ref a :: st) h o k n Q := by
  intro p l e s m args below meth c H locs ls C hl hR hS
  exact va_bald C.1 C.2.1 C.2.2.2.2.2.2.2.2.2.1.1 (hR.one ha) 0 3 rfl rfl hin hd (kk p l e s m args below meth c H locs ls C hl hR hS)
theorem s_bastore {a len : Nat} {f : Nat → Int32} {j x : Int32} (hd : decode (mC i) pc = .ok (.bastore, 1)) (ha : h a = some (.inl (3, len, .inl f))) (hin : vp_in j len)
    (kk : EX G i (pc + 1) L st (hup h a (.inl (3, len, .inl (upd f j.toNatClampNeg (vp_nar .byte x))))) o k n Q) : EX G i pc L (.int x :: .int j :: .ref a :: st) h o k n Q := by
  intro p l e s m args below meth c H locs ls C hl hR hS
  have hK := C.2.2.2.2.2.2.2.2.2.1.1
  have hP := hR.one ha
  have hba := (hR.2.2 a _ ha).1
  refine W.bast C.1 C.2.1 (hP 0 _ rfl) ((hK.2 3 _ rfl).1 len (fun j => .int (f j))) (fun q => by cases q) (by show ¬ (j < 0 ∨ (arrV _ _ _).slots.size ≤ _); rw [arrV_size]; exact hin) rfl rfl hd fun H1 e9 z oq => ?_
  refine kk p l e s m args below meth c H1 _ ls C hl (hR.set ha ?_ z oq) (hS.put z oq hba)
  show H1[a]? = some (vp_cell _ _)
  rw [e9]
  show some ((vp_cell _ _).setSlot _ _) = _
  rw [vp_cell_i, vp_cell_i, arrV_store]
  congr 2
  funext q
  by_cases hq : q = j.toNatClampNeg
  · subst hq
    simp [updV, upd, vp_nar, narrow]
  · simp [updV, upd, hq]
/-- a row of rows, of texts -/
theorem s_aaload4 {a len : Nat} {f : Nat → Option Nat} {j : Int32} (hd : decode (mC i) pc = .ok (.aaload, 1)) (ha : h a = some (.inl (4, len, .inr (.inr (.inr (.inr f)))))) (hin : vp_in j len)
    (kk : EX G i (pc + 1) L (va_rf (f j.toNatClampNeg) :: st) h o k n Q) : EX G i pc L (.int j :: .ref a :: st) h o k n Q := by
  intro p l e s m args below meth c H locs ls C hl hR hS
  have hlt : j.toNatClampNeg < len := Nat.not_le.mp fun q => hin (Or.inr q)
  have hP := hR.one ha
  exact W.aald (v := va_rf (f j.toNatClampNeg)) (ty := .array .int) C.1 C.2.1 (hP 0 _ rfl) ((C.2.2.2.2.2.2.2.2.2.1.1.2 4 _ rfl).1 len (fun j => va_rf (f j))) rfl (fun q => by cases q) (by show ¬ (j < 0 ∨ (arrV _ _ _).slots.size ≤ _); rw [arrV_size]; exact hin) (by show (arrV _ _ _).slots[_]? = _; rw [arrV_read _ _ hlt]) rfl rfl hd (kk p l e s m args below meth c H locs ls C hl hR hS)
theorem s_aaload5 {a len : Nat} {f : Nat → Option Nat} {j : Int32} (hd : decode (mC i) pc = .ok (.aaload, 1)) (ha : h a = some (.inl (5, len, .inr (.inr (.inr (.inr f)))))) (hin : vp_in j len)
    (kk : EX G i (pc + 1) L (va_rf (f j.toNatClampNeg) :: st) h o k n Q) : EX G i pc L (.int j :: .ref a :: st) h o k n Q := by
  intro p l e s m args below meth c H locs ls C hl hR hS
  exact va_aldq C.1 C.2.1 C.2.2.2.2.2.2.2.2.2.1.1 (hR.one ha) 0 5 rfl rfl hin hd (kk p l e s m args below meth c H locs ls C hl hR hS)
def ACk : List (String × Nat) := [("java/util/Arrays", 150), ("java/lang/String", 212), ("GhostRoomsLaw$World", 113)]
theorem AC_chk : zchk ACk [973, 1029, 1068] (fun q => .methodLink q.1 q.2 arraycopyName) = true := by decide +kernel
theorem AC_nat : Cond.native arraycopyName ∈ TBLg := inG 975 (by decide +kernel) rfl
theorem AC_st : Cond.static arraycopyName ∈ TBLg := inG 974 (by decide +kernel) rfl
theorem AC_ini : Cond.initialized "java/lang/System" ∈ TBLg := inG 32 (by decide +kernel) rfl
theorem s_copyI {a b n1 : Nat} {f g : Nat → Int32} {sp dp w : Int32} {idx : Nat} {n0 : Nat} (hd : decode (mC i) pc = .ok (.invokestatic idx, 3)) (hq : ((mN i).cls, idx) ∈ ACk) (ha : h a = some (.inl (0, n0, .inl f))) (hb : h b = some (.inl (0, n1, .inl g)))
    (h1 : ¬ sp < 0) (h2 : ¬ dp < 0) (h3 : ¬ w < 0) (h4 : sp.toNatClampNeg + w.toNatClampNeg ≤ n0) (h5 : dp.toNatClampNeg + w.toNatClampNeg ≤ n1) (hfit : ∀ j, j < w.toNatClampNeg → fits .int (.int (f (sp.toNatClampNeg + j))) = true) (hf : 1 ≤ (mF i).1) (hlo : (st.map fun v => v.category).sum + 18 ≤ (mF i).2)
    (kk : EX G i (pc + 3) L st (hup h b (.inl (0, n1, .inl (va_cpy f g sp.toNatClampNeg dp.toNatClampNeg w.toNatClampNeg)))) o k n Q) : EX G i pc L (.int w :: .int dp :: .ref b :: .int sp :: .ref a :: st) h o k n Q := by
  have nn : ∀ z : Int32, ¬ z < 0 → z.toInt = (z.toNatClampNeg : Int) := by
    intro z hz
    have hz0 : (0 : Int) ≤ z.toInt := by
      have := Int32.not_lt.mp hz
      simpa using Int32.le_iff_toInt_le.mp this
    show z.toInt = ((z.toInt.toNat : Nat) : Int)
    omega
  intro p l e s m args below meth c H locs ls C hl hR hS T hT X
  have hts := C.2.2.2.2.2.1
  have hK := C.2.2.2.2.2.2.2.2.2.1
  have hc1 : H[b]? = some (vp_cell (gA G 0) (n1, .inl g)) := hR.one hb 0 _ rfl
  have hba := (hR.2.2 b _ hb).1
  obtain ⟨-, k1, hk1, cm1, hkk1⟩ := (hK.1.2 0 _ rfl).1 n1 (fun j => .int (g j))
  obtain ⟨scr, hscr⟩ : ∃ scr, scr = vp_cell (gA G 0) (n0, .inl f) := ⟨_, rfl⟩
  have hc0 : H[a]? = some scr := by rw [hscr]; exact hR.one ha 0 _ rfl
  obtain ⟨-, k0, hk0', cm0, hkk0⟩ := (hK.1.2 0 _ rfl).1 n0 (fun j => .int (f j))
  have hk0 : s.vm.classes[scr.cls]? = some k0 := by rw [hscr]; exact hk0'
  have hs6 : ∀ q, scr.vm ≠ .statics q := fun q h => by rw [hscr] at h; cases h
  have hs3 : scr.vm ≠ .unknown := fun h => by rw [hscr] at h; cases h
  have hs7 : scr.slots.size = n0 := by rw [hscr]; exact arrV_size _ _ _
  have hs5 : ∀ j, j < n0 → scr.slots[j]? = some (.int (f j)) := fun j hj => by rw [hscr]; exact arrV_read _ _ hj

  obtain ⟨vm', X', step⟩ := X.arraycopy C.1 C.2.2.2.2.1 (hts _ (List.mem_filter.mpr ⟨zchk_mem AC_chk _ hq, rfl⟩)) (hts _ AC_nat) (hts _ AC_st) (hts _ AC_ini) (src := a) (dst := b) (cs := scr) (cd := vp_cell (gA G 0) (n1, .inl g)) (srcPos := sp) (destPos := dp) (n := w) (by rw [hT]; exact hc0) (by rw [hT]; exact hc1)
    hs6 (fun _ h => by cases h) hs3 (fun h => by cases h) hk0 hk1 hkk0 hkk1 (by simp [refKind]) h1 h2 h3
    (by rw [nn sp h1, nn w h3]; omega)
    (by rw [nn dp h2, nn w h3]; show ¬ _ > ((arrV (gA G 0) n1 (fun j => .int (g j))).slots.size : Int); rw [arrV_size]; omega)
    (fun vm₁ _ j hj => by
      have e : scr.slots.getD (sp.toNatClampNeg + j) .null = .int (f (sp.toNatClampNeg + j)) := by
        rw [Array.getD_eq_getD_getElem?, hs5 _ (by omega)]
        rfl
      refine ⟨?_, ?_⟩
      · rw [e]
        exact hfit j hj
      · rw [e]
        exact trivial)
    (g := F0 m pc ls (.int w :: .int dp :: .ref b :: .int sp :: .ref a :: st)) rfl (by rw [C.2.2.2.1]; exact hl.1) (rest := st) rfl (by rw [C.2.1]; exact hd) hf (by show 2 * 0 + _ + (nativeFrameWords "java/lang/System" "arraycopy" 5 + 11) ≤ (mF i).2; have : nativeFrameWords "java/lang/System" "arraycopy" 5 = 7 := (by decide +kernel); omega)
  have e1 : copied scr (vp_cell (gA G 0) (n1, .inl g)) sp dp w = vp_cell (gA G 0) (n1, .inl (va_cpy f g sp.toNatClampNeg dp.toNatClampNeg w.toNatClampNeg)) := va_copiedX (fun z => .int z) scr (gA G 0) f g hs5 h4
  rw [e1] at X' step
  have hlb : b < H.size := (Array.getElem?_eq_some_iff.mp hc1).1
  have hheap : ((T.setVm vm').setCell b (vp_cell (gA G 0) (n1, .inl (va_cpy f g sp.toNatClampNeg dp.toNatClampNeg w.toNatClampNeg)))).heap = H.setIfInBounds b (vp_cell (gA G 0) (n1, .inl (va_cpy f g sp.toNatClampNeg dp.toNatClampNeg w.toNatClampNeg))) := by rw [← hT]; rfl
  have oq : ∀ q : Nat, q ≠ b → (H.setIfInBounds b (vp_cell (gA G 0) (n1, .inl (va_cpy f g sp.toNatClampNeg dp.toNatClampNeg w.toNatClampNeg))))[q]? = H[q]? := fun q hq => by simp [Array.getElem?_setIfInBounds, Ne.symm hq]
  obtain ⟨t, a1, b1⟩ := kk p l e s m args below meth c _ _ ls C hl (hR.set hb (show (H.setIfInBounds b _)[b]? = some _ by simp [Array.getElem?_setIfInBounds, hlb]) (by simp) oq) ⟨by simp; exact hS.1, fun q g1 g2 => by
      rw [oq q (fun e => g2 (by rw [e]; exact hba))]
      exact hS.2.1 q g1 g2, fun q hq => by
      rcases List.mem_append.mp hq with h | h
      · exact hS.2.2 q h
      · obtain ⟨z, -, hz⟩ := List.mem_map.mp h
        rw [← hz]
        exact hba⟩ _ hheap X'
  exact ⟨t, step t a1, b1⟩
theorem s_copyB {a b n1 : Nat} {f g : Nat → Int32} {sp dp w : Int32} {idx : Nat} {n0 : Nat} (hd : decode (mC i) pc = .ok (.invokestatic idx, 3)) (hq : ((mN i).cls, idx) ∈ ACk) (ha : h a = some (.inl (3, n0, .inl f))) (hb : h b = some (.inl (3, n1, .inl g)))
    (h1 : ¬ sp < 0) (h2 : ¬ dp < 0) (h3 : ¬ w < 0) (h4 : sp.toNatClampNeg + w.toNatClampNeg ≤ n0) (h5 : dp.toNatClampNeg + w.toNatClampNeg ≤ n1) (hfit : ∀ j, j < w.toNatClampNeg → fits .byte (.int (f (sp.toNatClampNeg + j))) = true) (hf : 1 ≤ (mF i).1) (hlo : (st.map fun v => v.category).sum + 18 ≤ (mF i).2)
    (kk : EX G i (pc + 3) L st (hup h b (.inl (3, n1, .inl (va_cpy f g sp.toNatClampNeg dp.toNatClampNeg w.toNatClampNeg)))) o k n Q) : EX G i pc L (.int w :: .int dp :: .ref b :: .int sp :: .ref a :: st) h o k n Q := by
  have nn : ∀ z : Int32, ¬ z < 0 → z.toInt = (z.toNatClampNeg : Int) := by
    intro z hz
    have hz0 : (0 : Int) ≤ z.toInt := by
      have := Int32.not_lt.mp hz
      simpa using Int32.le_iff_toInt_le.mp this
    show z.toInt = ((z.toInt.toNat : Nat) : Int)
    omega
  intro p l e s m args below meth c H locs ls C hl hR hS T hT X
  have hts := C.2.2.2.2.2.1
  have hK := C.2.2.2.2.2.2.2.2.2.1
  have hc1 : H[b]? = some (vp_cell (gA G 3) (n1, .inl g)) := hR.one hb 0 _ rfl
  have hba := (hR.2.2 b _ hb).1
  obtain ⟨-, k1, hk1, cm1, hkk1⟩ := (hK.1.2 3 _ rfl).1 n1 (fun j => .int (g j))
  obtain ⟨scr, hscr⟩ : ∃ scr, scr = vp_cell (gA G 3) (n0, .inl f) := ⟨_, rfl⟩
  have hc0 : H[a]? = some scr := by rw [hscr]; exact hR.one ha 0 _ rfl
  obtain ⟨-, k0, hk0', cm0, hkk0⟩ := (hK.1.2 3 _ rfl).1 n0 (fun j => .int (f j))
  have hk0 : s.vm.classes[scr.cls]? = some k0 := by rw [hscr]; exact hk0'
  have hs6 : ∀ q, scr.vm ≠ .statics q := fun q h => by rw [hscr] at h; cases h
  have hs3 : scr.vm ≠ .unknown := fun h => by rw [hscr] at h; cases h
  have hs7 : scr.slots.size = n0 := by rw [hscr]; exact arrV_size _ _ _
  have hs5 : ∀ j, j < n0 → scr.slots[j]? = some (.int (f j)) := fun j hj => by rw [hscr]; exact arrV_read _ _ hj

  obtain ⟨vm', X', step⟩ := X.arraycopy C.1 C.2.2.2.2.1 (hts _ (List.mem_filter.mpr ⟨zchk_mem AC_chk _ hq, rfl⟩)) (hts _ AC_nat) (hts _ AC_st) (hts _ AC_ini) (src := a) (dst := b) (cs := scr) (cd := vp_cell (gA G 3) (n1, .inl g)) (srcPos := sp) (destPos := dp) (n := w) (by rw [hT]; exact hc0) (by rw [hT]; exact hc1)
    hs6 (fun _ h => by cases h) hs3 (fun h => by cases h) hk0 hk1 hkk0 hkk1 (by simp [refKind]) h1 h2 h3
    (by rw [nn sp h1, nn w h3]; omega)
    (by rw [nn dp h2, nn w h3]; show ¬ _ > ((arrV (gA G 3) n1 (fun j => .int (g j))).slots.size : Int); rw [arrV_size]; omega)
    (fun vm₁ _ j hj => by
      have e : scr.slots.getD (sp.toNatClampNeg + j) .null = .int (f (sp.toNatClampNeg + j)) := by
        rw [Array.getD_eq_getD_getElem?, hs5 _ (by omega)]
        rfl
      refine ⟨?_, ?_⟩
      · rw [e]
        exact hfit j hj
      · rw [e]
        exact trivial)
    (g := F0 m pc ls (.int w :: .int dp :: .ref b :: .int sp :: .ref a :: st)) rfl (by rw [C.2.2.2.1]; exact hl.1) (rest := st) rfl (by rw [C.2.1]; exact hd) hf (by show 2 * 0 + _ + (nativeFrameWords "java/lang/System" "arraycopy" 5 + 11) ≤ (mF i).2; have : nativeFrameWords "java/lang/System" "arraycopy" 5 = 7 := (by decide +kernel); omega)
  have e1 : copied scr (vp_cell (gA G 3) (n1, .inl g)) sp dp w = vp_cell (gA G 3) (n1, .inl (va_cpy f g sp.toNatClampNeg dp.toNatClampNeg w.toNatClampNeg)) := va_copiedX (fun z => .int z) scr (gA G 3) f g hs5 h4
  rw [e1] at X' step
  have hlb : b < H.size := (Array.getElem?_eq_some_iff.mp hc1).1
  have hheap : ((T.setVm vm').setCell b (vp_cell (gA G 3) (n1, .inl (va_cpy f g sp.toNatClampNeg dp.toNatClampNeg w.toNatClampNeg)))).heap = H.setIfInBounds b (vp_cell (gA G 3) (n1, .inl (va_cpy f g sp.toNatClampNeg dp.toNatClampNeg w.toNatClampNeg))) := by rw [← hT]; rfl
  have oq : ∀ q : Nat, q ≠ b → (H.setIfInBounds b (vp_cell (gA G 3) (n1, .inl (va_cpy f g sp.toNatClampNeg dp.toNatClampNeg w.toNatClampNeg))))[q]? = H[q]? := fun q hq => by simp [Array.getElem?_setIfInBounds, Ne.symm hq]
  obtain ⟨t, a1, b1⟩ := kk p l e s m args below meth c _ _ ls C hl (hR.set hb (show (H.setIfInBounds b _)[b]? = some _ by simp [Array.getElem?_setIfInBounds, hlb]) (by simp) oq) ⟨by simp; exact hS.1, fun q g1 g2 => by
      rw [oq q (fun e => g2 (by rw [e]; exact hba))]
      exact hS.2.1 q g1 g2, fun q hq => by
      rcases List.mem_append.mp hq with h | h
      · exact hS.2.2 q h
      · obtain ⟨z, -, hz⟩ := List.mem_map.mp h
        rw [← hz]
        exact hba⟩ _ hheap X'
  exact ⟨t, step t a1, b1⟩
theorem s_copyT {a b n1 : Nat} {f g : Nat → Int32} {sp dp w : Int32} {idx : Nat} {tk : Nat} (htk : tk < TEXTS.length) (hfa : f = fun j => ((((TEXTS[tk]?).getD []))[j]?.getD 0)) (haa : a = gS G (100 + tk)) (hd : decode (mC i) pc = .ok (.invokestatic idx, 3)) (hq : ((mN i).cls, idx) ∈ ACk)  (hb : h b = some (.inl (3, n1, .inl g)))
    (h1 : ¬ sp < 0) (h2 : ¬ dp < 0) (h3 : ¬ w < 0) (h4 : sp.toNatClampNeg + w.toNatClampNeg ≤ ((TEXTS[tk]?).getD []).length) (h5 : dp.toNatClampNeg + w.toNatClampNeg ≤ n1) (hfit : ∀ j, j < w.toNatClampNeg → fits .byte (.int (f (sp.toNatClampNeg + j))) = true) (hf : 1 ≤ (mF i).1) (hlo : (st.map fun v => v.category).sum + 18 ≤ (mF i).2)
    (kk : EX G i (pc + 3) L st (hup h b (.inl (3, n1, .inl (va_cpy f g sp.toNatClampNeg dp.toNatClampNeg w.toNatClampNeg)))) o k n Q) : EX G i pc L (.int w :: .int dp :: .ref b :: .int sp :: .ref a :: st) h o k n Q := by
  have nn : ∀ z : Int32, ¬ z < 0 → z.toInt = (z.toNatClampNeg : Int) := by
    intro z hz
    have hz0 : (0 : Int) ≤ z.toInt := by
      have := Int32.not_lt.mp hz
      simpa using Int32.le_iff_toInt_le.mp this
    show z.toInt = ((z.toInt.toNat : Nat) : Int)
    omega
  intro p l e s m args below meth c H locs ls C hl hR hS T hT X
  have hts := C.2.2.2.2.2.1
  have hK := C.2.2.2.2.2.2.2.2.2.1
  have hc1 : H[b]? = some (vp_cell (gA G 3) (n1, .inl g)) := hR.one hb 0 _ rfl
  have hba := (hR.2.2 b _ hb).1
  obtain ⟨-, k1, hk1, cm1, hkk1⟩ := (hK.1.2 3 _ rfl).1 n1 (fun j => .int (g j))
  obtain ⟨scr, hs1, ⟨hs6, k0, hk0, cm0, hkk0⟩, hs3, hs4, -, hs5', hs7⟩ := (hK.2.2.2.2.2.2.2.2.2.1 tk htk).2.2.2
  have hc0 : H[a]? = some scr := by rw [haa, hS.2.1 _ (Array.getElem?_eq_some_iff.mp hs1).1 hs7]; exact hs1
  have hs5 : ∀ j, j < ((TEXTS[tk]?).getD []).length → scr.slots[j]? = some (.int (f j)) := fun j hj => by rw [hfa]; exact hs5' j hj

  obtain ⟨vm', X', step⟩ := X.arraycopy C.1 C.2.2.2.2.1 (hts _ (List.mem_filter.mpr ⟨zchk_mem AC_chk _ hq, rfl⟩)) (hts _ AC_nat) (hts _ AC_st) (hts _ AC_ini) (src := a) (dst := b) (cs := scr) (cd := vp_cell (gA G 3) (n1, .inl g)) (srcPos := sp) (destPos := dp) (n := w) (by rw [hT]; exact hc0) (by rw [hT]; exact hc1)
    hs6 (fun _ h => by cases h) hs3 (fun h => by cases h) hk0 hk1 hkk0 hkk1 (by simp [refKind]) h1 h2 h3
    (by rw [nn sp h1, nn w h3]; omega)
    (by rw [nn dp h2, nn w h3]; show ¬ _ > ((arrV (gA G 3) n1 (fun j => .int (g j))).slots.size : Int); rw [arrV_size]; omega)
    (fun vm₁ _ j hj => by
      have e : scr.slots.getD (sp.toNatClampNeg + j) .null = .int (f (sp.toNatClampNeg + j)) := by
        rw [Array.getD_eq_getD_getElem?, hs5 _ (by omega)]
        rfl
      refine ⟨?_, ?_⟩
      · rw [e]
        exact hfit j hj
      · rw [e]
        exact trivial)
    (g := F0 m pc ls (.int w :: .int dp :: .ref b :: .int sp :: .ref a :: st)) rfl (by rw [C.2.2.2.1]; exact hl.1) (rest := st) rfl (by rw [C.2.1]; exact hd) hf (by show 2 * 0 + _ + (nativeFrameWords "java/lang/System" "arraycopy" 5 + 11) ≤ (mF i).2; have : nativeFrameWords "java/lang/System" "arraycopy" 5 = 7 := (by decide +kernel); omega)
  have e1 : copied scr (vp_cell (gA G 3) (n1, .inl g)) sp dp w = vp_cell (gA G 3) (n1, .inl (va_cpy f g sp.toNatClampNeg dp.toNatClampNeg w.toNatClampNeg)) := va_copiedX (fun z => .int z) scr (gA G 3) f g hs5 h4
  rw [e1] at X' step
  have hlb : b < H.size := (Array.getElem?_eq_some_iff.mp hc1).1
  have hheap : ((T.setVm vm').setCell b (vp_cell (gA G 3) (n1, .inl (va_cpy f g sp.toNatClampNeg dp.toNatClampNeg w.toNatClampNeg)))).heap = H.setIfInBounds b (vp_cell (gA G 3) (n1, .inl (va_cpy f g sp.toNatClampNeg dp.toNatClampNeg w.toNatClampNeg))) := by rw [← hT]; rfl
  have oq : ∀ q : Nat, q ≠ b → (H.setIfInBounds b (vp_cell (gA G 3) (n1, .inl (va_cpy f g sp.toNatClampNeg dp.toNatClampNeg w.toNatClampNeg))))[q]? = H[q]? := fun q hq => by simp [Array.getElem?_setIfInBounds, Ne.symm hq]
  obtain ⟨t, a1, b1⟩ := kk p l e s m args below meth c _ _ ls C hl (hR.set hb (show (H.setIfInBounds b _)[b]? = some _ by simp [Array.getElem?_setIfInBounds, hlb]) (by simp) oq) ⟨by simp; exact hS.1, fun q g1 g2 => by
      rw [oq q (fun e => g2 (by rw [e]; exact hba))]
      exact hS.2.1 q g1 g2, fun q hq => by
      rcases List.mem_append.mp hq with h | h
      · exact hS.2.2 q h
      · obtain ⟨z, -, hz⟩ := List.mem_map.mp h
        rw [← hz]
        exact hba⟩ _ hheap X'
  exact ⟨t, step t a1, b1⟩
def GSk : List (String × Nat × Nat × Nat) := [("GhostRooms$Settings", 9, 1000, 0), ("GhostRooms$Settings", 15, 1001, 0), ("GhostRooms$Settings", 18, 1002, 0), ("java/lang/AbstractStringBuilder", 18, 0, 1), ("java/lang/Integer", 83, 1003, 0), ("java/lang/Integer", 87, 1004, 0), ("java/lang/String", 38, 0, 1), ("java/lang/String", 1053, 0, 2)]
def gsw (q : String × Nat × Nat × Nat) : Cond := if q.2.2.2 = 1 then .fieldLink q.1 q.2.1 "java/lang/String" "COMPACT_STRINGS" "Z" else if q.2.2.2 = 2 then .fieldLink q.1 q.2.1 "jdk/internal/util/Preconditions" "SIOOBE_FORMATTER" "Ljava/util/function/BiFunction;" else if q.2.2.1 < 1003 then .fieldLink q.1 q.2.1 "GhostRooms$Settings" (stN (q.2.2.1 - 1000)) "[I" else .fieldLink q.1 q.2.1 "java/lang/Integer" (dgN (q.2.2.1 - 1003)) "[B"
theorem GS_chk : zchk GSk [760, 765, 87, 857, 1052, 1054, 476, 492] gsw = true := by decide +kernel
theorem GS_good : GSk.all (fun e => goodWord (gsw e)) = true := by decide +kernel
theorem GS_in {e : String × Nat × Nat × Nat} (h : e ∈ GSk) : gsw e ∈ TBLg := List.mem_filter.mpr ⟨zchk_mem GS_chk e h, List.all_eq_true.mp GS_good e h⟩
theorem s_getsC {idx a : Nat} (hd : decode (mC i) pc = .ok (.getstatic idx, 3)) (hq : ((mN i).cls, idx, a, 1) ∈ GSk) (kk : EX G i (pc + 3) L (.int 1 :: st) h o k n Q) : EX G i pc L st h o k n Q := by
  intro p l e s m args below meth c H locs ls C hl hR hS
  have hw := C.2.2.2.2.2.1 _ (GS_in hq)
  exact va_gets C.1 C.2.1 C.2.2.2.2.2.2.2.2.2.1.2.2.2.2.2.2.2.2.2.2.1 hS C.2.2.2.2.1 hw (fun x h => h) hd (kk p l e s m args below meth c H locs ls C hl hR hS)
theorem s_getsF {idx a : Nat} (hd : decode (mC i) pc = .ok (.getstatic idx, 3)) (hq : ((mN i).cls, idx, a, 2) ∈ GSk) (kk : ∀ v : Value, (v = .null ∨ ∃ t, v = .ref t) → EX G i (pc + 3) L (v :: st) h o k n Q) : EX G i pc L st h o k n Q := by
  intro p l e s m args below meth c H locs ls C hl hR hS
  have hw := C.2.2.2.2.2.1 _ (GS_in hq)
  rcases C.2.2.2.2.2.2.2.2.2.1.2.2.2.2.2.2.2.2.2.2.2.1 with hZ | ⟨tt, hZ⟩
  · exact va_gets C.1 C.2.1 hZ hS C.2.2.2.2.1 hw (fun x h => h) hd (kk _ (Or.inl rfl) p l e s m args below meth c H locs ls C hl hR hS)
  · exact va_gets C.1 C.2.1 hZ hS C.2.2.2.2.1 hw (fun x h => h) hd (kk _ (Or.inr ⟨tt, rfl⟩) p l e s m args below meth c H locs ls C hl hR hS)
theorem s_getsA {idx a : Nat} (hd : decode (mC i) pc = .ok (.getstatic idx, 3)) (hq : ((mN i).cls, idx, a, 0) ∈ GSk) (ha : 1000 ≤ a ∧ a < 1005) (kk : EX G i (pc + 3) L (.ref (gS G a) :: st) h o k n Q) : EX G i pc L st h o k n Q := by
  intro p l e s m args below meth c H locs ls C hl hR hS
  have hw := C.2.2.2.2.2.1 _ (GS_in hq)
  have hK := C.2.2.2.2.2.2.2.2.2.1
  dsimp only [gsw] at hw
  rw [if_neg (by decide), if_neg (by decide)] at hw
  by_cases c3 : a < 1003
  · rw [if_pos c3] at hw
    have hZ := (hK.2.2.2.2.2.2.2.2.1 (a - 1000) (by omega)).1
    rw [show 1000 + (a - 1000) = a by omega] at hZ
    exact va_gets C.1 C.2.1 hZ hS C.2.2.2.2.1 hw (fun x h => h) hd (kk p l e s m args below meth c H locs ls C hl hR hS)
  · rw [if_neg c3] at hw
    have hZ := (hK.2.2.2.2.2.2.2.2.2.2.2.2.2.2.2.2.2.2.1 (a - 1003) (by omega)).1
    rw [show 1003 + (a - 1003) = a by omega] at hZ
    exact va_gets C.1 C.2.1 hZ hS C.2.2.2.2.1 hw (fun x h => h) hd (kk p l e s m args below meth c H locs ls C hl hR hS)
/-- a digit of the tables -/
theorem s_baloadD {kx : Nat} {j : Int32} (hd : decode (mC i) pc = .ok (.baload, 1)) (hk2 : kx < 2) (hin : vp_in j 100) (kk : EX G i (pc + 1) L (.int (dgV kx j.toNatClampNeg) :: st) h o k n Q) : EX G i pc L (.int j :: .ref (gS G (1003 + kx)) :: st) h o k n Q := by
  intro p l e s m args below meth c H locs ls C hl hR hS
  have hT := (C.2.2.2.2.2.2.2.2.2.1.2.2.2.2.2.2.2.2.2.2.2.2.2.2.2.2.2.2.1 kx hk2).2
  exact va_tb C.1 C.2.1 hT hS hin rfl hd (kk p l e s m args below meth c H locs ls C hl hR hS)
/-- a text constant's fields, its bytes' number -/
theorem s_getfV {tk idx : Nat} (htk : tk < TEXTS.length) (hd : decode (mC i) pc = .ok (.getfield idx, 3)) (hf : ((mN i).cls, idx, 13, 0) ∈ FLk) (kk : EX G i (pc + 3) L (.ref (gS G (100 + tk)) :: st) h o k n Q) : EX G i pc L (.ref (gS G tk) :: st) h o k n Q := by
  intro p l e s m args below meth c H locs ls C hl hR hS
  exact vk_getf C.1 C.2.1 (C.2.2.2.2.2.2.2.2.2.1.2.2.2.2.2.2.2.2.2.1 tk htk).2.2.1 hS C.2.2.2.2.1 (C.2.2.2.2.2.1 _ (FL_in hf)) (fun x h => h) hd (kk p l e s m args below meth c H locs ls C hl hR hS)
theorem s_getfC {tk idx : Nat} (htk : tk < TEXTS.length) (hd : decode (mC i) pc = .ok (.getfield idx, 3)) (hf : ((mN i).cls, idx, 13, 1) ∈ FLk) (kk : EX G i (pc + 3) L (.int 0 :: st) h o k n Q) : EX G i pc L (.ref (gS G tk) :: st) h o k n Q := by
  intro p l e s m args below meth c H locs ls C hl hR hS
  exact vk_getf C.1 C.2.1 (C.2.2.2.2.2.2.2.2.2.1.2.2.2.2.2.2.2.2.2.1 tk htk).2.1 hS C.2.2.2.2.1 (C.2.2.2.2.2.1 _ (FL_in hf)) (fun x h => h) hd (kk p l e s m args below meth c H locs ls C hl hR hS)
theorem s_alenT {tk : Nat} (htk : tk < TEXTS.length) (hd : decode (mC i) pc = .ok (.arraylength, 1)) (kk : EX G i (pc + 1) L (.int (nI ((TEXTS[tk]?).getD []).length) :: st) h o k n Q) : EX G i pc L (.ref (gS G (100 + tk)) :: st) h o k n Q := by
  intro p l e s m args below meth c H locs ls C hl hR hS
  exact va_tlen C.1 C.2.1 (C.2.2.2.2.2.2.2.2.2.1.2.2.2.2.2.2.2.2.2.1 tk htk).2.2.2 hS rfl hd (kk p l e s m args below meth c H locs ls C hl hR hS)
/-- the script -/
theorem s_sld {j : Int32} (hd : decode (mC i) pc = .ok (.iaload, 1)) (hin : vp_in j (gX G).2.1) (kk : EX G i (pc + 1) L (.int ((gX G).2.2 j.toNatClampNeg) :: st) h o k n Q) : EX G i pc L (.int j :: .ref (gX G).1 :: st) h o k n Q := by
  intro p l e s m args below meth c H locs ls C hl hR hS
  have hK := C.2.2.2.2.2.2.2.2.2.1
  have hlt : (gX G).1 < gB G := hK.2.2.2.2.2.2.2.2.2.2.2.2.2.1
  exact va_sld C.1 C.2.1 hK.2.2.2.2.2.2.2.2.2.2.2.2.1 (Nat.lt_of_lt_of_le hlt hK.2.1) (Nat.not_le.mpr hlt) hS hin hd (kk p l e s m args below meth c H locs ls C hl hR hS)
theorem s_slen (hd : decode (mC i) pc = .ok (.arraylength, 1)) (kk : EX G i (pc + 1) L (.int (nI (gX G).2.1) :: st) h o k n Q) : EX G i pc L (.ref (gX G).1 :: st) h o k n Q := by
  intro p l e s m args below meth c H locs ls C hl hR hS
  have hK := C.2.2.2.2.2.2.2.2.2.1
  have hlt : (gX G).1 < gB G := hK.2.2.2.2.2.2.2.2.2.2.2.2.2.1
  exact va_slen C.1 C.2.1 hK.2.2.2.2.2.2.2.2.2.2.2.2.1 (Nat.lt_of_lt_of_le hlt hK.2.1) (Nat.not_le.mpr hlt) hS hd (kk p l e s m args below meth c H locs ls C hl hR hS)
end ST11
