/-! 11: fields, arrays, calls: a row an instruction, over the heap as a function -/
section ST11
variable {G : GG} {i pc : Nat} {L : List (Nat × Value)} {st : List Value} {h : HM} {o : Option Nat} {k n : Nat} {Q : XQ}
theorem Rep.one {a : Nat} {e : AE} {H : Heap} (hR : Rep G h o H) (ha : h a = some e) : va_P (gD G) vwCl [(a, toE G e)] H := by
  intro k q hk
  have hz : k < 1 := (List.getElem?_eq_some_iff.mp hk).1
  rw [show k = 0 by omega] at hk
  cases hk
  exact (hR.2.2 a e ha).2
theorem Rep.set {a : Nat} {e0 e : AE} {H H1 : Heap} (hR : Rep G h o H) (ha : h a = some e0) (he : va_at (gD G) vwCl (a, toE G e) H1) (hz : H1.size = H.size) (oq : ∀ q : Nat, q ≠ a → H1[q]? = H[q]?) : Rep G (hup h a e) o H1 := by
  refine ⟨fun z hz9 => hz.trans (hR.1 z hz9), by rw [hz]; exact hR.2.1, fun b e1 hb => ?_⟩
  by_cases hba : b = a
  · subst hba
    rw [hup_at] at hb
    cases hb
    exact ⟨(hR.2.2 b e0 ha).1, he⟩
  · rw [hup_ne h e hba] at hb
    exact ⟨(hR.2.2 b e1 hb).1, (hR.2.2 b e1 hb).2.kept (oq b hba)⟩
theorem flk {own : String} {idx ci kf : Nat} (hf : (own, idx, ci, kf) ∈ FLk) : ∃ r : vw_C, vwCl[ci]? = some r ∧ kf < r.2.2 ∧ Cond.fieldLink own idx (r.2.1 kf).1 (r.2.1 kf).2.1 (r.2.1 kf).2.2.1 ∈ TBLg := by
  have h1 := FL_in hf
  have h2 := List.all_eq_true.mp FL_lt _ hf
  dsimp only [flw] at h1 h2
  cases hr : vwCl[ci]? with
  | none => rw [hr] at h2; simp at h2
  | some r =>
    rw [hr] at h1 h2
    exact ⟨r, rfl, of_decide_eq_true h2, h1⟩
theorem s_getfield {a ci kf idx : Nat} {fs : List Value} {v : Value} (hd : decode (mC i) pc = .ok (.getfield idx, 3)) (hf : ((mN i).cls, idx, ci, kf) ∈ FLk) (ha : h a = some (.inr (ci, fs))) (hv : fs[kf]? = some v)
    (kk : EX G i (pc + 3) L (v :: st) h o k n Q) : EX G i pc L (.ref a :: st) h o k n Q := by
  intro p l e s m args below meth c H locs ls C hl hR hS
  have C0 := C
  obtain ⟨hx, hb, hr, hml, hown, hts, hlocks, hnm, hst, hK, htab⟩ := C
  obtain ⟨r, hr9, hk9, hw⟩ := flk hf
  obtain ⟨hin, -, -⟩ := cl_ok hr9
  exact va_get (D := gD G) (cl := vwCl) (ci := ci) (C := r.1) (T := r.2.1) (N := r.2.2) hx hb hts hin hown hK.1 (hR.one ha) 0 rfl hr9 kf hk9 (hts _ hw) (fun _ h9 => h9) hv hd (kk p l e s m args below meth c H locs ls C0 hl hR hS)
def fnl (ci kf : Nat) : Bool := match vwCl[ci]? with
  | some r => (r.2.1 kf).2.2.2
  | none => true
def own0 (ci kf : Nat) : String := match vwCl[ci]? with
  | some r => (r.2.1 kf).1
  | none => ""
theorem s_putfield {a ci kf idx : Nat} {fs : List Value} {v : Value} (hd : decode (mC i) pc = .ok (.putfield idx, 3)) (hf : ((mN i).cls, idx, ci, kf) ∈ FLk) (ha : h a = some (.inr (ci, fs))) (hl0 : kf < fs.length)
    (hfin : fnl ci kf = false ∨ ((mN i).name = "<init>" ∧ own0 ci kf = (mN i).cls)) (hn : narrow (tyC ci kf) v = v) (hfit : fits (tyC ci kf) v = true)
    (kk : EX G i (pc + 3) L st (hup h a (.inr (ci, fs.set kf v))) o k n Q) : EX G i pc L (v :: .ref a :: st) h o k n Q := by
  intro p l e s m args below meth c H locs ls C hl hR hS
  have C0 := C
  obtain ⟨hx, hb, hr, hml, hown, hts, hlocks, hnm, hst, hK, htab⟩ := C
  obtain ⟨r9, hr9, hk9, hw⟩ := flk hf
  obtain ⟨hin, hdn, hpt⟩ := cl_ok hr9
  obtain ⟨C', T, N⟩ := r9
  dsimp only at hk9 hw hin hdn hpt
  have hap := va_apart (own := C') hts hin (tyC ci) hpt hdn hK.1 hr9
  have hP := hR.one ha
  have hba := (hR.2.2 a _ ha).1
  obtain ⟨r, h1, cell, q1, q2, q3, q4⟩ := hP 0 _ rfl
  have hr : r = (C', T, N) := Option.some.inj (h1.symm.trans hr9)
  subst hr
  obtain ⟨hSl, hfc, kC, hkC, hkind⟩ := hK.1.1 ci _ hr9
  obtain ⟨cf, kf9, fi, f, hi, hsl⟩ := hSl kf hk9
  have hlay := hts _ (hin _ (u_in_lay hk9))
  have hst9 := (u_facts hfc hkC (u_lays hts hin hk9) hi).1
  have key : ∀ H' : Heap, H'[a]? = some (cell.setSlot f.slot v) → H'.size = H.size → (∀ q, q ≠ a → H'[q]? = H[q]?) → W p l e (rmI i) s m args below meth c H' (locs ++ [⟨a, f.slot⟩]) k n (xMQ below (XQc G Q) (XXc G Q) args s (mRc i).1 (mRc i).2 (mMc i).1 (mMc i).2 (gI G)) (F0 m (pc + 3) ls st) := by
    intro H' e1 e2 e3
    rw [hsl] at e1 ⊢
    refine kk p l e s m args below meth c H' _ ls C0 hl ?_ (hS.put e2 e3 hba)
    refine hR.set ha ?_ e2 e3
    exact ⟨_, hr9, t_OB.to (V := updV (vp_V fs) kf v) ⟨_, e1, q2, q3, t_set q4 hap hk9 v⟩ (fun j _ => vp_updV_set hl0 v j)⟩
  have hfnl : fnl ci kf = (T kf).2.2.2 := by unfold fnl; rw [hr9]
  cases hf9 : (T kf).2.2.2 with
  | false =>
    unfold u_lay at hlay
    rw [if_neg (by rw [hf9]; decide)] at hlay
    have h6 := u_store hfc hkC hkind hlay hi (hpt kf hk9) hn hfit
    exact W.putK hx hb (f := f) ⟨hown, hts _ hw, ⟨_, _, _, hi⟩, hst9⟩ (by rw [q2]; exact h6) q1 q3 (by rw [hsl]; exact k2_hasslot (q4 kf hk9)) rfl rfl hd key
  | true =>
    unfold u_lay at hlay
    rw [if_pos hf9] at hlay
    rcases hfin with hfin | ⟨hinit, hown9⟩
    · rw [hfnl, hf9] at hfin
      cases hfin
    have hcf : m.cls = cf := by
      obtain ⟨_, _, c', _, _, _, -, -, hf', -, -, -, hown2, -⟩ := Cond.laysFinal_spec hlay
      have e1 : c' = cf := by have := hi.symm.trans hf'; simp at this; exact this.1.symm
      have e2 : (T kf).1 = (mN i).cls := by rw [← hown9]; unfold own0; rw [hr9]
      rw [e2] at hown2
      rw [← e1]; exact Option.some.inj (hown.symm.trans hown2)
    have h6 := u_fits hfc hkC hkind (Or.inr hlay) hi (hpt kf hk9) hn hfit
    exact W.putFinK hx hb hown (hts _ hw) hi hst9 hcf (hnm.trans hinit) (by rw [q2]; exact h6) q1 q3 (by rw [hsl]; exact k2_hasslot (q4 kf hk9)) rfl rfl hd key
theorem s_iaload {a len : Nat} {f : Nat → Int32} {j : Int32} (hd : decode (mC i) pc = .ok (.iaload, 1)) (ha : h a = some (.inl (0, len, .inl f))) (hin : vp_in j len)
    (kk : EX G i (pc + 1) L (.int (f j.toNatClampNeg) :: st) h o k n Q) : EX G i pc L (.int j :: .ref a :: st) h o k n Q := by
  intro p l e s m args below meth c H locs ls C hl hR hS
  exact va_iald C.1 C.2.1 C.2.2.2.2.2.2.2.2.2.1.1 (hR.one ha) 0 0 rfl rfl hin hd (kk p l e s m args below meth c H locs ls C hl hR hS)
theorem s_laload {a len : Nat} {f : Nat → Int64} {j : Int32} (hd : decode (mC i) pc = .ok (.laload, 1)) (ha : h a = some (.inl (1, len, .inr (.inl f)))) (hin : vp_in j len)
    (kk : EX G i (pc + 1) L (.long (f j.toNatClampNeg) :: st) h o k n Q) : EX G i pc L (.int j :: .ref a :: st) h o k n Q := by
  intro p l e s m args below meth c H locs ls C hl hR hS
  exact va_lald C.1 C.2.1 C.2.2.2.2.2.2.2.2.2.1.1 (hR.one ha) 0 1 rfl rfl hin hd (kk p l e s m args below meth c H locs ls C hl hR hS)
theorem s_aaload {a len : Nat} {f : Nat → Option Nat} {j : Int32} (hd : decode (mC i) pc = .ok (.aaload, 1)) (ha : h a = some (.inl (2, len, .inr (.inr (.inr (.inr f)))))) (hin : vp_in j len)
    (kk : EX G i (pc + 1) L (va_rf (f j.toNatClampNeg) :: st) h o k n Q) : EX G i pc L (.int j :: .ref a :: st) h o k n Q := by
  intro p l e s m args below meth c H locs ls C hl hR hS
  exact va_aldq C.1 C.2.1 C.2.2.2.2.2.2.2.2.2.1.1 (hR.one ha) 0 2 rfl rfl hin hd (kk p l e s m args below meth c H locs ls C hl hR hS)
theorem s_arraylength {a kd : Nat} {x : vp_A} (hd : decode (mC i) pc = .ok (.arraylength, 1)) (ha : h a = some (.inl (kd, x))) (hkd : kd < 6)
    (kk : EX G i (pc + 1) L (.int (Int32.ofNat x.1) :: st) h o k n Q) : EX G i pc L (.ref a :: st) h o k n Q := by
  intro p l e s m args below meth c H locs ls C hl hR hS
  have hk := kk p l e s m args below meth c H locs ls C hl hR hS
  have hP := hR.one ha
  rcases (show kd = 0 ∨ kd = 1 ∨ kd = 2 ∨ kd = 3 ∨ kd = 4 ∨ kd = 5 by omega) with rfl | rfl | rfl | rfl | rfl | rfl
  · exact va_alen C.1 C.2.1 C.2.2.2.2.2.2.2.2.2.1.1 hP 0 0 rfl rfl rfl hd hk
  · exact va_alen C.1 C.2.1 C.2.2.2.2.2.2.2.2.2.1.1 hP 0 1 rfl rfl rfl hd hk
  · exact va_alen C.1 C.2.1 C.2.2.2.2.2.2.2.2.2.1.1 hP 0 2 rfl rfl rfl hd hk
  · exact va_alen C.1 C.2.1 C.2.2.2.2.2.2.2.2.2.1.1 hP 0 3 rfl rfl rfl hd hk
  · exact va_alen C.1 C.2.1 C.2.2.2.2.2.2.2.2.2.1.1 hP 0 4 rfl rfl rfl hd hk
  · exact va_alen C.1 C.2.1 C.2.2.2.2.2.2.2.2.2.1.1 hP 0 5 rfl rfl rfl hd hk
theorem s_iastore {a len : Nat} {f : Nat → Int32} {j x : Int32} (hd : decode (mC i) pc = .ok (.iastore, 1)) (ha : h a = some (.inl (0, len, .inl f))) (hin : vp_in j len)
    (kk : EX G i (pc + 1) L st (hup h a (.inl (0, len, .inl (upd f j.toNatClampNeg x)))) o k n Q) : EX G i pc L (.int x :: .int j :: .ref a :: st) h o k n Q := by
  intro p l e s m args below meth c H locs ls C hl hR hS
  have hK := C.2.2.2.2.2.2.2.2.2.1.1
  have hP := hR.one ha
  have hba := (hR.2.2 a _ ha).1
  refine W.iast C.1 C.2.1 (hP 0 _ rfl) ((hK.2 0 _ rfl).1 len (fun j => .int (f j))) (fun q => by cases q) (by show ¬ (j < 0 ∨ (arrV _ _ _).slots.size ≤ _); rw [arrV_size]; exact hin) rfl rfl hd fun H1 e9 z oq => ?_
  refine kk p l e s m args below meth c H1 _ ls C hl (hR.set ha ?_ z oq) (hS.put z oq hba)
  show H1[a]? = some (vp_cell _ _)
  rw [e9]
  show some ((vp_cell _ _).setSlot _ _) = _
  rw [vp_cell_i, vp_cell_i, arrV_store]
  congr 2
  funext q
  by_cases hq : q = j.toNatClampNeg
  · subst hq
    simp [updV, upd]
  · simp [updV, upd, hq]
theorem s_lastore {a len : Nat} {f : Nat → Int64} {j : Int32} {x : Int64} (hd : decode (mC i) pc = .ok (.lastore, 1)) (ha : h a = some (.inl (1, len, .inr (.inl f)))) (hin : vp_in j len)
    (kk : EX G i (pc + 1) L st (hup h a (.inl (1, len, .inr (.inl (vp_updL f j.toNatClampNeg x))))) o k n Q) : EX G i pc L (.long x :: .int j :: .ref a :: st) h o k n Q := by
  intro p l e s m args below meth c H locs ls C hl hR hS
  have hK := C.2.2.2.2.2.2.2.2.2.1.1
  have hP := hR.one ha
  have hba := (hR.2.2 a _ ha).1
  refine W.last C.1 C.2.1 (hP 0 _ rfl) ((hK.2 1 _ rfl).1 len (fun j => .long (f j))) (fun q => by cases q) (by show ¬ (j < 0 ∨ (arrV _ _ _).slots.size ≤ _); rw [arrV_size]; exact hin) rfl rfl hd fun H1 e9 z oq => ?_
  refine kk p l e s m args below meth c H1 _ ls C hl (hR.set ha ?_ z oq) (hS.put z oq hba)
  show H1[a]? = some (vp_cell _ _)
  rw [e9]
  show some ((vp_cell _ _).setSlot _ _) = _
  rw [vp_cell_l, vp_cell_l, arrV_store]
  congr 2
  funext q
  by_cases hq : q = j.toNatClampNeg
  · subst hq
    simp [updV, vp_updL]
  · simp [updV, vp_updL, hq]
end ST11
