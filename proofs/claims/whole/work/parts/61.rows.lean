/-! 61: statics, switches, calls of methods with handlers, a throw that is caught, arrays of houses -/
def GSk : List (String × Nat × Nat) := [("GhostRooms$Settings", 9, 0), ("GhostRooms$Settings", 15, 1), ("GhostRooms$Settings", 18, 2)]
theorem GS_chk : zchk GSk [1103, 780, 194] (fun q => .fieldLink q.1 q.2.1 "GhostRooms$Settings" (stN q.2.2) "[I") = true := by decide +kernel
def HCk : List (String × Nat × Nat) := [("GhostRooms$Script", 199, 1), ("GhostRooms$Script", 201, 0), ("GhostRoomsLaw", 13, 0), ("GhostRoomsLaw", 19, 1), ("GhostRoomsLaw", 32, 2)]
theorem HC_chk : zchk HCk [1205, 1206, 822, 903, 1297] (fun q => .classLink q.1 q.2.1 (exN q.2.2)) = true := by decide +kernel
section RW61
variable {G : GG} {i pc j : Nat} {L : List (Nat × Value)} {as st : List Value} {h : HM} {o : Option Nat} {k n : Nat} {Q : XQ}
theorem s_gets {idx kx : Nat} (hd : decode (mC i) pc = .ok (.getstatic idx, 3)) (hq : ((mN i).cls, idx, kx) ∈ GSk) (hkx : kx < 3) (kk : EX G i (pc + 3) L (.ref (gS G (1000 + kx)) :: st) h o k n Q) : EX G i pc L st h o k n Q := by
  intro p l e s m args below meth c H locs ls C hl hR hS
  exact va_gets C.1 C.2.1 (C.2.2.2.2.2.2.2.2.2.1.2.2.2.2.2.2.2.2.1 kx hkx).1 hS C.2.2.2.2.1 (C.2.2.2.2.2.1 _ (List.mem_filter.mpr ⟨zchk_mem GS_chk _ hq, rfl⟩)) (fun x hx => hx) hd (kk p l e s m args below meth c H locs ls C hl hR hS)
theorem s_tlen {kx : Nat} (hkx : kx < 3) (hd : decode (mC i) pc = .ok (.arraylength, 1)) (kk : EX G i (pc + 1) L (.int 6 :: st) h o k n Q) : EX G i pc L (.ref (gS G (1000 + kx)) :: st) h o k n Q := by
  intro p l e s m args below meth c H locs ls C hl hR hS
  exact va_tlen C.1 C.2.1 (C.2.2.2.2.2.2.2.2.2.1.2.2.2.2.2.2.2.2.1 kx hkx).2 hS (v := 6) rfl hd (kk p l e s m args below meth c H locs ls C hl hR hS)
theorem s_tld {kx : Nat} {x : Int32} (hkx : kx < 3) (hin : vp_in x 6) (hd : decode (mC i) pc = .ok (.iaload, 1)) (kk : EX G i (pc + 1) L (.int (stV kx x.toNatClampNeg) :: st) h o k n Q) : EX G i pc L (.int x :: .ref (gS G (1000 + kx)) :: st) h o k n Q := by
  intro p l e s m args below meth c H locs ls C hl hR hS
  exact va_ti C.1 C.2.1 (C.2.2.2.2.2.2.2.2.2.1.2.2.2.2.2.2.2.2.1 kx hkx).2 hS hin rfl hd (kk p l e s m args below meth c H locs ls C hl hR hS)
theorem s_look {dflt : Int} {ps : Array (Int × Int)} {len : Nat} {x : Int32} {off : Int} {tgt : Nat} (hd : decode (mC i) pc = .ok (.lookupswitch dflt ps, len)) (hp : (ps.toList.zip (ps.toList.drop 1)).all (fun (a, next) => a.1 < next.1) = true) (ho : Op.lookupswitch.offset ps.toList dflt x.toInt = off) (ht : (pc : Int) + off = (tgt : Int))
    (kk : EX G i tgt L st h o k n Q) : EX G i pc L (.int x :: st) h o k n Q := by
  intro p l e s m args below meth c H locs ls C hl hR hS
  exact lv_lookup C.1 C.2.1 hd hp ho ht (kk p l e s m args below meth c H locs ls C hl hR hS)
theorem s_tabO {dflt lo hi : Int} {offs : Array Int} {len : Nat} {x : Int32} {tgt : Nat} (hd : decode (mC i) pc = .ok (.tableswitch dflt lo hi offs, len)) (hx : x.toInt < lo ∨ hi < x.toInt) (ht : (pc : Int) + dflt = (tgt : Int))
    (kk : EX G i tgt L st h o k n Q) : EX G i pc L (.int x :: st) h o k n Q := by
  intro p l e s m args below meth c H locs ls C hl hR hS
  exact lv_tableOut C.1 C.2.1 hd hx ht (kk p l e s m args below meth c H locs ls C hl hR hS)
theorem s_tabI {dflt lo hi : Int} {offs : Array Int} {len : Nat} {x : Int32} {off : Int} {tgt : Nat} (hd : decode (mC i) pc = .ok (.tableswitch dflt lo hi offs, len)) (h1 : ¬ x.toInt < lo) (h2 : ¬ hi < x.toInt) (ho : offs[(x.toInt - lo).toNat]? = some off) (ht : (pc : Int) + off = (tgt : Int))
    (kk : EX G i tgt L st h o k n Q) : EX G i pc L (.int x :: st) h o k n Q := by
  intro p l e s m args below meth c H locs ls C hl hR hS
  exact lv_tableIn C.1 C.2.1 hd h1 h2 ho ht (kk p l e s m args below meth c H locs ls C hl hR hS)
theorem cwX {j : Nat} {args : Array Value} {s : State} (hh : ¬ mHH j = []) (h : (cw j).before args s = true) : (Cond.codeWith (mN j) (mC j) (mL j) (mR j) (mHH j)).before args s = true := by
  unfold cw at h
  rw [if_neg (fun e => hh (List.isEmpty_iff.mp e))] at h
  exact h
theorem s_callSX {idx nest : Nat} (hd : decode (mC i) pc = .ok (.invokestatic idx, 3)) (hm : ((mN i).cls, idx, j, nest) ∈ MLk) (hnest : nest = 0) (hj : mOwn j = true) (hk0 : mK j = 1) (hhh : ¬ mHH j = []) (hroom : roomOK i j k n = true) (hcat : (st.map fun v => v.category).sum ≤ 8) (hn : as.length = mNp j)
    (hr : Runs G j as h o (cont G i pc j L st k n Q)) : EX G i pc L (as.reverse ++ st) h o k n Q := by
  intro p l e s m args below meth c H locs ls C hl hR hS T hT X
  obtain ⟨hj1, hj2⟩ := mOwn_spec hj
  obtain ⟨hc, hi9, hstat, -, -, -, hy, -, hpar⟩ := cw_in hj2
  obtain ⟨hrm, hkc, hns⟩ := roomOK_spec hroom
  have hts := C.2.2.2.2.2.1
  have hdis := vx_callSX X C.1 (own := (mN i).cls) (index := idx) (y := mN j) C.2.2.2.2.1 (hts _ (ML_in hm hnest)) (hts _ (hstat hk0)) (hts _ hi9) (cwX hhh (hts _ hc)) hy (x_bk C hj hr hrm)
      (g := F0 m pc ls (as.reverse ++ st)) rfl (by rw [C.2.2.2.1]; exact hl.1) (argsL := as) (rest := st) (np_of hpar hn) rfl (lv_room hcat) (by rw [C.2.1]; exact hd)
      (fun vm₁ hW₁ => ⟨hkc, hns, x_pre C hR hS (T.setVm vm₁) hT hW₁⟩)
  exact x_fin (vmz := fun v => ⟨T.setVm v, locs, k, n⟩) (fun v => ⟨hT, rfl, rfl, rfl⟩) C hl hR hS hdis (fun v => rfl) (fun v h' o' hq => hq) (fun E h' o' hq => hq)
theorem s_callVX {b ci idx nest : Nat} {fs : List Value} (hd : decode (mC i) pc = .ok (.invokevirtual idx, 3)) (hm : ((mN i).cls, idx, j, nest) ∈ MLk) (hnest : nest = 0) (hj : mOwn j = true) (hk0 : mK j = 0) (hhh : ¬ mHH j = []) (hroom : roomOK i j k n = true) (hcat : (st.map fun v => v.category).sum ≤ 8) (hn : as.length = mNp j)
    (hb : h b = some (.inr (ci, fs))) (hci : (vwCl[ci]?).map (fun r => r.1) = some (mN j).cls) (hr : Runs G j (.ref b :: as) h o (cont G i pc j L st k n Q)) : EX G i pc L (as.reverse ++ .ref b :: st) h o k n Q := by
  intro p l e s m args below meth c H locs ls C hl hR hS T hT X
  obtain ⟨hj1, hj2⟩ := mOwn_spec hj
  obtain ⟨hc, hi9, -, hin, hsel, -, hy, -, hpar⟩ := cw_in hj2
  obtain ⟨hrm, hkc, hns⟩ := roomOK_spec hroom
  have hts := C.2.2.2.2.2.1
  have hrc : ∃ cell : Cell, H[b]? = some cell ∧ cell.vm.isStatics = false ∧ s.vm.findClass (mN j).cls = some cell.cls := by
    cases hq : vwCl[ci]? with
    | none => rw [hq] at hci; cases hci
    | some r =>
      rw [hq] at hci
      exact clN hq (Option.some.inj hci) C.2.2.2.2.2.2.2.2.2.1 hR hb
  obtain ⟨cellB, hcB, hoB, hclB⟩ := hrc
  have hlink := hts _ (ML_in hm hnest)
  have hdis := vx_callVX X C.1 (own := (mN i).cls) (index := idx) (y := mN j) (C := (mN j).cls) C.2.2.2.2.1 hlink (hts _ (hin (by omega))) (hts _ (hsel hk0)) (cwX hhh (hts _ hc)) hy (x_bk C hj hr hrm) (by rw [hT]; exact hcB) hoB hclB
    (g := F0 m pc ls (as.reverse ++ .ref b :: st)) rfl (by rw [C.2.2.2.1]; exact hl.1) (argsL := as) (rest := st) (np_of hpar hn) rfl (lv_room hcat) (by rw [C.2.1]; exact hd)
    (fun vm₁ hW₁ => ⟨hkc, hns, x_pre C hR hS (T.setVm vm₁) hT hW₁⟩)
  exact x_fin (vmz := fun v => ⟨T.setVm v, locs, k, n⟩) (fun v => ⟨hT, rfl, rfl, rfl⟩) C hl hR hS hdis (fun v => rfl) (fun v h' o' hq => hq) (fun E h' o' hq => hq)
/-- a throw that a handler takes: those ahead of it are of another class -/
theorem EXT.caught {kd : Nat} {pre suf : List ExceptionTableEntry} {x : ExceptionTableEntry} (hkd : kd < 3) (hsplit : tableOf (mHH i) = pre ++ x :: suf) (hpass : ∀ z ∈ pre, z.catchType ≠ 0 ∧ ∃ kc, kc < 3 ∧ kd ≠ kc ∧ ((mN i).cls, z.catchType, kc) ∈ HCk) (hx : covers x pc = true) (h0 : x.catchType ≠ 0) (hl9 : ((mN i).cls, x.catchType, kd) ∈ HCk)
    (kk : ∀ a, EX G i x.handlerPc L [.ref a] h o k n Q) : EXT G i pc L (exN kd) h o k n Q := by
  intro p l e s m args below meth c H locs ls q ce st C hl hR hS hce hv hcl
  have hK := C.2.2.2.2.2.2.2.2.2.1
  have hts := C.2.2.2.2.2.1
  have hin : ∀ r ∈ HCk, Cond.classLink r.1 r.2.1 (exN r.2.2) ∈ TBLg := fun r hr => List.mem_filter.mpr ⟨zchk_mem HC_chk r hr, rfl⟩
  refine vx_catch (own := (mN i).cls) (name := exN kd) C.2.2.2.2.1 pre x suf (C.2.2.2.2.2.2.2.2.2.2.trans hsplit) (fun z hz => ?_) hx h0 (hts _ (hin _ hl9)) (va_Nw.use rfl (hK.2.2.2.1 kd hkd)) hce hv hcl (kk q p l e s m args below meth c H locs ls C hl hR hS)
  obtain ⟨hz0, kc, hkc, hne, hm⟩ := hpass z hz
  exact Or.inr ⟨hz0, exN kc, hts _ (hin _ hm), hK.2.2.2.2.1 kd kc hkd hkc hne⟩
end RW61
/-- a room's name in the reference's row -/
def nmS (s : Nat → Int32) (k : Nat) : Int64 := ((s (12 + 9 * k)).toInt64 <<< ((20 : Int32).toInt64 &&& 63)) ||| (s (12 + 9 * k + 1)).toInt64
theorem nI_subN {a b : Nat} (h : b ≤ a) : nI a - nI b = nI (a - b) := by
  have e : nI a = nI (a - b) + nI b := by rw [nI_add]; congr 1; omega
  rw [e]
  exact Int32.add_sub_cancel _ _
