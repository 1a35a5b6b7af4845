/-! i1: the step, and the world's own arrays -/
theorem CL_w13 : Cond.classLink "GhostRoomsLaw$World" 13 "[[I" ∈ TBLg := List.mem_filter.mpr ⟨by decide +kernel, rfl⟩
/-- the heap with the outer array at z and i rows behind it -/
def hmz (h : HM) (z N M i : Nat) : HM := fun a => if a = z then some (.inl (4, N, .inr (.inr (.inr (.inr (fun j => if j < i then some (z + 1 + j) else none)))))) else if z < a ∧ a < z + 1 + i then some (.inl (0, M, .inl (fun _ => 0))) else h a
theorem hmz_0 {h : HM} {z N M : Nat} : hup h z (.inl (4, N, .inr (.inr (.inr (.inr (fun _ => none)))))) = hmz h z N M 0 := by
  funext a
  unfold hup hmz
  by_cases c : a = z
  · rw [if_pos c, if_pos c]
    congr 8
  · rw [if_neg c, if_neg c, if_neg (by omega)]
theorem hmz_s {h : HM} {z N M i : Nat} : hup (hup (hmz h z N M i) (z + 1 + i) (.inl (0, M, .inl (fun _ => 0)))) z (.inl (4, N, .inr (.inr (.inr (.inr (fun j => if j < i + 1 then some (z + 1 + j) else none)))))) = hmz h z N M (i + 1) := by
  funext a
  by_cases c : a = z
  · subst c
    rw [hup_at]
    exact (if_pos rfl).symm
  · rw [hup_ne _ _ c]
    by_cases d : a = z + 1 + i
    · subst d
      rw [hup_at]
      exact ((if_neg c).trans (if_pos (by omega))).symm
    · rw [hup_ne _ _ d]
      unfold hmz
      rw [if_neg c, if_neg c]
      by_cases e : z < a ∧ a < z + 1 + i
      · rw [if_pos e, if_pos (by omega)]
      · rw [if_neg e, if_neg (by omega)]
theorem hmz_z {h : HM} {z N M i : Nat} : hmz h z N M i z = some (.inl (4, N, .inr (.inr (.inr (.inr (fun j => if j < i then some (z + 1 + j) else none)))))) := if_pos rfl
theorem rwV_rf (z i : Nat) : (fun j => va_rf (if j < i then some (z + 1 + j) else none)) = rwV z i := by
  funext j
  unfold rwV
  split <;> rfl
theorem mzT_R {G : GG} {h : HM} {T : State} {z N M : Nat} (hR : Rep G h (some z) T.heap) : ∀ i, Rep G (hmz h z N M i) (some (z + 1 + i)) (mzT T (gA G 4) (gA G 0) N M i).heap := by
  have hz : T.heap.size = z := hR.1 z rfl
  subst hz
  intro i
  induction i with
  | zero =>
    obtain ⟨h1, h2, -, -, h5, -⟩ := mzT_f (s := T) (cA := gA G 4) (cB := gA G 0) (N := N) (M := M) 0
    have := hR.push (e := .inl (4, N, .inr (.inr (.inr (.inr (fun _ => none)))))) (H1 := (mzT T (gA G 4) (gA G 0) N M 0).heap) (by
      show _ = some (vp_cell _ _)
      rw [h2, vp_cell_q, rwV_0]
      rfl) h1 h5
    rw [hmz_0 (M := M)] at this
    exact this
  | succ i ih =>
    obtain ⟨h1, h2, -⟩ := mzT_f (s := T) (cA := gA G 4) (cB := gA G 0) (N := N) (M := M) i
    obtain ⟨g1, g2, -⟩ := mzT_f (s := T) (cA := gA G 4) (cB := gA G 0) (N := N) (M := M) (i + 1)
    have hl : T.heap.size < (mzT T (gA G 4) (gA G 0) N M i).heap.size := by omega
    have p1 := ih.push (e := .inl (0, M, .inl (fun _ => 0))) (H1 := ((mzT T (gA G 4) (gA G 0) N M i).pushCell (arrV (gA G 0) M (fun _ => .int 0))).heap) (by
      show _ = some (vp_cell _ _)
      rw [vp_cell_i, ← h1]
      exact State.heap_pushCell_size _ _) (by
      show ((mzT T (gA G 4) (gA G 0) N M i).heap.push _).size = _
      rw [Array.size_push, h1]) (fun q hq => State.heap_pushCell_of_lt _ _ (by rw [h1]; exact hq))
    have p2 := p1.set (a := T.heap.size) (e0 := .inl (4, N, .inr (.inr (.inr (.inr (fun j => if j < i then some (T.heap.size + 1 + j) else none)))))) (e := .inl (4, N, .inr (.inr (.inr (.inr (fun j => if j < i + 1 then some (T.heap.size + 1 + j) else none)))))) (H1 := (mzT T (gA G 4) (gA G 0) N M (i + 1)).heap) (by
      rw [hup_ne _ _ (by omega)]
      exact hmz_z) (by
      show _ = some (vp_cell _ _)
      rw [g2, vp_cell_q, rwV_rf]) (by
      show ((((mzT T (gA G 4) (gA G 0) N M i).pushCell (arrV (gA G 0) M (fun _ => .int 0))).setCell _ _).heap).size = _
      show (Array.setIfInBounds _ _ _).size = _
      rw [Array.size_setIfInBounds]) (fun q hq => State.heap_setCell_other (Ne.symm hq))
    rw [hmz_s] at p2
    exact p2
section ST
variable {G : GG} {i pc : Nat} {L : List (Nat × Value)} {st : List Value} {h : HM} {o : Option Nat} {k n : Nat} {Q : XQ}
theorem s_manew {z : Nat} {x y : Int32} {N M : Nat} (hi : (mN i).cls = "GhostRoomsLaw$World") (hd : decode (mC i) pc = .ok (.multianewarray 13 2, 4)) (hx : ¬ x < 0) (hy : ¬ y < 0) (hN : x.toNatClampNeg = N) (hM : y.toNatClampNeg = M) (hb : N ≤ 1000 ∧ M ≤ 1000) (hk : k + (1 + N) ≤ (mMc i).1) (hn : n + (N + N * M) ≤ (mMc i).2)
    (kk : EX G i (pc + 4) L (.ref z :: st) (hmz h z N M N) (some (z + 1 + N)) (k + 1 + N) (n + N + N * M) Q) : EX G i pc L (.int y :: .int x :: st) h (some z) k n Q := by
  intro p l e s m args below meth c H locs ls C hl hR hS
  have C0 := C
  obtain ⟨hexec, hcode, hrt, hml, hown, hts, hlocks, hnm, hst, hK, htab⟩ := C
  rw [hi] at hown
  have hsz : H.size = z := hR.1 z rfl
  subst hN hM hsz
  obtain ⟨k1, k2, k3, k4, k5, k6, k7, k8, k9, k10, k11, k12, k13, k14, k15, k16, k17, k18, k19, k20⟩ := hK
  intro T hT X
  subst hT
  obtain ⟨comp, cA, kA, q1, -, q3, q4, q5⟩ := aoa_spec (A := args) (s := s) k18
  obtain ⟨cB, kB, cc, r1, r2, r3⟩ := Cond.arrayClass_spec (hts _ AC_int)
  have hpl : e.platform.magicAccessors = ({} : Platform).magicAccessors := by rw [X.admits.platform]
  have eB : cB = gA G 0 := Option.some.inj (r1.symm.trans (k1.2 0 _ rfl).2)
  have eA : cA = gA G 4 := Option.some.inj (q5.symm.trans (k1.2 4 _ rfl).2)
  have eC : comp = gA G 0 := (Option.some.inj (q1.symm.trans r1)).trans eB
  subst eA eB eC
  obtain ⟨c0, hfc, hcl⟩ := Cond.classLink_spec hown (hts _ CL_w13) e.platform hpl
  obtain rfl : gA G 4 = c0 := Option.some.inj (q5.symm.trans hfc)
  obtain ⟨hg1, hw1, hr1⟩ := State.classEntry (e := e) X.warmed hcl
  generalize T.vm.noted m.cls 13 (.cls (gA G 4)) = vm1 at hg1 hw1 hr1
  have hal : s.vm.Alike vm1 := hw1.alike
  obtain ⟨kA1, u1, u2⟩ := hal.2.2 _ _ q3
  obtain ⟨kB1, v1, v2⟩ := hal.2.2 _ _ r2
  have u3 : kA1.kind = .array (gA G 0) (.array .int) := by rw [u2]; exact q4
  have v3 : kB1.kind = .array cc .int := by rw [v2]; exact r3
  have X1 := X.noted hw1
  have X2 := mzT_S X1 (cA := gA G 4) (cB := gA G 0) (N := x.toNatClampNeg) (M := y.toNatClampNeg) x.toNatClampNeg
  have hRm := mzT_R (G := G) (h := h) (T := T.setVm vm1) (z := T.heap.size) (N := x.toNatClampNeg) (M := y.toNatClampNeg) hR x.toNatClampNeg
  obtain ⟨f1, f2, f3, f4, f5, f6⟩ := mzT_f (s := T.setVm vm1) (cA := gA G 4) (cB := gA G 0) (N := x.toNatClampNeg) (M := y.toNatClampNeg) x.toNatClampNeg
  have hgI : gI G T.heap.size := (hRm.2.2 T.heap.size _ hmz_z).1
  have hS2 : va_S (gI G) s.heap (mzT (T.setVm vm1) (gA G 4) (gA G 0) x.toNatClampNeg y.toNatClampNeg x.toNatClampNeg).heap (locs ++ (List.range x.toNatClampNeg).map fun j => ⟨T.heap.size, j⟩) := by
    have f1 : (mzT (T.setVm vm1) (gA G 4) (gA G 0) x.toNatClampNeg y.toNatClampNeg x.toNatClampNeg).heap.size = T.heap.size + 1 + x.toNatClampNeg := f1
    refine ⟨Nat.le_trans hS.1 (by omega), fun q h1 h2 => (f5 q (Nat.lt_of_lt_of_le h1 hS.1)).trans (hS.2.1 q h1 h2), fun l hl => ?_⟩
    rcases List.mem_append.mp hl with hl | hl
    · exact hS.2.2 l hl
    · obtain ⟨j, -, rfl⟩ := List.mem_map.mp hl
      exact hgI
  obtain ⟨t', a1, b1⟩ := kk p l e s m args below meth c _ _ ls C0 hl hRm hS2 _ rfl X2
  refine ⟨t', ?_, b1⟩
  rw [← hcode] at hd
  obtain ⟨hr1c, hr2c⟩ := X.roomAbove hk hn
  have ll1 : ¬ x.toNatClampNeg > e.platform.arrayLengthLimit := by rw [Launch.admits_arrayLengthLimit X.admits]; omega
  have ll2 : ¬ y.toNatClampNeg > e.platform.arrayLengthLimit := by rw [Launch.admits_arrayLengthLimit X.admits]; omega
  have hh1 : ¬ x.toNatClampNeg * componentBytes (.array .int) > e.platform.maxHeapBytes := by
    rw [Launch.admits_maxHeapBytes X.admits]; show ¬ x.toNatClampNeg * 4 > 536870912; omega
  have hh2 : ¬ y.toNatClampNeg * componentBytes .int > e.platform.maxHeapBytes := by
    rw [Launch.admits_maxHeapBytes X.admits]; show ¬ y.toNatClampNeg * 4 > 536870912; omega
  jvm_step X.here [hexec, hd]
  simp only [Op.multianewarray.sem, wp_bind', W.resolveClassAt_links (State.method?_setTop (F0 m pc ls (.int y :: .int x :: st)) X.here.top) hg1]
  rw [W.popN, if_neg (by decide)]
  refine ⟨F0 m pc ls (.int y :: .int x :: st), State.topJava?_setTop' (s := T.setVm vm1) _ X.here.top, [.int x, .int y], st, rfl, rfl, ?_⟩
  simp only [List.mapM_cons, List.mapM_nil, wp_bind', wp_pure']
  refine mk_all (kA := kA1) (kB := kB1) (cB := gA G 0) u1 u3 v1 v3 hx hy ll1 hh1 ll2 hh2 hr1c hr2c (fun d' acts' => ?_)
  have eS : ((T.setTop (F0 m pc ls (.int y :: .int x :: st))).setVm vm1).setTop { F0 m pc ls (.int y :: .int x :: st) with stack := st } = (T.setVm vm1).setTop { F0 m pc ls (.int y :: .int x :: st) with stack := st } := by
    show ((T.setVm vm1).setTop _).setTop _ = _
    rw [State.setTop_setTop]
  rw [eS, mzT_top]
  simp only [wp_bind', W.mark, W.pushRef, State.topJava?_setTop' _ X2.here.top, Option.some.injEq, exists_eq_left', State.setTop_setTop, State.heap_setTop]
  intro acts
  simp [jvm, X2.here.top]
  exact a1
end ST
