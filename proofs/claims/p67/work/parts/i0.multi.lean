/-! i0: arrays of int arrays are made -/
set_option maxRecDepth 8000
def rwV (a i : Nat) : Nat → Value := fun j => if j < i then .ref (a + 1 + j) else .null
theorem rwV_0 (a : Nat) : rwV a 0 = fun _ => .null := by
  funext j
  exact if_neg (Nat.not_lt_zero j)
theorem rwV_s (a i : Nat) : updV (rwV a i) i (.ref (a + 1 + i)) = rwV a (i + 1) := by
  funext j
  unfold updV rwV
  by_cases c : j = i
  · subst c; rw [if_pos rfl, if_pos (by omega)]
  · rw [if_neg c]
    by_cases d : j < i
    · rw [if_pos d, if_pos (by omega)]
    · rw [if_neg d, if_neg (by omega)]
/-- the state with the outer array and its first i rows -/
def mzT (s : State) (cA cB : ClassId) (N M : Nat) : Nat → State
  | 0 => s.pushCell (arrV cA N (fun _ => .null))
  | i + 1 => ((mzT s cA cB N M i).pushCell (arrV cB M (fun _ => .int 0))).setCell s.heap.size ((arrV cA N (rwV s.heap.size i)).setSlot i (.ref (s.heap.size + 1 + i)))
theorem mzT_top {s : State} {g : JFrame} {cA cB : ClassId} {N M : Nat} : ∀ i, mzT (s.setTop g) cA cB N M i = (mzT s cA cB N M i).setTop g := by
  intro i
  induction i with
  | zero => rfl
  | succ i ih =>
    show ((mzT (s.setTop g) cA cB N M i).pushCell _).setCell _ _ = _
    rw [ih]
    rfl
theorem mzT_f {s : State} {cA cB : ClassId} {N M : Nat} : ∀ i, (mzT s cA cB N M i).heap.size = s.heap.size + 1 + i ∧ (mzT s cA cB N M i).heap[s.heap.size]? = some (arrV cA N (rwV s.heap.size i)) ∧ (mzT s cA cB N M i).vm = s.vm ∧ (mzT s cA cB N M i).slotsUsed = s.slotsUsed + N + i * M ∧
    (∀ a, a < s.heap.size → (mzT s cA cB N M i).heap[a]? = s.heap[a]?) ∧ ∀ j, j < i → (mzT s cA cB N M i).heap[s.heap.size + 1 + j]? = some (arrV cB M (fun _ => .int 0)) := by
  intro i
  induction i with
  | zero =>
    refine ⟨by simp [mzT], ?_, rfl, by simp [mzT, arrV_size], fun a ha => State.heap_pushCell_of_lt _ _ ha, fun j hj => absurd hj (Nat.not_lt_zero j)⟩
    rw [rwV_0]
    exact State.heap_pushCell_size _ _
  | succ i ih =>
    obtain ⟨h1, h2, h3, h4, h5, h6⟩ := ih
    have hl : s.heap.size < (mzT s cA cB N M i).heap.size := by omega
    have e0 : ((mzT s cA cB N M i).pushCell (arrV cB M (fun _ => .int 0))).heap[s.heap.size]? = some (arrV cA N (rwV s.heap.size i)) := (State.heap_pushCell_of_lt _ _ hl).trans h2
    refine ⟨?_, ?_, h3, ?_, fun a ha => ?_, fun j hj => ?_⟩
    · show ((mzT s cA cB N M i).heap.push _ |>.setIfInBounds _ _).size = _
      rw [Array.size_setIfInBounds, Array.size_push, h1]
      omega
    · rw [mzT, State.heap_setCell_self e0, arrV_store, rwV_s]
    · show (mzT s cA cB N M i).slotsUsed + _ = _
      rw [h4, arrV_size, Nat.succ_mul]
      omega
    · rw [mzT, State.heap_setCell_other (Nat.ne_of_gt ha), State.heap_pushCell_of_lt _ _ (Nat.lt_trans ha hl)]
      exact h5 a ha
    · have hne : s.heap.size ≠ s.heap.size + 1 + j := by omega
      rw [mzT, State.heap_setCell_other hne]
      by_cases c : j < i
      · have hj2 : s.heap.size + 1 + j < (mzT s cA cB N M i).heap.size := by omega
        rw [State.heap_pushCell_of_lt _ _ hj2]
        exact h6 j c
      · have : s.heap.size + 1 + j = (mzT s cA cB N M i).heap.size := by omega
        rw [this]
        exact State.heap_pushCell_size _ _
theorem mzT_S {p : Program} {l : Launch} {e : Env} {R : Room} {s : State} {m : MethodId} {args : Array Value} {below : List Frame} {meth : Method} {c : Code} {T : State} {locs : List Loc} {cells slots : Nat} (X : Stand p l e R s m args below meth c T locs cells slots) {cA cB : ClassId} {N M : Nat} : ∀ i, Stand p l e R s m args below meth c (mzT T cA cB N M i) (locs ++ (List.range i).map fun j => ⟨T.heap.size, j⟩) (cells + 1 + i) (slots + N + i * M) := by
  intro i
  induction i with
  | zero =>
    have h := X.pushed (arrV cA N (fun _ => .null))
    rw [arrV_size] at h
    simpa [mzT] using h
  | succ i ih =>
    obtain ⟨h1, h2, -⟩ := mzT_f (s := T) (cA := cA) (cB := cB) (N := N) (M := M) i
    have h := ih.pushed (arrV cB M (fun _ => .int 0))
    rw [arrV_size] at h
    have hl : T.heap.size < (mzT T cA cB N M i).heap.size := by omega
    have e0 : ((mzT T cA cB N M i).pushCell (arrV cB M (fun _ => .int 0))).heap[T.heap.size]? = some (arrV cA N (rwV T.heap.size i)) := (State.heap_pushCell_of_lt _ _ hl).trans h2
    have h := h.stored e0 i (.ref (T.heap.size + 1 + i))
    rw [List.range_succ, List.map_append, ← List.append_assoc, Nat.succ_mul, ← Nat.add_assoc, ← Nat.add_assoc]
    exact h
section MW
variable {E : CtlPost} {e : Env} {d : Bool} {acts : List Action} {s : State}
theorem mk_row {cB cc : ClassId} {kB : Class} {M : Int32} {Q : Addr → Pre} (hk : s.vm.classes[cB]? = some kB) (hkd : kB.kind = .array cc .int) (hM : ¬ M < 0) (hl : ¬ M.toNatClampNeg > e.platform.arrayLengthLimit) (hh : ¬ M.toNatClampNeg * componentBytes .int > e.platform.maxHeapBytes)
    (h1 : s.heap.size < e.platform.maxCells) (h2 : s.slotsUsed + M.toNatClampNeg ≤ e.platform.maxSlots) (hq : ∀ acts', Q s.heap.size d acts' (s.pushCell (arrV cB M.toNatClampNeg (fun _ => .int 0)))) : wp (Op.multianewarray.make cB [M]) Q E e d acts s := by
  rw [Op.multianewarray.make]
  simp only [wp_bind', W.ite, hM, if_false, wp_pure', W.theClass, hk, hkd, Option.some.injEq, exists_eq_left']
  exact W.newArray_of hk hkd hl hh h1 h2 rfl (fun acts' => by rw [← arrV_new] at hq; exact hq acts')
theorem mk_all {cA cB cc : ClassId} {kA kB : Class} {N M : Int32} {Q : Addr → Pre} (hkA : s.vm.classes[cA]? = some kA) (hkdA : kA.kind = .array cB (.array .int)) (hk : s.vm.classes[cB]? = some kB) (hkd : kB.kind = .array cc .int) (hN : ¬ N < 0) (hM : ¬ M < 0)
    (hl1 : ¬ N.toNatClampNeg > e.platform.arrayLengthLimit) (hh1 : ¬ N.toNatClampNeg * componentBytes (.array .int) > e.platform.maxHeapBytes) (hl : ¬ M.toNatClampNeg > e.platform.arrayLengthLimit) (hh : ¬ M.toNatClampNeg * componentBytes .int > e.platform.maxHeapBytes)
    (h1 : s.heap.size + (1 + N.toNatClampNeg) ≤ e.platform.maxCells) (h2 : s.slotsUsed + (N.toNatClampNeg + N.toNatClampNeg * M.toNatClampNeg) ≤ e.platform.maxSlots)
    (hq : ∀ d' acts', Q s.heap.size d' acts' (mzT s cA cB N.toNatClampNeg M.toNatClampNeg N.toNatClampNeg)) : wp (Op.multianewarray.make cA [N, M]) Q E e d acts s := by
  have hf : [M].find? (fun x => decide (x < 0)) = none := by simp [hM]
  rw [Op.multianewarray.make]
  simp only [wp_bind', W.ite, hN, if_false, wp_pure', W.theClass, hkA, hkdA, Option.some.injEq, exists_eq_left']
  refine W.newArray_of hkA hkdA hl1 hh1 (by omega) (by omega) rfl fun acts1 => ?_
  simp only [hf]
  rw [ite_self, wp_bind', Std.Legacy.Range.forIn_eq_forIn_range', show ([:N.toNatClampNeg] : Std.Legacy.Range).size = N.toNatClampNeg by simp [Std.Legacy.Range.size]]
  refine wp_forIn_inv (fun r s' => ∃ i, i + r.length = N.toNatClampNeg ∧ r = List.range' i r.length ∧ s' = mzT s cA cB N.toNatClampNeg M.toNatClampNeg i) _ _ ⟨0, by simp, by simp, ?_⟩ (fun x r s' d' acts' Q' => ?_) (fun s' d' acts' => ?_)
  · show State.pushCell _ _ = State.pushCell _ _
    rw [← arrV_new]
  · rintro ⟨i, hi, hr, rfl⟩ hn
    rw [List.length_cons] at hi hr
    rw [List.range'_succ] at hr
    obtain ⟨rfl, hr⟩ := List.cons.inj hr
    obtain ⟨f1, f2, f3, f4, -⟩ := mzT_f (s := s) (cA := cA) (cB := cB) (N := N.toNatClampNeg) (M := M.toNatClampNeg) x
    have hm := Nat.mul_le_mul_right M.toNatClampNeg (show x + 1 ≤ N.toNatClampNeg by omega)
    rw [Nat.succ_mul] at hm
    simp only [wp_bind']
    refine mk_row (by rw [f3]; exact hk) hkd hM hl hh (by omega) (by omega) fun acts2 => ?_
    simp only [wp_bind', W.writeLoc, wp_pure']
    have hl0 : s.heap.size < (mzT s cA cB N.toNatClampNeg M.toNatClampNeg x).heap.size := by omega
    refine ⟨arrV cA N.toNatClampNeg (rwV s.heap.size x), (State.heap_pushCell_of_lt _ _ hl0).trans f2, (show VmData.none ≠ VmData.unknown from fun h => by cases h), by rw [arrV_size]; omega, ?_, hn _ _ _ ⟨x + 1, by omega, hr, ?_⟩⟩
    · simp [State.fitsSlot, State.slotType?, arrV, f3, hkA, hkdA, fits]
    · rw [f1]; rfl
  · rintro ⟨i, hi, -, rfl⟩
    obtain rfl : i = N.toNatClampNeg := by simpa using hi
    simp only [wp_pure']
    exact hq _ _
end MW
