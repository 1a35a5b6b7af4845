/-! 09: one instruction, a row (over the kit's rows): locals, numbers, branches, ends -/
def lkL : List (Nat × Value) → Nat → Option Value
  | [], _ => none
  | (j, v) :: t, i => if j = i then some v else lkL t i
theorem lkL_mem : ∀ {L : List (Nat × Value)} {i : Nat} {v : Value}, lkL L i = some v → (i, v) ∈ L := by
  intro L
  induction L with
  | nil => intro i v h; simp [lkL] at h
  | cons q t ih =>
    intro i v h
    obtain ⟨j, w⟩ := q
    simp only [lkL] at h
    split at h
    · rename_i hj
      cases h
      rw [hj]
      exact List.mem_cons_self
    · exact List.mem_cons_of_mem _ (ih h)
def insL (i : Nat) (v : Value) : List (Nat × Value) → List (Nat × Value)
  | [] => [(i, v)]
  | (j, w) :: t => if i < j then (i, v) :: (j, w) :: t else (j, w) :: insL i v t
theorem insL_mem {i : Nat} {v : Value} : ∀ {L : List (Nat × Value)} {q : Nat × Value}, q ∈ insL i v L → q ∈ (i, v) :: L := by
  intro L
  induction L with
  | nil => intro q h; exact h
  | cons z t ih =>
    intro q h
    obtain ⟨j, w⟩ := z
    simp only [insL] at h
    split at h
    · exact h
    · rcases List.mem_cons.mp h with h | h
      · rw [h]; simp
      · rcases List.mem_cons.mp (ih h) with h | h
        · rw [h]; simp
        · exact List.mem_cons_of_mem _ (List.mem_cons_of_mem _ h)
def stL1 (L : List (Nat × Value)) (i : Nat) (v : Value) : List (Nat × Value) := insL i v (L.filter (fun q => !(q.1 == i) && !(q.1 + 1 == i && q.2.category == 2)))
def stL2 (L : List (Nat × Value)) (i : Nat) (v : Value) : List (Nat × Value) := insL i v (L.filter (fun q => !(q.1 == i) && (!(q.1 == i + 1) && !(q.1 + 1 == i && q.2.category == 2))))
theorem stL1_has {ls : Array Slot} {nL i : Nat} {v : Value} {L : List (Nat × Value)} (h : lv_has ls nL ((i, v) :: L.filter (fun q => !(q.1 == i) && !(q.1 + 1 == i && q.2.category == 2)))) : lv_has ls nL (stL1 L i v) := ⟨h.1, h.2.1, fun q hq => h.2.2 q (insL_mem hq)⟩
theorem stL2_has {ls : Array Slot} {nL i : Nat} {v : Value} {L : List (Nat × Value)} (h : lv_has ls nL ((i, v) :: L.filter (fun q => !(q.1 == i) && (!(q.1 == i + 1) && !(q.1 + 1 == i && q.2.category == 2))))) : lv_has ls nL (stL2 L i v) := ⟨h.1, h.2.1, fun q hq => h.2.2 q (insL_mem hq)⟩
section ST9
variable {G : GG} {i pc : Nat} {L : List (Nat × Value)} {st : List Value} {h : HM} {o : Option Nat} {k n : Nat} {Q : XQ}
theorem s_iconst {v : Int32} {z : Int} (hd : decode (mC i) pc = .ok (.iconst z, 1)) (hv : Int32.ofInt z = v) (kk : EX G i (pc + 1) L (.int v :: st) h o k n Q) : EX G i pc L (st) h o k n Q := by
  intro p l e s m args below meth c H locs ls C hl hR hS
  exact lv_iconst C.1 C.2.1 hd hv (kk p l e s m args below meth c H locs ls C hl hR hS)
theorem s_bipush {v : Int32} {z : Int} (hd : decode (mC i) pc = .ok (.bipush z, 2)) (hv : (Int8.ofInt z).toInt32 = v) (kk : EX G i (pc + 2) L (.int v :: st) h o k n Q) : EX G i pc L (st) h o k n Q := by
  intro p l e s m args below meth c H locs ls C hl hR hS
  exact lv_bipush C.1 C.2.1 hd hv (kk p l e s m args below meth c H locs ls C hl hR hS)
theorem s_sipush {v : Int32} {z : Int} (hd : decode (mC i) pc = .ok (.sipush z, 3)) (hv : (Int16.ofInt z).toInt32 = v) (kk : EX G i (pc + 3) L (.int v :: st) h o k n Q) : EX G i pc L (st) h o k n Q := by
  intro p l e s m args below meth c H locs ls C hl hR hS
  exact lv_sipush C.1 C.2.1 hd hv (kk p l e s m args below meth c H locs ls C hl hR hS)
theorem s_lconst {v : Int64} {z : Fin 2} (hd : decode (mC i) pc = .ok (.lconst z, 1)) (hv : Int64.ofNat (z : Nat) = v) (kk : EX G i (pc + 1) L (.long v :: st) h o k n Q) : EX G i pc L (st) h o k n Q := by
  intro p l e s m args below meth c H locs ls C hl hR hS
  exact lv_lconst C.1 C.2.1 hd hv (kk p l e s m args below meth c H locs ls C hl hR hS)
theorem s_iadd {x y : Int32} (hd : decode (mC i) pc = .ok (.iadd, 1))  (kk : EX G i (pc + 1) L (.int (x + y) :: st) h o k n Q) : EX G i pc L (.int y :: .int x :: st) h o k n Q := by
  intro p l e s m args below meth c H locs ls C hl hR hS
  exact lv_iadd C.1 C.2.1 hd  (kk p l e s m args below meth c H locs ls C hl hR hS)
theorem s_isub {x y : Int32} (hd : decode (mC i) pc = .ok (.isub, 1))  (kk : EX G i (pc + 1) L (.int (x - y) :: st) h o k n Q) : EX G i pc L (.int y :: .int x :: st) h o k n Q := by
  intro p l e s m args below meth c H locs ls C hl hR hS
  exact lv_isub C.1 C.2.1 hd  (kk p l e s m args below meth c H locs ls C hl hR hS)
theorem s_imul {x y : Int32} (hd : decode (mC i) pc = .ok (.imul, 1))  (kk : EX G i (pc + 1) L (.int (x * y) :: st) h o k n Q) : EX G i pc L (.int y :: .int x :: st) h o k n Q := by
  intro p l e s m args below meth c H locs ls C hl hR hS
  exact lv_imul C.1 C.2.1 hd  (kk p l e s m args below meth c H locs ls C hl hR hS)
theorem s_iand {x y : Int32} (hd : decode (mC i) pc = .ok (.iand, 1))  (kk : EX G i (pc + 1) L (.int (x &&& y) :: st) h o k n Q) : EX G i pc L (.int y :: .int x :: st) h o k n Q := by
  intro p l e s m args below meth c H locs ls C hl hR hS
  exact lv_iand C.1 C.2.1 hd  (kk p l e s m args below meth c H locs ls C hl hR hS)
theorem s_ior {x y : Int32} (hd : decode (mC i) pc = .ok (.ior, 1))  (kk : EX G i (pc + 1) L (.int (x ||| y) :: st) h o k n Q) : EX G i pc L (.int y :: .int x :: st) h o k n Q := by
  intro p l e s m args below meth c H locs ls C hl hR hS
  exact lv_ior C.1 C.2.1 hd  (kk p l e s m args below meth c H locs ls C hl hR hS)
theorem s_ixor {x y : Int32} (hd : decode (mC i) pc = .ok (.ixor, 1))  (kk : EX G i (pc + 1) L (.int (x ^^^ y) :: st) h o k n Q) : EX G i pc L (.int y :: .int x :: st) h o k n Q := by
  intro p l e s m args below meth c H locs ls C hl hR hS
  exact lv_ixor C.1 C.2.1 hd  (kk p l e s m args below meth c H locs ls C hl hR hS)
theorem s_idiv {x y : Int32} (hd : decode (mC i) pc = .ok (.idiv, 1)) (hy : ¬ y = 0) (kk : EX G i (pc + 1) L (.int (x / y) :: st) h o k n Q) : EX G i pc L (.int y :: .int x :: st) h o k n Q := by
  intro p l e s m args below meth c H locs ls C hl hR hS
  exact lv_idiv C.1 C.2.1 hd hy (kk p l e s m args below meth c H locs ls C hl hR hS)
theorem s_land {x y : Int64} (hd : decode (mC i) pc = .ok (.land, 1))  (kk : EX G i (pc + 1) L (.long (x &&& y) :: st) h o k n Q) : EX G i pc L (.long y :: .long x :: st) h o k n Q := by
  intro p l e s m args below meth c H locs ls C hl hR hS
  exact lv_land C.1 C.2.1 hd  (kk p l e s m args below meth c H locs ls C hl hR hS)
theorem s_lor {x y : Int64} (hd : decode (mC i) pc = .ok (.lor, 1))  (kk : EX G i (pc + 1) L (.long (x ||| y) :: st) h o k n Q) : EX G i pc L (.long y :: .long x :: st) h o k n Q := by
  intro p l e s m args below meth c H locs ls C hl hR hS
  exact lv_lor C.1 C.2.1 hd  (kk p l e s m args below meth c H locs ls C hl hR hS)
theorem s_i2l {x : Int32} (hd : decode (mC i) pc = .ok (.i2l, 1))  (kk : EX G i (pc + 1) L (.long x.toInt64 :: st) h o k n Q) : EX G i pc L (.int x :: st) h o k n Q := by
  intro p l e s m args below meth c H locs ls C hl hR hS
  exact lv_i2l C.1 C.2.1 hd rfl (kk p l e s m args below meth c H locs ls C hl hR hS)
theorem s_l2i {x : Int64} (hd : decode (mC i) pc = .ok (.l2i, 1))  (kk : EX G i (pc + 1) L (.int x.toInt32 :: st) h o k n Q) : EX G i pc L (.long x :: st) h o k n Q := by
  intro p l e s m args below meth c H locs ls C hl hR hS
  exact lv_l2i C.1 C.2.1 hd rfl (kk p l e s m args below meth c H locs ls C hl hR hS)
theorem s_iushr {x y : Int32} (hd : decode (mC i) pc = .ok (.iushr, 1))  (kk : EX G i (pc + 1) L (.int ((x.toUInt32 >>> (y.toUInt32 &&& Int32.toUInt32 31)).toInt32) :: st) h o k n Q) : EX G i pc L (.int y :: .int x :: st) h o k n Q := by
  intro p l e s m args below meth c H locs ls C hl hR hS
  exact lv_iushr C.1 C.2.1 hd rfl (kk p l e s m args below meth c H locs ls C hl hR hS)
theorem s_lushr {x : Int64} {y : Int32} (hd : decode (mC i) pc = .ok (.lushr, 1))  (kk : EX G i (pc + 1) L (.long ((x.toUInt64 >>> (y.toInt64.toUInt64 &&& Int64.toUInt64 63)).toInt64) :: st) h o k n Q) : EX G i pc L (.int y :: .long x :: st) h o k n Q := by
  intro p l e s m args below meth c H locs ls C hl hR hS
  exact lv_lushr C.1 C.2.1 hd rfl (kk p l e s m args below meth c H locs ls C hl hR hS)
theorem s_lshl {x : Int64} {y : Int32} (hd : decode (mC i) pc = .ok (.lshl, 1))  (kk : EX G i (pc + 1) L (.long (x <<< (y.toInt64 &&& 63)) :: st) h o k n Q) : EX G i pc L (.int y :: .long x :: st) h o k n Q := by
  intro p l e s m args below meth c H locs ls C hl hR hS
  exact lv_lshl C.1 C.2.1 hd rfl (kk p l e s m args below meth c H locs ls C hl hR hS)
theorem s_lshr {x : Int64} {y : Int32} (hd : decode (mC i) pc = .ok (.lshr, 1))  (kk : EX G i (pc + 1) L (.long (x >>> (y.toInt64 &&& 63)) :: st) h o k n Q) : EX G i pc L (.int y :: .long x :: st) h o k n Q := by
  intro p l e s m args below meth c H locs ls C hl hR hS
  exact lv_lshr C.1 C.2.1 hd rfl (kk p l e s m args below meth c H locs ls C hl hR hS)
theorem s_dup {v : Value} (hd : decode (mC i) pc = .ok (.dup, 1)) (hv : v.category = 1) (kk : EX G i (pc + 1) L (v :: v :: st) h o k n Q) : EX G i pc L (v :: st) h o k n Q := by
  intro p l e s m args below meth c H locs ls C hl hR hS
  exact lv_dup C.1 C.2.1 hd hv (kk p l e s m args below meth c H locs ls C hl hR hS)
theorem s_pop {v : Value} (hd : decode (mC i) pc = .ok (.pop, 1)) (hv : v.category = 1) (kk : EX G i (pc + 1) L (st) h o k n Q) : EX G i pc L (v :: st) h o k n Q := by
  intro p l e s m args below meth c H locs ls C hl hR hS
  exact lv_pop C.1 C.2.1 hd hv (kk p l e s m args below meth c H locs ls C hl hR hS)
theorem s_null  (hd : decode (mC i) pc = .ok (.aconst_null, 1))  (kk : EX G i (pc + 1) L (.null :: st) h o k n Q) : EX G i pc L (st) h o k n Q := by
  intro p l e s m args below meth c H locs ls C hl hR hS
  exact lv_null C.1 C.2.1 hd  (kk p l e s m args below meth c H locs ls C hl hR hS)
theorem s_ishl {x y : Int32} (hd : decode (mC i) pc = .ok (.ishl, 1))  (kk : EX G i (pc + 1) L (.int (x <<< (y &&& 31)) :: st) h o k n Q) : EX G i pc L (.int y :: .int x :: st) h o k n Q := by
  intro p l e s m args below meth c H locs ls C hl hR hS
  exact lv_ishl C.1 C.2.1 hd  (kk p l e s m args below meth c H locs ls C hl hR hS)
theorem s_ishr {x y : Int32} (hd : decode (mC i) pc = .ok (.ishr, 1))  (kk : EX G i (pc + 1) L (.int (x >>> (y &&& 31)) :: st) h o k n Q) : EX G i pc L (.int y :: .int x :: st) h o k n Q := by
  intro p l e s m args below meth c H locs ls C hl hR hS
  exact lv_ishr C.1 C.2.1 hd  (kk p l e s m args below meth c H locs ls C hl hR hS)
theorem s_irem {x y : Int32} (hd : decode (mC i) pc = .ok (.irem, 1)) (hy : ¬ y = 0) (kk : EX G i (pc + 1) L (.int (x - x / y * y) :: st) h o k n Q) : EX G i pc L (.int y :: .int x :: st) h o k n Q := by
  intro p l e s m args below meth c H locs ls C hl hR hS
  exact lv_irem C.1 C.2.1 hd hy (kk p l e s m args below meth c H locs ls C hl hR hS)
theorem s_dup2 {v w : Value} (hd : decode (mC i) pc = .ok (.dup2, 1)) (hv : v.category = 1) (hw : w.category = 1) (kk : EX G i (pc + 1) L (v :: w :: v :: w :: st) h o k n Q) : EX G i pc L (v :: w :: st) h o k n Q := by
  intro p l e s m args below meth c H locs ls C hl hR hS
  exact lv_dup2_11 C.1 C.2.1 hd hv hw (kk p l e s m args below meth c H locs ls C hl hR hS)
theorem s_dup2l {v : Value} (hd : decode (mC i) pc = .ok (.dup2, 1)) (hv : v.category = 2) (kk : EX G i (pc + 1) L (v :: v :: st) h o k n Q) : EX G i pc L (v :: st) h o k n Q := by
  intro p l e s m args below meth c H locs ls C hl hR hS
  exact lv_dup2_2 C.1 C.2.1 hd hv (kk p l e s m args below meth c H locs ls C hl hR hS)
theorem s_fconst0  (hd : decode (mC i) pc = .ok (.fconst 0, 1))  (kk : EX G i (pc + 1) L (.float FP.fconst0 :: st) h o k n Q) : EX G i pc L (st) h o k n Q := by
  intro p l e s m args below meth c H locs ls C hl hR hS
  exact lv_fconst0 C.1 C.2.1 hd  (kk p l e s m args below meth c H locs ls C hl hR hS)
theorem s_dconst0  (hd : decode (mC i) pc = .ok (.dconst 0, 1))  (kk : EX G i (pc + 1) L (.double FP.dconst0 :: st) h o k n Q) : EX G i pc L (st) h o k n Q := by
  intro p l e s m args below meth c H locs ls C hl hR hS
  exact lv_dconst0 C.1 C.2.1 hd  (kk p l e s m args below meth c H locs ls C hl hR hS)
theorem s_fdiv {x y : UInt32} (hd : decode (mC i) pc = .ok (.fdiv, 1)) (hv : vf_n32 (FP.fdiv x y)) (kk : EX G i (pc + 1) L (.float (FP.fdiv x y) :: st) h o k n Q) : EX G i pc L (.float y :: .float x :: st) h o k n Q := by
  intro p l e s m args below meth c H locs ls C hl hR hS
  exact lv_fdiv C.1 C.2.1 hd hv (kk p l e s m args below meth c H locs ls C hl hR hS)
theorem s_ddiv {x y : UInt64} (hd : decode (mC i) pc = .ok (.ddiv, 1)) (hv : vf_n64 (FP.ddiv x y)) (kk : EX G i (pc + 1) L (.double (FP.ddiv x y) :: st) h o k n Q) : EX G i pc L (.double y :: .double x :: st) h o k n Q := by
  intro p l e s m args below meth c H locs ls C hl hR hS
  exact lv_ddiv C.1 C.2.1 hd hv (kk p l e s m args below meth c H locs ls C hl hR hS)
theorem s_i2f {x : Int32} (hd : decode (mC i) pc = .ok (.i2f, 1))  (kk : EX G i (pc + 1) L (.float (FP.i2f x) :: st) h o k n Q) : EX G i pc L (.int x :: st) h o k n Q := by
  intro p l e s m args below meth c H locs ls C hl hR hS
  exact lv_i2f C.1 C.2.1 hd  (kk p l e s m args below meth c H locs ls C hl hR hS)
theorem s_i2d {x : Int32} (hd : decode (mC i) pc = .ok (.i2d, 1))  (kk : EX G i (pc + 1) L (.double (FP.i2d x) :: st) h o k n Q) : EX G i pc L (.int x :: st) h o k n Q := by
  intro p l e s m args below meth c H locs ls C hl hR hS
  exact lv_i2d C.1 C.2.1 hd  (kk p l e s m args below meth c H locs ls C hl hR hS)
theorem s_f2d {x : UInt32} (hd : decode (mC i) pc = .ok (.f2d, 1)) (hv : vf_n64 (FP.f2d x)) (kk : EX G i (pc + 1) L (.double (FP.f2d x) :: st) h o k n Q) : EX G i pc L (.float x :: st) h o k n Q := by
  intro p l e s m args below meth c H locs ls C hl hR hS
  exact lv_f2d C.1 C.2.1 hd hv (kk p l e s m args below meth c H locs ls C hl hR hS)
theorem s_dcmp {x y : UInt64} {op : CmpOp} (hd : decode (mC i) pc = .ok (.dcmp op, 1))  (kk : EX G i (pc + 1) L (.int (Op.cmpValue (FP.dcmp x y) op) :: st) h o k n Q) : EX G i pc L (.double y :: .double x :: st) h o k n Q := by
  intro p l e s m args below meth c H locs ls C hl hR hS
  exact lv_dcmp C.1 C.2.1 hd  (kk p l e s m args below meth c H locs ls C hl hR hS)
theorem s_lcmp {x y : Int64} (hd : decode (mC i) pc = .ok (.lcmp, 1)) (kk : EX G i (pc + 1) L (.int (lg_cmp x y) :: st) h o k n Q) : EX G i pc L (.long y :: .long x :: st) h o k n Q := by
  intro p l e s m args below meth c H locs ls C hl hR hS
  exact W.lcmp C.1 C.2.1 hd (kk p l e s m args below meth c H locs ls C hl hR hS)
theorem s_iload_n {x : Int32} {z : Fin 4} (hd : decode (mC i) pc = .ok (.iload_n z, 1)) (hv : lkL L (z : Nat) = some (.int x)) (kk : EX G i (pc + 1) L (.int x :: st) h o k n Q) : EX G i pc L st h o k n Q := by
  intro p l e s m args below meth c H locs ls C hl hR hS
  exact lv_iload_n C.1 C.2.1 hd rfl (hl.2.2 _ (lkL_mem hv)) (kk p l e s m args below meth c H locs ls C hl hR hS)
theorem s_iload {x : Int32} {z : Nat} (hd : decode (mC i) pc = .ok (.iload z, 2)) (hv : lkL L z = some (.int x)) (kk : EX G i (pc + 2) L (.int x :: st) h o k n Q) : EX G i pc L st h o k n Q := by
  intro p l e s m args below meth c H locs ls C hl hR hS
  exact lv_iload C.1 C.2.1 hd (hl.2.2 _ (lkL_mem hv)) (kk p l e s m args below meth c H locs ls C hl hR hS)
theorem s_lload_n {x : Int64} {z : Fin 4} (hd : decode (mC i) pc = .ok (.lload_n z, 1)) (hv : lkL L (z : Nat) = some (.long x)) (kk : EX G i (pc + 1) L (.long x :: st) h o k n Q) : EX G i pc L st h o k n Q := by
  intro p l e s m args below meth c H locs ls C hl hR hS
  exact lv_lload_n C.1 C.2.1 hd rfl (hl.2.2 _ (lkL_mem hv)) (kk p l e s m args below meth c H locs ls C hl hR hS)
theorem s_lload {x : Int64} {z : Nat} (hd : decode (mC i) pc = .ok (.lload z, 2)) (hv : lkL L z = some (.long x)) (kk : EX G i (pc + 2) L (.long x :: st) h o k n Q) : EX G i pc L st h o k n Q := by
  intro p l e s m args below meth c H locs ls C hl hR hS
  exact lv_lload C.1 C.2.1 hd (hl.2.2 _ (lkL_mem hv)) (kk p l e s m args below meth c H locs ls C hl hR hS)
theorem s_aload_n {x : Nat} {z : Fin 4} (hd : decode (mC i) pc = .ok (.aload_n z, 1)) (hv : lkL L (z : Nat) = some (.ref x)) (kk : EX G i (pc + 1) L (.ref x :: st) h o k n Q) : EX G i pc L st h o k n Q := by
  intro p l e s m args below meth c H locs ls C hl hR hS
  exact lv_aload_n C.1 C.2.1 hd rfl (hl.2.2 _ (lkL_mem hv)) (kk p l e s m args below meth c H locs ls C hl hR hS)
theorem s_aload {x : Nat} {z : Nat} (hd : decode (mC i) pc = .ok (.aload z, 2)) (hv : lkL L z = some (.ref x)) (kk : EX G i (pc + 2) L (.ref x :: st) h o k n Q) : EX G i pc L st h o k n Q := by
  intro p l e s m args below meth c H locs ls C hl hR hS
  exact lv_aload C.1 C.2.1 hd (hl.2.2 _ (lkL_mem hv)) (kk p l e s m args below meth c H locs ls C hl hR hS)
theorem s_dload_n {x : UInt64} {z : Fin 4} (hd : decode (mC i) pc = .ok (.dload_n z, 1)) (hv : lkL L (z : Nat) = some (.double x)) (kk : EX G i (pc + 1) L (.double x :: st) h o k n Q) : EX G i pc L st h o k n Q := by
  intro p l e s m args below meth c H locs ls C hl hR hS
  exact lv_dload_n C.1 C.2.1 hd rfl (hl.2.2 _ (lkL_mem hv)) (kk p l e s m args below meth c H locs ls C hl hR hS)
theorem s_dload {x : UInt64} {z : Nat} (hd : decode (mC i) pc = .ok (.dload z, 2)) (hv : lkL L z = some (.double x)) (kk : EX G i (pc + 2) L (.double x :: st) h o k n Q) : EX G i pc L st h o k n Q := by
  intro p l e s m args below meth c H locs ls C hl hR hS
  exact lv_dload C.1 C.2.1 hd (hl.2.2 _ (lkL_mem hv)) (kk p l e s m args below meth c H locs ls C hl hR hS)
theorem s_aload_nN {z : Fin 4} (hd : decode (mC i) pc = .ok (.aload_n z, 1)) (hv : lkL L (z : Nat) = some .null) (kk : EX G i (pc + 1) L (.null :: st) h o k n Q) : EX G i pc L st h o k n Q := by
  intro p l e s m args below meth c H locs ls C hl hR hS
  exact lv_aload_nN C.1 C.2.1 hd rfl (hl.2.2 _ (lkL_mem hv)) (kk p l e s m args below meth c H locs ls C hl hR hS)
theorem s_istore_n {x : Int32} {z : Fin 4} (hd : decode (mC i) pc = .ok (.istore_n z, 1)) (hb : (z : Nat) < mL i) (kk : EX G i (pc + 1) (stL1 L (z : Nat) (.int x)) st h o k n Q) : EX G i pc L (.int x :: st) h o k n Q := by
  intro p l e s m args below meth c H locs ls C hl hR hS
  exact lv_istore_n C.1 C.2.1 hd rfl hl hb rfl (fun ls' hl' => kk p l e s m args below meth c H locs ls' C (stL1_has hl') hR hS)
theorem s_istore {x : Int32} {z : Nat} (hd : decode (mC i) pc = .ok (.istore z, 2)) (hb : z < mL i) (kk : EX G i (pc + 2) (stL1 L z (.int x)) st h o k n Q) : EX G i pc L (.int x :: st) h o k n Q := by
  intro p l e s m args below meth c H locs ls C hl hR hS
  exact lv_istore C.1 C.2.1 hd hl hb rfl (fun ls' hl' => kk p l e s m args below meth c H locs ls' C (stL1_has hl') hR hS)
theorem s_astore_n {x : Nat} {z : Fin 4} (hd : decode (mC i) pc = .ok (.astore_n z, 1)) (hb : (z : Nat) < mL i) (kk : EX G i (pc + 1) (stL1 L (z : Nat) (.ref x)) st h o k n Q) : EX G i pc L (.ref x :: st) h o k n Q := by
  intro p l e s m args below meth c H locs ls C hl hR hS
  exact lv_astore_n C.1 C.2.1 hd rfl hl hb rfl (fun ls' hl' => kk p l e s m args below meth c H locs ls' C (stL1_has hl') hR hS)
theorem s_astore {x : Nat} {z : Nat} (hd : decode (mC i) pc = .ok (.astore z, 2)) (hb : z < mL i) (kk : EX G i (pc + 2) (stL1 L z (.ref x)) st h o k n Q) : EX G i pc L (.ref x :: st) h o k n Q := by
  intro p l e s m args below meth c H locs ls C hl hR hS
  exact lv_astore C.1 C.2.1 hd hl hb rfl (fun ls' hl' => kk p l e s m args below meth c H locs ls' C (stL1_has hl') hR hS)
theorem s_lstore_n {x : Int64} {z : Fin 4} (hd : decode (mC i) pc = .ok (.lstore_n z, 1)) (hb : (z : Nat) + 1 < mL i) (kk : EX G i (pc + 1) (stL2 L (z : Nat) (.long x)) st h o k n Q) : EX G i pc L (.long x :: st) h o k n Q := by
  intro p l e s m args below meth c H locs ls C hl hR hS
  exact lv_lstore_n C.1 C.2.1 hd rfl hl hb rfl (fun ls' hl' => kk p l e s m args below meth c H locs ls' C (stL2_has hl') hR hS)
theorem s_lstore {x : Int64} {z : Nat} (hd : decode (mC i) pc = .ok (.lstore z, 2)) (hb : z + 1 < mL i) (kk : EX G i (pc + 2) (stL2 L z (.long x)) st h o k n Q) : EX G i pc L (.long x :: st) h o k n Q := by
  intro p l e s m args below meth c H locs ls C hl hR hS
  exact lv_lstore C.1 C.2.1 hd hl hb rfl (fun ls' hl' => kk p l e s m args below meth c H locs ls' C (stL2_has hl') hR hS)
theorem s_dstore_n {x : UInt64} {z : Fin 4} (hd : decode (mC i) pc = .ok (.dstore_n z, 1)) (hb : (z : Nat) + 1 < mL i) (kk : EX G i (pc + 1) (stL2 L (z : Nat) (.double x)) st h o k n Q) : EX G i pc L (.double x :: st) h o k n Q := by
  intro p l e s m args below meth c H locs ls C hl hR hS
  exact lv_dstore_n C.1 C.2.1 hd rfl hl hb rfl (fun ls' hl' => kk p l e s m args below meth c H locs ls' C (stL2_has hl') hR hS)
theorem s_dstore {x : UInt64} {z : Nat} (hd : decode (mC i) pc = .ok (.dstore z, 2)) (hb : z + 1 < mL i) (kk : EX G i (pc + 2) (stL2 L z (.double x)) st h o k n Q) : EX G i pc L (.double x :: st) h o k n Q := by
  intro p l e s m args below meth c H locs ls C hl hR hS
  exact lv_dstore C.1 C.2.1 hd hl hb rfl (fun ls' hl' => kk p l e s m args below meth c H locs ls' C (stL2_has hl') hR hS)
theorem s_iinc {x : Int32} {z : Nat} {dlt : Int} (hd : decode (mC i) pc = .ok (.iinc z dlt, 3)) (hv : lkL L z = some (.int x)) (hb : z < mL i) (kk : EX G i (pc + 3) (stL1 L z (.int (x + Int32.ofInt dlt))) st h o k n Q) : EX G i pc L st h o k n Q := by
  intro p l e s m args below meth c H locs ls C hl hR hS
  obtain ⟨k9, hk9⟩ := List.getElem?_of_mem (lkL_mem hv)
  exact lv_iinc C.1 C.2.1 hd hl hk9 rfl hb rfl (fun ls' hl' => kk p l e s m args below meth c H locs ls' C (stL1_has hl') hR hS)
theorem s_if_eq {x : Int32} {off : Int} {tgt : Nat} (hd : decode (mC i) pc = .ok (.ifCond .eq off, 3)) (ht : (pc : Int) + off = (tgt : Int)) (kt : x = 0 → EX G i tgt L st h o k n Q) (kf : ¬ x = 0 → EX G i (pc + 3) L st h o k n Q) : EX G i pc L (.int x :: st) h o k n Q := by
  intro p l e s m args below meth c H locs ls C hl hR hS
  exact lv_if_eq C.1 C.2.1 hd ht (fun q => kt q p l e s m args below meth c H locs ls C hl hR hS) (fun q => kf q p l e s m args below meth c H locs ls C hl hR hS)
theorem s_icmp_eq {x y : Int32} {off : Int} {tgt : Nat} (hd : decode (mC i) pc = .ok (.if_icmp .eq off, 3)) (ht : (pc : Int) + off = (tgt : Int)) (kt : x = y → EX G i tgt L st h o k n Q) (kf : ¬ x = y → EX G i (pc + 3) L st h o k n Q) : EX G i pc L (.int y :: .int x :: st) h o k n Q := by
  intro p l e s m args below meth c H locs ls C hl hR hS
  exact lv_icmp_eq C.1 C.2.1 hd ht (fun q => kt q p l e s m args below meth c H locs ls C hl hR hS) (fun q => kf q p l e s m args below meth c H locs ls C hl hR hS)
theorem s_if_ne {x : Int32} {off : Int} {tgt : Nat} (hd : decode (mC i) pc = .ok (.ifCond .ne off, 3)) (ht : (pc : Int) + off = (tgt : Int)) (kt : ¬ x = 0 → EX G i tgt L st h o k n Q) (kf : x = 0 → EX G i (pc + 3) L st h o k n Q) : EX G i pc L (.int x :: st) h o k n Q := by
  intro p l e s m args below meth c H locs ls C hl hR hS
  exact lv_if_ne C.1 C.2.1 hd ht (fun q => kt q p l e s m args below meth c H locs ls C hl hR hS) (fun q => kf q p l e s m args below meth c H locs ls C hl hR hS)
theorem s_icmp_ne {x y : Int32} {off : Int} {tgt : Nat} (hd : decode (mC i) pc = .ok (.if_icmp .ne off, 3)) (ht : (pc : Int) + off = (tgt : Int)) (kt : ¬ x = y → EX G i tgt L st h o k n Q) (kf : x = y → EX G i (pc + 3) L st h o k n Q) : EX G i pc L (.int y :: .int x :: st) h o k n Q := by
  intro p l e s m args below meth c H locs ls C hl hR hS
  exact lv_icmp_ne C.1 C.2.1 hd ht (fun q => kt q p l e s m args below meth c H locs ls C hl hR hS) (fun q => kf q p l e s m args below meth c H locs ls C hl hR hS)
theorem s_if_lt {x : Int32} {off : Int} {tgt : Nat} (hd : decode (mC i) pc = .ok (.ifCond .lt off, 3)) (ht : (pc : Int) + off = (tgt : Int)) (kt : x < 0 → EX G i tgt L st h o k n Q) (kf : ¬ x < 0 → EX G i (pc + 3) L st h o k n Q) : EX G i pc L (.int x :: st) h o k n Q := by
  intro p l e s m args below meth c H locs ls C hl hR hS
  exact lv_if_lt C.1 C.2.1 hd ht (fun q => kt q p l e s m args below meth c H locs ls C hl hR hS) (fun q => kf q p l e s m args below meth c H locs ls C hl hR hS)
theorem s_icmp_lt {x y : Int32} {off : Int} {tgt : Nat} (hd : decode (mC i) pc = .ok (.if_icmp .lt off, 3)) (ht : (pc : Int) + off = (tgt : Int)) (kt : x < y → EX G i tgt L st h o k n Q) (kf : ¬ x < y → EX G i (pc + 3) L st h o k n Q) : EX G i pc L (.int y :: .int x :: st) h o k n Q := by
  intro p l e s m args below meth c H locs ls C hl hR hS
  exact lv_icmp_lt C.1 C.2.1 hd ht (fun q => kt q p l e s m args below meth c H locs ls C hl hR hS) (fun q => kf q p l e s m args below meth c H locs ls C hl hR hS)
theorem s_if_ge {x : Int32} {off : Int} {tgt : Nat} (hd : decode (mC i) pc = .ok (.ifCond .ge off, 3)) (ht : (pc : Int) + off = (tgt : Int)) (kt : 0 ≤ x → EX G i tgt L st h o k n Q) (kf : ¬ 0 ≤ x → EX G i (pc + 3) L st h o k n Q) : EX G i pc L (.int x :: st) h o k n Q := by
  intro p l e s m args below meth c H locs ls C hl hR hS
  exact lv_if_ge C.1 C.2.1 hd ht (fun q => kt q p l e s m args below meth c H locs ls C hl hR hS) (fun q => kf q p l e s m args below meth c H locs ls C hl hR hS)
theorem s_icmp_ge {x y : Int32} {off : Int} {tgt : Nat} (hd : decode (mC i) pc = .ok (.if_icmp .ge off, 3)) (ht : (pc : Int) + off = (tgt : Int)) (kt : y ≤ x → EX G i tgt L st h o k n Q) (kf : ¬ y ≤ x → EX G i (pc + 3) L st h o k n Q) : EX G i pc L (.int y :: .int x :: st) h o k n Q := by
  intro p l e s m args below meth c H locs ls C hl hR hS
  exact lv_icmp_ge C.1 C.2.1 hd ht (fun q => kt q p l e s m args below meth c H locs ls C hl hR hS) (fun q => kf q p l e s m args below meth c H locs ls C hl hR hS)
theorem s_if_gt {x : Int32} {off : Int} {tgt : Nat} (hd : decode (mC i) pc = .ok (.ifCond .gt off, 3)) (ht : (pc : Int) + off = (tgt : Int)) (kt : 0 < x → EX G i tgt L st h o k n Q) (kf : ¬ 0 < x → EX G i (pc + 3) L st h o k n Q) : EX G i pc L (.int x :: st) h o k n Q := by
  intro p l e s m args below meth c H locs ls C hl hR hS
  exact lv_if_gt C.1 C.2.1 hd ht (fun q => kt q p l e s m args below meth c H locs ls C hl hR hS) (fun q => kf q p l e s m args below meth c H locs ls C hl hR hS)
theorem s_icmp_gt {x y : Int32} {off : Int} {tgt : Nat} (hd : decode (mC i) pc = .ok (.if_icmp .gt off, 3)) (ht : (pc : Int) + off = (tgt : Int)) (kt : y < x → EX G i tgt L st h o k n Q) (kf : ¬ y < x → EX G i (pc + 3) L st h o k n Q) : EX G i pc L (.int y :: .int x :: st) h o k n Q := by
  intro p l e s m args below meth c H locs ls C hl hR hS
  exact lv_icmp_gt C.1 C.2.1 hd ht (fun q => kt q p l e s m args below meth c H locs ls C hl hR hS) (fun q => kf q p l e s m args below meth c H locs ls C hl hR hS)
theorem s_if_le {x : Int32} {off : Int} {tgt : Nat} (hd : decode (mC i) pc = .ok (.ifCond .le off, 3)) (ht : (pc : Int) + off = (tgt : Int)) (kt : x ≤ 0 → EX G i tgt L st h o k n Q) (kf : ¬ x ≤ 0 → EX G i (pc + 3) L st h o k n Q) : EX G i pc L (.int x :: st) h o k n Q := by
  intro p l e s m args below meth c H locs ls C hl hR hS
  exact lv_if_le C.1 C.2.1 hd ht (fun q => kt q p l e s m args below meth c H locs ls C hl hR hS) (fun q => kf q p l e s m args below meth c H locs ls C hl hR hS)
theorem s_icmp_le {x y : Int32} {off : Int} {tgt : Nat} (hd : decode (mC i) pc = .ok (.if_icmp .le off, 3)) (ht : (pc : Int) + off = (tgt : Int)) (kt : x ≤ y → EX G i tgt L st h o k n Q) (kf : ¬ x ≤ y → EX G i (pc + 3) L st h o k n Q) : EX G i pc L (.int y :: .int x :: st) h o k n Q := by
  intro p l e s m args below meth c H locs ls C hl hR hS
  exact lv_icmp_le C.1 C.2.1 hd ht (fun q => kt q p l e s m args below meth c H locs ls C hl hR hS) (fun q => kf q p l e s m args below meth c H locs ls C hl hR hS)
theorem s_goto {off : Int} {tgt : Nat} (hd : decode (mC i) pc = .ok (.goto off, 3)) (ht : (pc : Int) + off = (tgt : Int)) (kk : EX G i tgt L st h o k n Q) : EX G i pc L st h o k n Q := by
  intro p l e s m args below meth c H locs ls C hl hR hS
  exact lv_goto C.1 C.2.1 hd ht (kk p l e s m args below meth c H locs ls C hl hR hS)
theorem s_ifnull {x : Nat} {off : Int} (hd : decode (mC i) pc = .ok (.ifnull off, 3)) (kk : EX G i (pc + 3) L st h o k n Q) : EX G i pc L (.ref x :: st) h o k n Q := by
  intro p l e s m args below meth c H locs ls C hl hR hS
  exact lv_ifnull C.1 C.2.1 hd (kk p l e s m args below meth c H locs ls C hl hR hS)
theorem s_ifnullN {off : Int} {tgt : Nat} (hd : decode (mC i) pc = .ok (.ifnull off, 3)) (ht : (pc : Int) + off = (tgt : Int)) (kk : EX G i tgt L st h o k n Q) : EX G i pc L (.null :: st) h o k n Q := by
  intro p l e s m args below meth c H locs ls C hl hR hS
  exact lv_ifnullN C.1 C.2.1 hd ht (kk p l e s m args below meth c H locs ls C hl hR hS)
theorem s_lookup {dflt : Int} {ps : Array (Int × Int)} {len : Nat} {x : Int32} {off : Int} {tgt : Nat} (hd : decode (mC i) pc = .ok (.lookupswitch dflt ps, len)) (hp : (ps.toList.zip (ps.toList.drop 1)).all (fun (a, next) => a.1 < next.1) = true) (ho : Op.lookupswitch.offset ps.toList dflt x.toInt = off) (ht : (pc : Int) + off = (tgt : Int)) (kk : EX G i tgt L st h o k n Q) : EX G i pc L (.int x :: st) h o k n Q := by
  intro p l e s m args below meth c H locs ls C hl hR hS
  exact lv_lookup C.1 C.2.1 hd hp ho ht (kk p l e s m args below meth c H locs ls C hl hR hS)
theorem s_tableOut {dflt lo hi : Int} {offs : Array Int} {len : Nat} {x : Int32} {tgt : Nat} (hd : decode (mC i) pc = .ok (.tableswitch dflt lo hi offs, len)) (hq : x.toInt < lo ∨ hi < x.toInt) (ht : (pc : Int) + dflt = (tgt : Int)) (kk : EX G i tgt L st h o k n Q) : EX G i pc L (.int x :: st) h o k n Q := by
  intro p l e s m args below meth c H locs ls C hl hR hS
  exact lv_tableOut C.1 C.2.1 hd hq ht (kk p l e s m args below meth c H locs ls C hl hR hS)
theorem s_tableIn {dflt lo hi : Int} {offs : Array Int} {len : Nat} {x : Int32} {off : Int} {tgt : Nat} (hd : decode (mC i) pc = .ok (.tableswitch dflt lo hi offs, len)) (h1 : ¬ x.toInt < lo) (h2 : ¬ hi < x.toInt) (ho : offs[(x.toInt - lo).toNat]? = some off) (ht : (pc : Int) + off = (tgt : Int)) (kk : EX G i tgt L st h o k n Q) : EX G i pc L (.int x :: st) h o k n Q := by
  intro p l e s m args below meth c H locs ls C hl hR hS
  exact lv_tableIn C.1 C.2.1 hd h1 h2 ho ht (kk p l e s m args below meth c H locs ls C hl hR hS)
theorem s_ireturn {v : Int32} (hd : decode (mC i) pc = .ok (.ireturn, 1)) (hr : mR i = some .int) (hk : k ≤ (mRc i).1) (hn : n ≤ (mRc i).2) (kk : Q (.inl (some (.int v))) h o) : EX G i pc L [.int v] h o k n Q := by
  intro p l e s m args below meth c H locs ls C hl hR hS
  have hlocks := C.2.2.2.2.2.2.1
  exact x_ret hk hn (W.iret C.1 C.2.1 (C.2.2.1.trans hr) (fun t ht hW => ⟨_, h, o, rfl, kk, by rw [ht]; exact hR, hS.F ht⟩) hS.2.2 hd)
theorem s_lreturn {v : Int64} (hd : decode (mC i) pc = .ok (.lreturn, 1)) (hr : mR i = some .long) (hk : k ≤ (mRc i).1) (hn : n ≤ (mRc i).2) (kk : Q (.inl (some (.long v))) h o) : EX G i pc L [.long v] h o k n Q := by
  intro p l e s m args below meth c H locs ls C hl hR hS
  have hlocks := C.2.2.2.2.2.2.1
  exact x_ret hk hn (W.lret C.1 C.2.1 (C.2.2.1.trans hr) (fun t ht hW => ⟨_, h, o, rfl, kk, by rw [ht]; exact hR, hS.F ht⟩) hS.2.2 hd)
theorem s_freturn {v : UInt32} (hd : decode (mC i) pc = .ok (.freturn, 1)) (hr : mR i = some .float) (hk : k ≤ (mRc i).1) (hn : n ≤ (mRc i).2) (kk : Q (.inl (some (.float v))) h o) : EX G i pc L [.float v] h o k n Q := by
  intro p l e s m args below meth c H locs ls C hl hR hS
  have hlocks := C.2.2.2.2.2.2.1
  exact x_ret hk hn (W.fret C.1 C.2.1 (C.2.2.1.trans hr) (fun t ht hW => ⟨_, h, o, rfl, kk, by rw [ht]; exact hR, hS.F ht⟩) hS.2.2 hd)
theorem s_dreturn {v : UInt64} (hd : decode (mC i) pc = .ok (.dreturn, 1)) (hr : mR i = some .double) (hk : k ≤ (mRc i).1) (hn : n ≤ (mRc i).2) (kk : Q (.inl (some (.double v))) h o) : EX G i pc L [.double v] h o k n Q := by
  intro p l e s m args below meth c H locs ls C hl hR hS
  have hlocks := C.2.2.2.2.2.2.1
  exact x_ret hk hn (W.dret C.1 C.2.1 (C.2.2.1.trans hr) (fun t ht hW => ⟨_, h, o, rfl, kk, by rw [ht]; exact hR, hS.F ht⟩) hS.2.2 hd)
theorem s_zreturn {v : Int32} (hd : decode (mC i) pc = .ok (.ireturn, 1)) (hr : mR i = some .boolean) (hv : v = 0 ∨ v = 1) (hk : k ≤ (mRc i).1) (hn : n ≤ (mRc i).2) (kk : Q (.inl (some (.int v))) h o) : EX G i pc L [.int v] h o k n Q := by
  intro p l e s m args below meth c H locs ls C hl hR hS
  have hlocks := C.2.2.2.2.2.2.1
  exact x_ret hk hn (W.zret C.1 C.2.1 (C.2.2.1.trans hr) (by rcases hv with rfl | rfl <;> decide) (fun t ht hW => ⟨_, h, o, rfl, kk, by rw [ht]; exact hR, hS.F ht⟩) hS.2.2 hd)
theorem s_areturn {v : Value} {cl : String} (hd : decode (mC i) pc = .ok (.areturn, 1)) (hr : mR i = some (.object cl)) (hv : v = .null ∨ ∃ a, v = .ref a) (hk : k ≤ (mRc i).1) (hn : n ≤ (mRc i).2) (kk : Q (.inl (some v)) h o) : EX G i pc L [v] h o k n Q := by
  intro p l e s m args below meth c H locs ls C hl hR hS
  have hlocks := C.2.2.2.2.2.2.1
  exact x_ret hk hn (W.aret C.1 C.2.1 (C.2.2.1.trans hr) (Or.inl ⟨_, rfl⟩) hv (fun t ht hW => ⟨_, h, o, rfl, kk, by rw [ht]; exact hR, hS.F ht⟩) hS.2.2 hd)
theorem s_return (hd : decode (mC i) pc = .ok (.return_, 1)) (hr : mR i = none) (hk : k ≤ (mRc i).1) (hn : n ≤ (mRc i).2) (kk : Q (.inl none) h o) : EX G i pc L [] h o k n Q := by
  intro p l e s m args below meth c H locs ls C hl hR hS
  have hlocks := C.2.2.2.2.2.2.1
  exact x_ret hk hn (W.vret C.1 C.2.1 (C.2.2.1.trans hr) (fun t ht hW => ⟨_, h, o, rfl, kk, by rw [ht]; exact hR, hS.F ht⟩) hS.2.2 hd)
end ST9
