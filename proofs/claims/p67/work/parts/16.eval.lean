/-! 16: what is owed at an instruction, as a function; a program checks the code against it; it is enough -/
def okw (t : FieldType) (v : Value) : Prop := match t, v with
  | .int, .int _ => True
  | .long, .long _ => True
  | .object _, .ref _ => True
  | .object _, .null => True
  | .array _, .ref _ => True
  | .array _, .null => True
  | .boolean, .int x => x = 0 ∨ x = 1
  | .byte, .int x => x = 0 ∨ x = 1
  | _, _ => False
theorem okw_spec {t : FieldType} {v : Value} (h : okw t v) : narrow t v = v ∧ fits t v = true := by
  cases t <;> cases v <;> first | exact h.elim | exact ⟨rfl, rfl⟩ | (rcases h with rfl | rfl <;> decide)
def fmem (q : String × Nat × Nat × Nat) : Bool := FLk.any fun e => e.2.1 == q.2.1 && e.2.2.1 == q.2.2.1 && e.2.2.2 == q.2.2.2 && e.1 == q.1
theorem fmem_in {q : String × Nat × Nat × Nat} (h : fmem q = true) : q ∈ FLk := by
  obtain ⟨e, he, h2⟩ := List.any_eq_true.mp h
  simp only [Bool.and_eq_true, beq_iff_eq] at h2
  have : e = q := Prod.ext h2.2 (Prod.ext h2.1.1.1 (Prod.ext h2.1.1.2 h2.1.2))
  rw [← this]; exact he
def mmem (q : String × Nat × Nat × Nat) : Bool := MLk.any fun e => e.2.1 == q.2.1 && e.2.2.1 == q.2.2.1 && e.2.2.2 == q.2.2.2 && e.1 == q.1
theorem mmem_in {q : String × Nat × Nat × Nat} (h : mmem q = true) : q ∈ MLk := by
  obtain ⟨e, he, h2⟩ := List.any_eq_true.mp h
  simp only [Bool.and_eq_true, beq_iff_eq] at h2
  have : e = q := Prod.ext h2.2 (Prod.ext h2.1.1.1 (Prod.ext h2.1.1.2 h2.1.2))
  rw [← this]; exact he
def thrC (i pc ik kd : Nat) : Bool := (mHH i).isEmpty && decide (6 ≤ (mF i).1) && decide (90 ≤ (mF i).2) && XLk.any fun q => q.1 == (mN i).cls && q.2.1 == ik && q.2.2.2.2.1 == kd && decide (decode (mC i) (pc + 3) = .ok (.dup, 1)) &&
  ((decide (decode (mC i) (pc + 4) = .ok (.ldc q.2.2.1, 2)) && decide (decode (mC i) (pc + 6) = .ok (.invokespecial q.2.2.2.1, 3)) && decide (decode (mC i) (pc + 9) = .ok (.athrow, 1))) ||
   (decide (decode (mC i) (pc + 4) = .ok (.ldc_w q.2.2.1, 3)) && decide (decode (mC i) (pc + 7) = .ok (.invokespecial q.2.2.2.1, 3)) && decide (decode (mC i) (pc + 10) = .ok (.athrow, 1))))
def dfl (ci : Nat) : List Value := match ci with
  | 0 => [.null, .null]
  | 1 => [.null, .null, .null]
  | 2 => [.null, .int 0, .int 0]
  | 3 => [.null, .null, .null, .null, .null, .null, .null, .null, .null, .int 0, .int 0, .int 0, .int 0, .int 0, .int 0, .int 0, .int 0, .int 0, .int 0]
  | 4 => [.null, .int 0]
  | 5 => [.int 0, .int 0, .int 0, .int 0, .int 0]
  | 6 => [.null]
  | 7 => [.null]
  | 8 => [.null, .null, .null, .null, .null, .null, .null, .int 0, .int 0, .int 0, .int 0]
  | 9 => [.null, .int 0, .int 0, .int 0, .int 0, .long 0, .int 0, .int 0, .int 0]
  | 10 => [.null, .null, .null, .int 0, .null, .null, .null, .null, .null, .null, .null, .null, .null, .null, .int 0]
  | 11 => [.int 0, .int 0, .int 0, .int 0, .int 0, .int 0, .int 0, .null, .null, .null, .null]
  | 12 => [.null, .int 0, .int 0, .int 0]
  | 13 => [.null, .int 0, .int 0, .int 0]
  | _ => []
def nFl (ci : Nat) : Nat := match ci with
  | 0 => 2
  | 1 => 3
  | 2 => 3
  | 3 => 19
  | 4 => 2
  | 5 => 5
  | 6 => 1
  | 7 => 1
  | 8 => 11
  | 9 => 9
  | 10 => 15
  | 11 => 11
  | 12 => 4
  | 13 => 4
  | _ => 0
theorem dfl_ok {ci : Nat} (h : ci < 14) : ∃ r : vw_C, vwCl[ci]? = some r ∧ r.2.2 = nFl ci ∧ ∀ j, j < r.2.2 → defaultValue (tyC ci j) = vp_V (dfl ci) j := by
  match ci, h with
  | 0, _ => exact ⟨_, rfl, rfl, fun j hj => by have hj : j < 2 := hj; revert j; decide⟩
  | 1, _ => exact ⟨_, rfl, rfl, fun j hj => by have hj : j < 3 := hj; revert j; decide⟩
  | 2, _ => exact ⟨_, rfl, rfl, fun j hj => by have hj : j < 3 := hj; revert j; decide⟩
  | 3, _ => exact ⟨_, rfl, rfl, fun j hj => by have hj : j < 19 := hj; revert j; decide⟩
  | 4, _ => exact ⟨_, rfl, rfl, fun j hj => by have hj : j < 2 := hj; revert j; decide⟩
  | 5, _ => exact ⟨_, rfl, rfl, fun j hj => by have hj : j < 5 := hj; revert j; decide⟩
  | 6, _ => exact ⟨_, rfl, rfl, fun j hj => by have hj : j < 1 := hj; revert j; decide⟩
  | 7, _ => exact ⟨_, rfl, rfl, fun j hj => by have hj : j < 1 := hj; revert j; decide⟩
  | 8, _ => exact ⟨_, rfl, rfl, fun j hj => by have hj : j < 11 := hj; revert j; decide⟩
  | 9, _ => exact ⟨_, rfl, rfl, fun j hj => by have hj : j < 9 := hj; revert j; decide⟩
  | 10, _ => exact ⟨_, rfl, rfl, fun j hj => by have hj : j < 15 := hj; revert j; decide⟩
  | 11, _ => exact ⟨_, rfl, rfl, fun j hj => by have hj : j < 11 := hj; revert j; decide⟩
  | 12, _ => exact ⟨_, rfl, rfl, fun j hj => by have hj : j < 4 := hj; revert j; decide⟩
  | 13, _ => exact ⟨_, rfl, rfl, fun j hj => by have hj : j < 4 := hj; revert j; decide⟩
/-- behind a call, with what follows as a function -/
def contX (G : GG) (i pc j : Nat) (L : List (Nat × Value)) (k n : Nat) (Q : XQ) (kk : List Value → HM → Option Nat → Nat → Nat → Prop) : XQ := fun u h' o' => match u with
  | .inl v => kk v.toList h' o' (k + (mRc j).1) (n + (mRc j).2)
  | .inr E => (match mHH i with
    | [] => (k + (mMc j).1 ≤ (mMc i).1 ∧ n + (mMc j).2 ≤ (mMc i).2) ∧ Q (.inr E) h' o'
    | _ :: _ => EXT G i pc L E h' o' (k + (mMc j).1) (n + (mMc j).2) Q)
theorem contX_inr {G : GG} {i pc j : Nat} {L : List (Nat × Value)} {k n : Nat} {Q : XQ} {kk : List Value → HM → Option Nat → Nat → Nat → Prop} {E : String} {h' : HM} {o' : Option Nat} (hq : contX G i pc j L k n Q kk (.inr E) h' o') : EXT G i pc L E h' o' (k + (mMc j).1) (n + (mMc j).2) Q := by
  unfold contX at hq
  cases hm : mHH i with
  | nil => rw [hm] at hq; exact EXT.out hm hq.1.1 hq.1.2 hq.2
  | cons a t => rw [hm] at hq; exact hq
/-- rules: for some methods, what is enough for a run of it -/
abbrev WF : Type := Nat → Option (List Value → HM → Option Nat → XQ → Prop)
def RX (G : GG) (W : WF) (j : Nat) (as : List Value) (h : HM) (o : Option Nat) (Q : XQ) : Prop := match W j with
  | some f => f as h o Q
  | none => Runs G j as h o Q
def WOK (G : GG) (W : WF) : Prop := ∀ j f, W j = some f → ∀ as h o Q, f as h o Q → Runs G j as h o Q
theorem RX_ok {G : GG} {W : WF} {j : Nat} {as : List Value} {h : HM} {o : Option Nat} {Q : XQ} (hW : WOK G W) (hx : RX G W j as h o Q) : Runs G j as h o Q := by
  unfold RX at hx
  cases hf : W j with
  | none => rw [hf] at hx; exact hx
  | some f => rw [hf] at hx; exact hW j f hf as h o Q hx
def W0 : WF := fun _ => none
theorem W0_ok {G : GG} : WOK G W0 := fun j f h => by cases h
def wcons (j : Nat) (f : List Value → HM → Option Nat → XQ → Prop) (W : WF) : WF := fun i => if i = j then some f else W i
theorem wcons_ok {G : GG} {j : Nat} {f : List Value → HM → Option Nat → XQ → Prop} {W : WF} (hf : ∀ as h o Q, f as h o Q → Runs G j as h o Q) (hW : WOK G W) : WOK G (wcons j f W) := by
  intro i g hg as h o Q hq
  unfold wcons at hg
  split at hg
  · rename_i e
    cases hg
    rw [e]
    exact hf as h o Q hq
  · exact hW i g hg as h o Q hq
theorem cat_le {st : List Value} : (st.map fun v => v.category).sum ≤ 2 * st.length := by
  induction st with
  | nil => simp
  | cons v t ih =>
    have := lv_cat v
    simp only [List.map_cons, List.sum_cons, List.length_cons]
    omega
theorem cat4 {st : List Value} (h : st.length ≤ 4) : (st.map fun v => v.category).sum ≤ 8 := by
  have key : ∀ st : List Value, (st.map fun v => v.category).sum ≤ 2 * st.length := by
    intro st
    induction st with
    | nil => simp
    | cons v t ih =>
      have := lv_cat v
      simp only [List.map_cons, List.sum_cons, List.length_cons]
      omega
  have := key st
  omega
abbrev OPX : Type := Instr × Nat × Nat × Nat × Nat × Nat
def stp (W : WF) (G : GG) (i : Nat) (Q : XQ) (ins : Instr) (a b c d pc : Nat) (L : List (Nat × Value)) (st : List Value) (h : HM) (o : Option Nat) (k n : Nat) (kk : List (Nat × Value) → List Value → HM → Option Nat → Nat → Nat → Prop) (jj : Nat → List (Nat × Value) → List Value → HM → Option Nat → Nat → Nat → Prop) : Prop := match ins with
  | .iconst z => kk L (.int (Int32.ofInt z) :: st) h o k n
  | .bipush z => kk L (.int ((Int8.ofInt z).toInt32) :: st) h o k n
  | .sipush z => kk L (.int ((Int16.ofInt z).toInt32) :: st) h o k n
  | .lconst z => kk L (.long (Int64.ofNat (z : Nat)) :: st) h o k n
  | .fconst z => kk L (.float (if z = 0 then FP.fconst0 else FP.fconst1) :: st) h o k n
  | .dconst z => kk L (.double FP.dconst0 :: st) h o k n
  | .aconst_null => kk L (.null :: st) h o k n
  | .iadd => (match st with | .int y :: .int x :: st => kk L (.int (x + y) :: st) h o k n | _ => False)
  | .isub => (match st with | .int y :: .int x :: st => kk L (.int (x - y) :: st) h o k n | _ => False)
  | .imul => (match st with | .int y :: .int x :: st => kk L (.int (x * y) :: st) h o k n | _ => False)
  | .iand => (match st with | .int y :: .int x :: st => kk L (.int (x &&& y) :: st) h o k n | _ => False)
  | .ior => (match st with | .int y :: .int x :: st => kk L (.int (x ||| y) :: st) h o k n | _ => False)
  | .ixor => (match st with | .int y :: .int x :: st => kk L (.int (x ^^^ y) :: st) h o k n | _ => False)
  | .ishl => (match st with | .int y :: .int x :: st => kk L (.int (x <<< (y &&& 31)) :: st) h o k n | _ => False)
  | .ishr => (match st with | .int y :: .int x :: st => kk L (.int (x >>> (y &&& 31)) :: st) h o k n | _ => False)
  | .iushr => (match st with | .int y :: .int x :: st => kk L (.int ((x.toUInt32 >>> (y.toUInt32 &&& Int32.toUInt32 31)).toInt32) :: st) h o k n | _ => False)
  | .ineg => (match st with | .int x :: st => kk L (.int (-x) :: st) h o k n | _ => False)
  | .i2c => (match st with | .int x :: st => kk L (.int (x.toUInt32 % 65536).toInt32 :: st) h o k n | _ => False)
  | .i2b => (match st with | .int x :: st => kk L (.int x.toInt8.toInt32 :: st) h o k n | _ => False)
  | .fcmp z => (match st with | .float y :: .float x :: st => kk L (.int (Op.cmpValue (FP.fcmp x y) z) :: st) h o k n | _ => False)
  | .dup_x1 => (match st with | v :: w :: st => (v.category = 1 ∧ w.category = 1) ∧ kk L (v :: w :: v :: st) h o k n | _ => False)
  | .idiv => (match st with | .int y :: .int x :: st => ¬ y = 0 ∧ kk L (.int (x / y) :: st) h o k n | _ => False)
  | .irem => (match st with | .int y :: .int x :: st => ¬ y = 0 ∧ kk L (.int (x - x / y * y) :: st) h o k n | _ => False)
  | .land => (match st with | .long y :: .long x :: st => kk L (.long (x &&& y) :: st) h o k n | _ => False)
  | .lor => (match st with | .long y :: .long x :: st => kk L (.long (x ||| y) :: st) h o k n | _ => False)
  | .lshl => (match st with | .int y :: .long x :: st => kk L (.long (x <<< (y.toInt64 &&& 63)) :: st) h o k n | _ => False)
  | .lshr => (match st with | .int y :: .long x :: st => kk L (.long (x >>> (y.toInt64 &&& 63)) :: st) h o k n | _ => False)
  | .lushr => (match st with | .int y :: .long x :: st => kk L (.long ((x.toUInt64 >>> (y.toInt64.toUInt64 &&& Int64.toUInt64 63)).toInt64) :: st) h o k n | _ => False)
  | .lcmp => (match st with | .long y :: .long x :: st => kk L (.int (lg_cmp x y) :: st) h o k n | _ => False)
  | .fdiv => (match st with | .float y :: .float x :: st => vf_n32 (FP.fdiv x y) ∧ kk L (.float (FP.fdiv x y) :: st) h o k n | _ => False)
  | .ddiv => (match st with | .double y :: .double x :: st => vf_n64 (FP.ddiv x y) ∧ kk L (.double (FP.ddiv x y) :: st) h o k n | _ => False)
  | .dcmp z => (match st with | .double y :: .double x :: st => kk L (.int (Op.cmpValue (FP.dcmp x y) z) :: st) h o k n | _ => False)
  | .i2l => (match st with | .int x :: st => kk L (.long x.toInt64 :: st) h o k n | _ => False)
  | .l2i => (match st with | .long x :: st => kk L (.int x.toInt32 :: st) h o k n | _ => False)
  | .i2f => (match st with | .int x :: st => kk L (.float (FP.i2f x) :: st) h o k n | _ => False)
  | .i2d => (match st with | .int x :: st => kk L (.double (FP.i2d x) :: st) h o k n | _ => False)
  | .f2d => (match st with | .float x :: st => vf_n64 (FP.f2d x) ∧ kk L (.double (FP.f2d x) :: st) h o k n | _ => False)
  | .dup => (match st with | v :: st => v.category = 1 ∧ kk L (v :: v :: st) h o k n | _ => False)
  | .pop => (match st with | v :: st => v.category = 1 ∧ kk L (st) h o k n | _ => False)
  | .dup2 => (match st with | v :: w :: st => (v.category = 1 ∧ w.category = 1) ∧ kk L (v :: w :: v :: w :: st) h o k n | _ => False)
  | .iload_n z => (match lkL L (z : Nat) with | some (.int x) => kk L (.int x :: st) h o k n | _ => False)
  | .iload z => (match lkL L z with | some (.int x) => kk L (.int x :: st) h o k n | _ => False)
  | .lload_n z => (match lkL L (z : Nat) with | some (.long x) => kk L (.long x :: st) h o k n | _ => False)
  | .lload z => (match lkL L z with | some (.long x) => kk L (.long x :: st) h o k n | _ => False)
  | .aload_n z => (match lkL L (z : Nat) with | some (.ref x) => kk L (.ref x :: st) h o k n | some .null => kk L (.null :: st) h o k n | _ => False)
  | .aload z => (match lkL L z with | some (.ref x) => kk L (.ref x :: st) h o k n | _ => False)
  | .dload_n z => (match lkL L (z : Nat) with | some (.double x) => kk L (.double x :: st) h o k n | _ => False)
  | .dload z => (match lkL L z with | some (.double x) => kk L (.double x :: st) h o k n | _ => False)
  | .istore_n z => (match st with | .int x :: st => kk (stL1 L (z : Nat) (.int x)) (st) h o k n | _ => False)
  | .istore z => (match st with | .int x :: st => kk (stL1 L z (.int x)) (st) h o k n | _ => False)
  | .astore_n z => (match st with | .ref x :: st => kk (stL1 L (z : Nat) (.ref x)) (st) h o k n | _ => False)
  | .astore z => (match st with | .ref x :: st => kk (stL1 L z (.ref x)) (st) h o k n | _ => False)
  | .lstore_n z => (match st with | .long x :: st => kk (stL2 L (z : Nat) (.long x)) (st) h o k n | _ => False)
  | .lstore z => (match st with | .long x :: st => kk (stL2 L z (.long x)) (st) h o k n | _ => False)
  | .dstore_n z => (match st with | .double x :: st => kk (stL2 L (z : Nat) (.double x)) (st) h o k n | _ => False)
  | .dstore z => (match st with | .double x :: st => kk (stL2 L z (.double x)) (st) h o k n | _ => False)
  | .iinc z dl => (match lkL L z with | some (.int x) => kk (stL1 L z (.int (x + Int32.ofInt dl))) (st) h o k n | _ => False)
  | .ifCond cd off => (match st with | .int x :: st => (match cd with | .eq => (x = 0 → jj a L st h o k n) ∧ (¬ x = 0 → kk L (st) h o k n) | .ne => (¬ x = 0 → jj a L st h o k n) ∧ (x = 0 → kk L (st) h o k n) | .lt => (x < 0 → jj a L st h o k n) ∧ (¬ x < 0 → kk L (st) h o k n) | .ge => (0 ≤ x → jj a L st h o k n) ∧ (¬ 0 ≤ x → kk L (st) h o k n) | .gt => (0 < x → jj a L st h o k n) ∧ (¬ 0 < x → kk L (st) h o k n) | .le => (x ≤ 0 → jj a L st h o k n) ∧ (¬ x ≤ 0 → kk L (st) h o k n)) | _ => False)
  | .if_icmp cd off => (match st with | .int y :: .int x :: st => (match cd with | .eq => (x = y → jj a L st h o k n) ∧ (¬ x = y → kk L (st) h o k n) | .ne => (¬ x = y → jj a L st h o k n) ∧ (x = y → kk L (st) h o k n) | .lt => (x < y → jj a L st h o k n) ∧ (¬ x < y → kk L (st) h o k n) | .ge => (y ≤ x → jj a L st h o k n) ∧ (¬ y ≤ x → kk L (st) h o k n) | .gt => (y < x → jj a L st h o k n) ∧ (¬ y < x → kk L (st) h o k n) | .le => (x ≤ y → jj a L st h o k n) ∧ (¬ x ≤ y → kk L (st) h o k n)) | _ => False)
  | .goto off => jj a L st h o k n
  | .ifnull off => (match st with | .ref x :: st => kk L (st) h o k n | .null :: st => jj a L st h o k n | _ => False)
  | .ifnonnull off => (match st with | .ref x :: st => jj a L st h o k n | _ => False)
  | .ireturn => (match st with | [.int v] => (k ≤ (mRc i).1 ∧ n ≤ (mRc i).2) ∧ (mR i = some .boolean → v = 0 ∨ v = 1) ∧ ((mR i = some .char → narrow .char (.int v) = .int v) ∧ (mR i = some .byte → narrow .byte (.int v) = .int v)) ∧ Q (.inl (some (.int v))) h o | _ => False)
  | .lreturn => (match st with | [.long v] => (k ≤ (mRc i).1 ∧ n ≤ (mRc i).2) ∧ Q (.inl (some (.long v))) h o | _ => False)
  | .freturn => (match st with | [.float v] => (k ≤ (mRc i).1 ∧ n ≤ (mRc i).2) ∧ Q (.inl (some (.float v))) h o | _ => False)
  | .dreturn => (match st with | [.double v] => (k ≤ (mRc i).1 ∧ n ≤ (mRc i).2) ∧ Q (.inl (some (.double v))) h o | _ => False)
  | .areturn => (match st with | [v] => (v = .null ∨ ∃ q, v = .ref q) ∧ (k ≤ (mRc i).1 ∧ n ≤ (mRc i).2) ∧ Q (.inl (some v)) h o | _ => False)
  | .return_ => (match st with | [] => (k ≤ (mRc i).1 ∧ n ≤ (mRc i).2) ∧ Q (.inl none) h o | _ => False)
  | .getfield idx => (match st with | .ref q :: st => (match h q with | some (.inr (ci, fs)) => ci = a ∧ (match fs[b]? with | some v => kk L (v :: st) h o k n | none => False) | _ => False) | _ => False)
  | .putfield idx => (match st with | v :: .ref q :: st => (match h q with | some (.inr (ci, fs)) => ci = a ∧ b < fs.length ∧ okw (tyC a b) v ∧ kk L (st) (hup h q (.inr (ci, fs.set b v))) o k n | _ => False) | _ => False)
  | .iaload => (match st with | .int j :: .ref q :: st => (match h q with | some (.inl (kd, len, .inl f)) => kd = 0 ∧ vp_in j len ∧ kk L (.int (f j.toNatClampNeg) :: st) h o k n | _ => False) | _ => False)
  | .laload => (match st with | .int j :: .ref q :: st => (match h q with | some (.inl (kd, len, .inr (.inl f))) => kd = 1 ∧ vp_in j len ∧ kk L (.long (f j.toNatClampNeg) :: st) h o k n | _ => False) | _ => False)
  | .aaload => (match st with | .int j :: .ref q :: st => (match h q with | some (.inl (kd, len, .inr (.inr (.inr (.inr f))))) => (kd = 2 ∨ kd = 4 ∨ kd = 5) ∧ vp_in j len ∧ kk L (va_rf (f j.toNatClampNeg) :: st) h o k n | _ => False) | _ => False)
  | .iastore => (match st with | .int x :: .int j :: .ref q :: st => (match h q with | some (.inl (kd, len, .inl f)) => kd = 0 ∧ vp_in j len ∧ kk L (st) (hup h q (.inl (0, len, .inl (upd f j.toNatClampNeg x)))) o k n | _ => False) | _ => False)
  | .baload => (match st with | .int j :: .ref q :: st => (if a = 0 then (match h q with | some (.inl (kd, len, .inl f)) => kd = 3 ∧ vp_in j len ∧ kk L (.int (f j.toNatClampNeg) :: st) h o k n | _ => False) else (q = gS G a ∧ vp_in j 100 ∧ kk L (.int (dgV (a - 1003) j.toNatClampNeg) :: st) h o k n)) | _ => False)
  | .bastore => (match st with | .int x :: .int j :: .ref q :: st => (match h q with | some (.inl (kd, len, .inl f)) => kd = 3 ∧ vp_in j len ∧ kk L (st) (hup h q (.inl (3, len, .inl (upd f j.toNatClampNeg (vp_nar .byte x))))) o k n | _ => False) | _ => False)
  | .getstatic idx => (if b = 0 then kk L (.ref (gS G a) :: st) h o k n else if b = 1 then kk L (.int 1 :: st) h o k n else ∀ v : Value, (v = .null ∨ ∃ t, v = .ref t) → kk L (v :: st) h o k n)
  | .lastore => (match st with | .long x :: .int j :: .ref q :: st => (match h q with | some (.inl (kd, len, .inr (.inl f))) => kd = 1 ∧ vp_in j len ∧ kk L (st) (hup h q (.inl (1, len, .inr (.inl (vp_updL f j.toNatClampNeg x))))) o k n | _ => False) | _ => False)
  | .arraylength => (match st with | .ref q :: st => (match h q with | some (.inl (kd, x)) => kd < 6 ∧ kk L (.int (Int32.ofNat x.1) :: st) h o k n | _ => False) | _ => False)
  | .invokevirtual idx => (match st.drop c with | .ref q :: rest => (match h q with | some (.inr (ci, _)) => ci = d ∧ rest.length ≤ 4 ∧ roomOK i a k n = true ∧ RX G W a (.ref q :: (st.take c).reverse) h o (contX G i pc a L k n Q (fun st' h' o' k' n' => kk L (st' ++ rest) h' o' k' n')) | _ => False) | _ => False)
  | .invokestatic idx => (if a = 100001 then (match st with | .int w :: .int dp :: .ref q2 :: .int sp :: .ref q1 :: st => (match h q1, h q2 with | some (.inl (kd, n0, .inl f)), some (.inl (kd2, n1, .inl g)) => (kd = b ∧ kd2 = b ∧ st.length ≤ 4) ∧ (¬ sp < 0 ∧ ¬ dp < 0 ∧ ¬ w < 0 ∧ sp.toNatClampNeg + w.toNatClampNeg ≤ n0 ∧ dp.toNatClampNeg + w.toNatClampNeg ≤ n1) ∧ (b = 3 → ∀ j, j < w.toNatClampNeg → fits .byte (.int (f (sp.toNatClampNeg + j))) = true) ∧ kk L (st) (hup h q2 (.inl (b, n1, .inl (va_cpy f g sp.toNatClampNeg dp.toNatClampNeg w.toNatClampNeg)))) o k n | _, _ => False) | _ => False) else if a = 166 ∨ a = 167 then (match st with | .int y :: .int x :: st => st.length ≤ 4 ∧ (k ≤ (mMc i).1 ∧ n ≤ (mMc i).2) ∧ kk L (.int (if a = 166 then (if x < y then y else x) else (if y < x then y else x)) :: st) h o k n | _ => False) else (c ≤ st.length ∧ (st.drop c).length ≤ 4 ∧ roomOK i a k n = true ∧ RX G W a (st.take c).reverse h o (contX G i pc a L k n Q (fun st' h' o' k' n' => kk L (st' ++ st.drop c) h' o' k' n'))))
  | .invokespecial idx => (if a = 100000 then (match st with | .ref _ :: st => (st.length ≤ 4 ∧ 2 * st.length + 12 ≤ (mF i).2) ∧ kk L (st) h o k n | _ => False) else if b = 3 then (match st.drop c with | .ref q :: rest => (match h q with | some (.inr (ci, _)) => ci < 14 ∧ rest.length ≤ 4 ∧ roomOK i a k n = true ∧ RX G W a (.ref q :: (st.take c).reverse) h o (contX G i pc a L k n Q (fun st' h' o' k' n' => kk L (st' ++ rest) h' o' k' n')) | _ => False) | _ => False) else (match st.drop c with | .ref q :: rest => rest.length ≤ 4 ∧ roomOK i a k n = true ∧ RX G W a (.ref q :: (st.take c).reverse) h o (contX G i pc a L k n Q (fun st' h' o' k' n' => kk L (st' ++ rest) h' o' k' n')) | _ => False))
  | .invokeinterface idx cnt => (match st.drop c with | .ref q :: rest => (match h q with | some (.inr (ci, _)) => (ci = 12 ∨ ci = 13) ∧ rest.length ≤ 4 ∧ roomOK i (if ci = 12 then a else b) k n = true ∧ RX G W (if ci = 12 then a else b) (.ref q :: (st.take c).reverse) h o (contX G i pc (if ci = 12 then a else b) L k n Q (fun st' h' o' k' n' => kk L (st' ++ rest) h' o' k' n')) | _ => False) | _ => False)
  | .ldc idx => (if b = 0 then kk L (.int (Int32.ofNat a) :: st) h o k n else kk L (.ref (gS G a) :: st) h o k n)
  | .ldc_w idx => kk L (.int (Int32.ofNat a) :: st) h o k n
  | .new idx => (if b = 0 then (match o with | some z => (k + 1 ≤ (mMc i).1 ∧ n + nFl a ≤ (mMc i).2) ∧ kk L (.ref z :: st) (hup h z (.inr (a, dfl a))) (some (z + 1)) (k + 1) (n + nFl a) | none => False) else (match st with | [] => (k + 1 ≤ (mMc i).1 ∧ n + 6 ≤ (mMc i).2) ∧ Q (.inr (exN a)) h none | _ => False))
  | .newarray aty => (match st, o with | .int v :: st, some z => (¬ v < 0 ∧ (c = 0 ∨ v.toNatClampNeg = c) ∧ (if c = 0 then v.toNatClampNeg else c) ≤ 5000) ∧ (k + 1 ≤ (mMc i).1 ∧ n + (if c = 0 then v.toNatClampNeg else c) ≤ (mMc i).2) ∧ (match aty with | .int => kk L (.ref z :: st) (hup h z (.inl (0, (if c = 0 then v.toNatClampNeg else c), .inl (fun _ => 0)))) (some (z + 1)) (k + 1) (n + (if c = 0 then v.toNatClampNeg else c)) | .long => kk L (.ref z :: st) (hup h z (.inl (1, (if c = 0 then v.toNatClampNeg else c), .inr (.inl (fun _ => 0))))) (some (z + 1)) (k + 1) (n + (if c = 0 then v.toNatClampNeg else c)) | .byte => kk L (.ref z :: st) (hup h z (.inl (3, (if c = 0 then v.toNatClampNeg else c), .inl (fun _ => 0)))) (some (z + 1)) (k + 1) (n + (if c = 0 then v.toNatClampNeg else c)) | _ => False) | _, _ => False)
  | _ => EX G i pc L st h o k n Q
def chkO (i pc : Nat) (q : OPX) : Bool := match q with
  | (ins, len, a, b, c, d) => decide (decode (mC i) pc = .ok (ins, len)) && (match ins with
    | .iconst z => decide (len = 1)
    | .bipush z => decide (len = 2)
    | .sipush z => decide (len = 3)
    | .lconst z => decide (len = 1)
    | .fconst z => decide (len = 1) && (decide (z = 0) || decide (z = 1))
    | .dconst z => decide (len = 1) && (decide (z = 0))
    | .aconst_null => decide (len = 1)
    | .iadd => decide (len = 1)
    | .isub => decide (len = 1)
    | .imul => decide (len = 1)
    | .iand => decide (len = 1)
    | .ior => decide (len = 1)
    | .ixor => decide (len = 1)
    | .ishl => decide (len = 1)
    | .ishr => decide (len = 1)
    | .iushr => decide (len = 1)
    | .ineg => decide (len = 1)
    | .i2c => decide (len = 1)
    | .i2b => decide (len = 1)
    | .fcmp z => decide (len = 1)
    | .dup_x1 => decide (len = 1)
    | .idiv => decide (len = 1)
    | .irem => decide (len = 1)
    | .land => decide (len = 1)
    | .lor => decide (len = 1)
    | .lshl => decide (len = 1)
    | .lshr => decide (len = 1)
    | .lushr => decide (len = 1)
    | .lcmp => decide (len = 1)
    | .fdiv => decide (len = 1)
    | .ddiv => decide (len = 1)
    | .dcmp z => decide (len = 1)
    | .i2l => decide (len = 1)
    | .l2i => decide (len = 1)
    | .i2f => decide (len = 1)
    | .i2d => decide (len = 1)
    | .f2d => decide (len = 1)
    | .dup => decide (len = 1)
    | .pop => decide (len = 1)
    | .dup2 => decide (len = 1)
    | .iload_n z => decide (len = 1)
    | .iload z => decide (len = 2)
    | .lload_n z => decide (len = 1)
    | .lload z => decide (len = 2)
    | .aload_n z => decide (len = 1)
    | .aload z => decide (len = 2)
    | .dload_n z => decide (len = 1)
    | .dload z => decide (len = 2)
    | .istore_n z => decide (len = 1) && (decide ((z : Nat) < mL i))
    | .istore z => decide (len = 2) && (decide ((z : Nat) < mL i))
    | .astore_n z => decide (len = 1) && (decide ((z : Nat) < mL i))
    | .astore z => decide (len = 2) && (decide ((z : Nat) < mL i))
    | .lstore_n z => decide (len = 1) && (decide ((z : Nat) + 1 < mL i))
    | .lstore z => decide (len = 2) && (decide ((z : Nat) + 1 < mL i))
    | .dstore_n z => decide (len = 1) && (decide ((z : Nat) + 1 < mL i))
    | .dstore z => decide (len = 2) && (decide ((z : Nat) + 1 < mL i))
    | .iinc z dl => decide (len = 3) && (decide (z < mL i))
    | .ifCond cd off => decide (len = 3) && (decide ((pc : Int) + off = (a : Int)))
    | .if_icmp cd off => decide (len = 3) && (decide ((pc : Int) + off = (a : Int)))
    | .goto off => decide (len = 3) && (decide ((pc : Int) + off = (a : Int)))
    | .ifnull off => decide (len = 3) && (decide ((pc : Int) + off = (a : Int)))
    | .ifnonnull off => decide (len = 3) && (decide ((pc : Int) + off = (a : Int)))
    | .ireturn => decide (len = 1) && ((decide (mR i = some .int) || decide (mR i = some .boolean)) || (decide (mR i = some .char) || decide (mR i = some .byte)))
    | .lreturn => decide (len = 1) && (decide (mR i = some .long))
    | .freturn => decide (len = 1) && (decide (mR i = some .float))
    | .dreturn => decide (len = 1) && (decide (mR i = some .double))
    | .areturn => decide (len = 1) && (refRet (mR i))
    | .return_ => decide (len = 1) && (decide (mR i = none))
    | .getfield idx => decide (len = 3) && (fmem ((mN i).cls, idx, a, b))
    | .putfield idx => decide (len = 3) && (fmem ((mN i).cls, idx, a, b) && (!(fnl a b) || (decide ((mN i).name = "<init>") && decide (own0 a b = (mN i).cls))))
    | .iaload => decide (len = 1)
    | .laload => decide (len = 1)
    | .aaload => decide (len = 1)
    | .iastore => decide (len = 1)
    | .baload => decide (len = 1) && (if a = 0 then true else decide (a = 1003 ∨ a = 1004))
    | .bastore => decide (len = 1)
    | .getstatic idx => decide (len = 3) && ((GSk.any fun z => z.1 == (mN i).cls && z.2.1 == idx && z.2.2.1 == a && z.2.2.2 == b) && (if b = 0 then decide (1000 ≤ a ∧ a < 1005) else decide (b = 1) || decide (b = 2)))
    | .lastore => decide (len = 1)
    | .arraylength => decide (len = 1)
    | .invokevirtual idx => decide (len = 3) && (if b = 2 then (UPk.any fun z => z.1 == (mN i).cls && z.2.1 == idx && z.2.2.2.1 == a && z.2.2.2.2 == d) && mOwn a && (mHH a).isEmpty && decide (c = mNp a) && decide (d < 14) else mmem ((mN i).cls, idx, a, 0) && decide (b = 0) && mOwn a && decide (mK a = 0) && (mHH a).isEmpty && decide (c = mNp a) && decide ((vwCl[d]?).map (fun r => r.1) = some (mN a).cls))
    | .invokestatic idx => decide (len = 3) && (if a = 100001 then decide (((mN i).cls, idx) ∈ ACk) && decide (1 ≤ (mF i).1) && decide (26 ≤ (mF i).2) && (decide (b = 0) || decide (b = 3)) else if a = 166 ∨ a = 167 then decide (((mN i).cls, idx) ∈ (if a = 166 then MMmax else MMmin)) && decide (1 ≤ (mF i).1) && decide (21 ≤ (mF i).2) else mmem ((mN i).cls, idx, a, b) && mOwn a && decide (mK a = 1) && (mHH a).isEmpty && decide (c = mNp a))
    | .invokespecial idx => decide (len = 3) && (if a = 100000 then decide (((mN i).cls, idx) ∈ OIk) && decide (1 ≤ (mF i).1) else if b = 3 then (SUk.any fun z => z.1 == (mN i).cls && z.2.1 == idx && z.2.2 == a) && mOwn a && (mHH a).isEmpty && decide (c = mNp a) else mmem ((mN i).cls, idx, a, b) && mOwn a && decide (mK a = 2) && (mHH a).isEmpty && decide (c = mNp a))
    | .invokeinterface idx cnt => decide (len = 5) && ((IFk.any fun z => z.1 == (mN i).cls && z.2.1 == idx && z.2.2 == c) && decide (c < 2) && decide (a = ifY c 0) && decide (b = ifY c 1))
    | .ldc idx => decide (len = 2) && (if b = 0 then decide (((mN i).cls, idx, Int32.ofNat a) ∈ LCk) else (STRS.any fun z => z.1 == (mN i).cls && z.2.1 == idx && z.2.2.2 == a))
    | .ldc_w idx => decide (len = 3) && (decide (((mN i).cls, idx, Int32.ofNat a) ∈ LCk))
    | .new idx => decide (len = 3) && (if b = 0 then decide (((mN i).cls, idx, a) ∈ NLk) && decide (a < 14) else thrC i pc idx a)
    | .newarray aty => decide (len = 2) && ((decide (aty = .int) || decide (aty = .byte)) || decide (aty = .long))
    | _ => true)
