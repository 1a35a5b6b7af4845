/-! 07: contracts with two budgets (behind a return, behind a throw); what holds at a method's start; calls.
x_back follows vx_back of the kit's exceptions text (a starting text), with a method by its number and two budgets. -/
def STRS : List (String × Nat × String × Nat) := [("GhostRooms$Description", 33, "house", 14), ("GhostRooms$Tokens", 84, "the text has an error", 39), ("GhostRooms$Description", 56, "room", 15), ("GhostRooms$Description", 99, "thermo", 19), ("GhostRooms$Description", 111, "micro", 20), ("GhostRooms$Description", 61, "door", 16), ("GhostRooms$Description", 130, "closed", 21), ("GhostRooms$Description", 66, "ghost", 17), ("GhostRooms$Description", 71, "nights", 18), ("GhostRooms$Settings", 21, "mode", 33), ("GhostRooms$Settings", 29, "chill", 34), ("GhostRooms$Settings", 31, "hearing", 35), ("GhostRooms$Settings", 33, "price", 36), ("GhostRooms$Settings", 35, "random", 37), ("GhostRooms$Settings", 37, "coins", 38), ("GhostRooms$Actions", 139, "no room of the set is possible", 10), ("GhostRooms$Actions", 141, "every possible room is in the set", 11), ("GhostRooms$Actions", 143, "there are not enough coins", 12), ("GhostRoomsLaw$World", 35, ";", 22), ("GhostRoomsLaw$World", 37, " ;\n", 25), ("GhostRoomsLaw$World", 39, "house", 14), ("GhostRoomsLaw$World", 47, "mode ", 26), ("GhostRoomsLaw$World", 49, "chill ", 27), ("GhostRoomsLaw$World", 51, "hearing ", 28), ("GhostRoomsLaw$World", 53, "price ", 29), ("GhostRoomsLaw$World", 55, "random ", 30), ("GhostRoomsLaw$World", 57, "coins ", 31), ("GhostRoomsLaw$World", 66, "room r", 32), ("GhostRoomsLaw$World", 71, " ", 42), ("GhostRoomsLaw$World", 73, " thermo", 43), ("GhostRoomsLaw$World", 75, "", 45), ("GhostRoomsLaw$World", 77, " micro", 46), ("GhostRoomsLaw$World", 87, "door r", 47), ("GhostRoomsLaw$World", 89, " r", 48), ("GhostRoomsLaw$World", 91, " closed", 49), ("GhostRoomsLaw$World", 96, "ghost r", 50), ("GhostRooms", 104, "the input buffer holds 600 bytes", 40), ("GhostRooms", 114, "length is 0 to the current length", 41), ("GhostRooms$House", 95, "there is no such room", 23), ("GhostRooms$House", 100, "there is no such door", 24), ("GhostRooms", 348, "the number is out of range", 44), ("GhostRooms$Actions", 158, "at most 999 coins", 13), ("GhostRoomsLaw", 201, "r", 51), ("java/util/Arrays", 337, " > ", 52), ("GhostRooms$Actions", 25, "a name is 1 to 8 letters", 0), ("GhostRooms$Actions", 36, "a room has this name", 1), ("GhostRooms$Actions", 42, "there are 12 rooms", 2), ("GhostRooms$Actions", 118, "there is no room", 8), ("GhostRooms$Actions", 123, "the nights end with night 9999", 9), ("GhostRooms$Actions", 54, "a door connects two rooms", 3), ("GhostRooms$Actions", 61, "a door connects both rooms already", 4), ("GhostRooms$Actions", 66, "there are 24 doors", 5), ("GhostRooms$Actions", 98, "it already is in that state", 6), ("GhostRooms$Actions", 112, "the room is not that cold", 7)]
def TEXTS : List (List Int32) := [[97, 32, 110, 97, 109, 101, 32, 105, 115, 32, 49, 32, 116, 111, 32, 56, 32, 108, 101, 116, 116, 101, 114, 115], [97, 32, 114, 111, 111, 109, 32, 104, 97, 115, 32, 116, 104, 105, 115, 32, 110, 97, 109, 101], [116, 104, 101, 114, 101, 32, 97, 114, 101, 32, 49, 50, 32, 114, 111, 111, 109, 115], [97, 32, 100, 111, 111, 114, 32, 99, 111, 110, 110, 101, 99, 116, 115, 32, 116, 119, 111, 32, 114, 111, 111, 109, 115], [97, 32, 100, 111, 111, 114, 32, 99, 111, 110, 110, 101, 99, 116, 115, 32, 98, 111, 116, 104, 32, 114, 111, 111, 109, 115, 32, 97, 108, 114, 101, 97, 100, 121], [116, 104, 101, 114, 101, 32, 97, 114, 101, 32, 50, 52, 32, 100, 111, 111, 114, 115], [105, 116, 32, 97, 108, 114, 101, 97, 100, 121, 32, 105, 115, 32, 105, 110, 32, 116, 104, 97, 116, 32, 115, 116, 97, 116, 101], [116, 104, 101, 32, 114, 111, 111, 109, 32, 105, 115, 32, 110, 111, 116, 32, 116, 104, 97, 116, 32, 99, 111, 108, 100], [116, 104, 101, 114, 101, 32, 105, 115, 32, 110, 111, 32, 114, 111, 111, 109], [116, 104, 101, 32, 110, 105, 103, 104, 116, 115, 32, 101, 110, 100, 32, 119, 105, 116, 104, 32, 110, 105, 103, 104, 116, 32, 57, 57, 57, 57], [110, 111, 32, 114, 111, 111, 109, 32, 111, 102, 32, 116, 104, 101, 32, 115, 101, 116, 32, 105, 115, 32, 112, 111, 115, 115, 105, 98, 108, 101], [101, 118, 101, 114, 121, 32, 112, 111, 115, 115, 105, 98, 108, 101, 32, 114, 111, 111, 109, 32, 105, 115, 32, 105, 110, 32, 116, 104, 101, 32, 115, 101, 116], [116, 104, 101, 114, 101, 32, 97, 114, 101, 32, 110, 111, 116, 32, 101, 110, 111, 117, 103, 104, 32, 99, 111, 105, 110, 115], [97, 116, 32, 109, 111, 115, 116, 32, 57, 57, 57, 32, 99, 111, 105, 110, 115], [104, 111, 117, 115, 101], [114, 111, 111, 109], [100, 111, 111, 114], [103, 104, 111, 115, 116], [110, 105, 103, 104, 116, 115], [116, 104, 101, 114, 109, 111], [109, 105, 99, 114, 111], [99, 108, 111, 115, 101, 100], [59], [116, 104, 101, 114, 101, 32, 105, 115, 32, 110, 111, 32, 115, 117, 99, 104, 32, 114, 111, 111, 109], [116, 104, 101, 114, 101, 32, 105, 115, 32, 110, 111, 32, 115, 117, 99, 104, 32, 100, 111, 111, 114], [32, 59, 10], [109, 111, 100, 101, 32], [99, 104, 105, 108, 108, 32], [104, 101, 97, 114, 105, 110, 103, 32], [112, 114, 105, 99, 101, 32], [114, 97, 110, 100, 111, 109, 32], [99, 111, 105, 110, 115, 32], [114, 111, 111, 109, 32, 114], [109, 111, 100, 101], [99, 104, 105, 108, 108], [104, 101, 97, 114, 105, 110, 103], [112, 114, 105, 99, 101], [114, 97, 110, 100, 111, 109], [99, 111, 105, 110, 115], [116, 104, 101, 32, 116, 101, 120, 116, 32, 104, 97, 115, 32, 97, 110, 32, 101, 114, 114, 111, 114], [116, 104, 101, 32, 105, 110, 112, 117, 116, 32, 98, 117, 102, 102, 101, 114, 32, 104, 111, 108, 100, 115, 32, 54, 48, 48, 32, 98, 121, 116, 101, 115], [108, 101, 110, 103, 116, 104, 32, 105, 115, 32, 48, 32, 116, 111, 32, 116, 104, 101, 32, 99, 117, 114, 114, 101, 110, 116, 32, 108, 101, 110, 103, 116, 104], [32], [32, 116, 104, 101, 114, 109, 111], [116, 104, 101, 32, 110, 117, 109, 98, 101, 114, 32, 105, 115, 32, 111, 117, 116, 32, 111, 102, 32, 114, 97, 110, 103, 101], [], [32, 109, 105, 99, 114, 111], [100, 111, 111, 114, 32, 114], [32, 114], [32, 99, 108, 111, 115, 101, 100], [103, 104, 111, 115, 116, 32, 114], [114], [32, 62, 32]]
def stLEAST : List Int32 := [0, 1, 0, 1, 0, 0]
def stMOST : List Int32 := [2, 9, 9, 9, 15, 999]
def stINITIAL : List Int32 := [0, 1, 5, 2, 7, 50]
def dgOnes : List Int32 := [48, 49, 50, 51, 52, 53, 54, 55, 56, 57, 48, 49, 50, 51, 52, 53, 54, 55, 56, 57, 48, 49, 50, 51, 52, 53, 54, 55, 56, 57, 48, 49, 50, 51, 52, 53, 54, 55, 56, 57, 48, 49, 50, 51, 52, 53, 54, 55, 56, 57, 48, 49, 50, 51, 52, 53, 54, 55, 56, 57, 48, 49, 50, 51, 52, 53, 54, 55, 56, 57, 48, 49, 50, 51, 52, 53, 54, 55, 56, 57, 48, 49, 50, 51, 52, 53, 54, 55, 56, 57, 48, 49, 50, 51, 52, 53, 54, 55, 56, 57]
def dgTens : List Int32 := [48, 48, 48, 48, 48, 48, 48, 48, 48, 48, 49, 49, 49, 49, 49, 49, 49, 49, 49, 49, 50, 50, 50, 50, 50, 50, 50, 50, 50, 50, 51, 51, 51, 51, 51, 51, 51, 51, 51, 51, 52, 52, 52, 52, 52, 52, 52, 52, 52, 52, 53, 53, 53, 53, 53, 53, 53, 53, 53, 53, 54, 54, 54, 54, 54, 54, 54, 54, 54, 54, 55, 55, 55, 55, 55, 55, 55, 55, 55, 55, 56, 56, 56, 56, 56, 56, 56, 56, 56, 56, 57, 57, 57, 57, 57, 57, 57, 57, 57, 57]
def stN (k : Nat) : String := if k = 0 then "LEAST" else if k = 1 then "MOST" else "INITIAL"
def stV (k j : Nat) : Int32 := ((if k = 0 then stLEAST else if k = 1 then stMOST else stINITIAL)[j]?).getD 0
def dgN (k : Nat) : String := if k = 0 then "DigitOnes" else "DigitTens"
def dgV (k j : Nat) : Int32 := ((if k = 0 then dgOnes else dgTens)[j]?).getD 0
def ifN (k : Nat) : MethodName := if k = 0 then ⟨"java/lang/CharSequence", "length", "()I"⟩ else ⟨"java/lang/CharSequence", "charAt", "(I)C"⟩
def ifC (k : Nat) : String := if k = 0 then "java/lang/StringBuilder" else "java/lang/String"
def ifY (k c : Nat) : Nat := if k = 0 then (if c = 0 then m_SB_length else m_St_length) else (if c = 0 then m_SB_charAt else m_St_charAt)
def NESTS : List (String × Nat × MethodName) := [("GhostRooms", 14, yX5_init), ("GhostRooms", 22, yX4_init), ("GhostRooms", 55, yX6_init), ("GhostRooms$Tokens", 53, yX11_isLetter), ("GhostRooms$Tokens", 60, yX11_isDigit), ("GhostRooms$House", 112, yX11_bit), ("GhostRooms$Description", 107, yX11_bit), ("GhostRooms$Description", 138, yX11_contains), ("GhostRooms$House", 128, yX11_contains), ("GhostRooms$Night", 106, yX11_contains), ("GhostRooms$Night", 33, yX11_bit), ("GhostRooms$Night", 143, yX11_lowest), ("GhostRooms$Actions", 94, yX11_contains), ("GhostRoomsLaw$World", 29, yL_pick), ("GhostRooms$Actions", 19, yX11_requireRange), ("GhostRooms$Input", 32, yX11_isLetter), ("GhostRooms$Actions", 100, yX11_bit), ("GhostRooms$Paths", 41, yX11_contains)]
theorem NESTS_in {e : String × Nat × Nat × Nat} (h : e ∈ MLk) (h1 : ¬ e.2.2.2 = 0) : (e.1, e.2.1, mN e.2.2.1) ∈ NESTS := by
  have key : MLk.all (fun e => decide (e.2.2.2 = 0) || decide ((e.1, e.2.1, mN e.2.2.1) ∈ NESTS)) = true := by decide +kernel
  have h2 := List.all_eq_true.mp key e h
  simp only [Bool.or_eq_true, decide_eq_true_eq] at h2
  exact h2.resolve_left h1
/-- arrays of int rows: their class stands -/
def aoa (U : State) : Prop := (Cond.arrayOver (.array .int)).before #[] U = true
theorem aoa_spec {A : Array Value} {s : State} (h : (Cond.arrayOver (.array .int)).before A s = true) : ∃ comp c k, s.vm.findClass (FieldType.array .int).toString = some comp ∧ (s.vm.classes.findIdx? fun (x : Class) => match x.kind with | .array component _ => component == comp | _ => false) = some c ∧ s.vm.classes[c]? = some k ∧ k.kind = .array comp (.array .int) ∧ s.vm.findClass ("[" ++ (FieldType.array .int).toString) = some c := by
  simp only [Cond.before, Cond.holds, Cond.value, beq_iff_eq] at h
  cases hc : s.vm.findClass (FieldType.array .int).toString with
  | none => simp [hc] at h
  | some comp =>
    simp only [hc, Option.bind_some, Option.bind_eq_some_iff, Option.map_eq_some_iff] at h
    obtain ⟨c, hi, k, hk, hb⟩ := h
    obtain ⟨hlt, hp, -⟩ := Array.findIdx?_eq_some_iff_getElem.mp hi
    have hkk : s.vm.classes[c] = k := (Array.getElem?_eq_some_iff.mp hk).2
    rw [hkk] at hp
    cases hkind : k.kind with
    | array component ty =>
      rw [hkind] at hb hp
      simp only [Bool.and_eq_true, decide_eq_true_eq, beq_iff_eq] at hb hp
      obtain ⟨h1, h2⟩ := hb
      subst h1
      subst hp
      exact ⟨component, c, k, rfl, hi, hk, hkind, h2⟩
    | _ => rw [hkind] at hb; simp at hb
theorem aoa_bare (vm : Vm) (comp : ClassId) : (vm.bare.classes.findIdx? fun (x : Class) => match x.kind with | .array component _ => component == comp | _ => false) = (vm.classes.findIdx? fun (x : Class) => match x.kind with | .array component _ => component == comp | _ => false) := by
  simp only [Vm.bare, Array.findIdx?_map]
  rfl
theorem aoa_moved {u U : State} (hvm : u.vm.Alike U.vm) (h : aoa u) : aoa U := by
  obtain ⟨comp, c, k, h1, h2, h3, h4, h5⟩ := aoa_spec h
  obtain ⟨k', hk', he⟩ := hvm.2.2 _ _ h3
  have hi : (U.vm.classes.findIdx? fun (x : Class) => match x.kind with | .array component _ => component == comp | _ => false) = some c := by
    refine (aoa_bare U.vm comp).symm.trans (Eq.trans ?_ ((aoa_bare u.vm comp).trans h2))
    first | rw [hvm.bare_eq] | rw [← hvm.bare_eq]
  have hkind : k'.kind = .array comp (.array .int) := by rw [he]; exact h4
  have f1 : U.vm.findClass (FieldType.array .int).toString = some comp := by rw [hvm.findClass]; exact h1
  have f2 : U.vm.findClass ("[" ++ (FieldType.array .int).toString) = some c := by rw [hvm.findClass]; exact h5
  unfold aoa Cond.before Cond.holds
  simp only [Cond.value]
  rw [f1, Option.bind_some]
  refine (congrArg (fun o : Option Nat => (o.bind (fun c => (U.vm.classes[c]?).map fun (k : Class) => match k.kind with | .array _ ty => decide (ty = FieldType.array .int) && decide (U.vm.findClass ("[" ++ (FieldType.array .int).toString) = some c) | _ => false) == some true)) hi).trans ?_
  simp [hk', hkind, f2]
def DECLS : List MethodName := [Bundle.initS "java/lang/RuntimeException", Bundle.initS "java/lang/Exception", Bundle.initS Bundle.tN]
def exN (k : Nat) : String := if k = 0 then "java/lang/IllegalStateException" else if k = 1 then "java/lang/IllegalArgumentException" else "java/lang/IndexOutOfBoundsException"
/-- what the machine's tables and old cells say, at every method's start -/
def KK (G : GG) (U : State) : Prop :=
  va_K (gD G) vwCl (tys G) U ∧ gB G ≤ U.heap.size ∧
  (∀ q ∈ NESTS, va_Nw (.methodLinkNest q.1 q.2.1 q.2.2 (nhost q.1)) U) ∧
  (∀ k, k < 3 → va_Nw (.castable (exN k) (exN k)) U) ∧
  True ∧
  (∀ q ∈ STRS, vk_R q.1 q.2.1 q.2.2.1 (gS G q.2.2.2) U) ∧
  vx_Zq Bundle.tN "UNASSIGNED_STACK" Bundle.steD (gI G) U U.heap ∧ vx_Zq Bundle.tN "SUPPRESSED_SENTINEL" Bundle.listD (gI G) U U.heap ∧
  (∀ k, k < 3 → va_Z "GhostRooms$Settings" (stN k) "[I" (.ref (gS G (1000 + k))) (gI G) U U.heap ∧ va_T .int (gS G (1000 + k)) 6 (fun j => .int (stV k j)) (gI G) U U.heap) ∧
  (∀ k, k < TEXTS.length → va_O "java/lang/String" (gS G k) (gI G) U U.heap ∧ va_OF "java/lang/String" "coder" "B" (.int 0) (gS G k) (gI G) U U.heap ∧ va_OF "java/lang/String" "value" "[B" (.ref (gS G (100 + k))) (gS G k) (gI G) U U.heap ∧ va_T .byte (gS G (100 + k)) ((TEXTS[k]?).getD []).length (fun j => .int ((((TEXTS[k]?).getD []))[j]?.getD 0)) (gI G) U U.heap) ∧
  va_Z "java/lang/String" "COMPACT_STRINGS" "Z" (.int 1) (gI G) U U.heap ∧ va_Zq "jdk/internal/util/Preconditions" "SIOOBE_FORMATTER" "Ljava/util/function/BiFunction;" (gI G) U U.heap ∧
  va_X (gX G).1 (gX G).2.1 (gX G).2.2 U U.heap ∧ (gX G).1 < gB G ∧ (∀ q ∈ DECLS, va_Nw (.declares q) U) ∧ va_AO "GhostRooms$House" U ∧ va_AO "java/lang/String" U ∧ aoa U ∧
  (∀ k, k < 2 → va_Z "java/lang/Integer" (dgN k) "[B" (.ref (gS G (1003 + k))) (gI G) U U.heap ∧ va_T .byte (gS G (1003 + k)) 100 (fun j => .int (dgV k j)) (gI G) U U.heap) ∧
  (∀ k c, k < 2 → c < 2 → va_Fw (ifC c) (ifN k) (mN (ifY k c)) U)

theorem KK.next {G : GG} {s U : State} (hK : KK G s) (hW : s.WarmedH U.vm) (hz : s.heap.size ≤ U.heap.size) (hk : ∀ q : Nat, q < s.heap.size → ¬ gI G q → U.heap[q]? = s.heap[q]?) : KK G U := by
  obtain ⟨k1, k2, k3, k4, k5, k6, k7, k8, k9, k10, k11, k12, k13, k14, k15, k16, k17, k18, k19, k20⟩ := hK
  have hv := hW.alike
  refine ⟨va_K.moved hv k1, Nat.le_trans k2 hz, fun q hq => va_Nw.warmM hW (k3 q hq), fun k hk9 => va_Nw.warmC hW (k4 k hk9), trivial, fun q hq => vk_R.warm hW (k6 q hq),
    (vx_Zq.moved hv k7).kept hk, (vx_Zq.moved hv k8).kept hk, fun k hk9 => ⟨(va_Z.moved hv (k9 k hk9).1).kept hk, (va_T.moved hv (k9 k hk9).2).kept hk⟩,
    fun k hk9 => ⟨(va_O.moved hv (k10 k hk9).1).kept hk, (va_OF.moved hv (k10 k hk9).2.1).kept hk, (va_OF.moved hv (k10 k hk9).2.2.1).kept hk, (va_T.moved hv (k10 k hk9).2.2.2).kept hk⟩,
    (va_Z.moved hv k11).kept hk, (va_Zq.moved hv k12).kept hk, ?_, k14, fun q hq => va_Nw.warmD hW (k15 q hq), va_AO.moved hv k16, va_AO.moved hv k17, aoa_moved hv k18, fun k hk9 => ⟨(va_Z.moved hv (k19 k hk9).1).kept hk, (va_T.moved hv (k19 k hk9).2).kept hk⟩, fun k c hk9 hc9 => va_Fw.moved ?_ hv (k20 k c hk9 hc9)⟩
  · exact (va_X.moved hv k13).kept (hk _ (Nat.lt_of_lt_of_le k14 k2) (Nat.not_le.mpr k14))
  · unfold ifN; split <;> exact ⟨by decide, by decide⟩
theorem KK.calling {G : GG} {U : State} {g : JFrame} {mk : MethodId} {a : Array Value} (h : KK G U) : KK G (U.calling g mk a) := h.next (s := U) (State.WarmedH.refl U) (Nat.le_refl _) (fun _ _ _ => rfl)
theorem cw_spec {i : Nat} {s : State} {args : Array Value} {m : MethodId} (hn : s.methodNamed? (mN i) = some m) (h : (cw i).before args s = true) :
    ∃ meth c, s.vm.method? m = some meth ∧ meth.code = some c ∧ c.code = mC i ∧ c.maxLocals = mL i ∧ meth.sig.returnType = mR i ∧ meth.locks = false ∧ c.exceptionTable.toList = tableOf (mHH i) ∧ parseMethodDescriptor (mN i).desc = some meth.sig := by
  unfold cw at h
  split at h
  · rename_i he
    obtain ⟨meth, c, h1, h2, h3, h4, h5, h6, h7, h8⟩ := Cond.code_spec hn h
    refine ⟨meth, c, h1, h2, h3, h4, h5, h6, ?_, h8⟩
    rw [Array.isEmpty_iff.mp h7, List.isEmpty_iff.mp he]
    rfl
  · obtain ⟨m9, meth, c, hn9, h1, h2, h3, h4, h5, h6, h7, h8⟩ := Cond.codeWith_spec h
    cases hn.symm.trans hn9
    exact ⟨meth, c, h1, h2, h3, h4, h6, h7, by rw [← h5, table_eq], h8⟩
def xQ (Qc : Array Value → State → Outcome → State → Prop) (XC : String → State → State → Prop) (rc rs mc ms : Nat) (free : Addr → Prop) : Array Value → State → Outcome → State → Prop := fun a st o t =>
  (Qc a st o t ∧ ∃ L, FrameEnd st o t L rc rs ∧ ∀ q ∈ L, free q.base) ∨ ∃ q, o = .threw q ∧ vx_T XC st q t mc ms free
def xMet (l : Launch) (y : MethodName) (ws : List Cond) (rm : Room) (Pc : Array Value → State → Prop) (Qc : Array Value → State → Outcome → State → Prop) (XC : String → State → State → Prop) (rc rs mc ms : Nat) (free : Addr → Prop) : Prop :=
  MetFree l y (headSpec ws rm) Pc (fun _ _ _ _ _ => True) (xQ Qc XC rc rs mc ms free)
section XPayer
variable {l : Launch} {R : Room} {p : Program} {e : Env} {below : List Frame} {s : State} {sargs : Array Value} {len W9 : Nat}
theorem x_back {i : Nat} {ws : List Cond} {rm : Room} {Pc : Array Value → State → Prop} {Qc : Array Value → State → Outcome → State → Prop} {XC : String → State → State → Prop} {rc rs mc ms : Nat} {free : Addr → Prop}
    (hM : xMet l (mN i) ws rm Pc Qc XC rc rs mc ms free) (hblind : FrameBlind Pc) (hrc : rm.cells = mc) (hrs : rm.slots = ms)
    (hframes : rm.frames + 1 ≤ R.frames) (hlocals : W9 + (mL i + 11) + rm.locals ≤ R.locals)
    (hws : ∀ w ∈ ws, ∀ a' U, s.WarmedH U.vm → w.before a' U = true) (hcode : cw i ∈ ws) (hinit : ∀ a' U, s.WarmedH U.vm → (Cond.initialized (mN i).cls).before a' U = true) :
    vx_Back l R p e below s sargs (mN i) len W9 (PreOf R mc ms Pc) (PostOf Qc rc rs free) (vx_Post XC mc ms free) := by
  intro m meth c A g ig mk a X hg hsize hdg hW hn hp
  have h1 : (headSpec ws rm).pre.before a A.U = true := atoms_intro fun w hw => hws w hw _ _ X.warmed
  have h2 : (cw i).before a A.U = true := hws _ hcode _ _ X.warmed
  have h3 : (Cond.initialized (mN i).cls).before a A.U = true := hinit _ _ X.warmed
  have h4 : A.cells + (headSpec ws rm).room.cells ≤ R.cells := by rw [show (headSpec ws rm).room.cells = mc from hrc]; exact hp.1
  have h5 : A.slots + (headSpec ws rm).room.slots ≤ R.slots := by rw [show (headSpec ws rm).room.slots = ms from hrs]; exact hp.2.1
  have hPc : Pc a (A.U.calling g mk a) := hblind _ _ _ _ hp.2.2
  obtain ⟨U, Ls, c0, s0⟩ := A
  dsimp only [Pt.U, Pt.locs, Pt.cells, Pt.slots] at h1 h2 h3 h4 h5 X hn hPc ⊢
  obtain ⟨methY, cY, hmY, hcY, -, hlY, -⟩ := cw_spec hn h2
  obtain ⟨kY, hkY, -⟩ := className_of_methodNamed hn
  have hinitY : kY.init = .initialized := Cond.initialized_spec (findClass_of_methodNamed hn) hkY h3
  have h : At U g.method c below := by rw [hg]; exact X.here
  have hlocals9 : W9 + (mL i + 11) + (headSpec ws rm).room.locals ≤ R.locals := hlocals
  have happ : (headSpec ws rm).appliesLoose (mN i) e.platform (U.calling g mk a) = true :=
    Spec.appliesLoose_calling (g := g) h hdg hn hkY hinitY
      (X.room_calling (g := g) (R' := (headSpec ws rm).room) hsize hmY hcY hframes (by rw [hlY]; omega) h4 h5) h1
  obtain ⟨mid, hmid⟩ := h.above
  have hfr : (U.setTop g).frames = (.java g :: mid) ++ below := by rw [State.frames_setTop' g h.top, hmid]; rfl
  obtain ⟨o, s₂, hsteps, -, hend, hq⟩ := Steps.callFree hM p X.admits X.cas X.clock (acts := []) hfr happ hPc trivial
  have hq' : xQ Qc XC rc rs mc ms free a (U.calling g mk a) o s₂ := hq
  rw [State.frames_setTop' g h.top] at hend
  obtain ⟨g₀, hg0⟩ := Option.isSome_iff_exists.mp h.top
  obtain ⟨r, hr⟩ := State.topJava?_eq_some.mp hg0
  have hr' : (({ U with heap := s₂.heap, slotsUsed := s₂.slotsUsed } : State).setVm s₂.vm).frames = .java g₀ :: r := hr
  rcases hq' with ⟨hqc, L, hfe, hL⟩ | ⟨q, rfl, E, ce, L, hx, hce, hcv, hcl, hW₂, hsm, hL⟩
  · obtain ⟨⟨v, rfl⟩, hW₂, e2, q2, q3, q4, q5, q6⟩ := id hfe
    have e3 : s₂ = ({ (U.calling g mk a).setFrames s₂.frames with heap := s₂.heap, slotsUsed := s₂.slotsUsed } : State).setVm s₂.vm := by
      have : s₂ = ({ s₂ with vm := (U.calling g mk a).vm } : State).setVm s₂.vm := rfl
      rw [e2] at this
      exact this
    obtain ⟨c₂, i₂, len₂, hc₂, hd₂, hf₂⟩ := hend
    have hW' : U.WarmedH s₂.vm := hW₂
    have hcc : c₂ = c := by
      have h1 : s₂.code? g.method = U.code? g.method := by
        rw [State.code?_eq, State.code?_eq, hW'.alike.method?]
      exact Option.some.inj (hc₂.symm.trans (h1.trans h.code))
    subst hcc
    have hlen : len₂ = len := by rw [hdg] at hd₂; cases hd₂; rfl
    subst hlen
    have hs₂ : s₂ = (({ U with heap := s₂.heap, slotsUsed := s₂.slotsUsed } : State).setVm s₂.vm).setTop { g with pc := g.pc + len₂, stack := v.toList ++ g.stack } := by
      refine e3.trans ?_
      rw [hf₂, State.calling_eq h.top, State.setFrames_setFrames, State.setTop_of_frames _ hr', hr]
      rfl
    have hsame : U.sameButNew ({ U with heap := s₂.heap, slotsUsed := s₂.slotsUsed } : State) L rc rs := by
      refine ⟨?_, q2, q3, q4, q5, q6⟩
      obtain ⟨t, ht, -⟩ := State.frames_cons hr
      show ({ U with heap := s₂.heap, slotsUsed := s₂.slotsUsed } : State) = { U.setFrames U.frames with heap := s₂.heap, slotsUsed := s₂.slotsUsed }
      rw [State.setFrames_self ht]
    subst hg
    refine Or.inl ⟨v, ⟨(({ U with heap := s₂.heap, slotsUsed := s₂.slotsUsed } : State).setVm s₂.vm), Ls ++ L, c0 + rc, s0 + rs⟩,
      ⟨X.admits, X.cas, X.clock, X.frames, X.room, X.hears, X.method, X.code, (X.here.setHeapUsed s₂.heap s₂.slotsUsed).setVm hW'.alike, X.tail, State.WarmedH.trans X.warmed hW', X.limits, X.bytes, X.same.trans (hsame.setVm s.vm)⟩,
      ⟨g, mk, s₂, L, rfl, rfl, hqc, rfl, hL, rfl, rfl⟩, ?_⟩
    show Steps p.tables e below _ ((({ U with heap := s₂.heap, slotsUsed := s₂.slotsUsed } : State).setVm s₂.vm).setTop { g with pc := g.pc + len₂, stack := v.toList ++ g.stack })
    rw [← hs₂]
    exact hsteps
  · obtain ⟨e2, q2, q3, q4, q5, q6⟩ := id hsm
    have e3 : s₂ = ({ (U.calling g mk a).setFrames s₂.frames with heap := s₂.heap, slotsUsed := s₂.slotsUsed } : State).setVm s₂.vm := by
      have : s₂ = ({ s₂ with vm := (U.calling g mk a).vm } : State).setVm s₂.vm := rfl
      rw [e2] at this
      exact this
    have hf₂ : s₂.frames = .throwing q :: .java g :: U.frames.tail := hend
    have hW' : U.WarmedH s₂.vm := hW₂
    have hs₂ : s₂ = ((({ U with heap := s₂.heap, slotsUsed := s₂.slotsUsed } : State).setVm s₂.vm).setTop g).pushFrame (.throwing q) := by
      refine e3.trans ?_
      rw [hf₂, State.calling_eq h.top, State.setFrames_setFrames, State.pushFrame, State.frames_setTop _ hr', State.setTop_of_frames _ hr', State.setFrames_setFrames, hr]
      rfl
    have hsame : U.sameButNew ({ U with heap := s₂.heap, slotsUsed := s₂.slotsUsed } : State) L mc ms := by
      refine ⟨?_, q2, q3, q4, q5, q6⟩
      obtain ⟨t, ht, -⟩ := State.frames_cons hr
      show ({ U with heap := s₂.heap, slotsUsed := s₂.slotsUsed } : State) = { U.setFrames U.frames with heap := s₂.heap, slotsUsed := s₂.slotsUsed }
      rw [State.setFrames_self ht]
    subst hg
    refine Or.inr ⟨q, ⟨(({ U with heap := s₂.heap, slotsUsed := s₂.slotsUsed } : State).setVm s₂.vm), Ls ++ L, c0 + mc, s0 + ms⟩,
      ⟨X.admits, X.cas, X.clock, X.frames, X.room, X.hears, X.method, X.code, (X.here.setHeapUsed s₂.heap s₂.slotsUsed).setVm hW'.alike, X.tail, State.WarmedH.trans X.warmed hW', X.limits, X.bytes, X.same.trans (hsame.setVm s.vm)⟩,
      ⟨g, mk, s₂, L, E, ce, rfl, rfl, hx, hce, hcv, hcl, rfl, hL, rfl, rfl⟩, ?_⟩
    show Steps p.tables e below _ (((({ U with heap := s₂.heap, slotsUsed := s₂.slotsUsed } : State).setVm s₂.vm).setTop g).pushFrame (.throwing q))
    rw [← hs₂]
    exact hsteps

end XPayer
