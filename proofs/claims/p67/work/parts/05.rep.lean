/-! 05: the heap as a function; the words; what holds of the tables at every method's start -/
abbrev AE : Type := (Nat × vp_A) ⊕ (Nat × List Value)
abbrev HM : Type := Nat → Option AE
abbrev OUT : Type := Option Value ⊕ String
abbrev XQ : Type := OUT → HM → Option Nat → Prop
/-- classes and slots; array classes; addresses of constants; the script; where the new cells begin -/
abbrev GG : Type := va_G × (Nat → ClassId) × (Nat → Nat) × (Nat × Nat × (Nat → Int32)) × Nat
abbrev gD (G : GG) : va_G := G.1
abbrev gA (G : GG) : Nat → ClassId := G.2.1
abbrev gS (G : GG) : Nat → Nat := G.2.2.1
abbrev gX (G : GG) : Nat × Nat × (Nat → Int32) := G.2.2.2.1
abbrev gB (G : GG) : Nat := G.2.2.2.2
abbrev gI (G : GG) : Nat → Prop := fun q => gB G ≤ q
def tys (G : GG) : List (ClassId × FieldType) := [(gA G 0, .int), (gA G 1, .long), (gA G 2, .object "GhostRooms$House"), (gA G 3, .byte), (gA G 4, .array .int), (gA G 5, .object "java/lang/String")]
def toE (G : GG) (e : AE) : va_E := match e with
  | .inl a => .inl (gA G a.1, a.2)
  | .inr o => .inr o
def Rep (G : GG) (h : HM) (o : Option Nat) (H : Heap) : Prop :=
  (∀ z, o = some z → H.size = z) ∧ gB G ≤ H.size ∧ ∀ a e, h a = some e → gB G ≤ a ∧ va_at (gD G) vwCl (a, toE G e) H
def hup (h : HM) (a : Nat) (e : AE) : HM := fun x => if x = a then some e else h x
theorem hup_at (h : HM) (a : Nat) (e : AE) : hup h a e a = some e := if_pos rfl
theorem hup_ne (h : HM) {a b : Nat} (e : AE) (hb : b ≠ a) : hup h a e b = h b := if_neg hb
-- words
def TBLg : List Cond := sx_tbl.filter goodWord
theorem inG {w : Cond} (i : Nat) (h : sx_tbl[i]? = some w) (hg : goodWord w = true) : w ∈ TBLg := List.mem_filter.mpr ⟨List.mem_of_getElem? h, hg⟩
def cw (i : Nat) : Cond := if (mHH i).isEmpty = true then Cond.code (mN i) (mC i) (mL i) (mR i) else Cond.codeWith (mN i) (mC i) (mL i) (mR i) (mHH i)
def mws (i : Nat) : List Cond := cw i :: TBLg
def rmI (i : Nat) : Room := { frames := (mF i).1, cells := (mMc i).1, slots := (mMc i).2, locals := (mF i).2 }
theorem TBLg_good : ∀ w ∈ TBLg, goodWord w = true := fun _ h => (List.mem_filter.mp h).2
def flw (e : String × Nat × Nat × Nat) : Cond := match vwCl[e.2.2.1]? with
  | some r => Cond.fieldLink e.1 e.2.1 (r.2.1 e.2.2.2).1 (r.2.1 e.2.2.2).2.1 (r.2.1 e.2.2.2).2.2.1
  | none => .tt
def nhost (s : String) : String := if s = "GhostRoomsLaw$World" then "GhostRoomsLaw" else "GhostRooms"
def mlw (e : String × Nat × Nat × Nat) : Cond := if e.2.2.2 = 0 then Cond.methodLink e.1 e.2.1 (mN e.2.2.1) else Cond.methodLinkNest e.1 e.2.1 (mN e.2.2.1) (nhost e.1)
def zchk {α : Type} (l : List α) (p : List Nat) (f : α → Cond) : Bool := match l, p with
  | [], [] => true
  | a :: l, i :: p => decide (sx_tbl[i]? = some (f a)) && zchk l p f
  | _, _ => false
theorem zchk_mem {α : Type} {f : α → Cond} : ∀ {l : List α} {p : List Nat}, zchk l p f = true → ∀ a ∈ l, f a ∈ sx_tbl := by
  intro l
  induction l with
  | nil => intro p _ a h; cases h
  | cons b l ih =>
    intro p h a ha
    cases p with
    | nil => simp [zchk] at h
    | cons i p =>
      simp only [zchk, Bool.and_eq_true, decide_eq_true_eq] at h
      rcases List.mem_cons.mp ha with rfl | ha
      · exact List.mem_of_getElem? h.1
      · exact ih h.2 a ha
theorem FL_chk : zchk FLk FLp flw = true := by decide +kernel
theorem FL_good : FLk.all (fun e => goodWord (flw e)) = true := by decide +kernel
theorem FL_in {e : String × Nat × Nat × Nat} (h : e ∈ FLk) : flw e ∈ TBLg := List.mem_filter.mpr ⟨zchk_mem FL_chk e h, List.all_eq_true.mp FL_good e h⟩
theorem ML_chk0 : zchk MLk0 MLp0 mlw = true := by decide +kernel
theorem ML_chk1 : zchk MLk1 MLp1 mlw = true := by decide +kernel
theorem ML_chk2 : zchk MLk2 MLp2 mlw = true := by decide +kernel
theorem ML_chk3 : zchk MLk3 MLp3 mlw = true := by decide +kernel
theorem ML_mem {e : String × Nat × Nat × Nat} (h : e ∈ MLk) : mlw e ∈ sx_tbl := by
  simp only [MLk, List.mem_append] at h
  rcases h with (((h | h) | h) | h)
  · exact zchk_mem ML_chk0 e h
  · exact zchk_mem ML_chk1 e h
  · exact zchk_mem ML_chk2 e h
  · exact zchk_mem ML_chk3 e h
theorem ML_in {e : String × Nat × Nat × Nat} (h : e ∈ MLk) (h0 : e.2.2.2 = 0) : Cond.methodLink e.1 e.2.1 (mN e.2.2.1) ∈ TBLg := by
  have h1 := ML_mem h
  rw [mlw, if_pos h0] at h1
  exact List.mem_filter.mpr ⟨h1, rfl⟩
-- what is true of each method
def mOK (i : Nat) : Bool :=
  let q := (MPs[i]?).getD (0, 0, 0, 0)
  decide (sx_tbl[q.1]? = some (cw i)) && decide (sx_tbl[q.2.2.2]? = some (.initialized (mN i).cls)) &&
  (if mK i = 1 then decide (sx_tbl[q.2.1]? = some (.static (mN i)))
   else decide (sx_tbl[q.2.1]? = some (.instanceMethod (mN i))) && (if mK i = 0 then decide (sx_tbl[q.2.2.1]? = some (.selects (mN i).cls (mN i) (mN i))) else decide (mK i = 3) || decide ((mN i).name = "<init>"))) &&
  decide ((mN i).cls ≠ "java/lang/invoke/MethodHandle") && decide ((mN i).cls ≠ "java/lang/invoke/VarHandle") && plainName (mN i).cls && decide ((parseMethodDescriptor (mN i).desc).map (fun d => d.parameters.length) = some (mNp i))
theorem M_len : NT.length = 202 := by decide +kernel
