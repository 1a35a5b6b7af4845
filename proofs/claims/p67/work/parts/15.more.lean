/-! 15: constants, objects and arrays that are new, Math -/
def LCk : List (String × Nat × Int32) := [("java/lang/Integer", 265, 1431655765), ("java/lang/Integer", 266, 858993459), ("java/lang/Integer", 267, 252645135), ("java/lang/StringUTF16", 20, 1073741823), ("GhostRoomsLaw", 7, 1664525), ("GhostRoomsLaw", 8, 47633), ("GhostRoomsLaw", 15, 2147483647), ("jdk/internal/util/ArraysSupport", 200, 2147483639), ("java/lang/AbstractStringBuilder", 39, 2147483647), ("GhostRoomsLaw", 145, 1000000), ("java/lang/Integer", 264, 65536), ("GhostRooms$Paths", 20, 1000000)]
theorem LC_chk : zchk LCk [704, 705, 706, 864, 928, 929, 930, 957, 961, 1284, 1443, 1529] (fun q => .constant q.1 q.2.1 q.2.2) = true := by decide +kernel
def OIk : List (String × Nat) := [("GhostRooms", 3), ("GhostRooms$House", 3), ("GhostRooms$Row", 1), ("GhostRooms$Night", 3), ("GhostRooms$Actions", 3), ("GhostRooms$Input", 3), ("GhostRooms$Tokens", 3), ("GhostRooms$History", 3), ("GhostRooms$Paths", 3), ("GhostRooms$Description", 3), ("GhostRooms$Script", 3), ("java/lang/Throwable", 1), ("GhostRoomsLaw$World", 1), ("java/lang/AbstractStringBuilder", 3), ("java/lang/String", 1)]
theorem OI_chk : zchk OIk [59, 67, 73, 210, 232, 245, 263, 298, 317, 329, 345, 545, 845, 856, 1354] (fun q => .methodLink q.1 q.2 Lib.objectInit) = true := by decide +kernel
theorem OI_inst : Cond.instanceMethod Lib.objectInit ∈ TBLg := inG 60 (by decide +kernel) rfl
theorem OI_code : Cond.code Lib.objectInit ⟨#[0xb1]⟩ 1 none ∈ TBLg := inG 61 (by decide +kernel) rfl
theorem AC_int : Cond.arrayClass .int ∈ TBLg := inG 79 (by decide +kernel) rfl
theorem AC_long : Cond.arrayClass .long ∈ TBLg := inG 78 (by decide +kernel) rfl
theorem AC_byte : Cond.arrayClass .byte ∈ TBLg := inG 587 (by decide +kernel) rfl
def MMmin : List (String × Nat) := [("GhostRooms$House", 119), ("GhostRooms$Night", 74), ("java/util/Arrays", 304), ("GhostRoomsLaw$World", 119), ("java/lang/AbstractStringBuilder", 138), ("GhostRoomsLaw", 187)]
theorem MMmin_chk : zchk MMmin [652, 717, 972, 1091, 1145, 1508] (fun q => .methodLink q.1 q.2 Lib.Math.min.name) = true := by decide +kernel
theorem MMmin_st : Cond.static Lib.Math.min.name ∈ TBLg := inG 653 (by decide +kernel) rfl
theorem MMmin_co : Cond.code Lib.Math.min.name Lib.Math.min.code 2 (some .int) ∈ TBLg := inG 654 (by decide +kernel) rfl
def MMmax : List (String × Nat) := [("GhostRooms$House", 125), ("jdk/internal/util/ArraysSupport", 194), ("GhostRoomsLaw$World", 125)]
theorem MMmax_chk : zchk MMmax [655, 956, 1092] (fun q => .methodLink q.1 q.2 Lib.Math.max.name) = true := by decide +kernel
theorem MMmax_st : Cond.static Lib.Math.max.name ∈ TBLg := inG 656 (by decide +kernel) rfl
theorem MMmax_co : Cond.code Lib.Math.max.name Lib.Math.max.code 2 (some .int) ∈ TBLg := inG 657 (by decide +kernel) rfl
theorem MM_in : Cond.initialized "java/lang/Math" ∈ TBLg := inG 30 (by decide +kernel) rfl
def refRet (t : Option FieldType) : Bool := match t with
  | some (.object _) => true
  | some (.array _) => true
  | _ => false
section ST15
variable {G : GG} {i pc : Nat} {L : List (Nat × Value)} {st : List Value} {h : HM} {o : Option Nat} {k n : Nat} {Q : XQ}
theorem s_ldc {idx : Nat} {v : Int32} (hd : decode (mC i) pc = .ok (.ldc idx, 2)) (hq : ((mN i).cls, idx, v) ∈ LCk) (kk : EX G i (pc + 2) L (.int v :: st) h o k n Q) : EX G i pc L st h o k n Q := by
  intro p l e s m args below meth c H locs ls C hl hR hS
  exact lv_ldc C.1 C.2.1 C.2.2.2.2.1 (C.2.2.2.2.2.1 _ (List.mem_filter.mpr ⟨zchk_mem LC_chk _ hq, rfl⟩)) hd (kk p l e s m args below meth c H locs ls C hl hR hS)
theorem s_ldcw {idx : Nat} {v : Int32} (hd : decode (mC i) pc = .ok (.ldc_w idx, 3)) (hq : ((mN i).cls, idx, v) ∈ LCk) (kk : EX G i (pc + 3) L (.int v :: st) h o k n Q) : EX G i pc L st h o k n Q := by
  intro p l e s m args below meth c H locs ls C hl hR hS
  exact lv_ldcw C.1 C.2.1 C.2.2.2.2.1 (C.2.2.2.2.2.1 _ (List.mem_filter.mpr ⟨zchk_mem LC_chk _ hq, rfl⟩)) hd (kk p l e s m args below meth c H locs ls C hl hR hS)
theorem s_ldcS {idx tn : Nat} (hd : decode (mC i) pc = .ok (.ldc idx, 2)) (hq : (STRS.any fun z => z.1 == (mN i).cls && z.2.1 == idx && z.2.2.2 == tn) = true) (kk : EX G i (pc + 2) L (.ref (gS G tn) :: st) h o k n Q) : EX G i pc L st h o k n Q := by
  intro p l e s m args below meth c H locs ls C hl hR hS
  obtain ⟨z, hz, hz2⟩ := List.any_eq_true.mp hq
  simp only [Bool.and_eq_true, beq_iff_eq] at hz2
  have hv := C.2.2.2.2.2.2.2.2.2.1.2.2.2.2.2.1 z hz
  rw [hz2.1.1, hz2.1.2, hz2.2] at hv
  exact va_ldcS C.1 C.2.1 C.2.2.2.2.1 hv hd (kk p l e s m args below meth c H locs ls C hl hR hS)
theorem s_objInit {a idx : Nat} (hd : decode (mC i) pc = .ok (.invokespecial idx, 3)) (hq : ((mN i).cls, idx) ∈ OIk) (hf : 1 ≤ (mF i).1) (hlo : (st.map fun v => v.category).sum + 12 ≤ (mF i).2) (kk : EX G i (pc + 3) L st h o k n Q) : EX G i pc L (.ref a :: st) h o k n Q := by
  intro p l e s m args below meth c H locs ls C hl hR hS
  have hts := C.2.2.2.2.2.1
  exact W.objInit C.1 C.2.1 C.2.2.2.2.1 (hts _ (List.mem_filter.mpr ⟨zchk_mem OI_chk _ hq, rfl⟩)) (hts _ OI_inst) (hts _ OI_code) rfl (by rw [C.2.2.2.1]; exact hl.1) rfl hd hf (by show 2 * 0 + _ + 12 ≤ (mF i).2; omega) (kk p l e s m args below meth c H locs ls C hl hR hS)
theorem s_min {x y : Int32} {idx : Nat} (hd : decode (mC i) pc = .ok (.invokestatic idx, 3)) (hq : ((mN i).cls, idx) ∈ MMmin) (hf : 1 ≤ (mF i).1) (hlo : (st.map fun v => v.category).sum + 13 ≤ (mF i).2) (hk : k ≤ (mMc i).1) (hn : n ≤ (mMc i).2) (kk : EX G i (pc + 3) L (.int (if y < x then y else x) :: st) h o k n Q) : EX G i pc L (.int y :: .int x :: st) h o k n Q := by
  intro p l e s m args below meth c H locs ls C hl hR hS
  have hts := C.2.2.2.2.2.1
  exact va_mmin C.1 C.2.1 (C.2.2.2.1.trans hl.1.symm) C.2.2.2.2.1 (hts _ (List.mem_filter.mpr ⟨zchk_mem MMmin_chk _ hq, rfl⟩)) (hts _ MMmin_st) (hts _ MM_in) (hts _ MMmin_co) hf hlo hk hn hd (kk p l e s m args below meth c H locs ls C hl hR hS)
theorem s_max {x y : Int32} {idx : Nat} (hd : decode (mC i) pc = .ok (.invokestatic idx, 3)) (hq : ((mN i).cls, idx) ∈ MMmax) (hf : 1 ≤ (mF i).1) (hlo : (st.map fun v => v.category).sum + 13 ≤ (mF i).2) (hk : k ≤ (mMc i).1) (hn : n ≤ (mMc i).2) (kk : EX G i (pc + 3) L (.int (if x < y then y else x) :: st) h o k n Q) : EX G i pc L (.int y :: .int x :: st) h o k n Q := by
  intro p l e s m args below meth c H locs ls C hl hR hS
  have hts := C.2.2.2.2.2.1
  exact va_mmax C.1 C.2.1 (C.2.2.2.1.trans hl.1.symm) C.2.2.2.2.1 (hts _ (List.mem_filter.mpr ⟨zchk_mem MMmax_chk _ hq, rfl⟩)) (hts _ MMmax_st) (hts _ MM_in) (hts _ MMmax_co) hf hlo hk hn hd (kk p l e s m args below meth c H locs ls C hl hR hS)
theorem Rep.push {z : Nat} {e : AE} {H H1 : Heap} (hR : Rep G h (some z) H) (he : va_at (gD G) vwCl (z, toE G e) H1) (hz : H1.size = z + 1) (oq : ∀ q : Nat, q < z → H1[q]? = H[q]?) : Rep G (hup h z e) (some (z + 1)) H1 := by
  have hsz : H.size = z := hR.1 z rfl
  have hb := hR.2.1
  refine ⟨fun w hw => ?_, by omega, fun b e1 hb1 => ?_⟩
  · cases hw
    exact hz
  · by_cases hba : b = z
    · subst hba
      rw [hup_at] at hb1
      cases hb1
      exact ⟨by omega, he⟩
    · rw [hup_ne h e hba] at hb1
      have h2 := hR.2.2 b e1 hb1
      exact ⟨h2.1, h2.2.kept (oq b (by have := h2.2.lt; dsimp only at this; omega))⟩
/-- a new object: at the heap's end -/
theorem s_new {z idx ci : Nat} {fs : List Value} {r : vw_C} (hd : decode (mC i) pc = .ok (.new idx, 3)) (hq : ((mN i).cls, idx, ci) ∈ NLk) (hr : vwCl[ci]? = some r) (hfs : ∀ j, j < r.2.2 → defaultValue (tyC ci j) = vp_V fs j) (hk : k + 1 ≤ (mMc i).1) (hn : n + r.2.2 ≤ (mMc i).2)
    (kk : EX G i (pc + 3) L (.ref z :: st) (hup h z (.inr (ci, fs))) (some (z + 1)) (k + 1) (n + r.2.2) Q) : EX G i pc L st h (some z) k n Q := by
  intro p l e s m args below meth c H locs ls C hl hR hS
  have C0 := C
  obtain ⟨hx, hb, hrt, hml, hown, hts, hlocks, hnm, hst, hK, htab⟩ := C
  obtain ⟨hin, hdn, hpt⟩ := cl_ok hr
  have hKn := hK.1.1 ci _ hr
  have hsz : H.size = z := hR.1 z rfl
  have h0 := List.mem_filter.mpr ⟨zchk_mem NL_chk _ hq, List.all_eq_true.mp NL_good _ hq⟩
  dsimp only [nlw] at h0
  rw [hr] at h0
  have hci : ci < 14 := by
    have := (List.getElem?_eq_some_iff.mp hr).1
    exact this
  have hp := List.all_eq_true.mp CLp_ok ci (List.mem_range.mpr hci)
  cases hp9 : CLp[ci]? with
  | none => rw [hr, hp9] at hp; simp at hp
  | some q =>
    rw [hr, hp9] at hp
    simp only [Bool.and_eq_true, decide_eq_true_eq] at hp
    refine W.newcK hx hb hown (hts _ h0) (hts _ (inG _ hp.1 rfl)) (hts _ (inG _ hp.2 rfl)) rfl hd hk hn hKn.2.1 hsz fun H1 kC hkC e1 z1 o1 => ?_
    exact kk p l e s m args below meth c H1 locs ls C0 hl (hR.push ⟨_, hr, (u_born (tyC ci) hts hin hKn hkC e1 hpt).to hfs⟩ z1 o1) ⟨Nat.le_trans hS.1 (by omega), fun x h1 h2 => (o1 x (by have := hS.1; omega)).trans (hS.2.1 x h1 h2), hS.2.2⟩
theorem s_newInt {z : Nat} {v : Int32} {N : Nat} (hd : decode (mC i) pc = .ok (.newarray .int, 2)) (hv : ¬ v < 0) (hN : v.toNatClampNeg = N) (hb : N * 4 ≤ 536870912) (hk : k + 1 ≤ (mMc i).1) (hn : n + N ≤ (mMc i).2)
    (kk : EX G i (pc + 2) L (.ref z :: st) (hup h z (.inl (0, N, .inl (fun _ => 0)))) (some (z + 1)) (k + 1) (n + N) Q) : EX G i pc L (.int v :: st) h (some z) k n Q := by
  intro p l e s m args below meth c H locs ls C hl hR hS
  have hsz : H.size = z := hR.1 z rfl
  have hK := C.2.2.2.2.2.2.2.2.2.1
  refine va_newaK (atype := .int) C.1 C.2.1 (C.2.2.2.2.2.1 _ AC_int) rfl hd rfl hv hN hb hk hn hsz fun H1 cA e1 z1 o1 hAr hNm => ?_
  have hcA : cA = gA G 0 := Option.some.inj (hNm.symm.trans (hK.1.2 0 _ rfl).2)
  subst hcA
  exact kk p l e s m args below meth c H1 locs ls C hl (hR.push e1 z1 o1) ⟨Nat.le_trans hS.1 (by omega), fun x h1 h2 => (o1 x (by have := hS.1; omega)).trans (hS.2.1 x h1 h2), hS.2.2⟩
theorem s_newLong {z : Nat} {v : Int32} {N : Nat} (hd : decode (mC i) pc = .ok (.newarray .long, 2)) (hv : ¬ v < 0) (hN : v.toNatClampNeg = N) (hb : N * 8 ≤ 536870912) (hk : k + 1 ≤ (mMc i).1) (hn : n + N ≤ (mMc i).2)
    (kk : EX G i (pc + 2) L (.ref z :: st) (hup h z (.inl (1, N, .inr (.inl (fun _ => 0))))) (some (z + 1)) (k + 1) (n + N) Q) : EX G i pc L (.int v :: st) h (some z) k n Q := by
  intro p l e s m args below meth c H locs ls C hl hR hS
  have hsz : H.size = z := hR.1 z rfl
  have hK := C.2.2.2.2.2.2.2.2.2.1
  refine va_newaK (atype := .long) C.1 C.2.1 (C.2.2.2.2.2.1 _ AC_long) rfl hd rfl hv hN hb hk hn hsz fun H1 cA e1 z1 o1 hAr hNm => ?_
  have hcA : cA = gA G 1 := Option.some.inj (hNm.symm.trans (hK.1.2 1 _ rfl).2)
  subst hcA
  exact kk p l e s m args below meth c H1 locs ls C hl (hR.push e1 z1 o1) ⟨Nat.le_trans hS.1 (by omega), fun x h1 h2 => (o1 x (by have := hS.1; omega)).trans (hS.2.1 x h1 h2), hS.2.2⟩
theorem s_areturnR {v : Value} (hd : decode (mC i) pc = .ok (.areturn, 1)) (hr : refRet (mR i) = true) (hv : v = .null ∨ ∃ a, v = .ref a) (hk : k ≤ (mRc i).1) (hn : n ≤ (mRc i).2) (kk : Q (.inl (some v)) h o) : EX G i pc L [v] h o k n Q := by
  intro p l e s m args below meth c H locs ls C hl hR hS
  have hlocks := C.2.2.2.2.2.2.1
  unfold refRet at hr
  split at hr
  · rename_i e9
    exact x_ret hk hn (W.aret C.1 C.2.1 (C.2.2.1.trans e9) (Or.inl ⟨_, rfl⟩) hv (fun t ht hW => ⟨_, h, o, rfl, kk, by rw [ht]; exact hR, hS.F ht⟩) hS.2.2 hd)
  · rename_i e9
    exact x_ret hk hn (W.aret C.1 C.2.1 (C.2.2.1.trans e9) (Or.inr ⟨_, rfl⟩) hv (fun t ht hW => ⟨_, h, o, rfl, kk, by rw [ht]; exact hR, hS.F ht⟩) hS.2.2 hd)
  · cases hr
theorem s_nreturn {v : Int32} {ty : FieldType} (hd : decode (mC i) pc = .ok (.ireturn, 1)) (hr : mR i = some ty) (hv : narrow ty (.int v) = .int v) (hk : k ≤ (mRc i).1) (hn : n ≤ (mRc i).2) (kk : Q (.inl (some (.int v))) h o) : EX G i pc L [.int v] h o k n Q := by
  intro p l e s m args below meth c H locs ls C hl hR hS
  have hlocks := C.2.2.2.2.2.2.1
  exact x_ret hk hn (W.zret C.1 C.2.1 (C.2.2.1.trans hr) hv (fun t ht hW => ⟨_, h, o, rfl, kk, by rw [ht]; exact hR, hS.F ht⟩) hS.2.2 hd)
theorem s_newByte {z : Nat} {v : Int32} {N : Nat} (hd : decode (mC i) pc = .ok (.newarray .byte, 2)) (hv : ¬ v < 0) (hN : v.toNatClampNeg = N) (hb : N * 1 ≤ 536870912) (hk : k + 1 ≤ (mMc i).1) (hn : n + N ≤ (mMc i).2)
    (kk : EX G i (pc + 2) L (.ref z :: st) (hup h z (.inl (3, N, .inl (fun _ => 0)))) (some (z + 1)) (k + 1) (n + N) Q) : EX G i pc L (.int v :: st) h (some z) k n Q := by
  intro p l e s m args below meth c H locs ls C hl hR hS
  have hsz : H.size = z := hR.1 z rfl
  have hK := C.2.2.2.2.2.2.2.2.2.1
  refine va_newaK (atype := .byte) C.1 C.2.1 (C.2.2.2.2.2.1 _ AC_byte) rfl hd rfl hv hN hb hk hn hsz fun H1 cA e1 z1 o1 hAr hNm => ?_
  have hcA : cA = gA G 3 := Option.some.inj (hNm.symm.trans (hK.1.2 3 _ rfl).2)
  subst hcA
  exact kk p l e s m args below meth c H1 locs ls C hl (hR.push e1 z1 o1) ⟨Nat.le_trans hS.1 (by omega), fun x h1 h2 => (o1 x (by have := hS.1; omega)).trans (hS.2.1 x h1 h2), hS.2.2⟩
end ST15
