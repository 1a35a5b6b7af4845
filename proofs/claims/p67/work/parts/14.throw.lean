/-! 14: throws, constants, new cells, Math -/
def XLp : List (Nat × Nat) := [(812, 822), (812, 822), (812, 822), (1467, 1469), (812, 822), (812, 822), (812, 822), (812, 822), (812, 822), (812, 822), (812, 822), (812, 822), (812, 822), (812, 822), (1223, 1233), (1223, 1233), (520, 562), (1152, 1154), (1164, 1166), (1164, 1166)]
def chN : List String := ["java/lang/RuntimeException", "java/lang/Exception"]
def XLchk : List (String × Nat × Nat × Nat × Nat × Nat) → List (Nat × Nat) → Bool
  | [], [] => true
  | q :: l, r :: t => decide (sx_tbl[r.1]? = some (.classLink q.1 q.2.1 (exN q.2.2.2.2.1))) && decide (sx_tbl[r.2]? = some (.methodLink q.1 q.2.2.2.1 (Bundle.initS (exN q.2.2.2.2.1)))) && decide (q.2.2.2.2.1 < 3) && (STRS.any fun z => z.1 == q.1 && z.2.1 == q.2.2.1 && z.2.2.2 == q.2.2.2.2.2) && XLchk l t
  | _, _ => false
theorem XL_ok : XLchk XLk XLp = true := by decide +kernel
theorem XL_spec : ∀ {l : List (String × Nat × Nat × Nat × Nat × Nat)} {t : List (Nat × Nat)}, XLchk l t = true → ∀ q ∈ l, Cond.classLink q.1 q.2.1 (exN q.2.2.2.2.1) ∈ TBLg ∧ Cond.methodLink q.1 q.2.2.2.1 (Bundle.initS (exN q.2.2.2.2.1)) ∈ TBLg ∧ q.2.2.2.2.1 < 3 ∧ ∃ tx : String, (q.1, q.2.2.1, tx, q.2.2.2.2.2) ∈ STRS := by
  intro l
  induction l with
  | nil => intro t _ q hq; cases hq
  | cons b l ih =>
    intro t h q hq
    cases t with
    | nil => simp [XLchk] at h
    | cons r t =>
      simp only [XLchk, Bool.and_eq_true, decide_eq_true_eq] at h
      obtain ⟨⟨⟨⟨h1, h2⟩, h3⟩, h4⟩, h5⟩ := h
      rcases List.mem_cons.mp hq with rfl | hq
      · obtain ⟨z, hz, hz2⟩ := List.any_eq_true.mp h4
        simp only [Bool.and_eq_true, beq_iff_eq] at hz2
        obtain ⟨z1, z2, z3, z4⟩ := z
        obtain ⟨⟨e1, e2⟩, e3⟩ := hz2
        dsimp only at e1 e2 e3
        subst e1; subst e2; subst e3
        exact ⟨inG _ h1 rfl, inG _ h2 rfl, h3, z3, hz⟩
      · exact ih h5 q hq
def thA (X : String) (names : List String) : List Cond := Bundle.throwableAtoms ++ Bundle.throwableSAtoms ++ Bundle.chainSAtoms X names
def thT (X : String) (names : List String) : List Cond := ((Bundle.ownAtoms "" 0 X names).drop (thA X names).length).tail
def thrW (k : Nat) : Bool := ((thA (exN k) chN ++ thT (exN k) chN).filter vx_no).all fun w => decide (w = .castable (exN k) (exN k)) || DECLS.any (fun q => decide (w = .declares q)) || (decide (w ∈ sx_tbl) && goodWord w)
theorem thrW0 : thrW 0 = true := by decide +kernel
theorem thrW1 : thrW 1 = true := by decide +kernel
theorem thrW2 : thrW 2 = true := by decide +kernel
theorem exI0 : Cond.initialized (exN 0) ∈ TBLg := inG 51 (by decide +kernel) rfl
theorem exI1 : Cond.initialized (exN 1) ∈ TBLg := inG 52 (by decide +kernel) rfl
theorem exI2 : Cond.initialized (exN 2) ∈ TBLg := inG 53 (by decide +kernel) rfl
theorem thr_in {own : String} {ic : Nat} {X : String} {names : List String} {w : Cond} (hw : w ∈ vx_atS own ic X names) : w = .methodLink own ic (Bundle.initS X) ∨ w ∈ (thA X names ++ thT X names).filter vx_no := by
  obtain ⟨h1, h2⟩ := List.mem_filter.mp hw
  unfold Bundle.ownAtoms at h1
  rcases List.mem_append.mp h1 with h1 | h1
  · exact Or.inr (List.mem_filter.mpr ⟨List.mem_append_left _ h1, h2⟩)
  · rcases List.mem_cons.mp h1 with h1 | h1
    · exact Or.inl h1
    · refine Or.inr (List.mem_filter.mpr ⟨List.mem_append_right _ ?_, h2⟩)
      unfold thT Bundle.ownAtoms thA
      rw [List.drop_left]
      exact h1
section ST14
variable {G : GG} {i pc : Nat} {L : List (Nat × Value)} {st : List Value} {h : HM} {o : Option Nat} {k n : Nat} {Q : XQ}
theorem thr_all {s : State} {args : Array Value} {own : String} {ic kd : Nat} (hkd : kd < 3) (hts : ∀ w ∈ TBLg, w.before args s = true) (hK : KK G s) (hm : Cond.methodLink own ic (Bundle.initS (exN kd)) ∈ TBLg) : ∀ w ∈ vx_atS own ic (exN kd) chN, w.before args s = true ∧ vx_ot w = true := by
  intro w hw
  have hall : thrW kd = true := by
    rcases (show kd = 0 ∨ kd = 1 ∨ kd = 2 by omega) with rfl | rfl | rfl
    · exact thrW0
    · exact thrW1
    · exact thrW2
  have hg : ∀ w ∈ TBLg, w.before args s = true ∧ vx_ot w = true := fun w hw => ⟨hts w hw, by unfold vx_ot; rw [TBLg_good w hw]; exact Bool.or_true _⟩
  rcases thr_in hw with rfl | hw
  · exact hg _ hm
  · have h1 := List.all_eq_true.mp hall w hw
    simp only [Bool.or_eq_true, Bool.and_eq_true, decide_eq_true_eq] at h1
    rcases h1 with (h1 | h1) | ⟨h1, h2⟩
    · rw [h1]
      exact ⟨va_Nw.use rfl (hK.2.2.2.1 kd hkd), rfl⟩
    · obtain ⟨q, hq, he⟩ := List.any_eq_true.mp h1
      rw [of_decide_eq_true he]
      exact ⟨va_Nw.use rfl (hK.2.2.2.2.2.2.2.2.2.2.2.2.2.2.1 q hq), rfl⟩
    · exact hg w (List.mem_filter.mpr ⟨h1, h2⟩)
theorem exI {kd : Nat} (h : kd < 3) : Cond.initialized (exN kd) ∈ TBLg := by
  rcases (show kd = 0 ∨ kd = 1 ∨ kd = 2 by omega) with rfl | rfl | rfl
  · exact exI0
  · exact exI1
  · exact exI2
/-- throw new E("text") -/
theorem s_throw {ik is ic kd tn : Nat} (hq : ((mN i).cls, ik, is, ic, kd, tn) ∈ XLk) (d0 : decode (mC i) pc = .ok (.new ik, 3)) (d3 : decode (mC i) (pc + 3) = .ok (.dup, 1)) (d4 : decode (mC i) (pc + 4) = .ok (.ldc is, 2)) (d6 : decode (mC i) (pc + 6) = .ok (.invokespecial ic, 3)) (d9 : decode (mC i) (pc + 9) = .ok (.athrow, 1))
    (hh : mHH i = []) (hf : 6 ≤ (mF i).1) (hlo : 90 ≤ (mF i).2) (hk : k + 1 ≤ (mMc i).1) (hn : n + 6 ≤ (mMc i).2) (kk : Q (.inr (exN kd)) h none) : EX G i pc L [] h o k n Q := by
  intro p l e s m args below meth c H locs ls C hl hR hS
  obtain ⟨hx, hb, hr, hml, hown, hts, hlocks, hnm, hst, hK, htab⟩ := C
  obtain ⟨w1, w2, w3, tx, w4⟩ := XL_spec XL_ok _ hq
  dsimp only at w1 w2 w3 w4
  have hat := thr_all w3 hts hK w2
  have hg : ∀ w ∈ TBLg, vx_ot w = true := fun w hw => by unfold vx_ot; rw [TBLg_good w hw]; exact Bool.or_true _
  refine x_thr (vx_throwS (A := gI G) (names := chN) hx hb hst hown (cls := exN kd) ?_ (by decide +kernel) (hts _ w1) (hts _ (exI w3)) (hK.2.2.2.2.2.1 _ w4) (fun w hw => (hat w hw).1) (fun w hw => ?_)
    hK.2.2.2.2.2.2.1 hK.2.2.2.2.2.2.2.1 hS (by rw [hml]; exact hl.1) d0 d3 d4 d6 d9 (fun x hx => by rw [htab, hh] at hx; cases hx) ?_ ?_ hk hn hlocks (fun t hvm hz hq9 => ⟨h, none, kk, ⟨fun z hz => (nomatch hz), Nat.le_trans hR.2.1 hz, fun a e9 ha => ⟨(hR.2.2 a e9 ha).1, (hR.2.2 a e9 ha).2.kept (hq9 a (hR.2.2 a e9 ha).2.lt)⟩⟩, Nat.le_trans hS.1 hz, fun q h1 h2 => (hq9 q (Nat.lt_of_lt_of_le h1 hS.1)).trans (hS.2.1 q h1 h2)⟩) hS.2.2 hk hn)
  · rcases (show kd = 0 ∨ kd = 1 ∨ kd = 2 by omega) with rfl | rfl | rfl <;> decide +kernel
  · rcases List.mem_cons.mp hw with rfl | hw
    · exact hg _ w1
    · rcases List.mem_cons.mp hw with rfl | hw
      · exact hg _ (exI w3)
      · exact (hat w hw).2
  · show 2 + 3 < (mF i).1
    omega
  · show 0 + (13 * (2 + 1) + 43) ≤ (mF i).2
    omega
theorem s_throwW {ik is ic kd tn : Nat} (hq : ((mN i).cls, ik, is, ic, kd, tn) ∈ XLk) (d0 : decode (mC i) pc = .ok (.new ik, 3)) (d3 : decode (mC i) (pc + 3) = .ok (.dup, 1)) (d4 : decode (mC i) (pc + 4) = .ok (.ldc_w is, 3)) (d7 : decode (mC i) (pc + 7) = .ok (.invokespecial ic, 3)) (d10 : decode (mC i) (pc + 10) = .ok (.athrow, 1))
    (hh : mHH i = []) (hf : 6 ≤ (mF i).1) (hlo : 90 ≤ (mF i).2) (hk : k + 1 ≤ (mMc i).1) (hn : n + 6 ≤ (mMc i).2) (kk : Q (.inr (exN kd)) h none) : EX G i pc L [] h o k n Q := by
  intro p l e s m args below meth c H locs ls C hl hR hS
  obtain ⟨hx, hb, hr, hml, hown, hts, hlocks, hnm, hst, hK, htab⟩ := C
  obtain ⟨w1, w2, w3, tx, w4⟩ := XL_spec XL_ok _ hq
  dsimp only at w1 w2 w3 w4
  have hat := thr_all w3 hts hK w2
  have hg : ∀ w ∈ TBLg, vx_ot w = true := fun w hw => by unfold vx_ot; rw [TBLg_good w hw]; exact Bool.or_true _
  refine x_thr (vx_throwSW (A := gI G) (names := chN) hx hb hst hown (cls := exN kd) ?_ (by decide +kernel) (hts _ w1) (hts _ (exI w3)) (hK.2.2.2.2.2.1 _ w4) (fun w hw => (hat w hw).1) (fun w hw => ?_)
    hK.2.2.2.2.2.2.1 hK.2.2.2.2.2.2.2.1 hS (by rw [hml]; exact hl.1) d0 d3 d4 d7 d10 (fun x hx => by rw [htab, hh] at hx; cases hx) ?_ ?_ hk hn hlocks (fun t hvm hz hq9 => ⟨h, none, kk, ⟨fun z hz => (nomatch hz), Nat.le_trans hR.2.1 hz, fun a e9 ha => ⟨(hR.2.2 a e9 ha).1, (hR.2.2 a e9 ha).2.kept (hq9 a (hR.2.2 a e9 ha).2.lt)⟩⟩, Nat.le_trans hS.1 hz, fun q h1 h2 => (hq9 q (Nat.lt_of_lt_of_le h1 hS.1)).trans (hS.2.1 q h1 h2)⟩) hS.2.2 hk hn)
  · rcases (show kd = 0 ∨ kd = 1 ∨ kd = 2 by omega) with rfl | rfl | rfl <;> decide +kernel
  · rcases List.mem_cons.mp hw with rfl | hw
    · exact hg _ w1
    · rcases List.mem_cons.mp hw with rfl | hw
      · exact hg _ (exI w3)
      · exact (hat w hw).2
  · show 2 + 3 < (mF i).1
    omega
  · show 0 + (13 * (2 + 1) + 43) ≤ (mF i).2
    omega
end ST14

