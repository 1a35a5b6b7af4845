/-! 12: calls and throws -/
theorem cw_in {j : Nat} (h : mOK j = true) : cw j ∈ TBLg ∧ Cond.initialized (mN j).cls ∈ TBLg ∧ (mK j = 1 → Cond.static (mN j) ∈ TBLg) ∧ (mK j ≠ 1 → Cond.instanceMethod (mN j) ∈ TBLg) ∧ (mK j = 0 → Cond.selects (mN j).cls (mN j) (mN j) ∈ TBLg) ∧ (mK j = 2 → (mN j).name = "<init>") ∧
    ((mN j).cls ≠ "java/lang/invoke/MethodHandle" ∧ (mN j).cls ≠ "java/lang/invoke/VarHandle") ∧ plainName (mN j).cls = true ∧ (parseMethodDescriptor (mN j).desc).map (fun d => d.parameters.length) = some (mNp j) := by
  unfold mOK at h
  simp only [Bool.and_eq_true, decide_eq_true_eq] at h
  obtain ⟨⟨⟨⟨⟨⟨h1, h2⟩, h3⟩, h4⟩, h5⟩, h6⟩, h7⟩ := h
  have g : ∀ {w : Cond} {i : Nat}, sx_tbl[i]? = some w → goodWord w = true → w ∈ TBLg := fun {w i} a b => inG i a b
  refine ⟨g h1 ?_, g h2 rfl, fun hk => ?_, fun hk => ?_, fun hk => ?_, fun hk0 => ?_, ⟨h4, h5⟩, h6, h7⟩
  · unfold cw
    split <;> rfl
  · rw [if_pos hk] at h3
    exact g (of_decide_eq_true h3) rfl
  · rw [if_neg hk, Bool.and_eq_true] at h3
    exact g (of_decide_eq_true h3.1) rfl
  · rw [if_neg (by omega), Bool.and_eq_true, if_pos hk] at h3
    exact g (of_decide_eq_true h3.2) rfl
  · rw [if_neg (by omega), Bool.and_eq_true, if_neg (by omega)] at h3
    have h9 := h3.2
    simp only [Bool.or_eq_true, decide_eq_true_eq] at h9
    exact h9.resolve_left (by omega)
section ST12
variable {G : GG} {i pc j : Nat} {L : List (Nat × Value)} {as st : List Value} {h : HM} {o : Option Nat} {k n : Nat} {Q Qj : XQ}
variable {p : Program} {l : Launch} {e : Env} {s : State} {m : MethodId} {args : Array Value} {below : List Frame} {meth : Method} {c : Code} {H : Heap} {locs : List Loc} {ls : Array Slot}
theorem XPc.blind : FrameBlind (XPc G as h o) := fun a U g mk hp => ⟨hp.1, hp.2.1.calling, hp.2.2⟩
theorem x_words (C : CTX G i p l s m args meth c) (hc : cw j ∈ TBLg) : ∀ w ∈ mws j, ∀ (a' : Array Value) (U : State), s.WarmedH U.vm → w.before a' U = true := by
  intro w hw a' U hW
  have hg : w ∈ TBLg := by
    rcases List.mem_cons.mp hw with rfl | hw
    · exact hc
    · exact hw
  exact word_at hW (good_of_word (TBLg_good w hg)) (C.2.2.2.2.2.1 w hg)
theorem x_bk (C : CTX G i p l s m args meth c) (hj : mOwn j = true) (hr : Runs G j as h o Qj) (hrm : (mF j).1 + 1 ≤ (mF i).1 ∧ 8 + (mL j + 11) + (mF j).2 ≤ (mF i).2) :
    vx_Back l (rmI i) p e below s args (mN j) 3 8 (PreOf (rmI i) (mMc j).1 (mMc j).2 (XPc G as h o)) (PostOf (XQc G Qj) (mRc j).1 (mRc j).2 (gI G)) (vx_Post (XXc G Qj) (mMc j).1 (mMc j).2 (gI G)) := by
  obtain ⟨hj1, hj2⟩ := mOwn_spec hj
  obtain ⟨hc, hi, -⟩ := cw_in hj2
  exact x_back (rm := rmI j) (hr l C.2.2.2.2.2.2.2.2.1) XPc.blind rfl rfl hrm.1 hrm.2 (x_words C hc) List.mem_cons_self (fun a' U hW => word_at hW (Or.inl rfl) (C.2.2.2.2.2.1 _ hi))
theorem x_bk5 (C : CTX G i p l s m args meth c) (hj : mOwn j = true) (hr : Runs G j as h o Qj) (hrm : (mF j).1 + 1 ≤ (mF i).1 ∧ 8 + (mL j + 11) + (mF j).2 ≤ (mF i).2) :
    vx_Back l (rmI i) p e below s args (mN j) 5 8 (PreOf (rmI i) (mMc j).1 (mMc j).2 (XPc G as h o)) (PostOf (XQc G Qj) (mRc j).1 (mRc j).2 (gI G)) (vx_Post (XXc G Qj) (mMc j).1 (mMc j).2 (gI G)) := by
  obtain ⟨hj1, hj2⟩ := mOwn_spec hj
  obtain ⟨hc, hi, -⟩ := cw_in hj2
  exact x_back (rm := rmI j) (hr l C.2.2.2.2.2.2.2.2.1) XPc.blind rfl rfl hrm.1 hrm.2 (x_words C hc) List.mem_cons_self (fun a' U hW => word_at hW (Or.inl rfl) (C.2.2.2.2.2.1 _ hi))
theorem x_pre (C : CTX G i p l s m args meth c) (hR : Rep G h o H) (hS : va_S (gI G) s.heap H locs) (U : State) (hU : U.heap = H) (hW : s.WarmedH U.vm) : XPc G as h o as.toArray U := by
  refine ⟨rfl, KK.next C.2.2.2.2.2.2.2.2.2.1 hW (by rw [hU]; exact hS.1) (fun q h1 h2 => by rw [hU]; exact hS.2.1 q h1 h2), by rw [hU]; exact hR⟩
theorem x_fin {T : State} {st0 : List Value} {a : Array Value} {vmz : Vm → Pt} (hvz : ∀ v, (vmz v).U.heap = H ∧ (vmz v).locs = locs ∧ (vmz v).cells = k ∧ (vmz v).slots = n) (C : CTX G i p l s m args meth c) (hl : lv_has ls (mL i) L) (hR : Rep G h o H) (hS : va_S (gI G) s.heap H locs)
    (hdis : (∃ (v : Option Value) (vm₁ : Vm) (B : Pt), s.WarmedH vm₁ ∧ Stand p l e (rmI i) s m args below meth c B.U B.locs B.cells B.slots ∧ PostOf (XQc G Qj) (mRc j).1 (mRc j).2 (gI G) (vmz vm₁) a v B ∧
        ∀ target, Steps p.tables e below (B.U.setTop { F0 m pc ls st0 with pc := pc + 3, stack := v.toList ++ st }) target → Steps p.tables e below (T.setTop (F0 m pc ls st0)) target) ∨
      (∃ (q : Addr) (vm₁ : Vm) (B : Pt), s.WarmedH vm₁ ∧ Stand p l e (rmI i) s m args below meth c B.U B.locs B.cells B.slots ∧ vx_Post (XXc G Qj) (mMc j).1 (mMc j).2 (gI G) (vmz vm₁) a q B ∧
        Steps p.tables e below (T.setTop (F0 m pc ls st0)) ((B.U.setTop { F0 m pc ls st0 with stack := st }).pushFrame (.throwing q))))
    (hvw : ∀ v, (vmz v).U.vm = v)
    (kr : ∀ v h' o', Qj (.inl v) h' o' → EX G i (pc + 3) L (v.toList ++ st) h' o' (k + (mRc j).1) (n + (mRc j).2) Q)
    (kx : ∀ E h' o', Qj (.inr E) h' o' → EXT G i pc L E h' o' (k + (mMc j).1) (n + (mMc j).2) Q) :
    ∃ t, Steps p.tables e below (T.setTop (F0 m pc ls st0)) t ∧ xMQ below (XQc G Q) (XXc G Q) args s (mRc i).1 (mRc i).2 (mMc i).1 (mMc i).2 (gI G) t := by
  rcases hdis with ⟨v, vm₁, ⟨U', l2, c2, s2⟩, hW₁, X', ⟨g', mk, t, Lo, e1, e2, ⟨r9, h', o', hv, hq, hR', hF⟩, g1, hL, g2, g3⟩, st9⟩ | ⟨q, vm₁, ⟨U', l2, c2, s2⟩, hW₁, X', ⟨g', mk, t, Lo, E, ce, e1, e2, ⟨h', o', hq, hR', hF⟩, hce, hcv, hcl, g1, hL, g2, g3⟩, st9⟩
  · dsimp only [Pt.U, Pt.locs, Pt.cells, Pt.slots] at X' e1 e2 g1 g2 g3 st9
    obtain ⟨z1, z2, z3, z4⟩ := hvz vm₁
    dsimp only [Pt.U, Pt.locs, Pt.cells, Pt.slots] at z1 z2 z3 z4
    cases hv
    rw [z2] at g1
    rw [z3] at g2
    rw [z4] at g3
    subst g1; subst g2; subst g3
    obtain ⟨-, -, k3⟩ := vx_keep (H := H) (T' := U') (st₀ := ((vmz vm₁).1).calling g' mk a) z1 e1 hS (fun q _ h => h) (fun q h => h) hL hF
    obtain ⟨t2, a1, b1⟩ := kr _ h' o' hq p l e s m args below meth c U'.heap _ ls C hl (by rw [e1]; exact hR') k3 U' rfl X'
    exact ⟨t2, st9 t2 a1, b1⟩
  · dsimp only [Pt.U, Pt.locs, Pt.cells, Pt.slots] at X' e1 e2 g1 g2 g3 st9 hcl
    obtain ⟨z1, z2, z3, z4⟩ := hvz vm₁
    have z5 := hvw vm₁
    dsimp only [Pt.U, Pt.locs, Pt.cells, Pt.slots] at z1 z2 z3 z4 z5
    rw [z2] at g1
    rw [z3] at g2
    rw [z4] at g3
    subst g1; subst g2; subst g3
    obtain ⟨-, -, k3⟩ := vx_keep (H := H) (T' := U') (st₀ := ((vmz vm₁).1).calling g' mk a) z1 e1 hS (fun q _ h => h) (fun q h => h) hL hF
    have hcl' : s.vm.findClass E = some ce.cls := by
      rw [z5] at hcl
      rw [← hW₁.alike.findClass]
      exact hcl
    obtain ⟨t2, a1, b1⟩ := kx E h' o' hq p l e s m args below meth c U'.heap _ ls q ce st C hl (by rw [e1]; exact hR') k3 (by rw [e1]; exact hce) hcv hcl' U' rfl X'
    exact ⟨t2, st9.trans a1, b1⟩
theorem x_fin5 {T : State} {st0 : List Value} {a : Array Value} {vmz : Vm → Pt} (hvz : ∀ v, (vmz v).U.heap = H ∧ (vmz v).locs = locs ∧ (vmz v).cells = k ∧ (vmz v).slots = n) (C : CTX G i p l s m args meth c) (hl : lv_has ls (mL i) L) (hR : Rep G h o H) (hS : va_S (gI G) s.heap H locs)
    (hdis : (∃ (v : Option Value) (vm₁ : Vm) (B : Pt), s.WarmedH vm₁ ∧ Stand p l e (rmI i) s m args below meth c B.U B.locs B.cells B.slots ∧ PostOf (XQc G Qj) (mRc j).1 (mRc j).2 (gI G) (vmz vm₁) a v B ∧
        ∀ target, Steps p.tables e below (B.U.setTop { F0 m pc ls st0 with pc := pc + 5, stack := v.toList ++ st }) target → Steps p.tables e below (T.setTop (F0 m pc ls st0)) target) ∨
      (∃ (q : Addr) (vm₁ : Vm) (B : Pt), s.WarmedH vm₁ ∧ Stand p l e (rmI i) s m args below meth c B.U B.locs B.cells B.slots ∧ vx_Post (XXc G Qj) (mMc j).1 (mMc j).2 (gI G) (vmz vm₁) a q B ∧
        Steps p.tables e below (T.setTop (F0 m pc ls st0)) ((B.U.setTop { F0 m pc ls st0 with stack := st }).pushFrame (.throwing q))))
    (hvw : ∀ v, (vmz v).U.vm = v)
    (kr : ∀ v h' o', Qj (.inl v) h' o' → EX G i (pc + 5) L (v.toList ++ st) h' o' (k + (mRc j).1) (n + (mRc j).2) Q)
    (kx : ∀ E h' o', Qj (.inr E) h' o' → EXT G i pc L E h' o' (k + (mMc j).1) (n + (mMc j).2) Q) :
    ∃ t, Steps p.tables e below (T.setTop (F0 m pc ls st0)) t ∧ xMQ below (XQc G Q) (XXc G Q) args s (mRc i).1 (mRc i).2 (mMc i).1 (mMc i).2 (gI G) t := by
  rcases hdis with ⟨v, vm₁, ⟨U', l2, c2, s2⟩, hW₁, X', ⟨g', mk, t, Lo, e1, e2, ⟨r9, h', o', hv, hq, hR', hF⟩, g1, hL, g2, g3⟩, st9⟩ | ⟨q, vm₁, ⟨U', l2, c2, s2⟩, hW₁, X', ⟨g', mk, t, Lo, E, ce, e1, e2, ⟨h', o', hq, hR', hF⟩, hce, hcv, hcl, g1, hL, g2, g3⟩, st9⟩
  · dsimp only [Pt.U, Pt.locs, Pt.cells, Pt.slots] at X' e1 e2 g1 g2 g3 st9
    obtain ⟨z1, z2, z3, z4⟩ := hvz vm₁
    dsimp only [Pt.U, Pt.locs, Pt.cells, Pt.slots] at z1 z2 z3 z4
    cases hv
    rw [z2] at g1
    rw [z3] at g2
    rw [z4] at g3
    subst g1; subst g2; subst g3
    obtain ⟨-, -, k3⟩ := vx_keep (H := H) (T' := U') (st₀ := ((vmz vm₁).1).calling g' mk a) z1 e1 hS (fun q _ h => h) (fun q h => h) hL hF
    obtain ⟨t2, a1, b1⟩ := kr _ h' o' hq p l e s m args below meth c U'.heap _ ls C hl (by rw [e1]; exact hR') k3 U' rfl X'
    exact ⟨t2, st9 t2 a1, b1⟩
  · dsimp only [Pt.U, Pt.locs, Pt.cells, Pt.slots] at X' e1 e2 g1 g2 g3 st9 hcl
    obtain ⟨z1, z2, z3, z4⟩ := hvz vm₁
    have z5 := hvw vm₁
    dsimp only [Pt.U, Pt.locs, Pt.cells, Pt.slots] at z1 z2 z3 z4 z5
    rw [z2] at g1
    rw [z3] at g2
    rw [z4] at g3
    subst g1; subst g2; subst g3
    obtain ⟨-, -, k3⟩ := vx_keep (H := H) (T' := U') (st₀ := ((vmz vm₁).1).calling g' mk a) z1 e1 hS (fun q _ h => h) (fun q h => h) hL hF
    have hcl' : s.vm.findClass E = some ce.cls := by
      rw [z5] at hcl
      rw [← hW₁.alike.findClass]
      exact hcl
    obtain ⟨t2, a1, b1⟩ := kx E h' o' hq p l e s m args below meth c U'.heap _ ls q ce st C hl (by rw [e1]; exact hR') k3 (by rw [e1]; exact hce) hcv hcl' U' rfl X'
    exact ⟨t2, st9.trans a1, b1⟩
end ST12
