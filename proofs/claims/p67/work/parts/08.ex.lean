/-! 08: a method's run by its number; what is owed at a place of its code -/
def XQc (G : GG) (Q : XQ) : Array Value → State → Outcome → State → Prop := fun _ st oc t => ∃ (r : Option Value) (h : HM) (o : Option Nat), oc = .returned r ∧ Q (.inl r) h o ∧ Rep G h o t.heap ∧ va_F (gI G) st t
def XXc (G : GG) (Q : XQ) : String → State → State → Prop := fun E st t => ∃ (h : HM) (o : Option Nat), Q (.inr E) h o ∧ Rep G h o t.heap ∧ va_F (gI G) st t
def XPc (G : GG) (as : List Value) (h : HM) (o : Option Nat) : Array Value → State → Prop := va_Pc as (fun U => KK G U ∧ Rep G h o U.heap)
/-- method i, called with these arguments in this heap, comes to an end with Q -/
def Runs (G : GG) (i : Nat) (as : List Value) (h : HM) (o : Option Nat) (Q : XQ) : Prop :=
  ∀ l : Launch, l.stackTraces = false → xMet l (mN i) (mws i) (rmI i) (XPc G as h o) (XQc G Q) (XXc G Q) (mRc i).1 (mRc i).2 (mMc i).1 (mMc i).2 (gI G)
def CTX (G : GG) (i : Nat) (p : Program) (l : Launch) (s : State) (m : MethodId) (args : Array Value) (meth : Method) (c : Code) : Prop :=
  p.tables.exec = Jvm.exec ∧ c.code = mC i ∧ meth.sig.returnType = mR i ∧ c.maxLocals = mL i ∧ s.vm.findClass (mN i).cls = some m.cls ∧ (∀ w ∈ TBLg, w.before args s = true) ∧ meth.locks = false ∧ meth.name = (mN i).name ∧ l.stackTraces = false ∧ KK G s ∧ c.exceptionTable.toList = tableOf (mHH i)
def xMQ (below : List Frame) (Qc : Array Value → State → Outcome → State → Prop) (XC : String → State → State → Prop) (a : Array Value) (s : State) (rc rs mc ms : Nat) (free : Addr → Prop) : State → Prop := fun t =>
  ∃ o, t.status = .running ∧ Ended t below o ∧ xQ Qc XC rc rs mc ms free a s o t
/-- at pc of method i, with these locals, this stack, this heap, k cells of n slots made: the method comes to its end with Q -/
def EX (G : GG) (i pc : Nat) (L : List (Nat × Value)) (st : List Value) (h : HM) (o : Option Nat) (k n : Nat) (Q : XQ) : Prop :=
  ∀ (p : Program) (l : Launch) (e : Env) (s : State) (m : MethodId) (args : Array Value) (below : List Frame) (meth : Method) (c : Code) (H : Heap) (locs : List Loc) (ls : Array Slot),
    CTX G i p l s m args meth c → lv_has ls (mL i) L → Rep G h o H → va_S (gI G) s.heap H locs →
    W p l e (rmI i) s m args below meth c H locs k n (xMQ below (XQc G Q) (XXc G Q) args s (mRc i).1 (mRc i).2 (mMc i).1 (mMc i).2 (gI G)) (F0 m pc ls st)
/-- the same, q thrown over the frame, of class E -/
def EXT (G : GG) (i pc : Nat) (L : List (Nat × Value)) (E : String) (h : HM) (o : Option Nat) (k n : Nat) (Q : XQ) : Prop :=
  ∀ (p : Program) (l : Launch) (e : Env) (s : State) (m : MethodId) (args : Array Value) (below : List Frame) (meth : Method) (c : Code) (H : Heap) (locs : List Loc) (ls : Array Slot) (q : Addr) (ce : Cell) (st : List Value),
    CTX G i p l s m args meth c → lv_has ls (mL i) L → Rep G h o H → va_S (gI G) s.heap H locs → H[q]? = some ce → ce.vm = .none → s.vm.findClass E = some ce.cls →
    vx_W p l e (rmI i) s m args below meth c H locs k n (xMQ below (XQc G Q) (XXc G Q) args s (mRc i).1 (mRc i).2 (mMc i).1 (mMc i).2 (gI G)) (F0 m pc ls st) q
theorem Runs.mono {G : GG} {i : Nat} {as : List Value} {h : HM} {o : Option Nat} {Q Q' : XQ} (hr : Runs G i as h o Q) (hq : ∀ u h o, Q u h o → Q' u h o) : Runs G i as h o Q' := by
  intro l hl p e ha hc hk s m args below hf happ hP hK
  obtain ⟨n, oc, h1, h2, h3, h4⟩ := hr l hl p e ha hc hk s m args below hf happ hP hK
  refine ⟨n, oc, h1, h2, h3, ?_⟩
  rcases h4 with ⟨⟨r, h', o', e1, e2, e3⟩, hL⟩ | ⟨q, e0, E, ce, L, ⟨h', o', e2, e3⟩, hz⟩
  · exact Or.inl ⟨⟨r, h', o', e1, hq _ _ _ e2, e3⟩, hL⟩
  · exact Or.inr ⟨q, e0, E, ce, L, ⟨h', o', hq _ _ _ e2, e3⟩, hz⟩
section XE
variable {p : Program} {l : Launch} {e : Env} {R : Room} {s : State} {m : MethodId} {args : Array Value} {below : List Frame} {meth : Method} {c : Code} {H : Heap} {locs : List Loc} {cells slots : Nat} {Q : State → Prop}
variable {rc rs mc ms : Nat} {free : Addr → Prop} {Qc : Array Value → State → Outcome → State → Prop} {XC : String → State → State → Prop}
theorem x_ret {g : JFrame} (h1 : cells ≤ rc) (h2 : slots ≤ rs) (k : W p l e R s m args below meth c H locs rc rs (MQ below Qc args s rc rs free) g) : W p l e R s m args below meth c H locs cells slots (xMQ below Qc XC args s rc rs mc ms free) g := by
  intro T hT X
  obtain ⟨t, a1, o, b1, b2, b3, b4⟩ := k T hT (stand_widen X h1 h2)
  exact ⟨t, a1, o, b1, b2, Or.inl ⟨b3, b4⟩⟩
theorem x_thr {g : JFrame} (k : W p l e R s m args below meth c H locs cells slots (vx_MQ below (fun _ _ _ _ => False) XC args s mc ms free) g) : W p l e R s m args below meth c H locs cells slots (xMQ below Qc XC args s rc rs mc ms free) g := by
  intro T hT X
  obtain ⟨t, a1, o, b1, b2, b3⟩ := k T hT X
  rcases b3 with ⟨h, -⟩ | h
  · exact h.elim
  · exact ⟨t, a1, o, b1, b2, Or.inr h⟩
theorem x_thrW {g : JFrame} {q : Addr} (k : vx_W p l e R s m args below meth c H locs cells slots (vx_MQ below (fun _ _ _ _ => False) XC args s mc ms free) g q) : vx_W p l e R s m args below meth c H locs cells slots (xMQ below Qc XC args s rc rs mc ms free) g q := by
  intro T hT X
  obtain ⟨t, a1, o, b1, b2, b3⟩ := k T hT X
  rcases b3 with ⟨h, -⟩ | h
  · exact h.elim
  · exact ⟨t, a1, o, b1, b2, Or.inr h⟩
end XE
/-- a method's run from its first instruction -/
theorem Runs.of {G : GG} {i : Nat} {as : List Value} {h : HM} {o : Option Nat} {Q : XQ} (hy : plainName (mN i).cls = true) (hl : (lg_sl as).length ≤ mL i) (hx : EX G i 0 (lv_args 0 as) [] h o 0 0 Q) : Runs G i as h o Q := by
  intro l hst
  refine MetFree.of_bodyS (code := mC i) (maxLocals := mL i) (ret := mR i) hy ?_ ?_
  · intro args s m hp hn
    obtain ⟨meth, c, h1, h2, h3, h4, h5, h6, -⟩ := cw_spec hn (atoms_spec (ws := mws i) hp _ List.mem_cons_self)
    exact ⟨meth, c, h1, h2, h3, h4, h5, h6⟩
  · intro p e s m args below meth c s₁ B hml hP _
    obtain ⟨rfl, hK, hR⟩ := hP
    have hh0 : s₁.heap = s.heap := by rw [B.state]; rfl
    have hts := atoms_spec (ws := mws i) B.pre
    have htab : c.exceptionTable.toList = tableOf (mHH i) := by
      obtain ⟨meth9, c9, h1, h2, -, -, -, -, h7, -⟩ := cw_spec B.named (hts _ List.mem_cons_self)
      cases Option.some.inj (h1.symm.trans B.method)
      cases Option.some.inj (h2.symm.trans (Stand.of_body B).code)
      exact h7
    have C0 : CTX G i p l s m as.toArray meth c := ⟨B.exec, B.bytes, B.returns, hml, findClass_of_methodNamed B.named, fun w hw => hts w (List.mem_cons_of_mem _ hw), B.notSynchronized, (name_of_methodNamed B.named B.method).1, hst, hK, htab⟩
    have hl0 := lv_entry as (n := mL i) hl
    have h0 := hx p l e s m as.toArray below meth c s.heap [] _ C0 hl0 hR va_S.rf
    rw [← lg_entry_eq] at h0
    obtain ⟨t, a1, o9, b1, b2, b3⟩ := h0 s₁ hh0 (Stand.of_body B)
    exact ⟨t, o9, a1, b1, b2, b3⟩
theorem EX.widen {G : GG} {i pc : Nat} {L : List (Nat × Value)} {st : List Value} {h : HM} {o : Option Nat} {k n k' n' : Nat} {Q : XQ} (h1 : k ≤ k') (h2 : n ≤ n') (hx : EX G i pc L st h o k' n' Q) : EX G i pc L st h o k n Q := by
  intro p l e s m args below meth c H locs ls C hl hR hS T hT X
  exact hx p l e s m args below meth c H locs ls C hl hR hS T hT (stand_widen X h1 h2)
theorem EX.sub {G : GG} {i pc : Nat} {L L' : List (Nat × Value)} {st : List Value} {h : HM} {o : Option Nat} {k n : Nat} {Q : XQ} (hs : ∀ q ∈ L', q ∈ L) (hx : EX G i pc L' st h o k n Q) : EX G i pc L st h o k n Q := by
  intro p l e s m args below meth c H locs ls C hl hR hS
  exact hx p l e s m args below meth c H locs ls C ⟨hl.1, hl.2.1, fun q hq => hl.2.2 q (hs q hq)⟩ hR hS
theorem EX.mono {G : GG} {i pc : Nat} {L : List (Nat × Value)} {st : List Value} {h : HM} {o : Option Nat} {k n : Nat} {Q Q' : XQ} (hq : ∀ u h o, Q u h o → Q' u h o) (hx : EX G i pc L st h o k n Q) : EX G i pc L st h o k n Q' := by
  intro p l e s m args below meth c H locs ls C hl hR hS T hT X
  obtain ⟨t, a1, oc, b1, b2, h4⟩ := hx p l e s m args below meth c H locs ls C hl hR hS T hT X
  refine ⟨t, a1, oc, b1, b2, ?_⟩
  rcases h4 with ⟨⟨r, h', o', e1, e2, e3⟩, hL⟩ | ⟨q, e0, E, ce, L, ⟨h', o', e2, e3⟩, hz⟩
  · exact Or.inl ⟨⟨r, h', o', e1, hq _ _ _ e2, e3⟩, hL⟩
  · exact Or.inr ⟨q, e0, E, ce, L, ⟨h', o', hq _ _ _ e2, e3⟩, hz⟩
/-- thrown, and no handler here -/
theorem EXT.out {G : GG} {i pc : Nat} {L : List (Nat × Value)} {E : String} {h : HM} {o : Option Nat} {k n : Nat} {Q : XQ} (hh : mHH i = []) (hk : k ≤ (mMc i).1) (hn : n ≤ (mMc i).2) (hq : Q (.inr E) h o) : EXT G i pc L E h o k n Q := by
  intro p l e s m args below meth c H locs ls q ce st C hl hR hS hce hv hcl
  obtain ⟨hx, hb, hr, hml, hown, hts, hlocks, hnm, hst, hK, htab⟩ := C
  refine x_thrW (vx_out (E := E) (ce := ce) (fun x hx => by rw [htab, hh] at hx; cases hx) hlocks hce hv hcl (fun t ht hvm => ⟨h, o, hq, by rw [ht]; exact hR, hS.F ht⟩) (fun z hz => hS.2.2 z hz) hk hn)
