/-! e2: the law's own steps -/
set_option maxRecDepth 8000
section LA
variable {G : GG} {i pc : Nat} {L : List (Nat × Value)} {st : List Value} {h : HM} {o : Option Nat} {k n : Nat} {Q : XQ}
theorem s_sld {j : Int32} (hd : decode (mC i) pc = .ok (.iaload, 1)) (hin : vp_in j (gX G).2.1) (kk : EX G i (pc + 1) L (.int ((gX G).2.2 j.toNatClampNeg) :: st) h o k n Q) : EX G i pc L (.int j :: .ref (gX G).1 :: st) h o k n Q := by
  intro p l e s m args below meth c H locs ls C hl hR hS
  have hK := C.2.2.2.2.2.2.2.2.2.1
  have hlt : (gX G).1 < gB G := hK.2.2.2.2.2.2.2.2.2.2.2.2.2.1
  exact va_sld C.1 C.2.1 hK.2.2.2.2.2.2.2.2.2.2.2.2.1 (Nat.lt_of_lt_of_le hlt hK.2.1) (Nat.not_le.mpr hlt) hS hin hd (kk p l e s m args below meth c H locs ls C hl hR hS)
theorem s_slen (hd : decode (mC i) pc = .ok (.arraylength, 1)) (kk : EX G i (pc + 1) L (.int (nI (gX G).2.1) :: st) h o k n Q) : EX G i pc L (.ref (gX G).1 :: st) h o k n Q := by
  intro p l e s m args below meth c H locs ls C hl hR hS
  have hK := C.2.2.2.2.2.2.2.2.2.1
  have hlt : (gX G).1 < gB G := hK.2.2.2.2.2.2.2.2.2.2.2.2.2.1
  exact va_slen C.1 C.2.1 hK.2.2.2.2.2.2.2.2.2.2.2.2.1 (Nat.lt_of_lt_of_le hlt hK.2.1) (Nat.not_le.mpr hlt) hS hd (kk p l e s m args below meth c H locs ls C hl hR hS)
def argOK (pc c : Nat) : Bool := decide (decode (mC m_L_law) pc = .ok (.aload_n 0, 1)) && decide (decode (mC m_L_law) (pc + 1) = .ok (.iload 4, 2)) && decide (decode (mC m_L_law) (pc + 3) = .ok (.iconst (c : Int), 1)) && decide (decode (mC m_L_law) (pc + 4) = .ok (.iadd, 1)) && decide (decode (mC m_L_law) (pc + 5) = .ok (.iaload, 1))
theorem l_arg {c t : Nat} (hok : argOK pc c = true) (hv : Int32.ofInt (c : Int) = nI c) (h0 : lkL L 0 = some (.ref (gX G).1)) (h4 : lkL L 4 = some (.int (nI (6 * t)))) (hT : 6 * t + 6 ≤ (gX G).2.1) (hc : c < 6) (hX : (gX G).2.1 ≤ 3072) (kk : EX G m_L_law (pc + 6) L (.int ((gX G).2.2 (6 * t + c)) :: st) h o k n Q) : EX G m_L_law pc L st h o k n Q := by
  unfold argOK at hok
  simp only [Bool.and_eq_true, decide_eq_true_eq] at hok
  obtain ⟨⟨⟨⟨d1, d2⟩, d3⟩, d4⟩, d5⟩ := hok
  refine s_aload_n (z := 0) d1 h0 ?_
  refine s_iload (z := 4) d2 h4 ?_
  refine s_iconst (v := nI c) d3 hv ?_
  refine s_iadd d4 ?_
  rw [nI_add]
  refine s_sld d5 (vp_in_nI (by omega) (by omega)) ?_
  rw [nI_clamp (by omega)]
  exact kk
def boolOK (pc : Nat) : Bool := decide (decode (mC m_L_law) pc = .ok (.ifCond .eq 7, 3)) && decide (decode (mC m_L_law) (pc + 3) = .ok (.iconst 1, 1)) && decide (decode (mC m_L_law) (pc + 4) = .ok (.goto 4, 3)) && decide (decode (mC m_L_law) (pc + 7) = .ok (.iconst 0, 1))
theorem l_bool {x : Int32} (hok : boolOK pc = true) (kk : EX G m_L_law (pc + 8) L (.int (trI x) :: st) h o k n Q) : EX G m_L_law pc L (.int x :: st) h o k n Q := by
  unfold boolOK at hok
  simp only [Bool.and_eq_true, decide_eq_true_eq] at hok
  obtain ⟨⟨⟨d1, d2⟩, d3⟩, d4⟩ := hok
  refine s_if_eq (tgt := pc + 7) d1 (by omega) (fun c => ?_) (fun c => ?_)
  · refine s_iconst (v := 0) d4 (by decide) ?_
    unfold trI at kk
    rw [if_pos c] at kk
    exact kk
  · refine s_iconst (v := 1) d2 (by decide) ?_
    refine s_goto (tgt := pc + 8) d3 (by omega) ?_
    unfold trI at kk
    rw [if_neg c] at kk
    exact kk
def rmL (j : Nat) : Bool := decide ((mF j).1 + 1 ≤ (mF m_L_law).1) && decide (8 + (mL j + 11) + (mF j).2 ≤ (mF m_L_law).2) && decide ((mMc j).1 ≤ 1000) && decide ((mMc j).2 ≤ 100000)
theorem mMc_law : mMc m_L_law = (601024, 7293034) := by decide +kernel
theorem room_L {j : Nat} (hr : rmL j = true) (hk : k ≤ 600000) (hn : n ≤ 7000000) : roomOK m_L_law j k n = true := by
  unfold rmL at hr
  simp only [Bool.and_eq_true, decide_eq_true_eq] at hr
  obtain ⟨⟨⟨h1, h2⟩, h3⟩, h4⟩ := hr
  unfold roomOK
  simp only [Bool.and_eq_true, decide_eq_true_eq]
  rw [mMc_law]
  dsimp only
  exact ⟨⟨⟨h1, h2⟩, by omega⟩, by omega⟩
/-- behind a call that returns, at the room that is named -/
def contW (G : GG) (pc : Nat) (L : List (Nat × Value)) (st : List Value) (k n : Nat) (Q : XQ) : XQ := fun u h' o' => match u with
  | .inl v => EX G m_L_law (pc + 3) L (v.toList ++ st) h' o' k n Q
  | .inr _ => False
def callS_ok (pc idx j np : Nat) : Bool := decide (decode (mC m_L_law) pc = .ok (.invokestatic idx, 3)) && mmem ((mN m_L_law).cls, idx, j, 0) && mOwn j && decide (mK j = 1) && !(mHH j).isEmpty && rmL j && decide (mNp j = np) && decide ((mRc j).1 ≤ 45) && decide ((mRc j).2 ≤ 280)
theorem l_callS {idx j np : Nat} {as : List Value} (hok : callS_ok pc idx j np = true) (hnp : as.length = np) (hst : st.length ≤ 4) (hk : k ≤ 600000) (hn : n ≤ 7000000) (hr : Runs G j as h o (contW G pc L st (k + 45) (n + 280) Q)) : EX G m_L_law pc L (as.reverse ++ st) h o k n Q := by
  unfold callS_ok at hok
  simp only [Bool.and_eq_true, decide_eq_true_eq, Bool.not_eq_true'] at hok
  obtain ⟨⟨⟨⟨⟨⟨⟨⟨d1, d2⟩, d3⟩, d4⟩, d5⟩, d6⟩, d7⟩, d8⟩, d9⟩ := hok
  refine s_callSX (idx := idx) (nest := 0) (j := j) (as := as) (st := st) d1 (mmem_in d2) rfl d3 d4 (fun y => by rw [y] at d5; cases d5) (room_L d6 hk hn) (cat4 hst) (hnp.trans d7.symm) (hr.mono fun u h' o' hq => ?_)
  cases u with
  | inl v => exact EX.widen (by omega) (by omega) hq
  | inr E => exact False.elim hq
def callV_ok (pc idx j np ci : Nat) : Bool := decide (decode (mC m_L_law) pc = .ok (.invokevirtual idx, 3)) && mmem ((mN m_L_law).cls, idx, j, 0) && mOwn j && decide (mK j = 0) && (mHH j).isEmpty && rmL j && decide (mNp j = np) && decide ((mRc j).1 = 0) && decide ((mRc j).2 = 0) && decide ((vwCl[ci]?).map (fun r => r.1) = some (mN j).cls)
theorem l_callV {idx j np ci b : Nat} {as fs : List Value} (hok : callV_ok pc idx j np ci = true) (hnp : as.length = np) (hst : st.length ≤ 4) (hb : h b = some (.inr (ci, fs))) (hk : k ≤ 600000) (hn : n ≤ 7000000) (hr : Runs G j (.ref b :: as) h o (contW G pc L st k n Q)) : EX G m_L_law pc L (as.reverse ++ .ref b :: st) h o k n Q := by
  unfold callV_ok at hok
  simp only [Bool.and_eq_true, decide_eq_true_eq, List.isEmpty_iff] at hok
  obtain ⟨⟨⟨⟨⟨⟨⟨⟨⟨d1, d2⟩, d3⟩, d4⟩, d5⟩, d6⟩, d7⟩, d8⟩, d9⟩, d10⟩ := hok
  refine s_callV (b := b) (ci := ci) (idx := idx) (nest := 0) (j := j) (as := as) (st := st) d1 (mmem_in d2) rfl d3 d4 d5 (room_L d6 hk hn) (cat4 hst) (hnp.trans d7.symm) hb d10 (hr.mono fun u h' o' hq => ?_)
  cases u with
  | inl v => exact EX.widen (by omega) (by omega) hq
  | inr E => exact False.elim hq
def LW4 (G : GG) (z t : Nat) : List (Nat × Value) := [(0, .ref (gX G).1), (1, .ref z), (2, .ref (z + 207)), (3, .ref (z + 224)), (4, .int (nI (6 * t)))]
def LW5 (G : GG) (z t : Nat) (c : Int32) : List (Nat × Value) := [(0, .ref (gX G).1), (1, .ref z), (2, .ref (z + 207)), (3, .ref (z + 224)), (4, .int (nI (6 * t))), (5, .int c)]
def LW6 (G : GG) (z t : Nat) (c v : Int32) : List (Nat × Value) := [(0, .ref (gX G).1), (1, .ref z), (2, .ref (z + 207)), (3, .ref (z + 224)), (4, .int (nI (6 * t))), (5, .int c), (6, .int v)]
def LD5 (G : GG) (z t : Nat) (x : UInt64) : List (Nat × Value) := [(0, .ref (gX G).1), (1, .ref z), (2, .ref (z + 207)), (3, .ref (z + 224)), (4, .int (nI (6 * t))), (5, .double x)]
def LD7 (G : GG) (z t : Nat) (x y : UInt64) : List (Nat × Value) := [(0, .ref (gX G).1), (1, .ref z), (2, .ref (z + 207)), (3, .ref (z + 224)), (4, .int (nI (6 * t))), (5, .double x), (7, .double y)]
theorem lw4_5 {G : GG} {z t : Nat} {c : Int32} : ∀ q ∈ LW4 G z t, q ∈ LW5 G z t c := fun q hq => by
  have : LW5 G z t c = LW4 G z t ++ [(5, .int c)] := rfl
  rw [this]; exact List.mem_append_left _ hq
theorem lw4_6 {G : GG} {z t : Nat} {c v : Int32} : ∀ q ∈ LW4 G z t, q ∈ LW6 G z t c v := fun q hq => by
  have : LW6 G z t c v = LW4 G z t ++ [(5, .int c), (6, .int v)] := rfl
  rw [this]; exact List.mem_append_left _ hq
theorem lw4_7 {G : GG} {z t : Nat} {x y : UInt64} : ∀ q ∈ LW4 G z t, q ∈ LD7 G z t x y := fun q hq => by
  have : LD7 G z t x y = LW4 G z t ++ [(5, .double x), (7, .double y)] := rfl
  rw [this]; exact List.mem_append_left _ hq
/-- at the foot of the loop: what follows -/
def NXL (G : GG) (z t k n : Nat) (Q : XQ) : Prop := ∀ (K : KT) (M : MT) (g : Nat → Int64) (o : Option Nat), INV K M → EX G m_L_law 3039 (LW4 G z t) [] (hL z K M g) o (k + 45) (n + 280) Q
theorem lgc_0 (x : Int64) : lg_cmp x x = 0 := by
  unfold lg_cmp
  simp
end LA
/-- the class has answered, the row is laid: then the reference tells c, and, if it tells 0, answers what lies in the row -/
def MQI (z : Nat) (K2 : KT) (g : Nat → Int64) (c : Int32) : XQ := fun u h _ => ∃ (M2 : MT) (v : Int32), h = hL z K2 M2 g ∧ u = .inl (some (.int v)) ∧ M2.1 = c ∧ (c = 0 → g 0 = v.toInt64) ∧ INV K2 M2
def MQB (z : Nat) (K2 : KT) (g : Nat → Int64) (c : Int32) : XQ := fun u h _ => ∃ (M2 : MT) (v : Int32), h = hL z K2 M2 g ∧ u = .inl (some (.int v)) ∧ M2.1 = c ∧ (c = 0 → g 0 = if v = 0 then 0 else 1) ∧ INV K2 M2
section LB
variable {G : GG} {z : Nat} {K : KT} {M : MT} {f : Nat → Int64} {R : RUL} {cs : List (Nat × Int32)} {Q2 : XQ} {jm : Nat} {as : List Value}
theorem lq (hR : ∀ h o Q, R h o Q → Runs G jm as h o Q) (hcs : ∀ q ∈ cs, ¬ q.2 = 0) (H : ∀ (K2 : KT) (c : Int32) (g : Nat → Int64) (o : Option Nat), (∀ o2, Runs G jm as (hL z K2 M g) o2 (MQI z K2 g c)) → Q2 (.inl (some (.int c))) (hL z K2 M g) o) : ∀ u h o, GQ cs z M f R u h o → WQ cs (z + 224) Q2 u h o := by
  intro u h o hu
  obtain ⟨K2, rfl, hu⟩ := hu
  cases u with
  | inl v => cases v with
    | none => exact False.elim hu
    | some v => cases v with
      | int v =>
        refine ⟨f, hL_f, ?_⟩
        rw [hL_up]
        refine H K2 0 _ o (fun o2 => (hR _ _ _ (hu _ o2)).mono (fun u h o hq => ?_))
        obtain ⟨M2, e1, e2, e3, e4⟩ := hq
        exact ⟨M2, v, e1, e2, e3, fun _ => if_pos rfl, e4⟩
      | _ => exact False.elim hu
  | inr E =>
    obtain ⟨q, hm, e1, h2⟩ := hu
    refine ⟨q, hm, e1, H K2 q.2 f o (fun o2 => (hR _ _ _ (h2 f o2)).mono (fun u h o hq => ?_))⟩
    obtain ⟨M2, v, a1, a2, a3, a4⟩ := hq
    exact ⟨M2, v, a1, a2, a3, fun y => absurd y (hcs q hm), a4⟩
theorem lqb (hR : ∀ h o Q, R h o Q → Runs G jm as h o Q) (hcs : ∀ q ∈ cs, ¬ q.2 = 0) (H : ∀ (K2 : KT) (c : Int32) (g : Nat → Int64) (o : Option Nat), (∀ o2, Runs G jm as (hL z K2 M g) o2 (MQB z K2 g c)) → Q2 (.inl (some (.int c))) (hL z K2 M g) o) : ∀ u h o, GQ cs z M f R u h o → WQB cs (z + 224) Q2 u h o := by
  intro u h o hu
  obtain ⟨K2, rfl, hu⟩ := hu
  cases u with
  | inl v => cases v with
    | none => exact False.elim hu
    | some v => cases v with
      | int v =>
        refine ⟨f, hL_f, ?_⟩
        rw [hL_up]
        refine H K2 0 _ o (fun o2 => (hR _ _ _ (hu _ o2)).mono (fun u h o hq => ?_))
        obtain ⟨M2, e1, e2, e3, e4⟩ := hq
        exact ⟨M2, v, e1, e2, e3, fun _ => if_pos rfl, e4⟩
      | _ => exact False.elim hu
  | inr E =>
    obtain ⟨q, hm, e1, h2⟩ := hu
    refine ⟨q, hm, e1, H K2 q.2 f o (fun o2 => (hR _ _ _ (h2 f o2)).mono (fun u h o hq => ?_))⟩
    obtain ⟨M2, v, a1, a2, a3, a4⟩ := hq
    exact ⟨M2, v, a1, a2, a3, fun y => absurd y (hcs q hm), a4⟩
end LB
section LT
variable {G : GG} {pc z t k n : Nat} {K : KT} {M : MT} {g : Nat → Int64} {o : Option Nat} {Q : XQ} {c v : Int32}
def tailOK (pc : Nat) : Bool := decide (decode (mC m_L_law) pc = .ok (.aload_n 2, 1)) && callV_ok (pc + 1) 146 m_M_thrown 0 11 && decide (decode (mC m_L_law) (pc + 4) = .ok (.iload 5, 2)) && decide (decode (mC m_L_law) (pc + 6) = .ok (.if_icmp .eq 5, 3)) && decide (decode (mC m_L_law) (pc + 11) = .ok (.iload 5, 2))
/-- the reference tells what was thrown: the same number -/
theorem l_thrown (hok : tailOK pc = true) (e0 : M.1 = c) (hk : k ≤ 600000) (hn : n ≤ 7000000) (kk : EX G m_L_law (pc + 13) (LW6 G z t c v) [.int c] (hL z K M g) o k n Q) : EX G m_L_law pc (LW6 G z t c v) [] (hL z K M g) o k n Q := by
  unfold tailOK at hok
  simp only [Bool.and_eq_true, decide_eq_true_eq] at hok
  obtain ⟨⟨⟨⟨d1, d2⟩, d3⟩, d4⟩, d5⟩ := hok
  obtain ⟨fs, hb⟩ := hL_m (z := z) (K := K) (M := M) (f := g)
  refine s_aload_n (z := 2) d1 rfl ?_
  refine l_callV (as := []) (st := []) d2 rfl (by decide) hb hk hn (r_M_thrown (mx ?_))
  show EX G m_L_law (pc + 1 + 3) _ [.int M.1] _ _ _ _ _
  rw [e0]
  refine s_iload (z := 5) (x := c) d3 rfl ?_
  refine s_icmp_eq (tgt := pc + 11) d4 (by omega) (fun _ => ?_) (fun y => absurd rfl y)
  exact s_iload (z := 5) (x := c) d5 rfl kk
def tail1OK (pc : Nat) : Bool := tailOK pc && decide (decode (mC m_L_law) (pc + 13) = .ok (.ifCond .ne 15, 3)) && decide (decode (mC m_L_law) (pc + 16) = .ok (.aload_n 3, 1)) && decide (decode (mC m_L_law) (pc + 17) = .ok (.iconst 0, 1)) && decide (decode (mC m_L_law) (pc + 18) = .ok (.laload, 1)) && decide (decode (mC m_L_law) (pc + 19) = .ok (.iload 6, 2)) && decide (decode (mC m_L_law) (pc + 21) = .ok (.i2l, 1)) && decide (decode (mC m_L_law) (pc + 22) = .ok (.lcmp, 1)) && decide (decode (mC m_L_law) (pc + 23) = .ok (.ifCond .eq 5, 3)) && decide (decode (mC m_L_law) (pc + 28) = .ok (.goto (3039 - ((pc + 28 : Nat) : Int)), 3))
theorem l_tail (hok : tail1OK pc = true) (e0 : M.1 = c) (hg : c = 0 → g 0 = v.toInt64) (hI : INV K M) (hk : k ≤ 599000) (hn : n ≤ 6999000) (nx : NXL G z t k n Q) : EX G m_L_law pc (LW6 G z t c v) [] (hL z K M g) o (k + 45) (n + 280) Q := by
  unfold tail1OK at hok
  simp only [Bool.and_eq_true, decide_eq_true_eq] at hok
  obtain ⟨⟨⟨⟨⟨⟨⟨⟨⟨d1, d2⟩, d3⟩, d4⟩, d5⟩, d6⟩, d7⟩, d8⟩, d9⟩, d10⟩ := hok
  have hend : EX G m_L_law (pc + 28) (LW6 G z t c v) [] (hL z K M g) o (k + 45) (n + 280) Q := s_goto (tgt := 3039) d10 (by omega) (EX.sub lw4_6 (nx K M g o hI))
  refine l_thrown d1 e0 (by omega) (by omega) ?_
  refine s_if_ne (tgt := pc + 28) d2 (by omega) (fun _ => hend) (fun y => ?_)
  refine s_aload_n (z := 3) (x := z + 224) d3 rfl ?_
  refine s_iconst (v := 0) d4 (by decide) ?_
  refine s_laload (f := g) d5 hL_f (by unfold vp_in; decide) ?_
  refine s_iload (z := 6) (x := v) d6 rfl ?_
  refine s_i2l d7 ?_
  refine s_lcmp d8 ?_
  have e9 : g (0 : Int32).toNatClampNeg = v.toInt64 := hg y
  rw [e9, lgc_0]
  exact s_if_eq (tgt := pc + 28) d9 (by omega) (fun _ => hend) (fun y => absurd rfl y)
def tailBOK (pc : Nat) : Bool := tailOK pc && decide (decode (mC m_L_law) (pc + 13) = .ok (.ifCond .ne 22, 3)) && decide (decode (mC m_L_law) (pc + 16) = .ok (.aload_n 3, 1)) && decide (decode (mC m_L_law) (pc + 17) = .ok (.iconst 0, 1)) && decide (decode (mC m_L_law) (pc + 18) = .ok (.laload, 1)) && decide (decode (mC m_L_law) (pc + 19) = .ok (.iload 6, 2)) && decide (decode (mC m_L_law) (pc + 21) = .ok (.ifCond .eq 7, 3)) && decide (decode (mC m_L_law) (pc + 24) = .ok (.lconst 1, 1)) && decide (decode (mC m_L_law) (pc + 25) = .ok (.goto 4, 3)) && decide (decode (mC m_L_law) (pc + 28) = .ok (.lconst 0, 1)) && decide (decode (mC m_L_law) (pc + 29) = .ok (.lcmp, 1)) && decide (decode (mC m_L_law) (pc + 30) = .ok (.ifCond .eq 5, 3)) && decide (decode (mC m_L_law) (pc + 35) = .ok (.goto (3039 - ((pc + 35 : Nat) : Int)), 3))
theorem l_tailB (hok : tailBOK pc = true) (e0 : M.1 = c) (hg : c = 0 → g 0 = if v = 0 then 0 else 1) (hI : INV K M) (hk : k ≤ 599000) (hn : n ≤ 6999000) (nx : NXL G z t k n Q) : EX G m_L_law pc (LW6 G z t c v) [] (hL z K M g) o (k + 45) (n + 280) Q := by
  unfold tailBOK at hok
  simp only [Bool.and_eq_true, decide_eq_true_eq] at hok
  obtain ⟨⟨⟨⟨⟨⟨⟨⟨⟨⟨⟨⟨d1, d2⟩, d3⟩, d4⟩, d5⟩, d6⟩, d7⟩, d8⟩, d9⟩, d10⟩, d11⟩, d12⟩, d13⟩ := hok
  have hend : EX G m_L_law (pc + 35) (LW6 G z t c v) [] (hL z K M g) o (k + 45) (n + 280) Q := s_goto (tgt := 3039) d13 (by omega) (EX.sub lw4_6 (nx K M g o hI))
  refine l_thrown d1 e0 (by omega) (by omega) ?_
  refine s_if_ne (tgt := pc + 35) d2 (by omega) (fun _ => hend) (fun y => ?_)
  refine s_aload_n (z := 3) (x := z + 224) d3 rfl ?_
  refine s_iconst (v := 0) d4 (by decide) ?_
  refine s_laload (f := g) d5 hL_f (by unfold vp_in; decide) ?_
  refine s_iload (z := 6) (x := v) d6 rfl ?_
  have e9 : g (0 : Int32).toNatClampNeg = if v = 0 then 0 else 1 := hg y
  rw [e9]
  refine s_if_eq (tgt := pc + 28) d7 (by omega) (fun w => ?_) (fun w => ?_)
  · rw [if_pos w]
    refine s_lconst (v := 0) d10 (by decide) ?_
    refine s_lcmp d11 ?_
    rw [lgc_0]
    exact s_if_eq (tgt := pc + 35) d12 (by omega) (fun _ => hend) (fun y => absurd rfl y)
  · rw [if_neg w]
    refine s_lconst (v := 1) d8 (by decide) ?_
    refine s_goto (tgt := pc + 29) d9 (by omega) ?_
    refine s_lcmp d11 ?_
    rw [lgc_0]
    exact s_if_eq (tgt := pc + 35) d12 (by omega) (fun _ => hend) (fun y => absurd rfl y)
end LT
