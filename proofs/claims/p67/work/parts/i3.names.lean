/-! i3: the array of names -/
set_option maxRecDepth 8000
theorem CL_w45 : Cond.classLink "GhostRoomsLaw$World" 45 "java/lang/String" ∈ TBLg := List.mem_filter.mpr ⟨by decide +kernel, rfl⟩
section ST
variable {G : GG} {i pc : Nat} {L : List (Nat × Value)} {st : List Value} {h : HM} {o : Option Nat} {k n : Nat} {Q : XQ}
theorem s_anewS {z : Nat} {v : Int32} {N : Nat} (hi : (mN i).cls = "GhostRoomsLaw$World") (hd : decode (mC i) pc = .ok (.anewarray 45, 3)) (hv : ¬ v < 0) (hN : v.toNatClampNeg = N) (hb : N * 4 ≤ 536870912) (hk : k + 1 ≤ (mMc i).1) (hn : n + N ≤ (mMc i).2)
    (kk : EX G i (pc + 3) L (.ref z :: st) (hup h z (.inl (5, N, .inr (.inr (.inr (.inr (fun _ => none))))))) (some (z + 1)) (k + 1) (n + N) Q) : EX G i pc L (.int v :: st) h (some z) k n Q := by
  intro p l e s m args below meth c H locs ls C hl hR hS
  have C0 := C
  obtain ⟨hx, hb9, hrt, hml, hown, hts, hlocks, hnm, hst, hK, htab⟩ := C
  have hsz : H.size = z := hR.1 z rfl
  rw [hi] at hown
  subst hN
  have AO : va_AO "java/lang/String" s := hK.2.2.2.2.2.2.2.2.2.2.2.2.2.2.2.2.1
  refine W.anew hx hb9 hown (hts _ CL_w45) (va_AO.use AO) rfl hd rfl hv hb hk hn fun cA kA comp f1 f2 f3 f4 => ?_
  subst hsz
  generalize hH1 : H.push ({ cls := cA, slots := Array.replicate v.toNatClampNeg .null, vm := .none } : Cell) = H1
  have z1 : H1.size = H.size + 1 := by rw [← hH1, Array.size_push]
  have e1 : H1[H.size]? = some (arrV cA v.toNatClampNeg (fun _ => .null)) := by rw [← hH1, Array.getElem?_push_size, ← arrV_new]
  have o1 : ∀ q : Nat, q < H.size → H1[q]? = H[q]? := fun q hq => by rw [← hH1, Array.getElem?_push, if_neg (Nat.ne_of_lt hq)]
  obtain ⟨-, -, -, -, -, g9⟩ := (hK.1.2 5 _ rfl).2
  have hcA : cA = gA G 5 := Option.some.inj (f1.symm.trans g9)
  subst hcA
  exact kk p l e s m args below meth c H1 locs ls C0 hl (hR.push e1 z1 o1) ⟨Nat.le_trans hS.1 (by omega), fun x h1 h2 => (o1 x (by have := hS.1; omega)).trans (hS.2.1 x h1 h2), hS.2.2⟩
theorem s_aasS {a len q : Nat} {f : Nat → Option Nat} {j : Int32} (hd : decode (mC i) pc = .ok (.aastore, 1)) (ha : h a = some (.inl (5, len, .inr (.inr (.inr (.inr f)))))) (hq9 : q < TEXTS.length) (hin : vp_in j len)
    (kk : EX G i (pc + 1) L st (hup h a (.inl (5, len, .inr (.inr (.inr (.inr (va_up f j.toNatClampNeg (some (gS G q))))))))) o k n Q) : EX G i pc L (.ref (gS G q) :: .int j :: .ref a :: st) h o k n Q := by
  intro p l e s m args below meth c H locs ls C hl hR hS
  have hKK := C.2.2.2.2.2.2.2.2.2.1
  have hK := hKK.1
  obtain ⟨k1, k2, k3, k4, k5, k6, k7, k8, k9, k10, -⟩ := hKK
  obtain ⟨cv, o1, o2, o3, o4⟩ := (k10 q hq9).1
  have hP := hR.one ha
  have hba := (hR.2.2 a _ ha).1
  have hlt : j.toNatClampNeg < len := Nat.not_le.mp fun q => hin (Or.inr q)
  have h0 : ¬ j < 0 := fun q => hin (Or.inl q)
  have ocell : H[gS G q]? = some cv := (hS.2.1 _ (Array.getElem?_eq_some_iff.mp o1).1 o4).trans o1
  have hcls := (hK.1 13 _ rfl).2
  obtain ⟨kA, comp, k1, k2, k3, -⟩ := (hK.2 5 _ rfl).2
  have hcomp : comp = (gD G).1 13 := Option.some.inj (k3.symm.trans hcls.1)
  subst hcomp
  have hcv : cv.cls = (gD G).1 13 := Option.some.inj (o3.symm.trans hcls.1)
  obtain ⟨kC, hkC, -⟩ := hcls.2
  refine W.aast C.1 C.2.1 (hP 0 _ rfl) (fun q h => by cases h) (fun h => by cases h) k1 k2 rfl hkC ⟨h0, by show _ < (arrV _ _ _).slots.size; rw [arrV_size]; exact hlt⟩ ocell (fun q h => by rw [h] at o2; cases o2) (by rw [hcv]; exact hkC) (by rw [hcv]; exact va_assign hcls) rfl rfl hd fun H1 e9 z oq => ?_
  refine kk p l e s m args below meth c H1 _ ls C hl (hR.set ha ?_ z oq) (hS.put z oq hba)
  show H1[a]? = some (vp_cell _ _)
  rw [e9]
  show some ((vp_cell _ _).setSlot _ _) = _
  rw [vp_cell_q, vp_cell_q, arrV_store]
  congr 2
  funext q
  by_cases hq : q = j.toNatClampNeg
  · subst hq
    simp [updV, va_up, va_rf]
  · simp [updV, va_up, hq]
end ST
