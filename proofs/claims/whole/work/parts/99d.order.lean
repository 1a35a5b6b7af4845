/-! 99d: a command, in the two orders of reading -/
theorem bnd_num {α β : Type} {a b : Int32} {K : KT} {f : Int32 → KT → KT ⊕ α} {g : α → KT ⊕ β} : bnd (kNum a b K f) g = kNum a b K (fun v K2 => bnd (f v K2) g) := by
  unfold kNum
  split
  · rfl
  split
  · rfl
  · rfl
theorem bnd_room {α β : Type} {U : HT} {K : KT} {f : Int32 → KT → KT ⊕ α} {g : α → KT ⊕ β} : bnd (kRoom U K f) g = kRoom U K (fun v K2 => bnd (f v K2) g) := by
  unfold kRoom
  split
  · rfl
  split
  · rfl
  · rfl
def cmG (q : Int32 × (Int32 × Int32) × KT) : KT ⊕ KT := if q.1 = 18 then .inr (opK (addK 18 q.2.1.1 q.2.1.2 q.2.2)) else enR2 (addK q.1 q.2.1.1 q.2.1.2 q.2.2)
theorem rcR_eq (c : Int32) (K : KT) : rcR c K = bnd (rrF c K) (fun q => cmG (c, q.1, q.2)) := by
  unfold rcR rrF
  by_cases c18 : c = 18
  · subst c18
    rw [if_pos rfl, if_pos rfl, bnd_num]
    unfold bgR
    congr 1
    funext v K2
    unfold bgR2 rrRp
    split
    · rfl
    · rfl
  have hg : ∀ q : (Int32 × Int32) × KT, cmG (c, q.1, q.2) = enR2 (addK c q.1.1 q.1.2 q.2) := fun q => if_neg c18
  rw [if_neg c18, if_neg c18]
  split
  · rw [bnd_bnd]
    congr 1
    funext r
    exact (hg ((r.1, 0), r.2)).symm
  split
  · rw [bnd_bnd]
    congr 1
    funext r
    exact (hg ((r.1, 0), r.2)).symm
  split
  · rw [bnd_room]
    congr 1
    funext v K2
    unfold rcSw rrSw
    rw [bnd_bnd]
    congr 1
    funext r
    exact (hg ((v, r.1), r.2)).symm
  split
  · rw [bnd_room]
    congr 1
    funext v K2
    unfold rcWm rrWm
    rw [bnd_bnd]
    congr 1
    funext r
    exact (hg ((v, r.1), r.2)).symm
  · rw [bnd_bnd]
    congr 1
    funext r
    exact (hg ((r.1, 0), r.2)).symm
theorem rcC_eq (K : KT) : rcC K = bnd (cmX K) cmG := by
  unfold rcC cmX
  rw [bnd_bnd]
  congr 1
  funext r
  unfold rcX cmX2
  rw [rcR_eq, bnd_bnd]
  rfl
