/-! k1: what holds of the tables and of the old cells at the law's start -/
set_option maxRecDepth 8000
def FL1 : List Cond := flatC (Cond.and given_1 narrow_1)
def sTm (q : String × Nat × String × Nat) : Term := .string q.1 q.2.1
def sVl (q : String × Nat × String × Nat) : Term := .field (sTm q) "java/lang/String" "value" "[B"
def txt (k : Nat) : List Int32 := (TEXTS[k]?).getD []
def sBk (q : String × Nat × String × Nat) : List Cond := .exactly (sTm q) "java/lang/String" :: .eq (.field (sTm q) "java/lang/String" "coder" "B") (.int 0) :: .arrayOf (sVl q) .byte :: .eq (.length (sVl q)) (.int (Int32.ofNat (txt q.2.2.2).length)) :: (List.range (txt q.2.2.2).length).map fun j => .eq (.elem (sVl q) (.int (Int32.ofNat j))) (.int ((txt q.2.2.2)[j]?.getD 0))
def sck : List (String × Nat × String × Nat) → List Nat → Bool
  | [], _ => true
  | q :: l, p :: ps => decide ((FL1.drop p).take (sBk q).length = sBk q) && sck l ps
  | _, _ => false
theorem sck_mem : ∀ {l : List (String × Nat × String × Nat)} {ps : List Nat}, sck l ps = true → ∀ q ∈ l, ∀ w ∈ sBk q, w ∈ FL1 := by
  intro l
  induction l with
  | nil => intro ps _ q hq; cases hq
  | cons a l ih =>
    intro ps h q hq w hw
    cases ps with
    | nil => simp [sck] at h
    | cons p ps =>
      simp only [sck, Bool.and_eq_true, decide_eq_true_eq] at h
      rcases List.mem_cons.mp hq with rfl | hq
      · rw [← h.1] at hw
        exact List.mem_of_mem_drop (List.mem_of_mem_take hw)
      · exact ih h.2 q hq w hw
theorem sck_ok : sck STRS [244, 253, 278, 286, 296, 305, 313, 323, 332, 342, 350, 359, 370, 379, 389, 398, 432, 469, 499, 504, 511, 521, 530, 540, 552, 562, 573, 583, 593, 598, 609, 613, 623, 633, 639, 650, 661, 697, 734, 759, 784, 814, 835, 840, 847, 875, 899, 921, 941, 975, 1004, 1042, 1064, 1095] = true := by decide +kernel
def srw (q : String × Nat × String × Nat) : Cond := .stringRef q.1 q.2.1 q.2.2.1
theorem SR_chk : zchk STRS [463, 561, 602, 630, 637, 638, 663, 664, 672, 750, 752, 753, 754, 755, 756, 821, 828, 829, 931, 932, 933, 1033, 1034, 1035, 1036, 1037, 1038, 1069, 1083, 1084, 1085, 1086, 1093, 1094, 1095, 1096, 1153, 1165, 1232, 1267, 1311, 1336, 1339, 1375, 1414, 1416, 1417, 1453, 1454, 1468, 1471, 1472, 1487, 1517] srw = true := by decide +kernel
theorem NS_chk : zchk NESTS [207, 242, 314, 449, 456, 623, 636, 669, 689, 693, 707, 739, 831, 922, 1308, 1409, 1488, 1538] (fun q => Cond.methodLinkNest q.1 q.2.1 q.2.2 (nhost q.1)) = true := by decide +kernel
theorem CA_chk : zchk [0, 1, 2] [814, 522, 1225] (fun k => Cond.castable (exN k) (exN k)) = true := by decide +kernel
theorem DE_chk : zchk DECLS [524, 526, 528] Cond.declares = true := by decide +kernel
def rpT (k : Nat) : Option (String × Nat × String × Nat) := STRS.find? fun q => q.2.2.2 == k
theorem rp_chk : (List.range TEXTS.length).all (fun k => match rpT k with | some r => decide (r.2.2.2 = k) && (decide ((txt k).length < 1000) && STRS.all fun q => !(q.2.2.2 == k) || (decide (q.1 = r.1 ∧ q.2.1 = r.2.1) || decide (Cond.eq (sTm r) (sTm q) ∈ FL1))) | none => false) = true := by decide +kernel
theorem st_tn : STRS.all (fun q => decide (q.2.2.2 < TEXTS.length)) = true := by decide +kernel
theorem str_k {s : State} {A : Array Value} {B : Nat → Prop} (hF : ∀ w ∈ FL1, w.before A s = true) (hA : ∀ a : Nat, a < s.heap.size → ¬ B a) : ∀ k, ∃ ad : Nat × Nat, k < TEXTS.length → (∀ q ∈ STRS, q.2.2.2 = k → (sTm q).eval A s none [] s = some (.ref ad.1)) ∧ va_O "java/lang/String" ad.1 B s s.heap ∧ va_OF "java/lang/String" "coder" "B" (.int 0) ad.1 B s s.heap ∧ va_OF "java/lang/String" "value" "[B" (.ref ad.2) ad.1 B s s.heap ∧ va_T .byte ad.2 (txt k).length (fun j => .int ((txt k)[j]?.getD 0)) B s s.heap := by
  intro k
  by_cases hk : k < TEXTS.length
  rotate_left
  · exact ⟨(0, 0), fun h => absurd h hk⟩
  have h1 := List.all_eq_true.mp rp_chk k (List.mem_range.mpr hk)
  cases hr : rpT k with
  | none => rw [hr] at h1; cases h1
  | some r =>
    rw [hr] at h1
    simp only [Bool.and_eq_true, decide_eq_true_eq] at h1
    obtain ⟨e1, h0, h2⟩ := h1
    have hin : r ∈ STRS := List.mem_of_find?_eq_some hr
    have hb : ∀ w ∈ sBk r, w.before A s = true := fun w hw => hF w (sck_mem sck_ok r hin w hw)
    unfold sBk at hb
    rw [e1] at hb
    have b1 := hb _ List.mem_cons_self
    have b2 := hb _ (List.mem_cons_of_mem _ List.mem_cons_self)
    have b3 := hb _ (List.mem_cons_of_mem _ (List.mem_cons_of_mem _ List.mem_cons_self))
    have b4 := hb _ (List.mem_cons_of_mem _ (List.mem_cons_of_mem _ (List.mem_cons_of_mem _ List.mem_cons_self)))
    have b5 : ∀ j, j < (txt k).length → (Cond.eq (.elem (sVl r) (.int (Int32.ofNat j))) (.int ((txt k)[j]?.getD 0))).before A s = true := fun j hj => hb _ (List.mem_cons_of_mem _ (List.mem_cons_of_mem _ (List.mem_cons_of_mem _ (List.mem_cons_of_mem _ (List.mem_map.mpr ⟨j, List.mem_range.mpr hj, rfl⟩)))))
    obtain ⟨a, -, -, -, q1, -⟩ := Cond.exactly_spec (args := A) (first := s) (o := none) (s := s) (idx := []) (t := sTm r) (cls := "java/lang/String") b1
    obtain ⟨t, ht, hT⟩ := va_Tof (f := fun j => .int ((txt k)[j]?.getD 0)) (A := B) (show (txt k).length < 2 ^ 31 by omega) b3 (va_eqt b4) (fun j hj => va_eqt (b5 j hj)) hA
    refine ⟨(a, t), fun _ => ⟨fun q hq e => ?_, va_Oof b1 q1 hA, vk_OFof q1 (va_eqt b2) hA, vk_OFof q1 ht hA, hT⟩⟩
    have h3 := List.all_eq_true.mp h2 q hq
    rw [e] at h3
    simp only [Bool.or_eq_true, Bool.not_eq_true', decide_eq_true_eq, beq_self_eq_true] at h3
    rcases h3 with h3 | h3 | h3
    · cases h3
    · have : sTm q = sTm r := by unfold sTm; rw [h3.1, h3.2]
      rw [this]
      exact q1
    · exact va_eqR (hF _ h3) q1
def stT (k : Nat) : Term := .static "GhostRooms$Settings" (stN k) "[I"
theorem se_chk : (List.range 3).all (fun k => decide (Cond.arrayOf (stT k) .int ∈ FL1) && (decide (Cond.eq (.length (stT k)) (.int (Int32.ofNat 6)) ∈ FL1) && (List.range 6).all fun j => decide (Cond.eq (.elem (stT k) (.int (Int32.ofNat j))) (.int (stV k j)) ∈ FL1))) = true := by decide +kernel
theorem sl_chk : zchk [0, 1, 2] [761, 766, 88] (fun k => Cond.laysStatic "GhostRooms$Settings" (stN k) "[I") = true := by decide +kernel
theorem set_k {s : State} {A : Array Value} {B : Nat → Prop} (hts : ∀ w ∈ sx_tbl, w.before A s = true) (hF : ∀ w ∈ FL1, w.before A s = true) (hA : ∀ a : Nat, a < s.heap.size → ¬ B a) : ∀ k, ∃ t : Nat, k < 3 → va_Z "GhostRooms$Settings" (stN k) "[I" (.ref t) B s s.heap ∧ va_T .int t 6 (fun j => .int (stV k j)) B s s.heap := by
  intro k
  by_cases hk : k < 3
  rotate_left
  · exact ⟨0, fun h => absurd h hk⟩
  have h1 := List.all_eq_true.mp se_chk k (List.mem_range.mpr hk)
  simp only [Bool.and_eq_true, decide_eq_true_eq] at h1
  obtain ⟨b1, b2, b3⟩ := h1
  have b4 : ∀ j, j < 6 → (Cond.eq (.elem (stT k) (.int (Int32.ofNat j))) (.int (stV k j))).before A s = true := fun j hj => hF _ (of_decide_eq_true (List.all_eq_true.mp b3 j (List.mem_range.mpr hj)))
  obtain ⟨t, ht, hT⟩ := va_Tof (f := fun j => .int (stV k j)) (A := B) (N := 6) (by decide) (hF _ b1) (va_eqt (hF _ b2)) (fun j hj => va_eqt (b4 j hj)) hA
  have hkm : k ∈ [0, 1, 2] := by
    rcases (show k = 0 ∨ k = 1 ∨ k = 2 by omega) with rfl | rfl | rfl <;> decide
  exact ⟨t, fun _ => ⟨va_Zof (hts _ (zchk_mem sl_chk k hkm)) (hts (.initialized "GhostRooms$Settings") (List.mem_of_getElem? (i := 39) (by decide +kernel))) ht hA, hT⟩⟩
def dgT (k : Nat) : Term := .static "java/lang/Integer" (dgN k) "[B"
def dgB (k : Nat) : List Cond := .arrayOf (dgT k) .byte :: .eq (.length (dgT k)) (.int (Int32.ofNat 100)) :: (List.range 100).map fun j => .eq (.elem (dgT k) (.int (Int32.ofNat j))) (.int (dgV k j))
theorem dg_c0 : (FL1.drop 39).take (dgB 0).length = dgB 0 := by decide +kernel
theorem dg_c1 : (FL1.drop 142).take (dgB 1).length = dgB 1 := by decide +kernel
theorem dg_in {k : Nat} (hk : k < 2) : ∀ w ∈ dgB k, w ∈ FL1 := by
  intro w hw
  rcases (show k = 0 ∨ k = 1 by omega) with rfl | rfl
  · rw [← dg_c0] at hw
    exact List.mem_of_mem_drop (List.mem_of_mem_take hw)
  · rw [← dg_c1] at hw
    exact List.mem_of_mem_drop (List.mem_of_mem_take hw)
theorem dl_chk : zchk [0, 1] [1053, 1055] (fun k => Cond.laysStatic "java/lang/Integer" (dgN k) "[B") = true := by decide +kernel
theorem dg_k {s : State} {A : Array Value} {B : Nat → Prop} (hts : ∀ w ∈ sx_tbl, w.before A s = true) (hF : ∀ w ∈ FL1, w.before A s = true) (hA : ∀ a : Nat, a < s.heap.size → ¬ B a) : ∀ k, ∃ t : Nat, k < 2 → va_Z "java/lang/Integer" (dgN k) "[B" (.ref t) B s s.heap ∧ va_T .byte t 100 (fun j => .int (dgV k j)) B s s.heap := by
  intro k
  by_cases hk : k < 2
  rotate_left
  · exact ⟨0, fun h => absurd h hk⟩
  have hb := dg_in hk
  unfold dgB at hb
  have b1 := hb _ List.mem_cons_self
  have b2 := hb _ (List.mem_cons_of_mem _ List.mem_cons_self)
  have b4 : ∀ j, j < 100 → (Cond.eq (.elem (dgT k) (.int (Int32.ofNat j))) (.int (dgV k j))).before A s = true := fun j hj => hF _ (hb _ (List.mem_cons_of_mem _ (List.mem_cons_of_mem _ (List.mem_map.mpr ⟨j, List.mem_range.mpr hj, rfl⟩))))
  obtain ⟨t, ht, hT⟩ := va_Tof (f := fun j => .int (dgV k j)) (A := B) (N := 100) (by decide) (hF _ b1) (va_eqt (hF _ b2)) (fun j hj => va_eqt (b4 j hj)) hA
  have hkm : k ∈ [0, 1] := by
    rcases (show k = 0 ∨ k = 1 by omega) with rfl | rfl <;> decide
  exact ⟨t, fun _ => ⟨va_Zof (hts _ (zchk_mem dl_chk k hkm)) (hts (.initialized "java/lang/Integer") (List.mem_of_getElem? (i := 35) (by decide +kernel))) ht hA, hT⟩⟩
theorem cls_k {s : State} {A : Array Value} (hts : ∀ w ∈ sx_tbl, w.before A s = true) : ∃ (dC : Nat → ClassId) (dI : Nat → Nat → Nat), ∀ (k : Nat) (q : vw_C), vwCl[k]? = some q → u_Kn s q.1 q.2.1 q.2.2 (dC k) (dI k) := by
  have h0 : ∀ k : Nat, ∃ x : ClassId × (Nat → Nat), ∀ q : vw_C, vwCl[k]? = some q → u_Kn s q.1 q.2.1 q.2.2 x.1 x.2 := by
    intro k
    cases hq : vwCl[k]? with
    | none => exact ⟨(0, fun _ => 0), fun q h => by cases h⟩
    | some r =>
      have hk : k < 14 := (List.getElem?_eq_some_iff.mp hq).1
      have hp := List.all_eq_true.mp CLp_ok k (List.mem_range.mpr hk)
      cases hp9 : CLp[k]? with
      | none => rw [hq, hp9] at hp; simp at hp
      | some p =>
        rw [hq, hp9] at hp
        simp only [Bool.and_eq_true, decide_eq_true_eq] at hp
        obtain ⟨c, i, hKn⟩ := u_known (ws := TBLg) (fun w hw => hts w (List.mem_filter.mp hw).1) (cl_ok hq).1 (hts _ (List.mem_of_getElem? hp.1))
        exact ⟨(c, i), fun q h => by cases h; exact hKn⟩
  obtain ⟨f, hf⟩ := Classical.axiomOfChoice h0
  exact ⟨fun k => (f k).1, fun k => (f k).2, hf⟩
theorem fw_k {s : State} {A : Array Value} (hts : ∀ w ∈ sx_tbl, w.before A s = true) : ∀ k c, k < 2 → c < 2 → va_Fw (ifC c) (ifN k) (mN (ifY k c)) s := by
  intro k c hk hc
  rcases (show (k = 0 ∧ c = 0) ∨ (k = 0 ∧ c = 1) ∨ (k = 1 ∧ c = 0) ∨ (k = 1 ∧ c = 1) by omega) with ⟨rfl, rfl⟩ | ⟨rfl, rfl⟩ | ⟨rfl, rfl⟩ | ⟨rfl, rfl⟩
  · exact va_Fw.of (hts (.declares ⟨"java/lang/CharSequence", "length", "()I"⟩) (List.mem_of_getElem? (i := 1116) (by decide +kernel))) (hts (.interfaceMethod "java/lang/CharSequence" "java/lang/CharSequence" "length" "()I") (List.mem_of_getElem? (i := 1115) (by decide +kernel))) (hts (.publicMethod (mN m_SB_length)) (List.mem_of_getElem? (i := 1125) (by decide +kernel))) (hts (.unhidden "java/lang/StringBuilder" "length" "()I") (List.mem_of_getElem? (i := 1123) (by decide +kernel))) (hts (.castable "java/lang/StringBuilder" "java/lang/CharSequence") (List.mem_of_getElem? (i := 1121) (by decide +kernel)))
  · exact va_Fw.of (hts (.declares ⟨"java/lang/CharSequence", "length", "()I"⟩) (List.mem_of_getElem? (i := 1116) (by decide +kernel))) (hts (.interfaceMethod "java/lang/CharSequence" "java/lang/CharSequence" "length" "()I") (List.mem_of_getElem? (i := 1115) (by decide +kernel))) (hts (.publicMethod (mN m_St_length)) (List.mem_of_getElem? (i := 1120) (by decide +kernel))) (hts (.unhidden "java/lang/String" "length" "()I") (List.mem_of_getElem? (i := 1119) (by decide +kernel))) (hts (.castable "java/lang/String" "java/lang/CharSequence") (List.mem_of_getElem? (i := 1117) (by decide +kernel)))
  · exact va_Fw.of (hts (.declares ⟨"java/lang/CharSequence", "charAt", "(I)C"⟩) (List.mem_of_getElem? (i := 1133) (by decide +kernel))) (hts (.interfaceMethod "java/lang/CharSequence" "java/lang/CharSequence" "charAt" "(I)C") (List.mem_of_getElem? (i := 1132) (by decide +kernel))) (hts (.publicMethod (mN m_SB_charAt)) (List.mem_of_getElem? (i := 1140) (by decide +kernel))) (hts (.unhidden "java/lang/StringBuilder" "charAt" "(I)C") (List.mem_of_getElem? (i := 1138) (by decide +kernel))) (hts (.castable "java/lang/StringBuilder" "java/lang/CharSequence") (List.mem_of_getElem? (i := 1121) (by decide +kernel)))
  · exact va_Fw.of (hts (.declares ⟨"java/lang/CharSequence", "charAt", "(I)C"⟩) (List.mem_of_getElem? (i := 1133) (by decide +kernel))) (hts (.interfaceMethod "java/lang/CharSequence" "java/lang/CharSequence" "charAt" "(I)C") (List.mem_of_getElem? (i := 1132) (by decide +kernel))) (hts (.publicMethod (mN m_St_charAt)) (List.mem_of_getElem? (i := 1136) (by decide +kernel))) (hts (.unhidden "java/lang/String" "charAt" "(I)C") (List.mem_of_getElem? (i := 1135) (by decide +kernel))) (hts (.castable "java/lang/String" "java/lang/CharSequence") (List.mem_of_getElem? (i := 1117) (by decide +kernel)))
/-- what the tables and the old cells say at the law's start -/
theorem KK_start {s : State} {b L : Nat} {xs : Nat → Int32} (hts : ∀ w ∈ sx_tbl, w.before #[Value.ref b] s = true) (hX : va_X b L xs s s.heap) (hbl : b < s.heap.size) (hgv : (Jvm.Cond.and given_1 narrow_1).before #[Value.ref b] s = true) : ∃ G : GG, gX G = (b, L, xs) ∧ gB G = s.heap.size ∧ KK G s := by
  have hF : ∀ w ∈ FL1, w.before #[Value.ref b] s = true := flat_of_before _ hgv
  have hA : ∀ a : Nat, a < s.heap.size → ¬ (fun q : Nat => s.heap.size ≤ q) a := fun a ha => Nat.not_le.mpr ha
  obtain ⟨dC, dI, hKc⟩ := cls_k hts
  obtain ⟨ad, had⟩ := Classical.axiomOfChoice (str_k (B := fun q : Nat => s.heap.size ≤ q) hF hA)
  obtain ⟨se, hse⟩ := Classical.axiomOfChoice (set_k (B := fun q : Nat => s.heap.size ≤ q) hts hF hA)
  obtain ⟨dg, hdg⟩ := Classical.axiomOfChoice (dg_k (B := fun q : Nat => s.heap.size ≤ q) hts hF hA)
  obtain ⟨cI, kI, mI, i1, i2, i3⟩ := Cond.arrayClass_spec (hts (.arrayClass .int) (List.mem_of_getElem? (i := 79) (by decide +kernel)))
  obtain ⟨cL, kL, mL, l1, l2, l3⟩ := Cond.arrayClass_spec (hts (.arrayClass .long) (List.mem_of_getElem? (i := 78) (by decide +kernel)))
  obtain ⟨cB, kB9, mB, b1, b2, b3⟩ := Cond.arrayClass_spec (hts (.arrayClass .byte) (List.mem_of_getElem? (i := 587) (by decide +kernel)))
  obtain ⟨mO, cO, kO, o1, -, o3, o4, o5⟩ := Cond.arrayOver_spec (hts (.arrayOver (.object "GhostRooms$House")) (List.mem_of_getElem? (i := 300) (by decide +kernel)))
  obtain ⟨mA, cA, kA, a1, -, a3, a4, a5⟩ := aoa_spec (hts (.arrayOver (.array .int)) (List.mem_of_getElem? (i := 847) (by decide +kernel)))
  obtain ⟨mS, cS, kS, s1, -, s3, s4, s5⟩ := Cond.arrayOver_spec (hts (.arrayOver (.object "java/lang/String")) (List.mem_of_getElem? (i := 1032) (by decide +kernel)))
  obtain ⟨gs, hgs⟩ : ∃ gs : Nat → Nat, gs = fun k => if k < 100 then (ad k).1 else if k < 1000 then (ad (k - 100)).2 else if k < 1003 then se (k - 1000) else dg (k - 1003) := ⟨_, rfl⟩
  have g1 : ∀ k, k < TEXTS.length → gs k = (ad k).1 := fun k hk => by
    have : TEXTS.length = 53 := by decide +kernel
    rw [hgs]
    exact if_pos (by omega)
  have g2 : ∀ k, k < TEXTS.length → gs (100 + k) = (ad k).2 := fun k hk => by
    have : TEXTS.length = 53 := by decide +kernel
    rw [hgs]
    dsimp only
    rw [if_neg (by omega), if_pos (by omega), Nat.add_sub_cancel_left]
  have g3 : ∀ k, k < 3 → gs (1000 + k) = se k := fun k hk => by
    rw [hgs]
    dsimp only
    rw [if_neg (by omega), if_neg (by omega), if_pos (by omega), Nat.add_sub_cancel_left]
  have g4 : ∀ k, k < 2 → gs (1003 + k) = dg k := fun k hk => by
    rw [hgs]
    dsimp only
    rw [if_neg (by omega), if_neg (by omega), if_neg (by omega), Nat.add_sub_cancel_left]
  refine ⟨((dC, dI), fun k => if k = 0 then cI else if k = 1 then cL else if k = 2 then cO else if k = 3 then cB else if k = 4 then cA else cS, gs, (b, L, xs), s.heap.size), rfl, rfl, ⟨hKc, fun k q hq => ?_⟩, Nat.le_refl _, fun q hq => va_Nw.of rfl (hts _ (zchk_mem NS_chk q hq)), fun k hk => va_Nw.of rfl (hts _ (zchk_mem CA_chk k ?_)), trivial, fun q hq => ?_, vx_Zqof (hts (.laysStatic Bundle.tN "UNASSIGNED_STACK" Bundle.steD) (List.mem_of_getElem? (i := 547) (by decide +kernel))) (hts (.initialized Bundle.tN) (List.mem_of_getElem? (i := 48) (by decide +kernel))) (hF (.isRef (.static Bundle.tN "UNASSIGNED_STACK" Bundle.steD)) (List.mem_of_getElem? (i := 18) (by decide +kernel))) hA, vx_Zqof (hts (.laysStatic Bundle.tN "SUPPRESSED_SENTINEL" Bundle.listD) (List.mem_of_getElem? (i := 549) (by decide +kernel))) (hts (.initialized Bundle.tN) (List.mem_of_getElem? (i := 48) (by decide +kernel))) (hF (.isRef (.static Bundle.tN "SUPPRESSED_SENTINEL" Bundle.listD)) (List.mem_of_getElem? (i := 19) (by decide +kernel))) hA, fun k hk => ?_, fun k hk => ?_, va_Zof (hts (.laysStatic "java/lang/String" "COMPACT_STRINGS" "Z") (List.mem_of_getElem? (i := 477) (by decide +kernel))) (hts (.initialized "java/lang/String") (List.mem_of_getElem? (i := 27) (by decide +kernel))) (va_eqt (hF (.eq (.static "java/lang/String" "COMPACT_STRINGS" "Z") (.int 1)) (List.mem_of_getElem? (i := 13) (by decide +kernel)))) hA, va_Zqof (hts (.laysStatic "jdk/internal/util/Preconditions" "SIOOBE_FORMATTER" "Ljava/util/function/BiFunction;") (List.mem_of_getElem? (i := 493) (by decide +kernel))) (hts (.initialized "jdk/internal/util/Preconditions") (List.mem_of_getElem? (i := 33) (by decide +kernel))) (hF (.isRef (.static "jdk/internal/util/Preconditions" "SIOOBE_FORMATTER" "Ljava/util/function/BiFunction;")) (List.mem_of_getElem? (i := 14) (by decide +kernel))) hA, hX, hbl, fun q hq => va_Nw.of rfl (hts _ (zchk_mem DE_chk q hq)), va_AO.of (hts (.arrayOver (.object "GhostRooms$House")) (List.mem_of_getElem? (i := 300) (by decide +kernel))), va_AO.of (hts (.arrayOver (.object "java/lang/String")) (List.mem_of_getElem? (i := 1032) (by decide +kernel))), (hts (.arrayOver (.array .int)) (List.mem_of_getElem? (i := 847) (by decide +kernel))), fun k hk => ?_, fw_k hts⟩
  · match k, hq with
    | 0, hq => cases hq; exact ⟨fun n z => ⟨fun k h => (by cases h), kI, i2, mI, i3⟩, i1⟩
    | 1, hq => cases hq; exact ⟨fun n z => ⟨fun k h => (by cases h), kL, l2, mL, l3⟩, l1⟩
    | 2, hq => cases hq; exact ⟨fun n z => ⟨fun k h => (by cases h), kO, o3, mO, o4⟩, ⟨kO, mO, o3, o4, o1, o5⟩⟩
    | 3, hq => cases hq; exact ⟨fun n z => ⟨fun k h => (by cases h), kB9, b2, mB, b3⟩, b1⟩
    | 4, hq => cases hq; exact ⟨fun n z => ⟨fun k h => (by cases h), kA, a3, mA, a4⟩, a5⟩
    | 5, hq => cases hq; exact ⟨fun n z => ⟨fun k h => (by cases h), kS, s3, mS, s4⟩, ⟨kS, mS, s3, s4, s1, s5⟩⟩
    | k + 6, hq => simp [tys] at hq
  · rcases (show k = 0 ∨ k = 1 ∨ k = 2 by omega) with rfl | rfl | rfl <;> decide
  · have hk := of_decide_eq_true (List.all_eq_true.mp st_tn q hq)
    refine vk_R.of (A := #[Value.ref b]) (hts _ (zchk_mem SR_chk q hq)) ?_
    have h9 := (had q.2.2.2 hk).1 q hq rfl
    rw [← g1 _ hk] at h9
    exact h9
  · have h9 := hse k hk
    rw [← g3 k hk] at h9
    exact h9
  · have h9 := (had k hk).2
    rw [← g1 k hk, ← g2 k hk] at h9
    exact h9
  · have h9 := hdg k hk
    rw [← g4 k hk] at h9
    exact h9
