/-! b5: how many doors are open: counting bits of 24 -/
def q1 (M n : Nat) : Nat := n - ((n >>> 1) &&& M)
def q2 (M n : Nat) : Nat := (n &&& M) + ((n >>> 2) &&& M)
def q3 (M n : Nat) : Nat := (n + (n >>> 4)) &&& M
theorem spl {m a M u s : Nat} (ha : a < 256) (hu : u < 256) (hs : s < 8) (hz : ∀ i, 8 - s ≤ i → i < 8 → u.testBit i = false) : ((256 * m + a) >>> s) &&& (256 * M + u) = 256 * ((m >>> s) &&& M) + ((a >>> s) &&& u) := by
  apply Nat.eq_of_testBit_eq
  intro i
  have hy : (a >>> s) &&& u < 2 ^ 8 := Nat.and_lt_two_pow _ hu
  rw [Nat.testBit_and, Nat.testBit_shiftRight, show (256 : Nat) = 2 ^ 8 from rfl, Nat.testBit_two_pow_mul_add m ha, Nat.testBit_two_pow_mul_add M hu, Nat.testBit_two_pow_mul_add _ hy]
  by_cases c : i < 8
  · rw [if_pos c, if_pos c, Nat.testBit_and, Nat.testBit_shiftRight]
    by_cases c2 : s + i < 8
    · rw [if_pos c2]
    · rw [hz i (by omega) c, Bool.and_false, Bool.and_false]
  · rw [if_neg c, if_neg c, if_neg (by omega), Nat.testBit_and, Nat.testBit_shiftRight, show s + i - 8 = s + (i - 8) by omega]
theorem spl0 {m a M u : Nat} (ha : a < 256) (hu : u < 256) : (256 * m + a) &&& (256 * M + u) = 256 * (m &&& M) + (a &&& u) := spl (s := 0) ha hu (by decide) (fun i h1 h2 => by omega)
theorem q1_s {m a M u : Nat} (ha : a < 256) (hu : u < 256) (hz : u.testBit 7 = false) : q1 (256 * M + u) (256 * m + a) = 256 * q1 M m + q1 u a := by
  unfold q1
  rw [spl ha hu (by decide) (fun i h1 h2 => by rw [show i = 7 by omega]; exact hz)]
  have h1 : (m >>> 1) &&& M ≤ m := Nat.le_trans Nat.and_le_left (by rw [Nat.shiftRight_eq_div_pow]; exact Nat.div_le_self _ _)
  have h2 : (a >>> 1) &&& u ≤ a := Nat.le_trans Nat.and_le_left (by rw [Nat.shiftRight_eq_div_pow]; exact Nat.div_le_self _ _)
  omega
theorem q2_s {m a M u : Nat} (ha : a < 256) (hu : u < 256) (hz : u.testBit 7 = false ∧ u.testBit 6 = false) : q2 (256 * M + u) (256 * m + a) = 256 * q2 M m + q2 u a := by
  unfold q2
  rw [spl0 ha hu, spl ha hu (by decide) (fun i h1 h2 => by
    have : i = 6 ∨ i = 7 := by omega
    rcases this with rfl | rfl
    · exact hz.2
    · exact hz.1)]
  omega
theorem and15 (p : Nat) : p &&& 15 = p % 16 := Nat.and_two_pow_sub_one_eq_mod p 4
theorem q3_s {m a M : Nat} (ha : a ≤ 68) (hm : m % 16 ≤ 4) : q3 (256 * M + 15) (256 * m + a) = 256 * q3 M m + q3 15 a := by
  unfold q3
  rw [Nat.shiftRight_eq_div_pow, Nat.shiftRight_eq_div_pow, Nat.shiftRight_eq_div_pow, show (2 : Nat) ^ 4 = 16 from rfl]
  have e : 256 * m + a + (256 * m + a) / 16 = 256 * (m + m / 16) + (a + a / 16 + 16 * (m % 16)) := by omega
  rw [e, spl0 (by omega) (by decide), and15, and15]
  omega
def qg (x : Nat) : Nat := q3 15 (q2 51 (q1 85 x))
theorem qb : ∀ x, x < 256 → (q2 51 (q1 85 x) ≤ 68 ∧ q2 51 (q1 85 x) % 16 ≤ 4) ∧ q1 85 x < 256 ∧ qg x = fb_ct (fun i => x.testBit i) 8 := by
  have h : (List.range 256).all (fun x => decide ((q2 51 (q1 85 x) ≤ 68 ∧ q2 51 (q1 85 x) % 16 ≤ 4) ∧ q1 85 x < 256 ∧ qg x = fb_ct (fun i => x.testBit i) 8)) = true := by decide +kernel
  intro x hx
  exact of_decide_eq_true (List.all_eq_true.mp h x (List.mem_range.mpr hx))
theorem qall {a b c : Nat} (ha : a < 256) (hb : b < 256) (hc : c < 256) : q3 252645135 (q2 858993459 (q1 1431655765 (256 * (256 * c + b) + a))) = 256 * (256 * qg c + qg b) + qg a := by
  obtain ⟨⟨a1, a2⟩, a3, -⟩ := qb a ha
  obtain ⟨⟨b1, b2⟩, b3, -⟩ := qb b hb
  obtain ⟨⟨c1, c2⟩, c3, -⟩ := qb c hc
  have k1 : q1 1431655765 (256 * (256 * c + b) + a) = 256 * (256 * q1 85 c + q1 85 b) + q1 85 a := by
    have e0 : q1 21845 c = q1 85 c := by
      have := q1_s (m := 0) (a := c) (M := 85) (u := 85) hc (by decide) (by decide)
      have z : q1 85 0 = 0 := by decide
      rw [z] at this
      simpa using this
    rw [show (1431655765 : Nat) = 256 * 5592405 + 85 from rfl, q1_s ha (by decide) (by decide), show (5592405 : Nat) = 256 * 21845 + 85 from rfl, q1_s hb (by decide) (by decide), e0]
  have k2 : q2 858993459 (256 * (256 * q1 85 c + q1 85 b) + q1 85 a) = 256 * (256 * q2 51 (q1 85 c) + q2 51 (q1 85 b)) + q2 51 (q1 85 a) := by
    have e0 : q2 13107 (q1 85 c) = q2 51 (q1 85 c) := by
      have := q2_s (m := 0) (a := q1 85 c) (M := 51) (u := 51) c3 (by decide) (by decide)
      have z : q2 51 0 = 0 := by decide
      rw [z] at this
      simpa using this
    rw [show (858993459 : Nat) = 256 * 3355443 + 51 from rfl, q2_s a3 (by decide) (by decide), show (3355443 : Nat) = 256 * 13107 + 51 from rfl, q2_s b3 (by decide) (by decide), e0]
  rw [k1, k2]
  have e0 : q3 3855 (q2 51 (q1 85 c)) = q3 15 (q2 51 (q1 85 c)) := by
    have := q3_s (m := 0) (a := q2 51 (q1 85 c)) (M := 15) c1 (by decide)
    have z : q3 15 0 = 0 := by decide
    rw [z] at this
    simpa using this
  rw [show (252645135 : Nat) = 256 * 986895 + 15 from rfl, q3_s a1 (by omega), show (986895 : Nat) = 256 * 3855 + 15 from rfl, q3_s b1 c2, e0]
  rfl
theorem bt_nI {m i : Nat} (hi : i < 32) : bt (nI m) i = m.testBit i := by
  unfold bt
  rw [show (nI m).toBitVec = BitVec.ofNat 32 m from rfl, BitVec.getLsbD_ofNat]
  simp [hi]
theorem ush_n {k j : Nat} (hk : k < 2 ^ 32) (hj : j < 32) : ((nI k).toUInt32 >>> ((nI j).toUInt32 &&& Int32.toUInt32 31)).toInt32 = nI (k >>> j) := by
  refine b_ext fun i hi => ?_
  rw [b_ushr j hj, bt_nI hi, Nat.testBit_shiftRight]
  by_cases c : j + i < 32
  · rw [bt_nI c]
  · rw [b_big (by omega)]
    exact (Nat.testBit_lt_two_pow (Nat.lt_of_lt_of_le hk (Nat.pow_le_pow_right (by decide) (by omega)))).symm
theorem bcF_n {n : Nat} (hn : n < 2 ^ 24) : bcF (nI n) = nI (fb_ct (fun i => n.testBit i) 24) := by
  obtain ⟨a, b, c, ha, hb, hc, en⟩ : ∃ a b c, a < 256 ∧ b < 256 ∧ c < 256 ∧ n = 256 * (256 * c + b) + a := ⟨n % 256, n / 256 % 256, n / 65536, by omega, by omega, by omega, by omega⟩
  have hg := qall ha hb hc
  rw [← en] at hg
  have ga := (qb a ha).2.2
  have gb := (qb b hb).2.2
  have gc := (qb c hc).2.2
  have l8 : ∀ x, fb_ct (fun i => Nat.testBit x i) 8 ≤ 8 := fun x => fb_ct_le _ 8
  have la := l8 a
  have lb := l8 b
  have lc := l8 c
  rw [← ga] at la
  rw [← gb] at lb
  rw [← gc] at lc
  have i1 : (n >>> 1) &&& 1431655765 ≤ n := Nat.le_trans Nat.and_le_left (by rw [Nat.shiftRight_eq_div_pow]; exact Nat.div_le_self _ _)
  have e1 : bc1 (nI n) = nI (q1 1431655765 n) := by
    unfold bc1 q1
    rw [show (1 : Int32) = nI 1 from rfl, ush_n (by omega) (by decide), show (1431655765 : Int32) = nI 1431655765 from rfl, nx_and, nI_subN i1]
  have h1 : q1 1431655765 n ≤ n := Nat.sub_le _ _
  generalize q1 1431655765 n = n1 at *
  have e2 : bc2 (nI n1) = nI (q2 858993459 n1) := by
    unfold bc2 q2
    rw [show (2 : Int32) = nI 2 from rfl, ush_n (by omega) (by decide), show (858993459 : Int32) = nI 858993459 from rfl, nx_and, nx_and, nI_add]
  have h2 : q2 858993459 n1 ≤ n1 + n1 := by
    unfold q2
    have j1 : n1 &&& 858993459 ≤ n1 := Nat.and_le_left
    have j2 : (n1 >>> 2) &&& 858993459 ≤ n1 := Nat.le_trans Nat.and_le_left (by rw [Nat.shiftRight_eq_div_pow]; exact Nat.div_le_self _ _)
    omega
  generalize q2 858993459 n1 = n2 at *
  have e3 : bc3 (nI n2) = nI (q3 252645135 n2) := by
    unfold bc3 q3
    rw [show (4 : Int32) = nI 4 from rfl, ush_n (by omega) (by decide), nI_add, show (252645135 : Int32) = nI 252645135 from rfl, nx_and]
  unfold bcF
  rw [e1, e2, e3, hg]
  generalize hA : qg a = A at *
  generalize hB : qg b = B at *
  generalize hC : qg c = C at *
  have e4 : bc4 (nI (256 * (256 * C + B) + A)) = nI (65536 * C + 256 * (B + C) + (A + B)) := by
    unfold bc4
    rw [show (8 : Int32) = nI 8 from rfl, ush_n (by omega) (by decide), nI_add, Nat.shiftRight_eq_div_pow]
    congr 1
    omega
  have e5 : bc5 (nI (65536 * C + 256 * (B + C) + (A + B))) = nI (65536 * C + 256 * (B + C) + (A + B + C)) := by
    unfold bc5
    rw [show (16 : Int32) = nI 16 from rfl, ush_n (by omega) (by decide), nI_add, Nat.shiftRight_eq_div_pow]
    congr 1
    omega
  have e6 : (65536 * C + 256 * (B + C) + (A + B + C)) &&& 63 = A + B + C := by
    rw [show (63 : Nat) = 2 ^ 6 - 1 from rfl, Nat.and_two_pow_sub_one_eq_mod]
    omega
  rw [e4, e5, show (63 : Int32) = nI 63 from rfl, nx_and, e6, ga, gb, gc]
  have t1 : fb_ct (fun i => n.testBit i) 24 = fb_ct (fun i => n.testBit i) 8 + fb_ct (fun i => n.testBit (8 + i)) 16 := fb_ct_split (fun i => n.testBit i) 8 16
  have t2 : fb_ct (fun i => n.testBit (8 + i)) 16 = fb_ct (fun i => n.testBit (8 + i)) 8 + fb_ct (fun i => n.testBit (8 + (8 + i))) 8 := fb_ct_split (fun i => n.testBit (8 + i)) 8 8
  have s1 : fb_ct (fun i => n.testBit i) 8 = fb_ct (fun i => a.testBit i) 8 := fb_ct_cong fun k hk => by
    rw [en, show (256 : Nat) = 2 ^ 8 from rfl, Nat.testBit_two_pow_mul_add _ ha, if_pos hk]
  have s2 : fb_ct (fun i => n.testBit (8 + i)) 8 = fb_ct (fun i => b.testBit i) 8 := fb_ct_cong fun k hk => by
    rw [en, show (256 : Nat) = 2 ^ 8 from rfl, Nat.testBit_two_pow_mul_add _ ha, if_neg (by omega), show 8 + k - 8 = k by omega, Nat.testBit_two_pow_mul_add _ hb, if_pos hk]
  have s3 : fb_ct (fun i => n.testBit (8 + (8 + i))) 8 = fb_ct (fun i => c.testBit i) 8 := fb_ct_cong fun k hk => by
    rw [en, show (256 : Nat) = 2 ^ 8 from rfl, Nat.testBit_two_pow_mul_add _ ha, if_neg (by omega), show 8 + (8 + k) - 8 = 8 + k by omega, Nat.testBit_two_pow_mul_add _ hb, if_neg (by omega), show 8 + k - 8 = k by omega]
  congr 1
  rw [← s1, ← s2, ← s3]
  omega
theorem bc_24 {x : Int32} {n : Nat} (hn : n ≤ 24) (h : ∀ j, n ≤ j → bt x j = false) : bcF x = nI (fb_ct (bt x) n) := by
  obtain ⟨m, hm, e⟩ := small_of (x := x) (m := 24) (by decide) (fun j hj => h j (by omega))
  have e2 : fb_ct (bt x) 24 = fb_ct (bt x) n := by
    have h1 := fb_ct_split (bt x) n (24 - n)
    rw [show n + (24 - n) = 24 by omega] at h1
    have h2 : fb_ct (fun k => bt x (n + k)) (24 - n) = 0 := fb_ct_zero.mpr fun k _ => h _ (by omega)
    omega
  rw [← e2, e, bcF_n hm]
  congr 1
  exact fb_ct_cong fun k hk => (bt_nI (by omega)).symm
