/-! 46: what the reference's sensors leave possible -/
def FR (s s' : Nat → Int32) : Prop := ∀ i, (i < 12 ∨ 120 ≤ i ∨ (i - 12) % 9 < 5) → s i = s' i
section FRS
variable {s s' : Nat → Int32} (h : FR s s')
theorem nR_c (h : FR s s') : nR s = nR s' := by unfold nR; rw [h 9 (by omega)]
theorem nD_c (h : FR s s') : nD s = nD s' := by unfold nD; rw [h 10 (by omega)]
theorem btP_c (h : FR s s') (a b : Int32) : btP s a b = btP s' a b := by
  funext d; unfold btP; rw [h (120 + 4 * d) (by omega), h (120 + 4 * d + 1) (by omega)]
theorem btw_c (h : FR s s') (a b : Int32) : btw s a b = btw s' a b := by unfold btw; rw [nD_c h, btP_c h]
theorem adj_c (h : FR s s') (a b : Int32) : adj s a b = adj s' a b := by
  unfold adj; rw [btw_c h, h (120 + 4 * (btw s' a b).toNatClampNeg + 3) (by omega)]
theorem hrd_c (h : FR s s') (d : Nat) : hrd s d = hrd s' d := by
  unfold hrd; rw [h (120 + 4 * d + 2) (by omega), h 2 (by omega), h (120 + 4 * d) (by omega), h (120 + 4 * d + 1) (by omega), h (12 + 9 * (s' (120 + 4 * d)).toNatClampNeg + 4) (by omega), h (12 + 9 * (s' (120 + 4 * d + 1)).toNatClampNeg + 4) (by omega)]
theorem wcl_c (h : FR s s') (rp : Nat → Int32) (g q : Int32) : wcl s rp g q = wcl s' rp g q := by unfold wcl; rw [nR_c h]
theorem dcP_c (h : FR s s') (pas d0 : Int32) : dcP s pas d0 = dcP s' pas d0 := by funext d; unfold dcP; rw [hrd_c h]
theorem dcl_c (h : FR s s') (pas q r : Int32) : dcl s pas q r = dcl s' pas q r := by unfold dcl; rw [nD_c h, btw_c h, dcP_c h]
theorem src_c (h : FR s s') (bf : Nat → Int32) (q r : Int32) : src s bf q r = src s' bf q r := by unfold src; rw [adj_c h]
theorem agr_c (h : FR s s') (rp : Nat → Int32) (g pas q r : Int32) : agr s rp g pas q r = agr s' rp g pas q r := by unfold agr; rw [wcl_c h, dcl_c h]
theorem styP_c (h : FR s s') (rp bf : Nat → Int32) (g pas r : Int32) : styP s rp bf g pas r = styP s' rp bf g pas r := by funext q; unfold styP; rw [src_c h, agr_c h]
theorem sty_c (h : FR s s') (rp bf : Nat → Int32) (g pas r : Int32) : sty s rp bf g pas r = sty s' rp bf g pas r := by unfold sty; rw [nR_c h, styP_c h]
theorem fsr_c (h : FR s s') (bf : Nat → Int32) (r : Int32) : fsr s bf r = fsr s' bf r := by
  unfold fsr; rw [nR_c h]; congr 1; funext q; exact src_c h bf _ _
theorem exS_c (h : FR s s') (rp bf : Nat → Int32) (g pas r : Int32) : exS s rp bf g pas r = exS s' rp bf g pas r := by unfold exS; rw [fsr_c h, wcl_c h, dcl_c h]
theorem RW_c (h : FR s s') (hw : RW s') : RW s := by
  unfold RW; rw [nR_c h, nD_c h, h 9 (by omega), h 10 (by omega)]; exact hw
theorem WD_c (h : FR s s') (hw : WD s') : WD s := by
  intro d hd
  rw [nD_c h] at hd
  rw [h (120 + 4 * d) (by omega), h (120 + 4 * d + 1) (by omega)]
  exact hw d hd
end FRS
def senF (s : Nat → Int32) (k : Nat) (f : Nat → Nat → Int32) : Nat → Int32 := fun i => if 12 ≤ i ∧ i < 12 + 9 * k ∧ 5 ≤ (i - 12) % 9 then f ((i - 12) / 9) ((i - 12) % 9) else s i
theorem senF_0 (s : Nat → Int32) (f : Nat → Nat → Int32) : senF s 0 f = s := funext fun i => if_neg (by omega)
theorem senF_s (s : Nat → Int32) (k : Nat) (f : Nat → Nat → Int32) : tw (upd (senF s k f) (12 + 9 * k + 5) (f k 5)) k (f k 6) (f k 7) (f k 8) = senF s (k + 1) f := by
  have key : ∀ w, 5 ≤ w → w < 9 → senF s (k + 1) f (12 + 9 * k + w) = f k w := by
    intro w h1 h2
    have e1 : (12 + 9 * k + w - 12) / 9 = k := by omega
    have e2 : (12 + 9 * k + w - 12) % 9 = w := by omega
    unfold senF
    rw [e1, e2, if_pos (by omega)]
  funext i
  unfold tw upd
  by_cases e8 : i = 12 + 9 * k + 8
  · rw [if_pos e8, e8, key 8 (by omega) (by omega)]
  rw [if_neg e8]
  by_cases e7 : i = 12 + 9 * k + 7
  · rw [if_pos e7, e7, key 7 (by omega) (by omega)]
  rw [if_neg e7]
  by_cases e6 : i = 12 + 9 * k + 6
  · rw [if_pos e6, e6, key 6 (by omega) (by omega)]
  rw [if_neg e6]
  by_cases e5 : i = 12 + 9 * k + 5
  · rw [if_pos e5, e5, key 5 (by omega) (by omega)]
  rw [if_neg e5]
  unfold senF
  by_cases c : 12 ≤ i ∧ i < 12 + 9 * k ∧ 5 ≤ (i - 12) % 9
  · rw [if_pos c, if_pos (by omega)]
  · rw [if_neg c, if_neg (by omega)]
theorem senF_FR (s : Nat → Int32) {k : Nat} (hk : k ≤ 12) (f : Nat → Nat → Int32) : FR (senF s k f) s := by
  intro i hi
  unfold senF
  rw [if_neg (by omega)]
theorem senU_FR (s : Nat → Int32) {k : Nat} (hk : k < 12) (f : Nat → Nat → Int32) (v : Int32) : FR (upd (senF s k f) (12 + 9 * k + 5) v) s := by
  intro i hi
  unfold upd
  rw [if_neg (by omega)]
  exact senF_FR s (by omega) f i hi
def senV (s rp bf : Nat → Int32) (g pas : Int32) (r w : Nat) : Int32 := if sty s rp bf g pas (nI r) = true then (if w = 5 then 1 else if w = 6 then 0 else -1) else (if w = 5 then 0 else if w = 6 then (exS s rp bf g pas (nI r)).1 else if w = 7 then (exS s rp bf g pas (nI r)).2.1 else (exS s rp bf g pas (nI r)).2.2)
def senB (s bf : Nat → Int32) : Nat → Int32 := fa_fill (fun k => s (12 + 9 * k + 5)) bf (nR s)
section MS
variable {G : GG} {as : List Value} {h : HM} {o : Option Nat} {Q : XQ}
end MS
