/-! 99j: the reference runs a script -/
theorem CPL_cong {U : HT} {s t : Nat → Int32} (h : CPL U s) (ht : ∀ i, i < 216 → t i = s i) : CPL U t := by
  obtain ⟨hG, hse, ⟨hcs, hnn, hgm⟩, hgh, hrm, hmk, hset⟩ := h
  have hrc := hG.1.2.2.1
  have hdc := hG.1.2.2.2
  refine ⟨⟨⟨(ht 9 (by decide)).trans hG.1.1, (ht 10 (by decide)).trans hG.1.2.1, hrc, hdc⟩, fun d hd => ?_, hG.2.2⟩, fun i hi => by rw [ht i (by omega)]; exact hse i hi, ⟨by rw [ht 6 (by decide)]; exact hcs, by rw [ht 7 (by decide)]; exact hnn, by rw [ht 8 (by decide)]; exact hgm⟩, ⟨fun e => ?_, fun e => ?_⟩, fun k hk => ?_, hmk, hset⟩
  · obtain ⟨a, b, n, a1, a2, a3, a4, a5, a6, a7, a8, a9, a10⟩ := hG.2.1 d hd
    exact ⟨a, b, n, a1, a2, a3, a4, by rw [ht _ (by omega)]; exact a5, by rw [ht _ (by omega)]; exact a6, a7, by rw [ht _ (by omega)]; exact a8, a9, by rw [ht _ (by omega)]; exact a10⟩
  · rw [ht 11 (by decide)]; exact hgh.1 e
  · rw [ht 11 (by decide)]; exact hgh.2 e
  · exact rmc_same (hrm k hk) (fun i h1 h2 => ht i (by omega)) rfl rfl rfl rfl rfl rfl rfl rfl
theorem cpy_at (F E : Nat → Int32) {i : Nat} (hi : i < 216) : cpy F 0 E 0 216 i = F i := by
  unfold cpy
  try dsimp only
  rw [if_pos (by omega)]
  simp only [Nat.zero_add, Nat.sub_zero]
set_option maxRecDepth 8000
section RU
variable {G : GG} {as : List Value} {h : HM} {o : Option Nat} {Q : XQ}
end RU
