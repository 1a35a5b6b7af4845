/-! 17: the evaluator is enough -/
section ST16
variable {W : WF} {G : GG} {i pc a b c d len : Nat} {L : List (Nat × Value)} {st : List Value} {h : HM} {o : Option Nat} {k n : Nat} {Q : XQ} {kk : List (Nat × Value) → List Value → HM → Option Nat → Nat → Nat → Prop} {jj : Nat → List (Nat × Value) → List Value → HM → Option Nat → Nat → Nat → Prop}
theorem ok_iconst {z : Int} (hW : WOK G W) (hc : chkO i pc (.iconst z, len, a, b, c, d) = true) (hkk : ∀ L st h o k n, kk L st h o k n → EX G i (pc + len) L st h o k n Q) (hjj : ∀ q L st h o k n, jj q L st h o k n → EX G i q L st h o k n Q) (hs : stp W G i Q (.iconst z) a b c d pc L st h o k n kk jj) : EX G i pc L st h o k n Q := by
  simp only [chkO, Bool.and_eq_true, decide_eq_true_eq] at hc
  obtain ⟨hd, rfl⟩ := hc
  dsimp only [stp] at hs
  exact s_iconst hd rfl (hkk _ _ _ _ _ _ hs)
theorem ok_bipush {z : Int} (hW : WOK G W) (hc : chkO i pc (.bipush z, len, a, b, c, d) = true) (hkk : ∀ L st h o k n, kk L st h o k n → EX G i (pc + len) L st h o k n Q) (hjj : ∀ q L st h o k n, jj q L st h o k n → EX G i q L st h o k n Q) (hs : stp W G i Q (.bipush z) a b c d pc L st h o k n kk jj) : EX G i pc L st h o k n Q := by
  simp only [chkO, Bool.and_eq_true, decide_eq_true_eq] at hc
  obtain ⟨hd, rfl⟩ := hc
  dsimp only [stp] at hs
  exact s_bipush hd rfl (hkk _ _ _ _ _ _ hs)
theorem ok_sipush {z : Int} (hW : WOK G W) (hc : chkO i pc (.sipush z, len, a, b, c, d) = true) (hkk : ∀ L st h o k n, kk L st h o k n → EX G i (pc + len) L st h o k n Q) (hjj : ∀ q L st h o k n, jj q L st h o k n → EX G i q L st h o k n Q) (hs : stp W G i Q (.sipush z) a b c d pc L st h o k n kk jj) : EX G i pc L st h o k n Q := by
  simp only [chkO, Bool.and_eq_true, decide_eq_true_eq] at hc
  obtain ⟨hd, rfl⟩ := hc
  dsimp only [stp] at hs
  exact s_sipush hd rfl (hkk _ _ _ _ _ _ hs)
theorem ok_lconst {z : Fin 2} (hW : WOK G W) (hc : chkO i pc (.lconst z, len, a, b, c, d) = true) (hkk : ∀ L st h o k n, kk L st h o k n → EX G i (pc + len) L st h o k n Q) (hjj : ∀ q L st h o k n, jj q L st h o k n → EX G i q L st h o k n Q) (hs : stp W G i Q (.lconst z) a b c d pc L st h o k n kk jj) : EX G i pc L st h o k n Q := by
  simp only [chkO, Bool.and_eq_true, decide_eq_true_eq] at hc
  obtain ⟨hd, rfl⟩ := hc
  dsimp only [stp] at hs
  exact s_lconst hd rfl (hkk _ _ _ _ _ _ hs)
theorem ok_fconst {z : Fin 3} (hW : WOK G W) (hc : chkO i pc (.fconst z, len, a, b, c, d) = true) (hkk : ∀ L st h o k n, kk L st h o k n → EX G i (pc + len) L st h o k n Q) (hjj : ∀ q L st h o k n, jj q L st h o k n → EX G i q L st h o k n Q) (hs : stp W G i Q (.fconst z) a b c d pc L st h o k n kk jj) : EX G i pc L st h o k n Q := by
  rw [chkO, Bool.and_eq_true, decide_eq_true_eq, Bool.and_eq_true, decide_eq_true_eq] at hc
  obtain ⟨hd, rfl, hx⟩ := hc
  dsimp only [stp] at hs
  simp only [Bool.or_eq_true, decide_eq_true_eq] at hx
  rcases hx with rfl | rfl
  · rw [if_pos rfl] at hs
    exact s_fconst0 hd (hkk _ _ _ _ _ _ hs)
  · rw [if_neg (by decide)] at hs
    exact s_fconst1 hd (hkk _ _ _ _ _ _ hs)
theorem ok_dconst {z : Fin 2} (hW : WOK G W) (hc : chkO i pc (.dconst z, len, a, b, c, d) = true) (hkk : ∀ L st h o k n, kk L st h o k n → EX G i (pc + len) L st h o k n Q) (hjj : ∀ q L st h o k n, jj q L st h o k n → EX G i q L st h o k n Q) (hs : stp W G i Q (.dconst z) a b c d pc L st h o k n kk jj) : EX G i pc L st h o k n Q := by
  simp only [chkO, Bool.and_eq_true, decide_eq_true_eq] at hc
  obtain ⟨hd, rfl, hx⟩ := hc
  dsimp only [stp] at hs
  subst hx; exact s_dconst0 hd (hkk _ _ _ _ _ _ hs)
theorem ok_aconst_null  (hW : WOK G W) (hc : chkO i pc (.aconst_null, len, a, b, c, d) = true) (hkk : ∀ L st h o k n, kk L st h o k n → EX G i (pc + len) L st h o k n Q) (hjj : ∀ q L st h o k n, jj q L st h o k n → EX G i q L st h o k n Q) (hs : stp W G i Q (.aconst_null) a b c d pc L st h o k n kk jj) : EX G i pc L st h o k n Q := by
  simp only [chkO, Bool.and_eq_true, decide_eq_true_eq] at hc
  obtain ⟨hd, rfl⟩ := hc
  dsimp only [stp] at hs
  exact s_null hd (hkk _ _ _ _ _ _ hs)
theorem ok_iadd  (hW : WOK G W) (hc : chkO i pc (.iadd, len, a, b, c, d) = true) (hkk : ∀ L st h o k n, kk L st h o k n → EX G i (pc + len) L st h o k n Q) (hjj : ∀ q L st h o k n, jj q L st h o k n → EX G i q L st h o k n Q) (hs : stp W G i Q (.iadd) a b c d pc L st h o k n kk jj) : EX G i pc L st h o k n Q := by
  simp only [chkO, Bool.and_eq_true, decide_eq_true_eq] at hc
  obtain ⟨hd, rfl⟩ := hc
  dsimp only [stp] at hs
  split at hs
  · exact s_iadd hd (hkk _ _ _ _ _ _ hs)
  all_goals exact hs.elim
theorem ok_isub  (hW : WOK G W) (hc : chkO i pc (.isub, len, a, b, c, d) = true) (hkk : ∀ L st h o k n, kk L st h o k n → EX G i (pc + len) L st h o k n Q) (hjj : ∀ q L st h o k n, jj q L st h o k n → EX G i q L st h o k n Q) (hs : stp W G i Q (.isub) a b c d pc L st h o k n kk jj) : EX G i pc L st h o k n Q := by
  simp only [chkO, Bool.and_eq_true, decide_eq_true_eq] at hc
  obtain ⟨hd, rfl⟩ := hc
  dsimp only [stp] at hs
  split at hs
  · exact s_isub hd (hkk _ _ _ _ _ _ hs)
  all_goals exact hs.elim
theorem ok_imul  (hW : WOK G W) (hc : chkO i pc (.imul, len, a, b, c, d) = true) (hkk : ∀ L st h o k n, kk L st h o k n → EX G i (pc + len) L st h o k n Q) (hjj : ∀ q L st h o k n, jj q L st h o k n → EX G i q L st h o k n Q) (hs : stp W G i Q (.imul) a b c d pc L st h o k n kk jj) : EX G i pc L st h o k n Q := by
  simp only [chkO, Bool.and_eq_true, decide_eq_true_eq] at hc
  obtain ⟨hd, rfl⟩ := hc
  dsimp only [stp] at hs
  split at hs
  · exact s_imul hd (hkk _ _ _ _ _ _ hs)
  all_goals exact hs.elim
theorem ok_iand  (hW : WOK G W) (hc : chkO i pc (.iand, len, a, b, c, d) = true) (hkk : ∀ L st h o k n, kk L st h o k n → EX G i (pc + len) L st h o k n Q) (hjj : ∀ q L st h o k n, jj q L st h o k n → EX G i q L st h o k n Q) (hs : stp W G i Q (.iand) a b c d pc L st h o k n kk jj) : EX G i pc L st h o k n Q := by
  simp only [chkO, Bool.and_eq_true, decide_eq_true_eq] at hc
  obtain ⟨hd, rfl⟩ := hc
  dsimp only [stp] at hs
  split at hs
  · exact s_iand hd (hkk _ _ _ _ _ _ hs)
  all_goals exact hs.elim
theorem ok_ior  (hW : WOK G W) (hc : chkO i pc (.ior, len, a, b, c, d) = true) (hkk : ∀ L st h o k n, kk L st h o k n → EX G i (pc + len) L st h o k n Q) (hjj : ∀ q L st h o k n, jj q L st h o k n → EX G i q L st h o k n Q) (hs : stp W G i Q (.ior) a b c d pc L st h o k n kk jj) : EX G i pc L st h o k n Q := by
  simp only [chkO, Bool.and_eq_true, decide_eq_true_eq] at hc
  obtain ⟨hd, rfl⟩ := hc
  dsimp only [stp] at hs
  split at hs
  · exact s_ior hd (hkk _ _ _ _ _ _ hs)
  all_goals exact hs.elim
theorem ok_ixor  (hW : WOK G W) (hc : chkO i pc (.ixor, len, a, b, c, d) = true) (hkk : ∀ L st h o k n, kk L st h o k n → EX G i (pc + len) L st h o k n Q) (hjj : ∀ q L st h o k n, jj q L st h o k n → EX G i q L st h o k n Q) (hs : stp W G i Q (.ixor) a b c d pc L st h o k n kk jj) : EX G i pc L st h o k n Q := by
  simp only [chkO, Bool.and_eq_true, decide_eq_true_eq] at hc
  obtain ⟨hd, rfl⟩ := hc
  dsimp only [stp] at hs
  split at hs
  · exact s_ixor hd (hkk _ _ _ _ _ _ hs)
  all_goals exact hs.elim
theorem ok_ishl  (hW : WOK G W) (hc : chkO i pc (.ishl, len, a, b, c, d) = true) (hkk : ∀ L st h o k n, kk L st h o k n → EX G i (pc + len) L st h o k n Q) (hjj : ∀ q L st h o k n, jj q L st h o k n → EX G i q L st h o k n Q) (hs : stp W G i Q (.ishl) a b c d pc L st h o k n kk jj) : EX G i pc L st h o k n Q := by
  simp only [chkO, Bool.and_eq_true, decide_eq_true_eq] at hc
  obtain ⟨hd, rfl⟩ := hc
  dsimp only [stp] at hs
  split at hs
  · exact s_ishl hd (hkk _ _ _ _ _ _ hs)
  all_goals exact hs.elim
theorem ok_ishr  (hW : WOK G W) (hc : chkO i pc (.ishr, len, a, b, c, d) = true) (hkk : ∀ L st h o k n, kk L st h o k n → EX G i (pc + len) L st h o k n Q) (hjj : ∀ q L st h o k n, jj q L st h o k n → EX G i q L st h o k n Q) (hs : stp W G i Q (.ishr) a b c d pc L st h o k n kk jj) : EX G i pc L st h o k n Q := by
  simp only [chkO, Bool.and_eq_true, decide_eq_true_eq] at hc
  obtain ⟨hd, rfl⟩ := hc
  dsimp only [stp] at hs
  split at hs
  · exact s_ishr hd (hkk _ _ _ _ _ _ hs)
  all_goals exact hs.elim
theorem ok_iushr  (hW : WOK G W) (hc : chkO i pc (.iushr, len, a, b, c, d) = true) (hkk : ∀ L st h o k n, kk L st h o k n → EX G i (pc + len) L st h o k n Q) (hjj : ∀ q L st h o k n, jj q L st h o k n → EX G i q L st h o k n Q) (hs : stp W G i Q (.iushr) a b c d pc L st h o k n kk jj) : EX G i pc L st h o k n Q := by
  simp only [chkO, Bool.and_eq_true, decide_eq_true_eq] at hc
  obtain ⟨hd, rfl⟩ := hc
  dsimp only [stp] at hs
  split at hs
  · exact s_iushr hd (hkk _ _ _ _ _ _ hs)
  all_goals exact hs.elim
theorem ok_ineg  (hW : WOK G W) (hc : chkO i pc (.ineg, len, a, b, c, d) = true) (hkk : ∀ L st h o k n, kk L st h o k n → EX G i (pc + len) L st h o k n Q) (hjj : ∀ q L st h o k n, jj q L st h o k n → EX G i q L st h o k n Q) (hs : stp W G i Q (.ineg) a b c d pc L st h o k n kk jj) : EX G i pc L st h o k n Q := by
  simp only [chkO, Bool.and_eq_true, decide_eq_true_eq] at hc
  obtain ⟨hd, rfl⟩ := hc
  dsimp only [stp] at hs
  split at hs
  · exact s_ineg hd (hkk _ _ _ _ _ _ hs)
  all_goals exact hs.elim
theorem ok_i2c  (hW : WOK G W) (hc : chkO i pc (.i2c, len, a, b, c, d) = true) (hkk : ∀ L st h o k n, kk L st h o k n → EX G i (pc + len) L st h o k n Q) (hjj : ∀ q L st h o k n, jj q L st h o k n → EX G i q L st h o k n Q) (hs : stp W G i Q (.i2c) a b c d pc L st h o k n kk jj) : EX G i pc L st h o k n Q := by
  simp only [chkO, Bool.and_eq_true, decide_eq_true_eq] at hc
  obtain ⟨hd, rfl⟩ := hc
  dsimp only [stp] at hs
  split at hs
  · exact s_i2c hd (hkk _ _ _ _ _ _ hs)
  all_goals exact hs.elim
theorem ok_i2b  (hW : WOK G W) (hc : chkO i pc (.i2b, len, a, b, c, d) = true) (hkk : ∀ L st h o k n, kk L st h o k n → EX G i (pc + len) L st h o k n Q) (hjj : ∀ q L st h o k n, jj q L st h o k n → EX G i q L st h o k n Q) (hs : stp W G i Q (.i2b) a b c d pc L st h o k n kk jj) : EX G i pc L st h o k n Q := by
  simp only [chkO, Bool.and_eq_true, decide_eq_true_eq] at hc
  obtain ⟨hd, rfl⟩ := hc
  dsimp only [stp] at hs
  split at hs
  · exact s_i2b hd (hkk _ _ _ _ _ _ hs)
  all_goals exact hs.elim
theorem ok_fcmp {z : CmpOp} (hW : WOK G W) (hc : chkO i pc (.fcmp z, len, a, b, c, d) = true) (hkk : ∀ L st h o k n, kk L st h o k n → EX G i (pc + len) L st h o k n Q) (hjj : ∀ q L st h o k n, jj q L st h o k n → EX G i q L st h o k n Q) (hs : stp W G i Q (.fcmp z) a b c d pc L st h o k n kk jj) : EX G i pc L st h o k n Q := by
  simp only [chkO, Bool.and_eq_true, decide_eq_true_eq] at hc
  obtain ⟨hd, rfl⟩ := hc
  dsimp only [stp] at hs
  split at hs
  · exact s_fcmp hd (hkk _ _ _ _ _ _ hs)
  all_goals exact hs.elim
theorem ok_dup_x1  (hW : WOK G W) (hc : chkO i pc (.dup_x1, len, a, b, c, d) = true) (hkk : ∀ L st h o k n, kk L st h o k n → EX G i (pc + len) L st h o k n Q) (hjj : ∀ q L st h o k n, jj q L st h o k n → EX G i q L st h o k n Q) (hs : stp W G i Q (.dup_x1) a b c d pc L st h o k n kk jj) : EX G i pc L st h o k n Q := by
  simp only [chkO, Bool.and_eq_true, decide_eq_true_eq] at hc
  obtain ⟨hd, rfl⟩ := hc
  dsimp only [stp] at hs
  split at hs
  · exact s_dup_x1 hd hs.1.1 hs.1.2 (hkk _ _ _ _ _ _ hs.2)
  all_goals exact hs.elim
theorem ok_idiv  (hW : WOK G W) (hc : chkO i pc (.idiv, len, a, b, c, d) = true) (hkk : ∀ L st h o k n, kk L st h o k n → EX G i (pc + len) L st h o k n Q) (hjj : ∀ q L st h o k n, jj q L st h o k n → EX G i q L st h o k n Q) (hs : stp W G i Q (.idiv) a b c d pc L st h o k n kk jj) : EX G i pc L st h o k n Q := by
  simp only [chkO, Bool.and_eq_true, decide_eq_true_eq] at hc
  obtain ⟨hd, rfl⟩ := hc
  dsimp only [stp] at hs
  split at hs
  · exact s_idiv hd hs.1 (hkk _ _ _ _ _ _ hs.2)
  all_goals exact hs.elim
theorem ok_irem  (hW : WOK G W) (hc : chkO i pc (.irem, len, a, b, c, d) = true) (hkk : ∀ L st h o k n, kk L st h o k n → EX G i (pc + len) L st h o k n Q) (hjj : ∀ q L st h o k n, jj q L st h o k n → EX G i q L st h o k n Q) (hs : stp W G i Q (.irem) a b c d pc L st h o k n kk jj) : EX G i pc L st h o k n Q := by
  simp only [chkO, Bool.and_eq_true, decide_eq_true_eq] at hc
  obtain ⟨hd, rfl⟩ := hc
  dsimp only [stp] at hs
  split at hs
  · exact s_irem hd hs.1 (hkk _ _ _ _ _ _ hs.2)
  all_goals exact hs.elim
theorem ok_land  (hW : WOK G W) (hc : chkO i pc (.land, len, a, b, c, d) = true) (hkk : ∀ L st h o k n, kk L st h o k n → EX G i (pc + len) L st h o k n Q) (hjj : ∀ q L st h o k n, jj q L st h o k n → EX G i q L st h o k n Q) (hs : stp W G i Q (.land) a b c d pc L st h o k n kk jj) : EX G i pc L st h o k n Q := by
  simp only [chkO, Bool.and_eq_true, decide_eq_true_eq] at hc
  obtain ⟨hd, rfl⟩ := hc
  dsimp only [stp] at hs
  split at hs
  · exact s_land hd (hkk _ _ _ _ _ _ hs)
  all_goals exact hs.elim
theorem ok_lor  (hW : WOK G W) (hc : chkO i pc (.lor, len, a, b, c, d) = true) (hkk : ∀ L st h o k n, kk L st h o k n → EX G i (pc + len) L st h o k n Q) (hjj : ∀ q L st h o k n, jj q L st h o k n → EX G i q L st h o k n Q) (hs : stp W G i Q (.lor) a b c d pc L st h o k n kk jj) : EX G i pc L st h o k n Q := by
  simp only [chkO, Bool.and_eq_true, decide_eq_true_eq] at hc
  obtain ⟨hd, rfl⟩ := hc
  dsimp only [stp] at hs
  split at hs
  · exact s_lor hd (hkk _ _ _ _ _ _ hs)
  all_goals exact hs.elim
theorem ok_lshl  (hW : WOK G W) (hc : chkO i pc (.lshl, len, a, b, c, d) = true) (hkk : ∀ L st h o k n, kk L st h o k n → EX G i (pc + len) L st h o k n Q) (hjj : ∀ q L st h o k n, jj q L st h o k n → EX G i q L st h o k n Q) (hs : stp W G i Q (.lshl) a b c d pc L st h o k n kk jj) : EX G i pc L st h o k n Q := by
  simp only [chkO, Bool.and_eq_true, decide_eq_true_eq] at hc
  obtain ⟨hd, rfl⟩ := hc
  dsimp only [stp] at hs
  split at hs
  · exact s_lshl hd (hkk _ _ _ _ _ _ hs)
  all_goals exact hs.elim
theorem ok_lshr  (hW : WOK G W) (hc : chkO i pc (.lshr, len, a, b, c, d) = true) (hkk : ∀ L st h o k n, kk L st h o k n → EX G i (pc + len) L st h o k n Q) (hjj : ∀ q L st h o k n, jj q L st h o k n → EX G i q L st h o k n Q) (hs : stp W G i Q (.lshr) a b c d pc L st h o k n kk jj) : EX G i pc L st h o k n Q := by
  simp only [chkO, Bool.and_eq_true, decide_eq_true_eq] at hc
  obtain ⟨hd, rfl⟩ := hc
  dsimp only [stp] at hs
  split at hs
  · exact s_lshr hd (hkk _ _ _ _ _ _ hs)
  all_goals exact hs.elim
theorem ok_lushr  (hW : WOK G W) (hc : chkO i pc (.lushr, len, a, b, c, d) = true) (hkk : ∀ L st h o k n, kk L st h o k n → EX G i (pc + len) L st h o k n Q) (hjj : ∀ q L st h o k n, jj q L st h o k n → EX G i q L st h o k n Q) (hs : stp W G i Q (.lushr) a b c d pc L st h o k n kk jj) : EX G i pc L st h o k n Q := by
  simp only [chkO, Bool.and_eq_true, decide_eq_true_eq] at hc
  obtain ⟨hd, rfl⟩ := hc
  dsimp only [stp] at hs
  split at hs
  · exact s_lushr hd (hkk _ _ _ _ _ _ hs)
  all_goals exact hs.elim
theorem ok_lcmp  (hW : WOK G W) (hc : chkO i pc (.lcmp, len, a, b, c, d) = true) (hkk : ∀ L st h o k n, kk L st h o k n → EX G i (pc + len) L st h o k n Q) (hjj : ∀ q L st h o k n, jj q L st h o k n → EX G i q L st h o k n Q) (hs : stp W G i Q (.lcmp) a b c d pc L st h o k n kk jj) : EX G i pc L st h o k n Q := by
  simp only [chkO, Bool.and_eq_true, decide_eq_true_eq] at hc
  obtain ⟨hd, rfl⟩ := hc
  dsimp only [stp] at hs
  split at hs
  · exact s_lcmp hd (hkk _ _ _ _ _ _ hs)
  all_goals exact hs.elim
theorem ok_fdiv  (hW : WOK G W) (hc : chkO i pc (.fdiv, len, a, b, c, d) = true) (hkk : ∀ L st h o k n, kk L st h o k n → EX G i (pc + len) L st h o k n Q) (hjj : ∀ q L st h o k n, jj q L st h o k n → EX G i q L st h o k n Q) (hs : stp W G i Q (.fdiv) a b c d pc L st h o k n kk jj) : EX G i pc L st h o k n Q := by
  simp only [chkO, Bool.and_eq_true, decide_eq_true_eq] at hc
  obtain ⟨hd, rfl⟩ := hc
  dsimp only [stp] at hs
  split at hs
  · exact s_fdiv hd hs.1 (hkk _ _ _ _ _ _ hs.2)
  all_goals exact hs.elim
theorem ok_ddiv  (hW : WOK G W) (hc : chkO i pc (.ddiv, len, a, b, c, d) = true) (hkk : ∀ L st h o k n, kk L st h o k n → EX G i (pc + len) L st h o k n Q) (hjj : ∀ q L st h o k n, jj q L st h o k n → EX G i q L st h o k n Q) (hs : stp W G i Q (.ddiv) a b c d pc L st h o k n kk jj) : EX G i pc L st h o k n Q := by
  simp only [chkO, Bool.and_eq_true, decide_eq_true_eq] at hc
  obtain ⟨hd, rfl⟩ := hc
  dsimp only [stp] at hs
  split at hs
  · exact s_ddiv hd hs.1 (hkk _ _ _ _ _ _ hs.2)
  all_goals exact hs.elim
theorem ok_dcmp {z : CmpOp} (hW : WOK G W) (hc : chkO i pc (.dcmp z, len, a, b, c, d) = true) (hkk : ∀ L st h o k n, kk L st h o k n → EX G i (pc + len) L st h o k n Q) (hjj : ∀ q L st h o k n, jj q L st h o k n → EX G i q L st h o k n Q) (hs : stp W G i Q (.dcmp z) a b c d pc L st h o k n kk jj) : EX G i pc L st h o k n Q := by
  simp only [chkO, Bool.and_eq_true, decide_eq_true_eq] at hc
  obtain ⟨hd, rfl⟩ := hc
  dsimp only [stp] at hs
  split at hs
  · exact s_dcmp hd (hkk _ _ _ _ _ _ hs)
  all_goals exact hs.elim
theorem ok_i2l  (hW : WOK G W) (hc : chkO i pc (.i2l, len, a, b, c, d) = true) (hkk : ∀ L st h o k n, kk L st h o k n → EX G i (pc + len) L st h o k n Q) (hjj : ∀ q L st h o k n, jj q L st h o k n → EX G i q L st h o k n Q) (hs : stp W G i Q (.i2l) a b c d pc L st h o k n kk jj) : EX G i pc L st h o k n Q := by
  simp only [chkO, Bool.and_eq_true, decide_eq_true_eq] at hc
  obtain ⟨hd, rfl⟩ := hc
  dsimp only [stp] at hs
  split at hs
  · exact s_i2l hd (hkk _ _ _ _ _ _ hs)
  all_goals exact hs.elim
theorem ok_l2i  (hW : WOK G W) (hc : chkO i pc (.l2i, len, a, b, c, d) = true) (hkk : ∀ L st h o k n, kk L st h o k n → EX G i (pc + len) L st h o k n Q) (hjj : ∀ q L st h o k n, jj q L st h o k n → EX G i q L st h o k n Q) (hs : stp W G i Q (.l2i) a b c d pc L st h o k n kk jj) : EX G i pc L st h o k n Q := by
  simp only [chkO, Bool.and_eq_true, decide_eq_true_eq] at hc
  obtain ⟨hd, rfl⟩ := hc
  dsimp only [stp] at hs
  split at hs
  · exact s_l2i hd (hkk _ _ _ _ _ _ hs)
  all_goals exact hs.elim
theorem ok_i2f  (hW : WOK G W) (hc : chkO i pc (.i2f, len, a, b, c, d) = true) (hkk : ∀ L st h o k n, kk L st h o k n → EX G i (pc + len) L st h o k n Q) (hjj : ∀ q L st h o k n, jj q L st h o k n → EX G i q L st h o k n Q) (hs : stp W G i Q (.i2f) a b c d pc L st h o k n kk jj) : EX G i pc L st h o k n Q := by
  simp only [chkO, Bool.and_eq_true, decide_eq_true_eq] at hc
  obtain ⟨hd, rfl⟩ := hc
  dsimp only [stp] at hs
  split at hs
  · exact s_i2f hd (hkk _ _ _ _ _ _ hs)
  all_goals exact hs.elim
theorem ok_i2d  (hW : WOK G W) (hc : chkO i pc (.i2d, len, a, b, c, d) = true) (hkk : ∀ L st h o k n, kk L st h o k n → EX G i (pc + len) L st h o k n Q) (hjj : ∀ q L st h o k n, jj q L st h o k n → EX G i q L st h o k n Q) (hs : stp W G i Q (.i2d) a b c d pc L st h o k n kk jj) : EX G i pc L st h o k n Q := by
  simp only [chkO, Bool.and_eq_true, decide_eq_true_eq] at hc
  obtain ⟨hd, rfl⟩ := hc
  dsimp only [stp] at hs
  split at hs
  · exact s_i2d hd (hkk _ _ _ _ _ _ hs)
  all_goals exact hs.elim
theorem ok_f2d  (hW : WOK G W) (hc : chkO i pc (.f2d, len, a, b, c, d) = true) (hkk : ∀ L st h o k n, kk L st h o k n → EX G i (pc + len) L st h o k n Q) (hjj : ∀ q L st h o k n, jj q L st h o k n → EX G i q L st h o k n Q) (hs : stp W G i Q (.f2d) a b c d pc L st h o k n kk jj) : EX G i pc L st h o k n Q := by
  simp only [chkO, Bool.and_eq_true, decide_eq_true_eq] at hc
  obtain ⟨hd, rfl⟩ := hc
  dsimp only [stp] at hs
  split at hs
  · exact s_f2d hd hs.1 (hkk _ _ _ _ _ _ hs.2)
  all_goals exact hs.elim
theorem ok_dup  (hW : WOK G W) (hc : chkO i pc (.dup, len, a, b, c, d) = true) (hkk : ∀ L st h o k n, kk L st h o k n → EX G i (pc + len) L st h o k n Q) (hjj : ∀ q L st h o k n, jj q L st h o k n → EX G i q L st h o k n Q) (hs : stp W G i Q (.dup) a b c d pc L st h o k n kk jj) : EX G i pc L st h o k n Q := by
  simp only [chkO, Bool.and_eq_true, decide_eq_true_eq] at hc
  obtain ⟨hd, rfl⟩ := hc
  dsimp only [stp] at hs
  split at hs
  · exact s_dup hd hs.1 (hkk _ _ _ _ _ _ hs.2)
  all_goals exact hs.elim
theorem ok_pop  (hW : WOK G W) (hc : chkO i pc (.pop, len, a, b, c, d) = true) (hkk : ∀ L st h o k n, kk L st h o k n → EX G i (pc + len) L st h o k n Q) (hjj : ∀ q L st h o k n, jj q L st h o k n → EX G i q L st h o k n Q) (hs : stp W G i Q (.pop) a b c d pc L st h o k n kk jj) : EX G i pc L st h o k n Q := by
  simp only [chkO, Bool.and_eq_true, decide_eq_true_eq] at hc
  obtain ⟨hd, rfl⟩ := hc
  dsimp only [stp] at hs
  split at hs
  · exact s_pop hd hs.1 (hkk _ _ _ _ _ _ hs.2)
  all_goals exact hs.elim
theorem ok_dup2  (hW : WOK G W) (hc : chkO i pc (.dup2, len, a, b, c, d) = true) (hkk : ∀ L st h o k n, kk L st h o k n → EX G i (pc + len) L st h o k n Q) (hjj : ∀ q L st h o k n, jj q L st h o k n → EX G i q L st h o k n Q) (hs : stp W G i Q (.dup2) a b c d pc L st h o k n kk jj) : EX G i pc L st h o k n Q := by
  simp only [chkO, Bool.and_eq_true, decide_eq_true_eq] at hc
  obtain ⟨hd, rfl⟩ := hc
  dsimp only [stp] at hs
  split at hs
  · exact s_dup2 hd hs.1.1 hs.1.2 (hkk _ _ _ _ _ _ hs.2)
  all_goals exact hs.elim
theorem ok_iload_n {z : Fin 4} (hW : WOK G W) (hc : chkO i pc (.iload_n z, len, a, b, c, d) = true) (hkk : ∀ L st h o k n, kk L st h o k n → EX G i (pc + len) L st h o k n Q) (hjj : ∀ q L st h o k n, jj q L st h o k n → EX G i q L st h o k n Q) (hs : stp W G i Q (.iload_n z) a b c d pc L st h o k n kk jj) : EX G i pc L st h o k n Q := by
  simp only [chkO, Bool.and_eq_true, decide_eq_true_eq] at hc
  obtain ⟨hd, rfl⟩ := hc
  dsimp only [stp] at hs
  split at hs
  · (rename_i hq; exact s_iload_n hd hq (hkk _ _ _ _ _ _ hs))
  all_goals exact hs.elim
theorem ok_iload {z : Nat} (hW : WOK G W) (hc : chkO i pc (.iload z, len, a, b, c, d) = true) (hkk : ∀ L st h o k n, kk L st h o k n → EX G i (pc + len) L st h o k n Q) (hjj : ∀ q L st h o k n, jj q L st h o k n → EX G i q L st h o k n Q) (hs : stp W G i Q (.iload z) a b c d pc L st h o k n kk jj) : EX G i pc L st h o k n Q := by
  simp only [chkO, Bool.and_eq_true, decide_eq_true_eq] at hc
  obtain ⟨hd, rfl⟩ := hc
  dsimp only [stp] at hs
  split at hs
  · (rename_i hq; exact s_iload hd hq (hkk _ _ _ _ _ _ hs))
  all_goals exact hs.elim
theorem ok_lload_n {z : Fin 4} (hW : WOK G W) (hc : chkO i pc (.lload_n z, len, a, b, c, d) = true) (hkk : ∀ L st h o k n, kk L st h o k n → EX G i (pc + len) L st h o k n Q) (hjj : ∀ q L st h o k n, jj q L st h o k n → EX G i q L st h o k n Q) (hs : stp W G i Q (.lload_n z) a b c d pc L st h o k n kk jj) : EX G i pc L st h o k n Q := by
  simp only [chkO, Bool.and_eq_true, decide_eq_true_eq] at hc
  obtain ⟨hd, rfl⟩ := hc
  dsimp only [stp] at hs
  split at hs
  · (rename_i hq; exact s_lload_n hd hq (hkk _ _ _ _ _ _ hs))
  all_goals exact hs.elim
theorem ok_lload {z : Nat} (hW : WOK G W) (hc : chkO i pc (.lload z, len, a, b, c, d) = true) (hkk : ∀ L st h o k n, kk L st h o k n → EX G i (pc + len) L st h o k n Q) (hjj : ∀ q L st h o k n, jj q L st h o k n → EX G i q L st h o k n Q) (hs : stp W G i Q (.lload z) a b c d pc L st h o k n kk jj) : EX G i pc L st h o k n Q := by
  simp only [chkO, Bool.and_eq_true, decide_eq_true_eq] at hc
  obtain ⟨hd, rfl⟩ := hc
  dsimp only [stp] at hs
  split at hs
  · (rename_i hq; exact s_lload hd hq (hkk _ _ _ _ _ _ hs))
  all_goals exact hs.elim
theorem ok_aload_n {z : Fin 4} (hW : WOK G W) (hc : chkO i pc (.aload_n z, len, a, b, c, d) = true) (hkk : ∀ L st h o k n, kk L st h o k n → EX G i (pc + len) L st h o k n Q) (hjj : ∀ q L st h o k n, jj q L st h o k n → EX G i q L st h o k n Q) (hs : stp W G i Q (.aload_n z) a b c d pc L st h o k n kk jj) : EX G i pc L st h o k n Q := by
  simp only [chkO, Bool.and_eq_true, decide_eq_true_eq] at hc
  obtain ⟨hd, rfl⟩ := hc
  dsimp only [stp] at hs
  split at hs
  · rename_i hq
    exact s_aload_n hd hq (hkk _ _ _ _ _ _ hs)
  · rename_i hq
    exact s_aload_nN hd hq (hkk _ _ _ _ _ _ hs)
  · exact hs.elim
theorem ok_aload {z : Nat} (hW : WOK G W) (hc : chkO i pc (.aload z, len, a, b, c, d) = true) (hkk : ∀ L st h o k n, kk L st h o k n → EX G i (pc + len) L st h o k n Q) (hjj : ∀ q L st h o k n, jj q L st h o k n → EX G i q L st h o k n Q) (hs : stp W G i Q (.aload z) a b c d pc L st h o k n kk jj) : EX G i pc L st h o k n Q := by
  simp only [chkO, Bool.and_eq_true, decide_eq_true_eq] at hc
  obtain ⟨hd, rfl⟩ := hc
  dsimp only [stp] at hs
  split at hs
  · (rename_i hq; exact s_aload hd hq (hkk _ _ _ _ _ _ hs))
  all_goals exact hs.elim
theorem ok_dload_n {z : Fin 4} (hW : WOK G W) (hc : chkO i pc (.dload_n z, len, a, b, c, d) = true) (hkk : ∀ L st h o k n, kk L st h o k n → EX G i (pc + len) L st h o k n Q) (hjj : ∀ q L st h o k n, jj q L st h o k n → EX G i q L st h o k n Q) (hs : stp W G i Q (.dload_n z) a b c d pc L st h o k n kk jj) : EX G i pc L st h o k n Q := by
  simp only [chkO, Bool.and_eq_true, decide_eq_true_eq] at hc
  obtain ⟨hd, rfl⟩ := hc
  dsimp only [stp] at hs
  split at hs
  · (rename_i hq; exact s_dload_n hd hq (hkk _ _ _ _ _ _ hs))
  all_goals exact hs.elim
theorem ok_dload {z : Nat} (hW : WOK G W) (hc : chkO i pc (.dload z, len, a, b, c, d) = true) (hkk : ∀ L st h o k n, kk L st h o k n → EX G i (pc + len) L st h o k n Q) (hjj : ∀ q L st h o k n, jj q L st h o k n → EX G i q L st h o k n Q) (hs : stp W G i Q (.dload z) a b c d pc L st h o k n kk jj) : EX G i pc L st h o k n Q := by
  simp only [chkO, Bool.and_eq_true, decide_eq_true_eq] at hc
  obtain ⟨hd, rfl⟩ := hc
  dsimp only [stp] at hs
  split at hs
  · (rename_i hq; exact s_dload hd hq (hkk _ _ _ _ _ _ hs))
  all_goals exact hs.elim
theorem ok_istore_n {z : Fin 4} (hW : WOK G W) (hc : chkO i pc (.istore_n z, len, a, b, c, d) = true) (hkk : ∀ L st h o k n, kk L st h o k n → EX G i (pc + len) L st h o k n Q) (hjj : ∀ q L st h o k n, jj q L st h o k n → EX G i q L st h o k n Q) (hs : stp W G i Q (.istore_n z) a b c d pc L st h o k n kk jj) : EX G i pc L st h o k n Q := by
  simp only [chkO, Bool.and_eq_true, decide_eq_true_eq] at hc
  obtain ⟨hd, rfl, hx⟩ := hc
  dsimp only [stp] at hs
  split at hs
  · exact s_istore_n hd hx (hkk _ _ _ _ _ _ hs)
  all_goals exact hs.elim
theorem ok_istore {z : Nat} (hW : WOK G W) (hc : chkO i pc (.istore z, len, a, b, c, d) = true) (hkk : ∀ L st h o k n, kk L st h o k n → EX G i (pc + len) L st h o k n Q) (hjj : ∀ q L st h o k n, jj q L st h o k n → EX G i q L st h o k n Q) (hs : stp W G i Q (.istore z) a b c d pc L st h o k n kk jj) : EX G i pc L st h o k n Q := by
  simp only [chkO, Bool.and_eq_true, decide_eq_true_eq] at hc
  obtain ⟨hd, rfl, hx⟩ := hc
  dsimp only [stp] at hs
  split at hs
  · exact s_istore hd hx (hkk _ _ _ _ _ _ hs)
  all_goals exact hs.elim
theorem ok_astore_n {z : Fin 4} (hW : WOK G W) (hc : chkO i pc (.astore_n z, len, a, b, c, d) = true) (hkk : ∀ L st h o k n, kk L st h o k n → EX G i (pc + len) L st h o k n Q) (hjj : ∀ q L st h o k n, jj q L st h o k n → EX G i q L st h o k n Q) (hs : stp W G i Q (.astore_n z) a b c d pc L st h o k n kk jj) : EX G i pc L st h o k n Q := by
  simp only [chkO, Bool.and_eq_true, decide_eq_true_eq] at hc
  obtain ⟨hd, rfl, hx⟩ := hc
  dsimp only [stp] at hs
  split at hs
  · exact s_astore_n hd hx (hkk _ _ _ _ _ _ hs)
  all_goals exact hs.elim
theorem ok_astore {z : Nat} (hW : WOK G W) (hc : chkO i pc (.astore z, len, a, b, c, d) = true) (hkk : ∀ L st h o k n, kk L st h o k n → EX G i (pc + len) L st h o k n Q) (hjj : ∀ q L st h o k n, jj q L st h o k n → EX G i q L st h o k n Q) (hs : stp W G i Q (.astore z) a b c d pc L st h o k n kk jj) : EX G i pc L st h o k n Q := by
  simp only [chkO, Bool.and_eq_true, decide_eq_true_eq] at hc
  obtain ⟨hd, rfl, hx⟩ := hc
  dsimp only [stp] at hs
  split at hs
  · exact s_astore hd hx (hkk _ _ _ _ _ _ hs)
  all_goals exact hs.elim
theorem ok_lstore_n {z : Fin 4} (hW : WOK G W) (hc : chkO i pc (.lstore_n z, len, a, b, c, d) = true) (hkk : ∀ L st h o k n, kk L st h o k n → EX G i (pc + len) L st h o k n Q) (hjj : ∀ q L st h o k n, jj q L st h o k n → EX G i q L st h o k n Q) (hs : stp W G i Q (.lstore_n z) a b c d pc L st h o k n kk jj) : EX G i pc L st h o k n Q := by
  simp only [chkO, Bool.and_eq_true, decide_eq_true_eq] at hc
  obtain ⟨hd, rfl, hx⟩ := hc
  dsimp only [stp] at hs
  split at hs
  · exact s_lstore_n hd hx (hkk _ _ _ _ _ _ hs)
  all_goals exact hs.elim
theorem ok_lstore {z : Nat} (hW : WOK G W) (hc : chkO i pc (.lstore z, len, a, b, c, d) = true) (hkk : ∀ L st h o k n, kk L st h o k n → EX G i (pc + len) L st h o k n Q) (hjj : ∀ q L st h o k n, jj q L st h o k n → EX G i q L st h o k n Q) (hs : stp W G i Q (.lstore z) a b c d pc L st h o k n kk jj) : EX G i pc L st h o k n Q := by
  simp only [chkO, Bool.and_eq_true, decide_eq_true_eq] at hc
  obtain ⟨hd, rfl, hx⟩ := hc
  dsimp only [stp] at hs
  split at hs
  · exact s_lstore hd hx (hkk _ _ _ _ _ _ hs)
  all_goals exact hs.elim
theorem ok_dstore_n {z : Fin 4} (hW : WOK G W) (hc : chkO i pc (.dstore_n z, len, a, b, c, d) = true) (hkk : ∀ L st h o k n, kk L st h o k n → EX G i (pc + len) L st h o k n Q) (hjj : ∀ q L st h o k n, jj q L st h o k n → EX G i q L st h o k n Q) (hs : stp W G i Q (.dstore_n z) a b c d pc L st h o k n kk jj) : EX G i pc L st h o k n Q := by
  simp only [chkO, Bool.and_eq_true, decide_eq_true_eq] at hc
  obtain ⟨hd, rfl, hx⟩ := hc
  dsimp only [stp] at hs
  split at hs
  · exact s_dstore_n hd hx (hkk _ _ _ _ _ _ hs)
  all_goals exact hs.elim
theorem ok_dstore {z : Nat} (hW : WOK G W) (hc : chkO i pc (.dstore z, len, a, b, c, d) = true) (hkk : ∀ L st h o k n, kk L st h o k n → EX G i (pc + len) L st h o k n Q) (hjj : ∀ q L st h o k n, jj q L st h o k n → EX G i q L st h o k n Q) (hs : stp W G i Q (.dstore z) a b c d pc L st h o k n kk jj) : EX G i pc L st h o k n Q := by
  simp only [chkO, Bool.and_eq_true, decide_eq_true_eq] at hc
  obtain ⟨hd, rfl, hx⟩ := hc
  dsimp only [stp] at hs
  split at hs
  · exact s_dstore hd hx (hkk _ _ _ _ _ _ hs)
  all_goals exact hs.elim
theorem ok_iinc {z : Nat} {dl : Int} (hW : WOK G W) (hc : chkO i pc (.iinc z dl, len, a, b, c, d) = true) (hkk : ∀ L st h o k n, kk L st h o k n → EX G i (pc + len) L st h o k n Q) (hjj : ∀ q L st h o k n, jj q L st h o k n → EX G i q L st h o k n Q) (hs : stp W G i Q (.iinc z dl) a b c d pc L st h o k n kk jj) : EX G i pc L st h o k n Q := by
  simp only [chkO, Bool.and_eq_true, decide_eq_true_eq] at hc
  obtain ⟨hd, rfl, hx⟩ := hc
  dsimp only [stp] at hs
  split at hs
  · (rename_i hq; exact s_iinc hd hq hx (hkk _ _ _ _ _ _ hs))
  all_goals exact hs.elim
theorem ok_ifCond {cd : ClassFile.Cond} {off : Int} (hW : WOK G W) (hc : chkO i pc (.ifCond cd off, len, a, b, c, d) = true) (hkk : ∀ L st h o k n, kk L st h o k n → EX G i (pc + len) L st h o k n Q) (hjj : ∀ q L st h o k n, jj q L st h o k n → EX G i q L st h o k n Q) (hs : stp W G i Q (.ifCond cd off) a b c d pc L st h o k n kk jj) : EX G i pc L st h o k n Q := by
  simp only [chkO, Bool.and_eq_true, decide_eq_true_eq] at hc
  obtain ⟨hd, rfl, hx⟩ := hc
  dsimp only [stp] at hs
  split at hs
  · cases cd
    · exact s_if_eq hd hx (fun q => hjj _ _ _ _ _ _ _ (hs.1 q)) (fun q => hkk _ _ _ _ _ _ (hs.2 q))
    · exact s_if_ne hd hx (fun q => hjj _ _ _ _ _ _ _ (hs.1 q)) (fun q => hkk _ _ _ _ _ _ (hs.2 q))
    · exact s_if_lt hd hx (fun q => hjj _ _ _ _ _ _ _ (hs.1 q)) (fun q => hkk _ _ _ _ _ _ (hs.2 q))
    · exact s_if_ge hd hx (fun q => hjj _ _ _ _ _ _ _ (hs.1 q)) (fun q => hkk _ _ _ _ _ _ (hs.2 q))
    · exact s_if_gt hd hx (fun q => hjj _ _ _ _ _ _ _ (hs.1 q)) (fun q => hkk _ _ _ _ _ _ (hs.2 q))
    · exact s_if_le hd hx (fun q => hjj _ _ _ _ _ _ _ (hs.1 q)) (fun q => hkk _ _ _ _ _ _ (hs.2 q))
  · exact hs.elim
theorem ok_if_icmp {cd : ClassFile.Cond} {off : Int} (hW : WOK G W) (hc : chkO i pc (.if_icmp cd off, len, a, b, c, d) = true) (hkk : ∀ L st h o k n, kk L st h o k n → EX G i (pc + len) L st h o k n Q) (hjj : ∀ q L st h o k n, jj q L st h o k n → EX G i q L st h o k n Q) (hs : stp W G i Q (.if_icmp cd off) a b c d pc L st h o k n kk jj) : EX G i pc L st h o k n Q := by
  simp only [chkO, Bool.and_eq_true, decide_eq_true_eq] at hc
  obtain ⟨hd, rfl, hx⟩ := hc
  dsimp only [stp] at hs
  split at hs
  · cases cd
    · exact s_icmp_eq hd hx (fun q => hjj _ _ _ _ _ _ _ (hs.1 q)) (fun q => hkk _ _ _ _ _ _ (hs.2 q))
    · exact s_icmp_ne hd hx (fun q => hjj _ _ _ _ _ _ _ (hs.1 q)) (fun q => hkk _ _ _ _ _ _ (hs.2 q))
    · exact s_icmp_lt hd hx (fun q => hjj _ _ _ _ _ _ _ (hs.1 q)) (fun q => hkk _ _ _ _ _ _ (hs.2 q))
    · exact s_icmp_ge hd hx (fun q => hjj _ _ _ _ _ _ _ (hs.1 q)) (fun q => hkk _ _ _ _ _ _ (hs.2 q))
    · exact s_icmp_gt hd hx (fun q => hjj _ _ _ _ _ _ _ (hs.1 q)) (fun q => hkk _ _ _ _ _ _ (hs.2 q))
    · exact s_icmp_le hd hx (fun q => hjj _ _ _ _ _ _ _ (hs.1 q)) (fun q => hkk _ _ _ _ _ _ (hs.2 q))
  · exact hs.elim
theorem ok_goto {off : Int} (hW : WOK G W) (hc : chkO i pc (.goto off, len, a, b, c, d) = true) (hkk : ∀ L st h o k n, kk L st h o k n → EX G i (pc + len) L st h o k n Q) (hjj : ∀ q L st h o k n, jj q L st h o k n → EX G i q L st h o k n Q) (hs : stp W G i Q (.goto off) a b c d pc L st h o k n kk jj) : EX G i pc L st h o k n Q := by
  simp only [chkO, Bool.and_eq_true, decide_eq_true_eq] at hc
  obtain ⟨hd, rfl, hx⟩ := hc
  dsimp only [stp] at hs
  exact s_goto hd hx (hjj _ _ _ _ _ _ _ hs)
theorem ok_ifnull {off : Int} (hW : WOK G W) (hc : chkO i pc (.ifnull off, len, a, b, c, d) = true) (hkk : ∀ L st h o k n, kk L st h o k n → EX G i (pc + len) L st h o k n Q) (hjj : ∀ q L st h o k n, jj q L st h o k n → EX G i q L st h o k n Q) (hs : stp W G i Q (.ifnull off) a b c d pc L st h o k n kk jj) : EX G i pc L st h o k n Q := by
  simp only [chkO, Bool.and_eq_true, decide_eq_true_eq] at hc
  obtain ⟨hd, rfl, hx⟩ := hc
  dsimp only [stp] at hs
  split at hs
  · exact s_ifnull hd (hkk _ _ _ _ _ _ hs)
  · exact s_ifnullN hd hx (hjj _ _ _ _ _ _ _ hs)
  · exact hs.elim
theorem ok_ifnonnull {off : Int} (hW : WOK G W) (hc : chkO i pc (.ifnonnull off, len, a, b, c, d) = true) (hkk : ∀ L st h o k n, kk L st h o k n → EX G i (pc + len) L st h o k n Q) (hjj : ∀ q L st h o k n, jj q L st h o k n → EX G i q L st h o k n Q) (hs : stp W G i Q (.ifnonnull off) a b c d pc L st h o k n kk jj) : EX G i pc L st h o k n Q := by
  simp only [chkO, Bool.and_eq_true, decide_eq_true_eq] at hc
  obtain ⟨hd, rfl, hx⟩ := hc
  dsimp only [stp] at hs
  split at hs
  · exact s_ifnonnull hd hx (hjj _ _ _ _ _ _ _ hs)
  all_goals exact hs.elim
theorem ok_ireturn  (hW : WOK G W) (hc : chkO i pc (.ireturn, len, a, b, c, d) = true) (hkk : ∀ L st h o k n, kk L st h o k n → EX G i (pc + len) L st h o k n Q) (hjj : ∀ q L st h o k n, jj q L st h o k n → EX G i q L st h o k n Q) (hs : stp W G i Q (.ireturn) a b c d pc L st h o k n kk jj) : EX G i pc L st h o k n Q := by
  simp only [chkO, Bool.and_eq_true, decide_eq_true_eq] at hc
  obtain ⟨hd, rfl, hx⟩ := hc
  simp only [Bool.or_eq_true, decide_eq_true_eq] at hx
  dsimp only [stp] at hs
  split at hs
  · rcases hx with (hx | hx) | (hx | hx)
    · exact s_ireturn hd hx hs.1.1 hs.1.2 hs.2.2.2
    · exact s_zreturn hd hx (hs.2.1 hx) hs.1.1 hs.1.2 hs.2.2.2
    · exact s_nreturn hd hx (hs.2.2.1.1 hx) hs.1.1 hs.1.2 hs.2.2.2
    · exact s_nreturn hd hx (hs.2.2.1.2 hx) hs.1.1 hs.1.2 hs.2.2.2
  · exact hs.elim
theorem ok_lreturn  (hW : WOK G W) (hc : chkO i pc (.lreturn, len, a, b, c, d) = true) (hkk : ∀ L st h o k n, kk L st h o k n → EX G i (pc + len) L st h o k n Q) (hjj : ∀ q L st h o k n, jj q L st h o k n → EX G i q L st h o k n Q) (hs : stp W G i Q (.lreturn) a b c d pc L st h o k n kk jj) : EX G i pc L st h o k n Q := by
  simp only [chkO, Bool.and_eq_true, decide_eq_true_eq] at hc
  obtain ⟨hd, rfl, hx⟩ := hc
  dsimp only [stp] at hs
  split at hs
  · exact s_lreturn hd hx hs.1.1 hs.1.2 hs.2
  all_goals exact hs.elim
theorem ok_freturn  (hW : WOK G W) (hc : chkO i pc (.freturn, len, a, b, c, d) = true) (hkk : ∀ L st h o k n, kk L st h o k n → EX G i (pc + len) L st h o k n Q) (hjj : ∀ q L st h o k n, jj q L st h o k n → EX G i q L st h o k n Q) (hs : stp W G i Q (.freturn) a b c d pc L st h o k n kk jj) : EX G i pc L st h o k n Q := by
  simp only [chkO, Bool.and_eq_true, decide_eq_true_eq] at hc
  obtain ⟨hd, rfl, hx⟩ := hc
  dsimp only [stp] at hs
  split at hs
  · exact s_freturn hd hx hs.1.1 hs.1.2 hs.2
  all_goals exact hs.elim
theorem ok_dreturn  (hW : WOK G W) (hc : chkO i pc (.dreturn, len, a, b, c, d) = true) (hkk : ∀ L st h o k n, kk L st h o k n → EX G i (pc + len) L st h o k n Q) (hjj : ∀ q L st h o k n, jj q L st h o k n → EX G i q L st h o k n Q) (hs : stp W G i Q (.dreturn) a b c d pc L st h o k n kk jj) : EX G i pc L st h o k n Q := by
  simp only [chkO, Bool.and_eq_true, decide_eq_true_eq] at hc
  obtain ⟨hd, rfl, hx⟩ := hc
  dsimp only [stp] at hs
  split at hs
  · exact s_dreturn hd hx hs.1.1 hs.1.2 hs.2
  all_goals exact hs.elim
theorem ok_areturn  (hW : WOK G W) (hc : chkO i pc (.areturn, len, a, b, c, d) = true) (hkk : ∀ L st h o k n, kk L st h o k n → EX G i (pc + len) L st h o k n Q) (hjj : ∀ q L st h o k n, jj q L st h o k n → EX G i q L st h o k n Q) (hs : stp W G i Q (.areturn) a b c d pc L st h o k n kk jj) : EX G i pc L st h o k n Q := by
  simp only [chkO, Bool.and_eq_true, decide_eq_true_eq] at hc
  obtain ⟨hd, rfl, hx⟩ := hc
  dsimp only [stp] at hs
  split at hs
  · exact s_areturnR hd hx hs.1 hs.2.1.1 hs.2.1.2 hs.2.2
  all_goals exact hs.elim
theorem ok_return  (hW : WOK G W) (hc : chkO i pc (.return_, len, a, b, c, d) = true) (hkk : ∀ L st h o k n, kk L st h o k n → EX G i (pc + len) L st h o k n Q) (hjj : ∀ q L st h o k n, jj q L st h o k n → EX G i q L st h o k n Q) (hs : stp W G i Q (.return_) a b c d pc L st h o k n kk jj) : EX G i pc L st h o k n Q := by
  simp only [chkO, Bool.and_eq_true, decide_eq_true_eq] at hc
  obtain ⟨hd, rfl, hx⟩ := hc
  dsimp only [stp] at hs
  split at hs
  · exact s_return hd hx hs.1.1 hs.1.2 hs.2
  all_goals exact hs.elim
theorem ok_getfield {idx : Nat} (hW : WOK G W) (hc : chkO i pc (.getfield idx, len, a, b, c, d) = true) (hkk : ∀ L st h o k n, kk L st h o k n → EX G i (pc + len) L st h o k n Q) (hjj : ∀ q L st h o k n, jj q L st h o k n → EX G i q L st h o k n Q) (hs : stp W G i Q (.getfield idx) a b c d pc L st h o k n kk jj) : EX G i pc L st h o k n Q := by
  simp only [chkO, Bool.and_eq_true, decide_eq_true_eq] at hc
  obtain ⟨hd, rfl, hx⟩ := hc
  dsimp only [stp] at hs
  split at hs
  · split at hs
    · rename_i hq
      obtain ⟨rfl, hs⟩ := hs
      split at hs
      · rename_i hv
        exact s_getfield hd (fmem_in hx) hq hv (hkk _ _ _ _ _ _ hs)
      · exact hs.elim
    · exact hs.elim
  · exact hs.elim
theorem ok_putfield {idx : Nat} (hW : WOK G W) (hc : chkO i pc (.putfield idx, len, a, b, c, d) = true) (hkk : ∀ L st h o k n, kk L st h o k n → EX G i (pc + len) L st h o k n Q) (hjj : ∀ q L st h o k n, jj q L st h o k n → EX G i q L st h o k n Q) (hs : stp W G i Q (.putfield idx) a b c d pc L st h o k n kk jj) : EX G i pc L st h o k n Q := by
  simp only [chkO, Bool.and_eq_true, decide_eq_true_eq] at hc
  obtain ⟨hd, rfl, hx⟩ := hc
  simp only [Bool.or_eq_true, Bool.and_eq_true, Bool.not_eq_true', decide_eq_true_eq] at hx
  dsimp only [stp] at hs
  split at hs
  · split at hs
    · rename_i hq
      obtain ⟨rfl, h1, h2, hs⟩ := hs
      obtain ⟨h3, h4⟩ := okw_spec h2
      exact s_putfield hd (fmem_in hx.1) hq h1 hx.2 h3 h4 (hkk _ _ _ _ _ _ hs)
    · exact hs.elim
  · exact hs.elim
theorem ok_iaload  (hW : WOK G W) (hc : chkO i pc (.iaload, len, a, b, c, d) = true) (hkk : ∀ L st h o k n, kk L st h o k n → EX G i (pc + len) L st h o k n Q) (hjj : ∀ q L st h o k n, jj q L st h o k n → EX G i q L st h o k n Q) (hs : stp W G i Q (.iaload) a b c d pc L st h o k n kk jj) : EX G i pc L st h o k n Q := by
  simp only [chkO, Bool.and_eq_true, decide_eq_true_eq] at hc
  obtain ⟨hd, rfl⟩ := hc
  dsimp only [stp] at hs
  split at hs
  · split at hs
    · rename_i hq
      obtain ⟨rfl, h1, hs⟩ := hs
      exact s_iaload hd hq h1 (hkk _ _ _ _ _ _ hs)
    · exact hs.elim
  · exact hs.elim
theorem ok_laload  (hW : WOK G W) (hc : chkO i pc (.laload, len, a, b, c, d) = true) (hkk : ∀ L st h o k n, kk L st h o k n → EX G i (pc + len) L st h o k n Q) (hjj : ∀ q L st h o k n, jj q L st h o k n → EX G i q L st h o k n Q) (hs : stp W G i Q (.laload) a b c d pc L st h o k n kk jj) : EX G i pc L st h o k n Q := by
  simp only [chkO, Bool.and_eq_true, decide_eq_true_eq] at hc
  obtain ⟨hd, rfl⟩ := hc
  dsimp only [stp] at hs
  split at hs
  · split at hs
    · rename_i hq
      obtain ⟨rfl, h1, hs⟩ := hs
      exact s_laload hd hq h1 (hkk _ _ _ _ _ _ hs)
    · exact hs.elim
  · exact hs.elim
theorem ok_aaload  (hW : WOK G W) (hc : chkO i pc (.aaload, len, a, b, c, d) = true) (hkk : ∀ L st h o k n, kk L st h o k n → EX G i (pc + len) L st h o k n Q) (hjj : ∀ q L st h o k n, jj q L st h o k n → EX G i q L st h o k n Q) (hs : stp W G i Q (.aaload) a b c d pc L st h o k n kk jj) : EX G i pc L st h o k n Q := by
  simp only [chkO, Bool.and_eq_true, decide_eq_true_eq] at hc
  obtain ⟨hd, rfl⟩ := hc
  dsimp only [stp] at hs
  split at hs
  · split at hs
    · rename_i hq
      obtain ⟨hk9, h1, hs⟩ := hs
      rcases hk9 with rfl | rfl | rfl
      · exact s_aaload hd hq h1 (hkk _ _ _ _ _ _ hs)
      · exact s_aaload4 hd hq h1 (hkk _ _ _ _ _ _ hs)
      · exact s_aaload5 hd hq h1 (hkk _ _ _ _ _ _ hs)
    · exact hs.elim
  · exact hs.elim
theorem ok_iastore  (hW : WOK G W) (hc : chkO i pc (.iastore, len, a, b, c, d) = true) (hkk : ∀ L st h o k n, kk L st h o k n → EX G i (pc + len) L st h o k n Q) (hjj : ∀ q L st h o k n, jj q L st h o k n → EX G i q L st h o k n Q) (hs : stp W G i Q (.iastore) a b c d pc L st h o k n kk jj) : EX G i pc L st h o k n Q := by
  simp only [chkO, Bool.and_eq_true, decide_eq_true_eq] at hc
  obtain ⟨hd, rfl⟩ := hc
  dsimp only [stp] at hs
  split at hs
  · split at hs
    · rename_i hq
      obtain ⟨rfl, h1, hs⟩ := hs
      exact s_iastore hd hq h1 (hkk _ _ _ _ _ _ hs)
    · exact hs.elim
  · exact hs.elim
theorem ok_baload  (hW : WOK G W) (hc : chkO i pc (.baload, len, a, b, c, d) = true) (hkk : ∀ L st h o k n, kk L st h o k n → EX G i (pc + len) L st h o k n Q) (hjj : ∀ q L st h o k n, jj q L st h o k n → EX G i q L st h o k n Q) (hs : stp W G i Q (.baload) a b c d pc L st h o k n kk jj) : EX G i pc L st h o k n Q := by
  rw [chkO, Bool.and_eq_true, decide_eq_true_eq, Bool.and_eq_true, decide_eq_true_eq] at hc
  obtain ⟨hd, rfl, hx⟩ := hc
  dsimp only [stp] at hs
  split at hs
  · by_cases ha0 : a = 0
    · rw [if_pos ha0] at hs
      split at hs
      · rename_i hq
        obtain ⟨rfl, h1, hs⟩ := hs
        exact s_baload hd hq h1 (hkk _ _ _ _ _ _ hs)
      · exact hs.elim
    · rw [if_neg ha0] at hs hx
      have hx := of_decide_eq_true hx
      obtain ⟨e9, h1, hs⟩ := hs
      rw [e9]
      have e8 : a = 1003 + (a - 1003) := by omega
      rw [e8]
      exact s_baloadD hd (by omega) h1 (hkk _ _ _ _ _ _ hs)
  · exact hs.elim
theorem ok_bastore  (hW : WOK G W) (hc : chkO i pc (.bastore, len, a, b, c, d) = true) (hkk : ∀ L st h o k n, kk L st h o k n → EX G i (pc + len) L st h o k n Q) (hjj : ∀ q L st h o k n, jj q L st h o k n → EX G i q L st h o k n Q) (hs : stp W G i Q (.bastore) a b c d pc L st h o k n kk jj) : EX G i pc L st h o k n Q := by
  simp only [chkO, Bool.and_eq_true, decide_eq_true_eq] at hc
  obtain ⟨hd, rfl⟩ := hc
  dsimp only [stp] at hs
  split at hs
  · split at hs
    · rename_i hq
      obtain ⟨rfl, h1, hs⟩ := hs
      exact s_bastore hd hq h1 (hkk _ _ _ _ _ _ hs)
    · exact hs.elim
  · exact hs.elim
theorem ok_getstatic {idx : Nat} (hW : WOK G W) (hc : chkO i pc (.getstatic idx, len, a, b, c, d) = true) (hkk : ∀ L st h o k n, kk L st h o k n → EX G i (pc + len) L st h o k n Q) (hjj : ∀ q L st h o k n, jj q L st h o k n → EX G i q L st h o k n Q) (hs : stp W G i Q (.getstatic idx) a b c d pc L st h o k n kk jj) : EX G i pc L st h o k n Q := by
  rw [chkO, Bool.and_eq_true, decide_eq_true_eq, Bool.and_eq_true, decide_eq_true_eq] at hc
  obtain ⟨hd, rfl, hx⟩ := hc
  dsimp only [stp] at hs
  rw [Bool.and_eq_true] at hx
  obtain ⟨z, hz, hz2⟩ := List.any_eq_true.mp hx.1
  simp only [Bool.and_eq_true, beq_iff_eq] at hz2
  obtain ⟨⟨⟨z1, z2⟩, z3⟩, z4⟩ := hz2
  have hin : ((mN i).cls, idx, a, b) ∈ GSk := by rw [← z1, ← z2, ← z3, ← z4]; exact hz
  by_cases b0 : b = 0
  · rw [if_pos b0] at hs
    have hx2 := hx.2
    rw [if_pos b0] at hx2
    rw [b0] at hin
    exact s_getsA hd hin (of_decide_eq_true hx2) (hkk _ _ _ _ _ _ hs)
  · rw [if_neg b0] at hs
    have hx2 := hx.2
    rw [if_neg b0] at hx2
    by_cases b1 : b = 1
    · rw [if_pos b1] at hs
      rw [b1] at hin
      exact s_getsC hd hin (hkk _ _ _ _ _ _ hs)
    · rw [if_neg b1] at hs
      have b2 : b = 2 := by
        simp only [Bool.or_eq_true, decide_eq_true_eq] at hx2
        exact hx2.resolve_left b1
      rw [b2] at hin
      exact s_getsF hd hin (fun v hv => hkk _ _ _ _ _ _ (hs v hv))
theorem ok_lastore  (hW : WOK G W) (hc : chkO i pc (.lastore, len, a, b, c, d) = true) (hkk : ∀ L st h o k n, kk L st h o k n → EX G i (pc + len) L st h o k n Q) (hjj : ∀ q L st h o k n, jj q L st h o k n → EX G i q L st h o k n Q) (hs : stp W G i Q (.lastore) a b c d pc L st h o k n kk jj) : EX G i pc L st h o k n Q := by
  simp only [chkO, Bool.and_eq_true, decide_eq_true_eq] at hc
  obtain ⟨hd, rfl⟩ := hc
  dsimp only [stp] at hs
  split at hs
  · split at hs
    · rename_i hq
      obtain ⟨rfl, h1, hs⟩ := hs
      exact s_lastore hd hq h1 (hkk _ _ _ _ _ _ hs)
    · exact hs.elim
  · exact hs.elim
theorem ok_arraylength  (hW : WOK G W) (hc : chkO i pc (.arraylength, len, a, b, c, d) = true) (hkk : ∀ L st h o k n, kk L st h o k n → EX G i (pc + len) L st h o k n Q) (hjj : ∀ q L st h o k n, jj q L st h o k n → EX G i q L st h o k n Q) (hs : stp W G i Q (.arraylength) a b c d pc L st h o k n kk jj) : EX G i pc L st h o k n Q := by
  simp only [chkO, Bool.and_eq_true, decide_eq_true_eq] at hc
  obtain ⟨hd, rfl⟩ := hc
  dsimp only [stp] at hs
  split at hs
  · split at hs
    · rename_i hq
      obtain ⟨h1, hs⟩ := hs
      exact s_arraylength hd hq h1 (hkk _ _ _ _ _ _ hs)
    · exact hs.elim
  · exact hs.elim
theorem ok_invokevirtual {idx : Nat} (hW : WOK G W) (hc : chkO i pc (.invokevirtual idx, len, a, b, c, d) = true) (hkk : ∀ L st h o k n, kk L st h o k n → EX G i (pc + len) L st h o k n Q) (hjj : ∀ q L st h o k n, jj q L st h o k n → EX G i q L st h o k n Q) (hs : stp W G i Q (.invokevirtual idx) a b c d pc L st h o k n kk jj) : EX G i pc L st h o k n Q := by
  rw [chkO, Bool.and_eq_true, decide_eq_true_eq, Bool.and_eq_true, decide_eq_true_eq] at hc
  obtain ⟨hd, rfl, hx⟩ := hc
  dsimp only [stp] at hs
  by_cases hb2 : b = 2
  · rw [if_pos hb2] at hx
    simp only [Bool.and_eq_true, decide_eq_true_eq] at hx
    obtain ⟨⟨⟨⟨hx1, hx2⟩, hx4⟩, hx5⟩, hx6⟩ := hx
    obtain ⟨z, hz, hz2⟩ := List.any_eq_true.mp hx1
    simp only [Bool.and_eq_true, beq_iff_eq] at hz2
    obtain ⟨⟨⟨z1, z2⟩, z3⟩, z4⟩ := hz2
    have hin : ((mN i).cls, idx, z.2.2.1, a, d) ∈ UPk := by rw [← z1, ← z2, ← z3, ← z4]; exact hz
    split at hs
    · rename_i q rest hdrop
      split at hs
      · rename_i ci fs hq
        obtain ⟨rfl, h1, h2, hr⟩ := hs
        obtain ⟨r9, hr9⟩ : ∃ r, vwCl[ci]? = some r := ⟨_, List.getElem?_eq_getElem (show ci < vwCl.length from hx6)⟩
        have hlen : c ≤ st.length := by
          rcases Nat.lt_or_ge st.length c with h9 | h9
          · rw [List.drop_eq_nil_of_le (Nat.le_of_lt h9)] at hdrop
            cases hdrop
          · exact h9
        have hst : st = ((st.take c).reverse).reverse ++ .ref q :: rest := by rw [List.reverse_reverse, ← hdrop, List.take_append_drop]
        have key := s_callU (as := (st.take c).reverse) (st := rest) hd hin hx2 (List.isEmpty_iff.mp hx4) h2 (cat4 h1) (by rw [List.length_reverse, List.length_take, Nat.min_eq_left hlen, hx5]) hq hr9 (Runs.mono (RX_ok hW hr) (fun u h1 o1 hq => by
        cases u with
        | inl v => exact hkk _ _ _ _ _ _ hq
        | inr E => exact contX_inr hq))
        rw [← hst] at key
        exact key
      · exact hs.elim
    · exact hs.elim
  rw [if_neg hb2] at hx
  simp only [Bool.and_eq_true, decide_eq_true_eq] at hx
  obtain ⟨⟨⟨⟨⟨⟨hx1, -⟩, hx2⟩, hx3⟩, hx4⟩, hx5⟩, hx6⟩ := hx
  split at hs
  · rename_i q rest hdrop
    split at hs
    · rename_i ci fs hq
      obtain ⟨rfl, h1, h2, hr⟩ := hs
      have hlen : c ≤ st.length := by
        rcases Nat.lt_or_ge st.length c with h9 | h9
        · rw [List.drop_eq_nil_of_le (Nat.le_of_lt h9)] at hdrop
          cases hdrop
        · exact h9
      have hst : st = ((st.take c).reverse).reverse ++ .ref q :: rest := by rw [List.reverse_reverse, ← hdrop, List.take_append_drop]
      have key := s_callV (as := (st.take c).reverse) (st := rest) hd (mmem_in hx1) rfl hx2 hx3 (List.isEmpty_iff.mp hx4) h2 (cat4 h1) (by rw [List.length_reverse, List.length_take, Nat.min_eq_left hlen, hx5]) hq hx6 (Runs.mono (RX_ok hW hr) (fun u h1 o1 hq => by
        cases u with
        | inl v => exact hkk _ _ _ _ _ _ hq
        | inr E => exact contX_inr hq))
      rw [← hst] at key
      exact key
    · exact hs.elim
  · exact hs.elim
theorem ok_invokestatic {idx : Nat} (hW : WOK G W) (hc : chkO i pc (.invokestatic idx, len, a, b, c, d) = true) (hkk : ∀ L st h o k n, kk L st h o k n → EX G i (pc + len) L st h o k n Q) (hjj : ∀ q L st h o k n, jj q L st h o k n → EX G i q L st h o k n Q) (hs : stp W G i Q (.invokestatic idx) a b c d pc L st h o k n kk jj) : EX G i pc L st h o k n Q := by
  rw [chkO, Bool.and_eq_true, decide_eq_true_eq, Bool.and_eq_true, decide_eq_true_eq] at hc
  obtain ⟨hd, rfl, hx⟩ := hc
  dsimp only [stp] at hs
  by_cases hac : a = 100001
  · rw [if_pos hac] at hs hx
    simp only [Bool.and_eq_true, Bool.or_eq_true, decide_eq_true_eq] at hx
    obtain ⟨⟨⟨hx1, hx2⟩, hx3⟩, hx4⟩ := hx
    split at hs
    · split at hs
      · rename_i hq1 hq2
        obtain ⟨⟨rfl, rfl, h3⟩, ⟨g1, g2, g3, g4, g5⟩, g6, hs⟩ := hs
        have h4 := cat4 h3
        rcases hx4 with rfl | rfl
        · exact s_copyI hd hx1 hq1 hq2 g1 g2 g3 g4 g5 (fun j hj => rfl) hx2 (by omega) (hkk _ _ _ _ _ _ hs)
        · exact s_copyB hd hx1 hq1 hq2 g1 g2 g3 g4 g5 (g6 rfl) hx2 (by omega) (hkk _ _ _ _ _ _ hs)
      · exact hs.elim
    · exact hs.elim
  rw [if_neg hac] at hs hx
  by_cases hm : a = 166 ∨ a = 167
  · rw [if_pos hm] at hs hx
    simp only [Bool.and_eq_true, decide_eq_true_eq] at hx
    obtain ⟨⟨hx1, hx2⟩, hx3⟩ := hx
    split at hs
    · obtain ⟨h1, ⟨h2, h3⟩, hs⟩ := hs
      have h4 := cat4 h1
      by_cases h5 : a = 166
      · rw [if_pos h5] at hx1
        simp only [if_pos h5] at hs
        exact s_max hd hx1 hx2 (by omega) h2 h3 (hkk _ _ _ _ _ _ hs)
      · rw [if_neg h5] at hx1
        simp only [if_neg h5] at hs
        exact s_min hd hx1 hx2 (by omega) h2 h3 (hkk _ _ _ _ _ _ hs)
    · exact hs.elim
  · rw [if_neg hm] at hs hx
    simp only [Bool.and_eq_true, decide_eq_true_eq] at hx
    obtain ⟨⟨⟨⟨hx1, hx2⟩, hx3⟩, hx4⟩, hx5⟩ := hx
    obtain ⟨hlen, h1, h2, hr⟩ := hs
    have hst : st = ((st.take c).reverse).reverse ++ st.drop c := by rw [List.reverse_reverse, List.take_append_drop]
    have key := s_callS (as := (st.take c).reverse) (st := st.drop c) hd (mmem_in hx1) hx2 hx3 (List.isEmpty_iff.mp hx4) h2 (cat4 h1) (by rw [List.length_reverse, List.length_take, Nat.min_eq_left hlen, hx5]) (Runs.mono (RX_ok hW hr) (fun u h1 o1 hq => by
        cases u with
        | inl v => exact hkk _ _ _ _ _ _ hq
        | inr E => exact contX_inr hq))
    rw [← hst] at key
    exact key
theorem ok_invokespecial {idx : Nat} (hW : WOK G W) (hc : chkO i pc (.invokespecial idx, len, a, b, c, d) = true) (hkk : ∀ L st h o k n, kk L st h o k n → EX G i (pc + len) L st h o k n Q) (hjj : ∀ q L st h o k n, jj q L st h o k n → EX G i q L st h o k n Q) (hs : stp W G i Q (.invokespecial idx) a b c d pc L st h o k n kk jj) : EX G i pc L st h o k n Q := by
  rw [chkO, Bool.and_eq_true, decide_eq_true_eq, Bool.and_eq_true, decide_eq_true_eq] at hc
  obtain ⟨hd, rfl, hx⟩ := hc
  dsimp only [stp] at hs
  by_cases hm : a = 100000
  · rw [if_pos hm] at hs hx
    simp only [Bool.and_eq_true, decide_eq_true_eq] at hx
    obtain ⟨hx1, hx2⟩ := hx
    split at hs
    · obtain ⟨⟨h1, h3⟩, hs⟩ := hs
      exact s_objInit hd hx1 hx2 (Nat.le_trans (Nat.add_le_add_right cat_le 12) h3) (hkk _ _ _ _ _ _ hs)
    · exact hs.elim
  rw [if_neg hm] at hs hx
  by_cases hb3 : b = 3
  · rw [if_pos hb3] at hs hx
    simp only [Bool.and_eq_true, decide_eq_true_eq] at hx
    obtain ⟨⟨⟨hx1, hx2⟩, hx4⟩, hx5⟩ := hx
    obtain ⟨z, hz, hz2⟩ := List.any_eq_true.mp hx1
    simp only [Bool.and_eq_true, beq_iff_eq] at hz2
    obtain ⟨⟨z1, z2⟩, z3⟩ := hz2
    have hin : ((mN i).cls, idx, a) ∈ SUk := by rw [← z1, ← z2, ← z3]; exact hz
    split at hs
    · rename_i q rest hdrop
      split at hs
      · rename_i ci fs hq
        obtain ⟨h0, h1, h2, hr⟩ := hs
        obtain ⟨r9, hr9⟩ : ∃ r, vwCl[ci]? = some r := ⟨_, List.getElem?_eq_getElem (show ci < vwCl.length from h0)⟩
        have hlen : c ≤ st.length := by
          rcases Nat.lt_or_ge st.length c with h9 | h9
          · rw [List.drop_eq_nil_of_le (Nat.le_of_lt h9)] at hdrop
            cases hdrop
          · exact h9
        have hst : st = ((st.take c).reverse).reverse ++ .ref q :: rest := by rw [List.reverse_reverse, ← hdrop, List.take_append_drop]
        have key := s_callSU (as := (st.take c).reverse) (st := rest) hd hin hx2 (List.isEmpty_iff.mp hx4) h2 (cat4 h1) (by rw [List.length_reverse, List.length_take, Nat.min_eq_left hlen, hx5]) hq hr9 (Runs.mono (RX_ok hW hr) (fun u h1 o1 hq => by
        cases u with
        | inl v => exact hkk _ _ _ _ _ _ hq
        | inr E => exact contX_inr hq))
        rw [← hst] at key
        exact key
      · exact hs.elim
    · exact hs.elim
  · rw [if_neg hb3] at hs hx
    simp only [Bool.and_eq_true, decide_eq_true_eq] at hx
    obtain ⟨⟨⟨⟨hx1, hx2⟩, hx3⟩, hx4⟩, hx5⟩ := hx
    split at hs
    · rename_i q rest hdrop
      obtain ⟨h1, h2, hr⟩ := hs
      have hlen : c ≤ st.length := by
        rcases Nat.lt_or_ge st.length c with h9 | h9
        · rw [List.drop_eq_nil_of_le (Nat.le_of_lt h9)] at hdrop
          cases hdrop
        · exact h9
      have hst : st = ((st.take c).reverse).reverse ++ .ref q :: rest := by rw [List.reverse_reverse, ← hdrop, List.take_append_drop]
      have key := s_callI (as := (st.take c).reverse) (st := rest) (b := q) hd (mmem_in hx1) hx2 hx3 (List.isEmpty_iff.mp hx4) h2 (cat4 h1) (by rw [List.length_reverse, List.length_take, Nat.min_eq_left hlen, hx5]) (Runs.mono (RX_ok hW hr) (fun u h1 o1 hq => by
        cases u with
        | inl v => exact hkk _ _ _ _ _ _ hq
        | inr E => exact contX_inr hq))
      rw [← hst] at key
      exact key
    · exact hs.elim
theorem ok_invokeinterface {idx : Nat} {cnt : Nat} (hW : WOK G W) (hc : chkO i pc (.invokeinterface idx cnt, len, a, b, c, d) = true) (hkk : ∀ L st h o k n, kk L st h o k n → EX G i (pc + len) L st h o k n Q) (hjj : ∀ q L st h o k n, jj q L st h o k n → EX G i q L st h o k n Q) (hs : stp W G i Q (.invokeinterface idx cnt) a b c d pc L st h o k n kk jj) : EX G i pc L st h o k n Q := by
  simp only [chkO, Bool.and_eq_true, decide_eq_true_eq] at hc
  obtain ⟨hd, rfl, hx⟩ := hc
  dsimp only [stp] at hs
  obtain ⟨⟨⟨hx1, hx2⟩, hx3⟩, hx4⟩ := hx
  obtain ⟨z, hz, hz2⟩ := List.any_eq_true.mp hx1
  simp only [Bool.and_eq_true, beq_iff_eq] at hz2
  obtain ⟨⟨z1, z2⟩, z3⟩ := hz2
  have hin : ((mN i).cls, idx, c) ∈ IFk := by rw [← z1, ← z2, ← z3]; exact hz
  split at hs
  · rename_i q rest hdrop
    split at hs
    · rename_i ci fs hq
      obtain ⟨hci, h1, h2, hr⟩ := hs
      have hlen : c ≤ st.length := by
        rcases Nat.lt_or_ge st.length c with h9 | h9
        · rw [List.drop_eq_nil_of_le (Nat.le_of_lt h9)] at hdrop
          cases hdrop
        · exact h9
      have hst : st = ((st.take c).reverse).reverse ++ .ref q :: rest := by rw [List.reverse_reverse, ← hdrop, List.take_append_drop]
      rcases hci with rfl | rfl
      · rw [if_pos rfl] at h2 hr
        have key := s_callF (cx := 0) (as := (st.take c).reverse) (st := rest) hx2 (by decide) hx3 hd hin h2 (cat4 h1) (by rw [List.length_reverse, List.length_take, Nat.min_eq_left hlen]) hq (r := (RJ4, TJ4, 4)) rfl rfl (Runs.mono (RX_ok hW hr) (fun u h1 o1 hq => by
        cases u with
        | inl v => exact hkk _ _ _ _ _ _ hq
        | inr E => exact contX_inr hq))
        rw [← hst] at key
        exact key
      · rw [if_neg (by decide)] at h2 hr
        have key := s_callF (cx := 1) (as := (st.take c).reverse) (st := rest) hx2 (by decide) hx4 hd hin h2 (cat4 h1) (by rw [List.length_reverse, List.length_take, Nat.min_eq_left hlen]) hq (r := (RJ0, TJ0, 4)) rfl rfl (Runs.mono (RX_ok hW hr) (fun u h1 o1 hq => by
        cases u with
        | inl v => exact hkk _ _ _ _ _ _ hq
        | inr E => exact contX_inr hq))
        rw [← hst] at key
        exact key
    · exact hs.elim
  · exact hs.elim
theorem ok_ldc {idx : Nat} (hW : WOK G W) (hc : chkO i pc (.ldc idx, len, a, b, c, d) = true) (hkk : ∀ L st h o k n, kk L st h o k n → EX G i (pc + len) L st h o k n Q) (hjj : ∀ q L st h o k n, jj q L st h o k n → EX G i q L st h o k n Q) (hs : stp W G i Q (.ldc idx) a b c d pc L st h o k n kk jj) : EX G i pc L st h o k n Q := by
  rw [chkO, Bool.and_eq_true, decide_eq_true_eq, Bool.and_eq_true, decide_eq_true_eq] at hc
  obtain ⟨hd, rfl, hx⟩ := hc
  dsimp only [stp] at hs
  by_cases hm : b = 0
  · rw [if_pos hm] at hs hx
    exact s_ldc hd (of_decide_eq_true hx) (hkk _ _ _ _ _ _ hs)
  · rw [if_neg hm] at hs hx
    exact s_ldcS hd hx (hkk _ _ _ _ _ _ hs)
theorem ok_ldc_w {idx : Nat} (hW : WOK G W) (hc : chkO i pc (.ldc_w idx, len, a, b, c, d) = true) (hkk : ∀ L st h o k n, kk L st h o k n → EX G i (pc + len) L st h o k n Q) (hjj : ∀ q L st h o k n, jj q L st h o k n → EX G i q L st h o k n Q) (hs : stp W G i Q (.ldc_w idx) a b c d pc L st h o k n kk jj) : EX G i pc L st h o k n Q := by
  simp only [chkO, Bool.and_eq_true, decide_eq_true_eq] at hc
  obtain ⟨hd, rfl, hx⟩ := hc
  dsimp only [stp] at hs
  exact s_ldcw hd hx (hkk _ _ _ _ _ _ hs)
theorem ok_new {idx : Nat} (hW : WOK G W) (hc : chkO i pc (.new idx, len, a, b, c, d) = true) (hkk : ∀ L st h o k n, kk L st h o k n → EX G i (pc + len) L st h o k n Q) (hjj : ∀ q L st h o k n, jj q L st h o k n → EX G i q L st h o k n Q) (hs : stp W G i Q (.new idx) a b c d pc L st h o k n kk jj) : EX G i pc L st h o k n Q := by
  rw [chkO, Bool.and_eq_true, decide_eq_true_eq, Bool.and_eq_true, decide_eq_true_eq] at hc
  obtain ⟨hd, rfl, hx⟩ := hc
  dsimp only [stp] at hs
  by_cases hm : b = 0
  · rw [if_pos hm] at hs hx
    simp only [Bool.and_eq_true, decide_eq_true_eq] at hx
    split at hs
    · obtain ⟨⟨h1, h2⟩, hs⟩ := hs
      obtain ⟨r, hr, hn9, hf⟩ := dfl_ok hx.2
      refine s_new hd hx.1 hr hf h1 (by rw [hn9]; exact h2) ?_
      rw [hn9]
      exact hkk _ _ _ _ _ _ hs
    · exact hs.elim
  · rw [if_neg hm] at hs hx
    split at hs
    · obtain ⟨⟨h1, h2⟩, hs⟩ := hs
      unfold thrC at hx
      simp only [Bool.and_eq_true, decide_eq_true_eq] at hx
      obtain ⟨⟨⟨hx1, hx2⟩, hx3⟩, hx4⟩ := hx
      obtain ⟨q, hq, hq2⟩ := List.any_eq_true.mp hx4
      obtain ⟨q1, q2, q3, q4, q5, q6⟩ := q
      simp only [Bool.and_eq_true, Bool.or_eq_true, decide_eq_true_eq, beq_iff_eq] at hq2
      obtain ⟨⟨⟨⟨e1, e2⟩, e3⟩, d3⟩, hq3⟩ := hq2
      subst e1; subst e2; subst e3
      rcases hq3 with ⟨⟨d4, d6⟩, d9⟩ | ⟨⟨d4, d6⟩, d9⟩
      · exact s_throw hq hd d3 d4 d6 d9 (List.isEmpty_iff.mp hx1) hx2 hx3 h1 h2 hs
      · exact s_throwW hq hd d3 d4 d6 d9 (List.isEmpty_iff.mp hx1) hx2 hx3 h1 h2 hs
    · exact hs.elim
theorem ok_newarray {aty : ArrayType} (hW : WOK G W) (hc : chkO i pc (.newarray aty, len, a, b, c, d) = true) (hkk : ∀ L st h o k n, kk L st h o k n → EX G i (pc + len) L st h o k n Q) (hjj : ∀ q L st h o k n, jj q L st h o k n → EX G i q L st h o k n Q) (hs : stp W G i Q (.newarray aty) a b c d pc L st h o k n kk jj) : EX G i pc L st h o k n Q := by
  simp only [chkO, Bool.and_eq_true, decide_eq_true_eq] at hc
  obtain ⟨hd, rfl, hx⟩ := hc
  dsimp only [stp] at hs
  split at hs
  · rename_i v st z
    obtain ⟨⟨h1, h20, h3⟩, ⟨h4, h5⟩, hs⟩ := hs
    have h2 : v.toNatClampNeg = (if c = 0 then v.toNatClampNeg else c) := by
      by_cases h9 : c = 0
      · rw [if_pos h9]
      · rw [if_neg h9]; exact h20.resolve_left h9
    generalize (if c = 0 then v.toNatClampNeg else c) = N at hs h2 h3 h5
    cases aty <;> first | exact hs.elim | skip
    · exact s_newByte hd h1 h2 (by omega) h4 h5 (hkk _ _ _ _ _ _ hs)
    · exact s_newInt hd h1 h2 (by omega) h4 h5 (hkk _ _ _ _ _ _ hs)
    · exact s_newLong hd h1 h2 (by omega) h4 h5 (hkk _ _ _ _ _ _ hs)
  · exact hs.elim
set_option maxHeartbeats 4000000 in
theorem stp_ok {ins : Instr} (hW : WOK G W) (hc : chkO i pc (ins, len, a, b, c, d) = true) (hkk : ∀ L st h o k n, kk L st h o k n → EX G i (pc + len) L st h o k n Q) (hjj : ∀ q L st h o k n, jj q L st h o k n → EX G i q L st h o k n Q) (hs : stp W G i Q ins a b c d pc L st h o k n kk jj) : EX G i pc L st h o k n Q := by
  cases ins with
  | iconst z => exact ok_iconst hW hc hkk hjj hs
  | bipush z => exact ok_bipush hW hc hkk hjj hs
  | sipush z => exact ok_sipush hW hc hkk hjj hs
  | lconst z => exact ok_lconst hW hc hkk hjj hs
  | fconst z => exact ok_fconst hW hc hkk hjj hs
  | dconst z => exact ok_dconst hW hc hkk hjj hs
  | aconst_null => exact ok_aconst_null hW hc hkk hjj hs
  | iadd => exact ok_iadd hW hc hkk hjj hs
  | isub => exact ok_isub hW hc hkk hjj hs
  | imul => exact ok_imul hW hc hkk hjj hs
  | iand => exact ok_iand hW hc hkk hjj hs
  | ior => exact ok_ior hW hc hkk hjj hs
  | ixor => exact ok_ixor hW hc hkk hjj hs
  | ishl => exact ok_ishl hW hc hkk hjj hs
  | ishr => exact ok_ishr hW hc hkk hjj hs
  | iushr => exact ok_iushr hW hc hkk hjj hs
  | ineg => exact ok_ineg hW hc hkk hjj hs
  | i2c => exact ok_i2c hW hc hkk hjj hs
  | i2b => exact ok_i2b hW hc hkk hjj hs
  | fcmp z => exact ok_fcmp hW hc hkk hjj hs
  | dup_x1 => exact ok_dup_x1 hW hc hkk hjj hs
  | idiv => exact ok_idiv hW hc hkk hjj hs
  | irem => exact ok_irem hW hc hkk hjj hs
  | land => exact ok_land hW hc hkk hjj hs
  | lor => exact ok_lor hW hc hkk hjj hs
  | lshl => exact ok_lshl hW hc hkk hjj hs
  | lshr => exact ok_lshr hW hc hkk hjj hs
  | lushr => exact ok_lushr hW hc hkk hjj hs
  | lcmp => exact ok_lcmp hW hc hkk hjj hs
  | fdiv => exact ok_fdiv hW hc hkk hjj hs
  | ddiv => exact ok_ddiv hW hc hkk hjj hs
  | dcmp z => exact ok_dcmp hW hc hkk hjj hs
  | i2l => exact ok_i2l hW hc hkk hjj hs
  | l2i => exact ok_l2i hW hc hkk hjj hs
  | i2f => exact ok_i2f hW hc hkk hjj hs
  | i2d => exact ok_i2d hW hc hkk hjj hs
  | f2d => exact ok_f2d hW hc hkk hjj hs
  | dup => exact ok_dup hW hc hkk hjj hs
  | pop => exact ok_pop hW hc hkk hjj hs
  | dup2 => exact ok_dup2 hW hc hkk hjj hs
  | iload_n z => exact ok_iload_n hW hc hkk hjj hs
  | iload z => exact ok_iload hW hc hkk hjj hs
  | lload_n z => exact ok_lload_n hW hc hkk hjj hs
  | lload z => exact ok_lload hW hc hkk hjj hs
  | aload_n z => exact ok_aload_n hW hc hkk hjj hs
  | aload z => exact ok_aload hW hc hkk hjj hs
  | dload_n z => exact ok_dload_n hW hc hkk hjj hs
  | dload z => exact ok_dload hW hc hkk hjj hs
  | istore_n z => exact ok_istore_n hW hc hkk hjj hs
  | istore z => exact ok_istore hW hc hkk hjj hs
  | astore_n z => exact ok_astore_n hW hc hkk hjj hs
  | astore z => exact ok_astore hW hc hkk hjj hs
  | lstore_n z => exact ok_lstore_n hW hc hkk hjj hs
  | lstore z => exact ok_lstore hW hc hkk hjj hs
  | dstore_n z => exact ok_dstore_n hW hc hkk hjj hs
  | dstore z => exact ok_dstore hW hc hkk hjj hs
  | iinc z dl => exact ok_iinc hW hc hkk hjj hs
  | ifCond cd off => exact ok_ifCond hW hc hkk hjj hs
  | if_icmp cd off => exact ok_if_icmp hW hc hkk hjj hs
  | goto off => exact ok_goto hW hc hkk hjj hs
  | ifnull off => exact ok_ifnull hW hc hkk hjj hs
  | ifnonnull off => exact ok_ifnonnull hW hc hkk hjj hs
  | ireturn => exact ok_ireturn hW hc hkk hjj hs
  | lreturn => exact ok_lreturn hW hc hkk hjj hs
  | freturn => exact ok_freturn hW hc hkk hjj hs
  | dreturn => exact ok_dreturn hW hc hkk hjj hs
  | areturn => exact ok_areturn hW hc hkk hjj hs
  | return_ => exact ok_return hW hc hkk hjj hs
  | getfield idx => exact ok_getfield hW hc hkk hjj hs
  | putfield idx => exact ok_putfield hW hc hkk hjj hs
  | iaload => exact ok_iaload hW hc hkk hjj hs
  | laload => exact ok_laload hW hc hkk hjj hs
  | aaload => exact ok_aaload hW hc hkk hjj hs
  | iastore => exact ok_iastore hW hc hkk hjj hs
  | baload => exact ok_baload hW hc hkk hjj hs
  | bastore => exact ok_bastore hW hc hkk hjj hs
  | getstatic idx => exact ok_getstatic hW hc hkk hjj hs
  | lastore => exact ok_lastore hW hc hkk hjj hs
  | arraylength => exact ok_arraylength hW hc hkk hjj hs
  | invokevirtual idx => exact ok_invokevirtual hW hc hkk hjj hs
  | invokestatic idx => exact ok_invokestatic hW hc hkk hjj hs
  | invokespecial idx => exact ok_invokespecial hW hc hkk hjj hs
  | invokeinterface idx cnt => exact ok_invokeinterface hW hc hkk hjj hs
  | ldc idx => exact ok_ldc hW hc hkk hjj hs
  | ldc_w idx => exact ok_ldc_w hW hc hkk hjj hs
  | new idx => exact ok_new hW hc hkk hjj hs
  | newarray aty => exact ok_newarray hW hc hkk hjj hs
  | _ => exact hs
end ST16
/-- a straight stretch of code, from pc on -/
def exB (W : WF) (G : GG) (i : Nat) (Q : XQ) (jj : Nat → List (Nat × Value) → List Value → HM → Option Nat → Nat → Nat → Prop) : List OPX → Nat → List (Nat × Value) → List Value → HM → Option Nat → Nat → Nat → Prop
  | [], pc, L, st, h, o, k, n => EX G i pc L st h o k n Q
  | (ins, len, a, b, c, d) :: t, pc, L, st, h, o, k, n => stp W G i Q ins a b c d pc L st h o k n (exB W G i Q jj t (pc + len)) jj
def chkB (i : Nat) : Nat → List OPX → Bool
  | _, [] => true
  | pc, q :: t => chkO i pc q && chkB i (pc + q.2.1) t
theorem exB_ok {W : WF} {G : GG} (hW : WOK G W) {i : Nat} {Q : XQ} {jj : Nat → List (Nat × Value) → List Value → HM → Option Nat → Nat → Nat → Prop} (hjj : ∀ q L st h o k n, jj q L st h o k n → EX G i q L st h o k n Q) : ∀ {t : List OPX} {pc : Nat} {L : List (Nat × Value)} {st : List Value} {h : HM} {o : Option Nat} {k n : Nat}, chkB i pc t = true → exB W G i Q jj t pc L st h o k n → EX G i pc L st h o k n Q := by
  intro t
  induction t with
  | nil => intro pc L st h o k n _ hx; exact hx
  | cons q t ih =>
    intro pc L st h o k n hc hx
    obtain ⟨ins, len, a, b, c, d⟩ := q
    simp only [chkB, Bool.and_eq_true] at hc
    exact stp_ok hW hc.1 (fun L st h o k n hk => ih hc.2 hk) hjj hx
/-- a piece of a method's code without its loops: the stretches are found by their places -/
def exF (W : WF) (G : GG) (i : Nat) (Q : XQ) (T : Nat → Option (List OPX)) : Nat → Nat → List (Nat × Value) → List Value → HM → Option Nat → Nat → Nat → Prop
  | 0, pc, L, st, h, o, k, n => EX G i pc L st h o k n Q
  | f + 1, pc, L, st, h, o, k, n => match T pc with
    | some t => exB W G i Q (exF W G i Q T f) t pc L st h o k n
    | none => EX G i pc L st h o k n Q
theorem exF_ok {W : WF} {G : GG} (hW : WOK G W) {i : Nat} {Q : XQ} {T : Nat → Option (List OPX)} (hT : ∀ pc t, T pc = some t → chkB i pc t = true) : ∀ {f pc : Nat} {L : List (Nat × Value)} {st : List Value} {h : HM} {o : Option Nat} {k n : Nat}, exF W G i Q T f pc L st h o k n → EX G i pc L st h o k n Q := by
  intro f
  induction f with
  | zero => intro pc L st h o k n hx; exact hx
  | succ f ih =>
    intro pc L st h o k n hx
    rw [exF] at hx
    cases ht : T pc with
    | none => rw [ht] at hx; exact hx
    | some t =>
      rw [ht] at hx
      exact exB_ok hW (fun q L st h o k n hq => ih hq) (hT pc t ht) hx
def tbL (l : List (Nat × List OPX)) (pc : Nat) : Option (List OPX) := match l with
  | [] => none
  | (q, t) :: l => if q = pc then some t else tbL l pc
theorem tbL_ok {i : Nat} : ∀ {l : List (Nat × List OPX)}, (l.all fun q => chkB i q.1 q.2) = true → ∀ pc t, tbL l pc = some t → chkB i pc t = true := by
  intro l
  induction l with
  | nil => intro _ pc t h; cases h
  | cons q l ih =>
    intro hl pc t h
    obtain ⟨q1, q2⟩ := q
    simp only [List.all_cons, Bool.and_eq_true] at hl
    simp only [tbL] at h
    split at h
    · rename_i he
      cases h
      rw [← he]
      exact hl.1
    · exact ih hl.2 pc t h

