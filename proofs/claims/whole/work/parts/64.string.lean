/-! 64: what the JDK answers of a text constant: length, charAt -/
theorem jc_len : Cond.code yJ0_length_8abf5 cJ0_length_8abf5 1 (some .int) ∈ TBLg := inG 969 (by decide +kernel) rfl
theorem jm_len : Cond.instanceMethod yJ0_length_8abf5 ∈ TBLg := inG 967 (by decide +kernel) rfl
theorem js_len : Cond.selects RJ0 yJ0_length_8abf5 yJ0_length_8abf5 ∈ TBLg := inG 968 (by decide +kernel) rfl
theorem jc_ch : Cond.code yJ0_charAt_5068e cJ0_charAt_5068e 2 (some .char) ∈ TBLg := inG 979 (by decide +kernel) rfl
theorem jm_ch : Cond.instanceMethod yJ0_charAt_5068e ∈ TBLg := inG 977 (by decide +kernel) rfl
theorem js_ch : Cond.selects RJ0 yJ0_charAt_5068e yJ0_charAt_5068e ∈ TBLg := inG 978 (by decide +kernel) rfl
theorem jc_cod : Cond.code yJ0_coder_7d493 cJ0_coder_7d493 1 (some .byte) ∈ TBLg := inG 973 (by decide +kernel) rfl
theorem jm_cod : Cond.instanceMethod yJ0_coder_7d493 ∈ TBLg := inG 971 (by decide +kernel) rfl
theorem js_cod : Cond.selects RJ0 yJ0_coder_7d493 yJ0_coder_7d493 ∈ TBLg := inG 972 (by decide +kernel) rfl
theorem jc_l1 : Cond.code yJ0_isLatin1_aae02 cJ0_isLatin1_aae02 1 (some .boolean) ∈ TBLg := inG 983 (by decide +kernel) rfl
theorem jm_l1 : Cond.instanceMethod yJ0_isLatin1_aae02 ∈ TBLg := inG 981 (by decide +kernel) rfl
theorem js_l1 : Cond.selects RJ0 yJ0_isLatin1_aae02 yJ0_isLatin1_aae02 ∈ TBLg := inG 982 (by decide +kernel) rfl
theorem jc_ci : Cond.code yJ0_checkIndex_df160 cJ0_checkIndex_df160 2 none ∈ TBLg := inG 989 (by decide +kernel) rfl
theorem jm_ci : Cond.static yJ0_checkIndex_df160 ∈ TBLg := inG 988 (by decide +kernel) rfl
theorem jc_c1 : Cond.code yJ1_charAt_3b067 cJ1_charAt_3b067 2 (some .char) ∈ TBLg := inG 986 (by decide +kernel) rfl
theorem jm_c1 : Cond.static yJ1_charAt_3b067 ∈ TBLg := inG 985 (by decide +kernel) rfl
theorem jc_pi : Cond.code yJ3_checkIndex_8e157 cJ3_checkIndex_8e157 3 (some .int) ∈ TBLg := inG 994 (by decide +kernel) rfl
theorem jm_pi : Cond.static yJ3_checkIndex_8e157 ∈ TBLg := inG 993 (by decide +kernel) rfl
theorem jl_cod : Cond.methodLink RJ0 335 yJ0_coder_7d493 ∈ TBLg := inG 970 (by decide +kernel) rfl
theorem jl_l1 : Cond.methodLink RJ0 492 yJ0_isLatin1_aae02 ∈ TBLg := inG 980 (by decide +kernel) rfl
theorem jl_c1 : Cond.methodLink RJ0 495 yJ1_charAt_3b067 ∈ TBLg := inG 984 (by decide +kernel) rfl
theorem jl_ci : Cond.methodLink RJ1 9 yJ0_checkIndex_df160 ∈ TBLg := inG 987 (by decide +kernel) rfl
theorem jl_pi : Cond.methodLink RJ0 1059 yJ3_checkIndex_8e157 ∈ TBLg := inG 992 (by decide +kernel) rfl
theorem jl_len : Cond.methodLink RX10 73 yJ0_length_8abf5 ∈ TBLg := inG 966 (by decide +kernel) rfl
theorem jl_ch : Cond.methodLink RX10 78 yJ0_charAt_5068e ∈ TBLg := inG 976 (by decide +kernel) rfl
theorem jf_comp : Cond.fieldLink RJ0 38 "java/lang/String" "COMPACT_STRINGS" "Z" ∈ TBLg := inG 974 (by decide +kernel) rfl
theorem jf_cod : Cond.fieldLink RJ0 15 "java/lang/String" "coder" "B" ∈ TBLg := inG 2452 (by decide +kernel) rfl
theorem jf_val : Cond.fieldLink RJ0 9 "java/lang/String" "value" "[B" ∈ TBLg := inG 2451 (by decide +kernel) rfl
theorem jf_fmt : Cond.fieldLink RJ0 1053 "jdk/internal/util/Preconditions" "SIOOBE_FORMATTER" "Ljava/util/function/BiFunction;" ∈ TBLg := inG 990 (by decide +kernel) rfl
theorem ji_0 : Cond.initialized RJ0 ∈ TBLg := inG 154 (by decide +kernel) rfl
theorem ji_1 : Cond.initialized RJ1 ∈ TBLg := inG 155 (by decide +kernel) rfl
theorem ji_3 : Cond.initialized RJ3 ∈ TBLg := inG 156 (by decide +kernel) rfl
theorem dJ0_length_8abf5_0 : decode cJ0_length_8abf5 0 = .ok (.aload_n 0, 1) := by decide +kernel
theorem dJ0_length_8abf5_1 : decode cJ0_length_8abf5 1 = .ok (.getfield 9, 3) := by decide +kernel
theorem dJ0_length_8abf5_4 : decode cJ0_length_8abf5 4 = .ok (.arraylength, 1) := by decide +kernel
theorem dJ0_length_8abf5_5 : decode cJ0_length_8abf5 5 = .ok (.aload_n 0, 1) := by decide +kernel
theorem dJ0_length_8abf5_6 : decode cJ0_length_8abf5 6 = .ok (.invokevirtual 335, 3) := by decide +kernel
theorem dJ0_length_8abf5_9 : decode cJ0_length_8abf5 9 = .ok (.ishr, 1) := by decide +kernel
theorem dJ0_length_8abf5_10 : decode cJ0_length_8abf5 10 = .ok (.ireturn, 1) := by decide +kernel
theorem dJ0_charAt_5068e_0 : decode cJ0_charAt_5068e 0 = .ok (.aload_n 0, 1) := by decide +kernel
theorem dJ0_charAt_5068e_1 : decode cJ0_charAt_5068e 1 = .ok (.invokevirtual 492, 3) := by decide +kernel
theorem dJ0_charAt_5068e_4 : decode cJ0_charAt_5068e 4 = .ok (.ifCond .eq 12, 3) := by decide +kernel
theorem dJ0_charAt_5068e_7 : decode cJ0_charAt_5068e 7 = .ok (.aload_n 0, 1) := by decide +kernel
theorem dJ0_charAt_5068e_8 : decode cJ0_charAt_5068e 8 = .ok (.getfield 9, 3) := by decide +kernel
theorem dJ0_charAt_5068e_11 : decode cJ0_charAt_5068e 11 = .ok (.iload_n 1, 1) := by decide +kernel
theorem dJ0_charAt_5068e_12 : decode cJ0_charAt_5068e 12 = .ok (.invokestatic 495, 3) := by decide +kernel
theorem dJ0_charAt_5068e_15 : decode cJ0_charAt_5068e 15 = .ok (.ireturn, 1) := by decide +kernel
theorem dJ0_charAt_5068e_16 : decode cJ0_charAt_5068e 16 = .ok (.aload_n 0, 1) := by decide +kernel
theorem dJ0_charAt_5068e_17 : decode cJ0_charAt_5068e 17 = .ok (.getfield 9, 3) := by decide +kernel
theorem dJ0_charAt_5068e_20 : decode cJ0_charAt_5068e 20 = .ok (.iload_n 1, 1) := by decide +kernel
theorem dJ0_charAt_5068e_21 : decode cJ0_charAt_5068e 21 = .ok (.invokestatic 498, 3) := by decide +kernel
theorem dJ0_charAt_5068e_24 : decode cJ0_charAt_5068e 24 = .ok (.ireturn, 1) := by decide +kernel
theorem dJ0_coder_7d493_0 : decode cJ0_coder_7d493 0 = .ok (.getstatic 38, 3) := by decide +kernel
theorem dJ0_coder_7d493_3 : decode cJ0_coder_7d493 3 = .ok (.ifCond .eq 10, 3) := by decide +kernel
theorem dJ0_coder_7d493_6 : decode cJ0_coder_7d493 6 = .ok (.aload_n 0, 1) := by decide +kernel
theorem dJ0_coder_7d493_7 : decode cJ0_coder_7d493 7 = .ok (.getfield 15, 3) := by decide +kernel
theorem dJ0_coder_7d493_10 : decode cJ0_coder_7d493 10 = .ok (.goto 4, 3) := by decide +kernel
theorem dJ0_coder_7d493_13 : decode cJ0_coder_7d493 13 = .ok (.iconst 1, 1) := by decide +kernel
theorem dJ0_coder_7d493_14 : decode cJ0_coder_7d493 14 = .ok (.ireturn, 1) := by decide +kernel
theorem dJ0_isLatin1_aae02_0 : decode cJ0_isLatin1_aae02 0 = .ok (.getstatic 38, 3) := by decide +kernel
theorem dJ0_isLatin1_aae02_3 : decode cJ0_isLatin1_aae02 3 = .ok (.ifCond .eq 14, 3) := by decide +kernel
theorem dJ0_isLatin1_aae02_6 : decode cJ0_isLatin1_aae02 6 = .ok (.aload_n 0, 1) := by decide +kernel
theorem dJ0_isLatin1_aae02_7 : decode cJ0_isLatin1_aae02 7 = .ok (.getfield 15, 3) := by decide +kernel
theorem dJ0_isLatin1_aae02_10 : decode cJ0_isLatin1_aae02 10 = .ok (.ifCond .ne 7, 3) := by decide +kernel
theorem dJ0_isLatin1_aae02_13 : decode cJ0_isLatin1_aae02 13 = .ok (.iconst 1, 1) := by decide +kernel
theorem dJ0_isLatin1_aae02_14 : decode cJ0_isLatin1_aae02 14 = .ok (.goto 4, 3) := by decide +kernel
theorem dJ0_isLatin1_aae02_17 : decode cJ0_isLatin1_aae02 17 = .ok (.iconst 0, 1) := by decide +kernel
theorem dJ0_isLatin1_aae02_18 : decode cJ0_isLatin1_aae02 18 = .ok (.ireturn, 1) := by decide +kernel
theorem dJ0_checkIndex_df160_0 : decode cJ0_checkIndex_df160 0 = .ok (.iload_n 0, 1) := by decide +kernel
theorem dJ0_checkIndex_df160_1 : decode cJ0_checkIndex_df160 1 = .ok (.iload_n 1, 1) := by decide +kernel
theorem dJ0_checkIndex_df160_2 : decode cJ0_checkIndex_df160 2 = .ok (.getstatic 1053, 3) := by decide +kernel
theorem dJ0_checkIndex_df160_5 : decode cJ0_checkIndex_df160 5 = .ok (.invokestatic 1059, 3) := by decide +kernel
theorem dJ0_checkIndex_df160_8 : decode cJ0_checkIndex_df160 8 = .ok (.pop, 1) := by decide +kernel
theorem dJ0_checkIndex_df160_9 : decode cJ0_checkIndex_df160 9 = .ok (.return_, 1) := by decide +kernel
theorem dJ1_charAt_3b067_0 : decode cJ1_charAt_3b067 0 = .ok (.iload_n 1, 1) := by decide +kernel
theorem dJ1_charAt_3b067_1 : decode cJ1_charAt_3b067 1 = .ok (.aload_n 0, 1) := by decide +kernel
theorem dJ1_charAt_3b067_2 : decode cJ1_charAt_3b067 2 = .ok (.arraylength, 1) := by decide +kernel
theorem dJ1_charAt_3b067_3 : decode cJ1_charAt_3b067 3 = .ok (.invokestatic 9, 3) := by decide +kernel
theorem dJ1_charAt_3b067_6 : decode cJ1_charAt_3b067 6 = .ok (.aload_n 0, 1) := by decide +kernel
theorem dJ1_charAt_3b067_7 : decode cJ1_charAt_3b067 7 = .ok (.iload_n 1, 1) := by decide +kernel
theorem dJ1_charAt_3b067_8 : decode cJ1_charAt_3b067 8 = .ok (.baload, 1) := by decide +kernel
theorem dJ1_charAt_3b067_9 : decode cJ1_charAt_3b067 9 = .ok (.sipush 255, 3) := by decide +kernel
theorem dJ1_charAt_3b067_12 : decode cJ1_charAt_3b067 12 = .ok (.iand, 1) := by decide +kernel
theorem dJ1_charAt_3b067_13 : decode cJ1_charAt_3b067 13 = .ok (.i2c, 1) := by decide +kernel
theorem dJ1_charAt_3b067_14 : decode cJ1_charAt_3b067 14 = .ok (.ireturn, 1) := by decide +kernel
theorem dJ3_checkIndex_8e157_0 : decode cJ3_checkIndex_8e157 0 = .ok (.iload_n 0, 1) := by decide +kernel
theorem dJ3_checkIndex_8e157_1 : decode cJ3_checkIndex_8e157 1 = .ok (.ifCond .lt 8, 3) := by decide +kernel
theorem dJ3_checkIndex_8e157_4 : decode cJ3_checkIndex_8e157 4 = .ok (.iload_n 0, 1) := by decide +kernel
theorem dJ3_checkIndex_8e157_5 : decode cJ3_checkIndex_8e157 5 = .ok (.iload_n 1, 1) := by decide +kernel
theorem dJ3_checkIndex_8e157_6 : decode cJ3_checkIndex_8e157 6 = .ok (.if_icmp .lt 10, 3) := by decide +kernel
theorem dJ3_checkIndex_8e157_9 : decode cJ3_checkIndex_8e157 9 = .ok (.aload_n 2, 1) := by decide +kernel
theorem dJ3_checkIndex_8e157_10 : decode cJ3_checkIndex_8e157 10 = .ok (.iload_n 0, 1) := by decide +kernel
theorem dJ3_checkIndex_8e157_11 : decode cJ3_checkIndex_8e157 11 = .ok (.iload_n 1, 1) := by decide +kernel
theorem dJ3_checkIndex_8e157_12 : decode cJ3_checkIndex_8e157 12 = .ok (.invokestatic 95, 3) := by decide +kernel
theorem dJ3_checkIndex_8e157_15 : decode cJ3_checkIndex_8e157 15 = .ok (.athrow, 1) := by decide +kernel
theorem dJ3_checkIndex_8e157_16 : decode cJ3_checkIndex_8e157 16 = .ok (.iload_n 0, 1) := by decide +kernel
theorem dJ3_checkIndex_8e157_17 : decode cJ3_checkIndex_8e157 17 = .ok (.ireturn, 1) := by decide +kernel
def txL (k : Nat) : List Int32 := (TEXTS[k]?).getD []
def txC (k j : Nat) : Int32 := ((txL k)[j]?.getD 0) &&& 255
theorem tx_small : TEXTS.all (fun l => decide (l.length < 1000) && l.all fun b => decide (0 ≤ b ∧ b < 128)) = true := by decide +kernel
theorem tx_len {k : Nat} (hk : k < TEXTS.length) : (txL k).length < 1000 := by
  have h := List.all_eq_true.mp tx_small (TEXTS[k]) (List.getElem_mem hk)
  unfold txL
  rw [List.getElem?_eq_getElem hk]
  simp only [Bool.and_eq_true, decide_eq_true_eq] at h
  exact h.1
abbrev rmJ (f n : Nat) : Room := { frames := f, cells := 0, slots := 0, locals := n }
def jpre (G : GG) (as : List Value) (Hs : Heap) : Array Value → State → Prop := va_Pc as (fun U => KK G U ∧ U.heap = Hs)
def jqi (G : GG) (Hs : Heap) (P : Int32 → Prop) : Array Value → State → Outcome → State → Prop := va_Qi (S := Unit) (fun r _ => P r) (fun _ t => t.heap = Hs) (gI G)
def jqv (G : GG) (Hs : Heap) : Array Value → State → Outcome → State → Prop := va_Qv (S := Unit) (fun _ => True) (fun _ t => t.heap = Hs) (gI G)
theorem jblind {G : GG} {as : List Value} {Hs : Heap} : FrameBlind (jpre G as Hs) := fun a U g mk hp => ⟨hp.1, hp.2.1.calling, hp.2.2⟩
section JD
variable {p : Program} {l : Launch} {e : Env} {R : Room} {s : State} {m : MethodId} {args : Array Value} {below : List Frame} {meth : Method} {c : Code} {H : Heap} {locs : List Loc} {G : GG}
theorem j_words {w0 : Cond} (hts : ∀ w ∈ TBLg, w.before args s = true) (h0 : w0 ∈ TBLg) : ∀ w ∈ w0 :: TBLg, ∀ (a' : Array Value) (U : State), s.WarmedH U.vm → w.before a' U = true := by
  intro w hw a' U hW
  have hg : w ∈ TBLg := by
    rcases List.mem_cons.mp hw with rfl | hw
    · exact h0
    · exact hw
  exact word_at hW (good_of_word (TBLg_good w hg)) (hts w hg)
theorem j_pre {as : List Value} (hK : KK G s) (hS : va_S (gI G) s.heap H locs) : ∀ U : State, U.heap = H → s.WarmedH U.vm → jpre G as H as.toArray U := fun U hU hW => ⟨rfl, KK.next hK hW (by rw [hU]; exact hS.1) (fun q h1 h2 => by rw [hU]; exact hS.2.1 q h1 h2), hU⟩
theorem j_recv {k : Nat} (hK : KK G s) (hk : k < TEXTS.length) (hS : va_S (gI G) s.heap H locs) : ∃ cell : Cell, H[gS G k]? = some cell ∧ cell.vm.isStatics = false ∧ s.vm.findClass RJ0 = some cell.cls := by
  obtain ⟨cell, h1, h2, h3, h4⟩ := (hK.2.2.2.2.2.2.2.2.2.1 k hk).1
  exact ⟨cell, by rw [hS.2.1 _ (Array.getElem?_eq_some_iff.mp h1).1 h4]; exact h1, h2, h3⟩
end JD
theorem sh_0 (x : Int32) : x >>> ((0 : Int32) &&& 31) = x := by
  refine b_ext fun i hi => ?_
  rw [show (0 : Int32) = nI 0 from rfl, b_sshr 0 (by decide) x hi, if_pos (by omega), Nat.zero_add]
theorem tx_cn (x : Int32) : ∃ n, n < 256 ∧ x &&& 255 = nI n := by
  obtain ⟨n, hn, e⟩ := wb_of32 x
  exact ⟨n % 256, Nat.mod_lt _ (by decide), by rw [e]; exact fa_mask n 8⟩
theorem tx_d1 : ∀ n, n < 256 → ((nI n).toUInt32 % 65536).toInt32 = nI n ∧ narrow .char (.int (nI n)) = .int (nI n) := by decide +kernel
theorem tx_c (x : Int32) : ((x &&& 255).toUInt32 % 65536).toInt32 = x &&& 255 := by
  obtain ⟨n, hn, e⟩ := tx_cn x
  rw [e]
  exact (tx_d1 n hn).1
theorem tx_n (x : Int32) : narrow .char (.int (x &&& 255)) = .int (x &&& 255) := by
  obtain ⟨n, hn, e⟩ := tx_cn x
  rw [e]
  exact (tx_d1 n hn).2
section JM
variable {G : GG} {l : Launch} {Hs : Heap} {k : Nat}
theorem c_coder (hk : k < TEXTS.length) : Met l yJ0_coder_7d493 (Cond.code yJ0_coder_7d493 cJ0_coder_7d493 1 (some .byte) :: TBLg) (rmJ 0 0) (jpre G ([.ref (gS G k)]) Hs) (jqi G Hs (fun r => r = 0)) 0 0 (gI G) := by
  refine Met.ofW (cc := cJ0_coder_7d493) (maxL := 1) (ret := (some .byte)) (by decide) rfl ?_
  intro p e s m args below meth c s₁ B hml hv
  obtain ⟨rfl, hK, hHs⟩ := hv
  subst hHs
  have hx := B.exec
  have hb := B.bytes
  have hr := B.returns
  have hts0 := atoms_spec (ws := Cond.code yJ0_coder_7d493 cJ0_coder_7d493 1 (some .byte) :: TBLg) B.pre
  have hts : ∀ w ∈ TBLg, w.before _ s = true := fun w hw => hts0 w (List.mem_cons_of_mem _ hw)
  have hown : s.vm.findClass RJ0 = some m.cls := findClass_of_methodNamed B.named
  have hlocks := B.notSynchronized
  have hS : va_S (gI G) s.heap s.heap [] := va_S.rf
  have hl := lv_entry ([.ref (gS G k)]) (n := 1) (Nat.le_of_ble_eq_true rfl)
  rw [lg_entry_eq]
  generalize (lg_sl ([.ref (gS G k)]) ++ List.replicate (1 - (lg_sl ([.ref (gS G k)])).length) Slot.unset).toArray = ls at hl ⊢
  have hl : lv_has ls 1 [(0, .ref (gS G k))] := hl
  refine va_gets hx hb hK.2.2.2.2.2.2.2.2.2.2.1 hS hown (hts _ jf_comp) (fun x h => h) dJ0_coder_7d493_0 ?_
  refine lv_if_eq hx hb dJ0_coder_7d493_3 rfl (fun h => absurd h (by decide)) (fun _ => ?_)
  refine lv_aload_n hx hb dJ0_coder_7d493_6 rfl (lv_at hl 0 rfl) ?_
  refine vk_getf hx hb (hK.2.2.2.2.2.2.2.2.2.1 k hk).2.1 hS hown (hts _ jf_cod) (fun x h => h) dJ0_coder_7d493_7 ?_
  refine lv_goto hx hb dJ0_coder_7d493_10 rfl ?_
  exact W.zret hx hb hr (by decide) (fun t ht hW => ⟨⟨_, (), rfl, rfl, ht⟩, hS.F ht⟩) hS.2.2 dJ0_coder_7d493_14
theorem c_isL1 (hk : k < TEXTS.length) : Met l yJ0_isLatin1_aae02 (Cond.code yJ0_isLatin1_aae02 cJ0_isLatin1_aae02 1 (some .boolean) :: TBLg) (rmJ 0 0) (jpre G ([.ref (gS G k)]) Hs) (jqi G Hs (fun r => r = 1)) 0 0 (gI G) := by
  refine Met.ofW (cc := cJ0_isLatin1_aae02) (maxL := 1) (ret := (some .boolean)) (by decide) rfl ?_
  intro p e s m args below meth c s₁ B hml hv
  obtain ⟨rfl, hK, hHs⟩ := hv
  subst hHs
  have hx := B.exec
  have hb := B.bytes
  have hr := B.returns
  have hts0 := atoms_spec (ws := Cond.code yJ0_isLatin1_aae02 cJ0_isLatin1_aae02 1 (some .boolean) :: TBLg) B.pre
  have hts : ∀ w ∈ TBLg, w.before _ s = true := fun w hw => hts0 w (List.mem_cons_of_mem _ hw)
  have hown : s.vm.findClass RJ0 = some m.cls := findClass_of_methodNamed B.named
  have hlocks := B.notSynchronized
  have hS : va_S (gI G) s.heap s.heap [] := va_S.rf
  have hl := lv_entry ([.ref (gS G k)]) (n := 1) (Nat.le_of_ble_eq_true rfl)
  rw [lg_entry_eq]
  generalize (lg_sl ([.ref (gS G k)]) ++ List.replicate (1 - (lg_sl ([.ref (gS G k)])).length) Slot.unset).toArray = ls at hl ⊢
  have hl : lv_has ls 1 [(0, .ref (gS G k))] := hl
  refine va_gets hx hb hK.2.2.2.2.2.2.2.2.2.2.1 hS hown (hts _ jf_comp) (fun x h => h) dJ0_isLatin1_aae02_0 ?_
  refine lv_if_eq hx hb dJ0_isLatin1_aae02_3 rfl (fun h => absurd h (by decide)) (fun _ => ?_)
  refine lv_aload_n hx hb dJ0_isLatin1_aae02_6 rfl (lv_at hl 0 rfl) ?_
  refine vk_getf hx hb (hK.2.2.2.2.2.2.2.2.2.1 k hk).2.1 hS hown (hts _ jf_cod) (fun x h => h) dJ0_isLatin1_aae02_7 ?_
  refine lv_if_ne hx hb dJ0_isLatin1_aae02_10 rfl (fun h => absurd rfl h) (fun _ => ?_)
  refine lv_iconst hx hb dJ0_isLatin1_aae02_13 (v := 1) rfl ?_
  refine lv_goto hx hb dJ0_isLatin1_aae02_14 rfl ?_
  exact W.zret hx hb hr (by decide) (fun t ht hW => ⟨⟨_, (), rfl, rfl, ht⟩, hS.F ht⟩) hS.2.2 dJ0_isLatin1_aae02_18
theorem np_y {y : MethodName} {n : Nat} (h : (parseMethodDescriptor y.desc).map (fun d => d.parameters.length) = some n) : ∀ sig, parseMethodDescriptor y.desc = some sig → n = sig.parameters.length := fun sig hs => by rw [hs] at h; exact (Option.some.inj h).symm
theorem c_length (hk : k < TEXTS.length) : Met l yJ0_length_8abf5 (Cond.code yJ0_length_8abf5 cJ0_length_8abf5 1 (some .int) :: TBLg) (rmJ 1 20) (jpre G ([.ref (gS G k)]) Hs) (jqi G Hs (fun r => r = nI (txL k).length)) 0 0 (gI G) := by
  refine Met.ofW (cc := cJ0_length_8abf5) (maxL := 1) (ret := (some .int)) (by decide) rfl ?_
  intro p e s m args below meth c s₁ B hml hv
  obtain ⟨rfl, hK, hHs⟩ := hv
  subst hHs
  have hx := B.exec
  have hb := B.bytes
  have hr := B.returns
  have hts0 := atoms_spec (ws := Cond.code yJ0_length_8abf5 cJ0_length_8abf5 1 (some .int) :: TBLg) B.pre
  have hts : ∀ w ∈ TBLg, w.before _ s = true := fun w hw => hts0 w (List.mem_cons_of_mem _ hw)
  have hown : s.vm.findClass RJ0 = some m.cls := findClass_of_methodNamed B.named
  have hlocks := B.notSynchronized
  have hS : va_S (gI G) s.heap s.heap [] := va_S.rf
  have hl := lv_entry ([.ref (gS G k)]) (n := 1) (Nat.le_of_ble_eq_true rfl)
  rw [lg_entry_eq]
  generalize (lg_sl ([.ref (gS G k)]) ++ List.replicate (1 - (lg_sl ([.ref (gS G k)])).length) Slot.unset).toArray = ls at hl ⊢
  have hl : lv_has ls 1 [(0, .ref (gS G k))] := hl
  obtain ⟨-, -, hF, hT⟩ := hK.2.2.2.2.2.2.2.2.2.1 k hk
  refine lv_aload_n hx hb dJ0_length_8abf5_0 rfl (lv_at hl 0 rfl) ?_
  refine vk_getf hx hb hF hS hown (hts _ jf_val) (fun x h => h) dJ0_length_8abf5_1 ?_
  refine va_tlen hx hb hT hS (v := nI (txL k).length) rfl dJ0_length_8abf5_4 ?_
  refine lv_aload_n hx hb dJ0_length_8abf5_5 rfl (lv_at hl 0 rfl) ?_
  refine va_calli (va_runV (C := RJ0) (As := []) (rest := [.int (nI (txL k).length)]) ⟨hx, hb, hml, hown, hts⟩ (c_coder (Hs := s.heap) hk) ⟨⟨rfl, rfl, Nat.le_of_ble_eq_true rfl, Nat.le_of_ble_eq_true rfl, j_words hts jc_cod, List.mem_cons_self, hts _ jc_cod, hts _ ji_0, ⟨by decide, by decide⟩, np_y (n := 0) (by decide +kernel), hts _ jl_cod⟩, hts _ jm_cod, hts _ js_cod⟩ ⟨jblind, j_recv hK hk hS, j_pre hK hS⟩ rfl rfl hl.1 rfl (lv_room (Nat.le_of_ble_eq_true rfl)) dJ0_length_8abf5_6 ⟨Nat.zero_le _, Nat.zero_le _⟩) hS (fun q _ h => h) (fun q h => h) (fun r u t H1 locs1 ht hvm hp hB hz hk1 hS => ?_)
  subst hp
  refine lv_ishr hx hb dJ0_length_8abf5_9 ?_
  refine W.eq (g2 := F0 m 10 ls [.int (nI (txL k).length)]) (by rw [show nI (txL k).length >>> ((0 : Int32) &&& 31) = nI (txL k).length from sh_0 _]) ?_
  exact W.iret hx hb hr (fun t2 ht2 hW => ⟨⟨_, (), rfl, rfl, ht2.trans (ht.symm.trans hB)⟩, hS.F ht2⟩) hS.2.2 dJ0_length_8abf5_10
theorem c_pi {i n : Int32} {v : Value} (hv0 : v = .null ∨ ∃ t, v = .ref t) (h0 : 0 ≤ i) (h1 : i < n) : Met l yJ3_checkIndex_8e157 (Cond.code yJ3_checkIndex_8e157 cJ3_checkIndex_8e157 3 (some .int) :: TBLg) (rmJ 0 0) (jpre G ([.int i, .int n, v]) Hs) (jqi G Hs (fun r => True)) 0 0 (gI G) := by
  rcases hv0 with rfl | ⟨tt, rfl⟩
  · refine Met.ofW (cc := cJ3_checkIndex_8e157) (maxL := 3) (ret := (some .int)) (by decide) rfl ?_
    intro p e s m args below meth c s₁ B hml hv
    obtain ⟨rfl, hK, hHs⟩ := hv
    subst hHs
    have hx := B.exec
    have hb := B.bytes
    have hr := B.returns
    have hts0 := atoms_spec (ws := Cond.code yJ3_checkIndex_8e157 cJ3_checkIndex_8e157 3 (some .int) :: TBLg) B.pre
    have hts : ∀ w ∈ TBLg, w.before _ s = true := fun w hw => hts0 w (List.mem_cons_of_mem _ hw)
    have hown : s.vm.findClass RJ3 = some m.cls := findClass_of_methodNamed B.named
    have hlocks := B.notSynchronized
    have hS : va_S (gI G) s.heap s.heap [] := va_S.rf
    have hl := lv_entry ([.int i, .int n, .null]) (n := 3) (Nat.le_of_ble_eq_true rfl)
    rw [lg_entry_eq]
    generalize (lg_sl ([.int i, .int n, .null]) ++ List.replicate (3 - (lg_sl ([.int i, .int n, .null])).length) Slot.unset).toArray = ls at hl ⊢
    have hl : lv_has ls 3 [(0, .int i), (1, .int n), (2, .null)] := hl
    refine lv_iload_n hx hb dJ3_checkIndex_8e157_0 rfl (lv_at hl 0 rfl) ?_
    refine lv_if_lt hx hb dJ3_checkIndex_8e157_1 rfl (fun h => absurd h (Int32.not_lt.mpr h0)) (fun _ => ?_)
    refine lv_iload_n hx hb dJ3_checkIndex_8e157_4 rfl (lv_at hl 0 rfl) ?_
    refine lv_iload_n hx hb dJ3_checkIndex_8e157_5 rfl (lv_at hl 1 rfl) ?_
    refine lv_icmp_lt hx hb dJ3_checkIndex_8e157_6 rfl (fun _ => ?_) (fun h => absurd h1 h)
    refine lv_iload_n hx hb dJ3_checkIndex_8e157_16 rfl (lv_at hl 0 rfl) ?_
    exact W.iret hx hb hr (fun t ht hW => ⟨⟨_, (), rfl, trivial, ht⟩, hS.F ht⟩) hS.2.2 dJ3_checkIndex_8e157_17
  · refine Met.ofW (cc := cJ3_checkIndex_8e157) (maxL := 3) (ret := (some .int)) (by decide) rfl ?_
    intro p e s m args below meth c s₁ B hml hv
    obtain ⟨rfl, hK, hHs⟩ := hv
    subst hHs
    have hx := B.exec
    have hb := B.bytes
    have hr := B.returns
    have hts0 := atoms_spec (ws := Cond.code yJ3_checkIndex_8e157 cJ3_checkIndex_8e157 3 (some .int) :: TBLg) B.pre
    have hts : ∀ w ∈ TBLg, w.before _ s = true := fun w hw => hts0 w (List.mem_cons_of_mem _ hw)
    have hown : s.vm.findClass RJ3 = some m.cls := findClass_of_methodNamed B.named
    have hlocks := B.notSynchronized
    have hS : va_S (gI G) s.heap s.heap [] := va_S.rf
    have hl := lv_entry ([.int i, .int n, .ref tt]) (n := 3) (Nat.le_of_ble_eq_true rfl)
    rw [lg_entry_eq]
    generalize (lg_sl ([.int i, .int n, .ref tt]) ++ List.replicate (3 - (lg_sl ([.int i, .int n, .ref tt])).length) Slot.unset).toArray = ls at hl ⊢
    have hl : lv_has ls 3 [(0, .int i), (1, .int n), (2, .ref tt)] := hl
    refine lv_iload_n hx hb dJ3_checkIndex_8e157_0 rfl (lv_at hl 0 rfl) ?_
    refine lv_if_lt hx hb dJ3_checkIndex_8e157_1 rfl (fun h => absurd h (Int32.not_lt.mpr h0)) (fun _ => ?_)
    refine lv_iload_n hx hb dJ3_checkIndex_8e157_4 rfl (lv_at hl 0 rfl) ?_
    refine lv_iload_n hx hb dJ3_checkIndex_8e157_5 rfl (lv_at hl 1 rfl) ?_
    refine lv_icmp_lt hx hb dJ3_checkIndex_8e157_6 rfl (fun _ => ?_) (fun h => absurd h1 h)
    refine lv_iload_n hx hb dJ3_checkIndex_8e157_16 rfl (lv_at hl 0 rfl) ?_
    exact W.iret hx hb hr (fun t ht hW => ⟨⟨_, (), rfl, trivial, ht⟩, hS.F ht⟩) hS.2.2 dJ3_checkIndex_8e157_17
theorem c_ci {i n : Int32} (h0 : 0 ≤ i) (h1 : i < n) : Met l yJ0_checkIndex_df160 (Cond.code yJ0_checkIndex_df160 cJ0_checkIndex_df160 2 none :: TBLg) (rmJ 1 22) (jpre G ([.int i, .int n]) Hs) (jqv G Hs) 0 0 (gI G) := by
  refine Met.ofW (cc := cJ0_checkIndex_df160) (maxL := 2) (ret := none) (by decide) rfl ?_
  intro p e s m args below meth c s₁ B hml hv
  obtain ⟨rfl, hK, hHs⟩ := hv
  subst hHs
  have hx := B.exec
  have hb := B.bytes
  have hr := B.returns
  have hts0 := atoms_spec (ws := Cond.code yJ0_checkIndex_df160 cJ0_checkIndex_df160 2 none :: TBLg) B.pre
  have hts : ∀ w ∈ TBLg, w.before _ s = true := fun w hw => hts0 w (List.mem_cons_of_mem _ hw)
  have hown : s.vm.findClass RJ0 = some m.cls := findClass_of_methodNamed B.named
  have hlocks := B.notSynchronized
  have hS : va_S (gI G) s.heap s.heap [] := va_S.rf
  have hl := lv_entry ([.int i, .int n]) (n := 2) (Nat.le_of_ble_eq_true rfl)
  rw [lg_entry_eq]
  generalize (lg_sl ([.int i, .int n]) ++ List.replicate (2 - (lg_sl ([.int i, .int n])).length) Slot.unset).toArray = ls at hl ⊢
  have hl : lv_has ls 2 [(0, .int i), (1, .int n)] := hl
  refine lv_iload_n hx hb dJ0_checkIndex_df160_0 rfl (lv_at hl 0 rfl) ?_
  refine lv_iload_n hx hb dJ0_checkIndex_df160_1 rfl (lv_at hl 1 rfl) ?_
  rcases hK.2.2.2.2.2.2.2.2.2.2.2.1 with hZ | ⟨tt, hZ⟩
  · refine va_gets hx hb hZ hS hown (hts _ jf_fmt) (fun x h => h) dJ0_checkIndex_df160_2 ?_
    refine va_calli (va_runS (As := [.int i, .int n, .null]) (rest := []) ⟨hx, hb, hml, hown, hts⟩ (c_pi (G := G) (Hs := s.heap) (Or.inl rfl) h0 h1) ⟨⟨rfl, rfl, Nat.le_of_ble_eq_true rfl, Nat.le_of_ble_eq_true rfl, j_words hts jc_pi, List.mem_cons_self, hts _ jc_pi, hts _ ji_3, ⟨by decide, by decide⟩, np_y (n := 3) (by decide +kernel), hts _ jl_pi⟩, hts _ jm_pi⟩ ⟨jblind, j_pre hK hS⟩ rfl rfl hl.1 rfl (lv_room (Nat.le_of_ble_eq_true rfl)) dJ0_checkIndex_df160_5 ⟨Nat.zero_le _, Nat.zero_le _⟩) hS (fun q _ h => h) (fun q h => h) (fun r u t H1 locs1 ht hvm hp hB hz hk1 hS => ?_)
    refine lv_pop hx hb dJ0_checkIndex_df160_8 rfl ?_
    exact W.vret hx hb hr (fun t2 ht2 hW => ⟨⟨(), rfl, trivial, ht2.trans (ht.symm.trans hB)⟩, hS.F ht2⟩) hS.2.2 dJ0_checkIndex_df160_9
  · refine va_gets hx hb hZ hS hown (hts _ jf_fmt) (fun x h => h) dJ0_checkIndex_df160_2 ?_
    refine va_calli (va_runS (As := [.int i, .int n, .ref tt]) (rest := []) ⟨hx, hb, hml, hown, hts⟩ (c_pi (G := G) (Hs := s.heap) (Or.inr ⟨tt, rfl⟩) h0 h1) ⟨⟨rfl, rfl, Nat.le_of_ble_eq_true rfl, Nat.le_of_ble_eq_true rfl, j_words hts jc_pi, List.mem_cons_self, hts _ jc_pi, hts _ ji_3, ⟨by decide, by decide⟩, np_y (n := 3) (by decide +kernel), hts _ jl_pi⟩, hts _ jm_pi⟩ ⟨jblind, j_pre hK hS⟩ rfl rfl hl.1 rfl (lv_room (Nat.le_of_ble_eq_true rfl)) dJ0_checkIndex_df160_5 ⟨Nat.zero_le _, Nat.zero_le _⟩) hS (fun q _ h => h) (fun q h => h) (fun r u t H1 locs1 ht hvm hp hB hz hk1 hS => ?_)
    refine lv_pop hx hb dJ0_checkIndex_df160_8 rfl ?_
    exact W.vret hx hb hr (fun t2 ht2 hW => ⟨⟨(), rfl, trivial, ht2.trans (ht.symm.trans hB)⟩, hS.F ht2⟩) hS.2.2 dJ0_checkIndex_df160_9
theorem c_c1 {j : Nat} (hk : k < TEXTS.length) (hj : j < (txL k).length) : Met l yJ1_charAt_3b067 (Cond.code yJ1_charAt_3b067 cJ1_charAt_3b067 2 (some .char) :: TBLg) (rmJ 2 43) (jpre G ([.ref (gS G (100 + k)), .int (nI j)]) Hs) (jqi G Hs (fun r => r = txC k j)) 0 0 (gI G) := by
  refine Met.ofW (cc := cJ1_charAt_3b067) (maxL := 2) (ret := (some .char)) (by decide) rfl ?_
  intro p e s m args below meth c s₁ B hml hv
  obtain ⟨rfl, hK, hHs⟩ := hv
  subst hHs
  have hx := B.exec
  have hb := B.bytes
  have hr := B.returns
  have hts0 := atoms_spec (ws := Cond.code yJ1_charAt_3b067 cJ1_charAt_3b067 2 (some .char) :: TBLg) B.pre
  have hts : ∀ w ∈ TBLg, w.before _ s = true := fun w hw => hts0 w (List.mem_cons_of_mem _ hw)
  have hown : s.vm.findClass RJ1 = some m.cls := findClass_of_methodNamed B.named
  have hlocks := B.notSynchronized
  have hS : va_S (gI G) s.heap s.heap [] := va_S.rf
  have hl := lv_entry ([.ref (gS G (100 + k)), .int (nI j)]) (n := 2) (Nat.le_of_ble_eq_true rfl)
  rw [lg_entry_eq]
  generalize (lg_sl ([.ref (gS G (100 + k)), .int (nI j)]) ++ List.replicate (2 - (lg_sl ([.ref (gS G (100 + k)), .int (nI j)])).length) Slot.unset).toArray = ls at hl ⊢
  have hl : lv_has ls 2 [(0, .ref (gS G (100 + k))), (1, .int (nI j))] := hl
  obtain ⟨-, -, hF, hT⟩ := hK.2.2.2.2.2.2.2.2.2.1 k hk
  have hlen := tx_len hk
  refine lv_iload_n hx hb dJ1_charAt_3b067_0 rfl (lv_at hl 1 rfl) ?_
  refine lv_aload_n hx hb dJ1_charAt_3b067_1 rfl (lv_at hl 0 rfl) ?_
  refine va_tlen hx hb hT hS (v := nI (txL k).length) rfl dJ1_charAt_3b067_2 ?_
  refine va_callv (va_runS (As := [.int (nI j), .int (nI (txL k).length)]) (rest := []) ⟨hx, hb, hml, hown, hts⟩ (c_ci (G := G) (Hs := s.heap) (nI_pos' (by omega)) (nI_lt hj (by omega))) ⟨⟨rfl, rfl, Nat.le_of_ble_eq_true rfl, Nat.le_of_ble_eq_true rfl, j_words hts jc_ci, List.mem_cons_self, hts _ jc_ci, hts _ ji_0, ⟨by decide, by decide⟩, np_y (n := 2) (by decide +kernel), hts _ jl_ci⟩, hts _ jm_ci⟩ ⟨jblind, j_pre hK hS⟩ rfl rfl hl.1 rfl (lv_room (Nat.le_of_ble_eq_true rfl)) dJ1_charAt_3b067_3 ⟨Nat.zero_le _, Nat.zero_le _⟩) hS (fun q _ h => h) (fun q h => h) (fun u t H1 locs1 ht hvm hp hB hz hk1 hS => ?_)
  refine lv_aload_n hx hb dJ1_charAt_3b067_6 rfl (lv_at hl 0 rfl) ?_
  refine lv_iload_n hx hb dJ1_charAt_3b067_7 rfl (lv_at hl 1 rfl) ?_
  refine va_tb hx hb hT hS (v := .int ((txL k)[j]?.getD 0)) (vp_in_nI (show j < ((TEXTS[k]?).getD []).length from hj) (by have := hlen; unfold txL at this; omega)) (by rw [nI_clamp (by omega)]; rfl) dJ1_charAt_3b067_8 ?_
  refine lv_sipush hx hb dJ1_charAt_3b067_9 (v := 255) (by decide) ?_
  refine lv_iand hx hb dJ1_charAt_3b067_12 ?_
  refine lv_i2c hx hb (v := txC k j) dJ1_charAt_3b067_13 (tx_c _) ?_
  exact W.zret hx hb hr (tx_n _) (fun t2 ht2 hW => ⟨⟨_, (), rfl, rfl, ht2.trans (ht.symm.trans hB)⟩, hS.F ht2⟩) hS.2.2 dJ1_charAt_3b067_14
theorem c_charAt {j : Nat} (hk : k < TEXTS.length) (hj : j < (txL k).length) : Met l yJ0_charAt_5068e (Cond.code yJ0_charAt_5068e cJ0_charAt_5068e 2 (some .char) :: TBLg) (rmJ 3 64) (jpre G ([.ref (gS G k), .int (nI j)]) Hs) (jqi G Hs (fun r => r = txC k j)) 0 0 (gI G) := by
  refine Met.ofW (cc := cJ0_charAt_5068e) (maxL := 2) (ret := (some .char)) (by decide) rfl ?_
  intro p e s m args below meth c s₁ B hml hv
  obtain ⟨rfl, hK, hHs⟩ := hv
  subst hHs
  have hx := B.exec
  have hb := B.bytes
  have hr := B.returns
  have hts0 := atoms_spec (ws := Cond.code yJ0_charAt_5068e cJ0_charAt_5068e 2 (some .char) :: TBLg) B.pre
  have hts : ∀ w ∈ TBLg, w.before _ s = true := fun w hw => hts0 w (List.mem_cons_of_mem _ hw)
  have hown : s.vm.findClass RJ0 = some m.cls := findClass_of_methodNamed B.named
  have hlocks := B.notSynchronized
  have hS : va_S (gI G) s.heap s.heap [] := va_S.rf
  have hl := lv_entry ([.ref (gS G k), .int (nI j)]) (n := 2) (Nat.le_of_ble_eq_true rfl)
  rw [lg_entry_eq]
  generalize (lg_sl ([.ref (gS G k), .int (nI j)]) ++ List.replicate (2 - (lg_sl ([.ref (gS G k), .int (nI j)])).length) Slot.unset).toArray = ls at hl ⊢
  have hl : lv_has ls 2 [(0, .ref (gS G k)), (1, .int (nI j))] := hl
  obtain ⟨-, -, hF, hT⟩ := hK.2.2.2.2.2.2.2.2.2.1 k hk
  refine lv_aload_n hx hb dJ0_charAt_5068e_0 rfl (lv_at hl 0 rfl) ?_
  refine va_calli (va_runV (C := RJ0) (As := []) (rest := []) ⟨hx, hb, hml, hown, hts⟩ (c_isL1 (Hs := s.heap) hk) ⟨⟨rfl, rfl, Nat.le_of_ble_eq_true rfl, Nat.le_of_ble_eq_true rfl, j_words hts jc_l1, List.mem_cons_self, hts _ jc_l1, hts _ ji_0, ⟨by decide, by decide⟩, np_y (n := 0) (by decide +kernel), hts _ jl_l1⟩, hts _ jm_l1, hts _ js_l1⟩ ⟨jblind, j_recv hK hk hS, j_pre hK hS⟩ rfl rfl hl.1 rfl (lv_room (Nat.le_of_ble_eq_true rfl)) dJ0_charAt_5068e_1 ⟨Nat.zero_le _, Nat.zero_le _⟩) hS (fun q _ h => h) (fun q h => h) (fun r u t H1 locs1 ht hvm hp hB hz hk1 hS => ?_)
  subst hp
  have hH : H1 = s.heap := ht.symm.trans hB
  refine lv_if_eq hx hb dJ0_charAt_5068e_4 rfl (fun h => absurd h (by decide)) (fun _ => ?_)
  refine lv_aload_n hx hb dJ0_charAt_5068e_7 rfl (lv_at hl 0 rfl) ?_
  refine vk_getf hx hb hF hS hown (hts _ jf_val) (fun x h => h) dJ0_charAt_5068e_8 ?_
  refine lv_iload_n hx hb dJ0_charAt_5068e_11 rfl (lv_at hl 1 rfl) ?_
  refine va_calli (va_runS (As := [.ref (gS G (100 + k)), .int (nI j)]) (rest := []) ⟨hx, hb, hml, hown, hts⟩ (c_c1 (G := G) (Hs := H1) hk hj) ⟨⟨rfl, rfl, Nat.le_of_ble_eq_true rfl, Nat.le_of_ble_eq_true rfl, j_words hts jc_c1, List.mem_cons_self, hts _ jc_c1, hts _ ji_1, ⟨by decide, by decide⟩, np_y (n := 2) (by decide +kernel), hts _ jl_c1⟩, hts _ jm_c1⟩ ⟨jblind, j_pre hK hS⟩ rfl rfl hl.1 rfl (lv_room (Nat.le_of_ble_eq_true rfl)) dJ0_charAt_5068e_12 ⟨Nat.zero_le _, Nat.zero_le _⟩) hS (fun q _ h => h) (fun q h => h) (fun r u t H2 locs2 ht hvm hp hB hz hk1 hS => ?_)
  subst hp
  exact W.zret hx hb hr (tx_n _) (fun t2 ht2 hW => ⟨⟨_, (), rfl, rfl, ht2.trans (ht.symm.trans (hB.trans hH))⟩, hS.F ht2⟩) hS.2.2 dJ0_charAt_5068e_15
end JM
section JR
variable {G : GG} {i pc : Nat} {L : List (Nat × Value)} {st : List Value} {h : HM} {o : Option Nat} {k n : Nat} {Q : XQ}
theorem s_strlen {a : Nat} (ha : a < TEXTS.length) (hi : (mN i).cls = RX10) (hd : decode (mC i) pc = .ok (.invokevirtual 73, 3)) (hf : 2 ≤ (mF i).1) (hlo : 40 ≤ (mF i).2) (hk : k ≤ (mMc i).1) (hn : n ≤ (mMc i).2) (hcat : (st.map fun v => v.category).sum ≤ 8)
    (kk : EX G i (pc + 3) L (.int (nI (txL a).length) :: st) h o k n Q) : EX G i pc L (.ref (gS G a) :: st) h o k n Q := by
  intro p l e s m args below meth c H locs ls C hl hR hS
  have hK := C.2.2.2.2.2.2.2.2.2.1
  have hts := C.2.2.2.2.2.1
  have hown := C.2.2.2.2.1
  rw [hi] at hown
  refine va_calli (va_runV (C := RJ0) (As := []) (rest := st) ⟨C.1, C.2.1, C.2.2.2.1, hown, hts⟩ (c_length (G := G) (Hs := H) ha) ⟨⟨rfl, rfl, hf, by show 8 + (1 + 11) + 20 ≤ (mF i).2; omega, j_words hts jc_len, List.mem_cons_self, hts _ jc_len, hts _ ji_0, ⟨by decide, by decide⟩, np_y (n := 0) (by decide +kernel), hts _ jl_len⟩, hts _ jm_len, hts _ js_len⟩ ⟨jblind, j_recv hK ha hS, j_pre hK hS⟩ rfl rfl hl.1 rfl (lv_room hcat) hd ⟨hk, hn⟩) hS (fun q _ h => h) (fun q h => h) (fun r u t H1 locs1 ht hvm hp hB hz hk1 hS1 => ?_)
  subst hp
  have hH : H1 = H := ht.symm.trans hB
  subst hH
  exact kk p l e s m args below meth c H1 locs1 ls C hl hR hS1
theorem s_charAt {a j : Nat} (ha : a < TEXTS.length) (hj : j < (txL a).length) (hi : (mN i).cls = RX10) (hd : decode (mC i) pc = .ok (.invokevirtual 78, 3)) (hf : 4 ≤ (mF i).1) (hlo : 85 ≤ (mF i).2) (hk : k ≤ (mMc i).1) (hn : n ≤ (mMc i).2) (hcat : (st.map fun v => v.category).sum ≤ 8)
    (kk : EX G i (pc + 3) L (.int (txC a j) :: st) h o k n Q) : EX G i pc L (.int (nI j) :: .ref (gS G a) :: st) h o k n Q := by
  intro p l e s m args below meth c H locs ls C hl hR hS
  have hK := C.2.2.2.2.2.2.2.2.2.1
  have hts := C.2.2.2.2.2.1
  have hown := C.2.2.2.2.1
  rw [hi] at hown
  refine va_calli (va_runV (C := RJ0) (As := [.int (nI j)]) (rest := st) ⟨C.1, C.2.1, C.2.2.2.1, hown, hts⟩ (c_charAt (G := G) (Hs := H) ha hj) ⟨⟨rfl, rfl, hf, by show 8 + (2 + 11) + 64 ≤ (mF i).2; omega, j_words hts jc_ch, List.mem_cons_self, hts _ jc_ch, hts _ ji_0, ⟨by decide, by decide⟩, np_y (n := 1) (by decide +kernel), hts _ jl_ch⟩, hts _ jm_ch, hts _ js_ch⟩ ⟨jblind, j_recv hK ha hS, j_pre hK hS⟩ rfl rfl hl.1 rfl (lv_room hcat) hd ⟨hk, hn⟩) hS (fun q _ h => h) (fun q h => h) (fun r u t H1 locs1 ht hvm hp hB hz hk1 hS1 => ?_)
  subst hp
  have hH : H1 = H := ht.symm.trans hB
  subst hH
  exact kk p l e s m args below meth c H1 locs1 ls C hl hR hS1
end JR
