/-! blocks of Settings, by program -/
def B_Settings_least_20 : List OPX := [(.iconst 0, 1, 0, 0, 0, 0), (.ireturn, 1, 0, 0, 0, 0)]
def B_Settings_least_21 : List OPX := [(.ireturn, 1, 0, 0, 0, 0)]
def T_Settings_least : Nat → Option (List OPX) := tbL [(20, B_Settings_least_20), (21, B_Settings_least_21)]
theorem T_Settings_least_ok : ∀ pc t, T_Settings_least pc = some t → chkB m_Settings_least pc t = true := tbL_ok (by decide +kernel)
theorem T_Settings_least_20 : T_Settings_least 20 = some [(.iconst 0, 1, 0, 0, 0, 0), (.ireturn, 1, 0, 0, 0, 0)] := rfl
theorem T_Settings_least_21 : T_Settings_least 21 = some [(.ireturn, 1, 0, 0, 0, 0)] := rfl
theorem X_Settings_least_0 {W : WF} {G : GG} (hW : WOK G W) {L : List (Nat × Value)} {st : List Value} {h : HM} {o : Option Nat} {k n : Nat} {Q : XQ} (hx : exB W G m_Settings_least Q (exF W G m_Settings_least Q T_Settings_least 40) [(.iload_n 0, 1, 0, 0, 0, 0), (.ifCond .lt 19, 3, 20, 0, 0, 0), (.iload_n 0, 1, 0, 0, 0, 0), (.getstatic 9, 3, 1000, 0, 0, 0), (.arraylength, 1, 0, 0, 0, 0), (.if_icmp .ge 11, 3, 20, 0, 0, 0), (.getstatic 9, 3, 1000, 0, 0, 0), (.iload_n 0, 1, 0, 0, 0, 0), (.iaload, 1, 0, 0, 0, 0), (.goto 4, 3, 21, 0, 0, 0)] 0 L st h o k n) : EX G m_Settings_least 0 L st h o k n Q := exB_ok hW (fun q L st h o k n hq => exF_ok hW T_Settings_least_ok hq) (by decide +kernel) hx
def B_Settings_most_20 : List OPX := [(.iconst 0, 1, 0, 0, 0, 0), (.ireturn, 1, 0, 0, 0, 0)]
def B_Settings_most_21 : List OPX := [(.ireturn, 1, 0, 0, 0, 0)]
def T_Settings_most : Nat → Option (List OPX) := tbL [(20, B_Settings_most_20), (21, B_Settings_most_21)]
theorem T_Settings_most_ok : ∀ pc t, T_Settings_most pc = some t → chkB m_Settings_most pc t = true := tbL_ok (by decide +kernel)
theorem T_Settings_most_20 : T_Settings_most 20 = some [(.iconst 0, 1, 0, 0, 0, 0), (.ireturn, 1, 0, 0, 0, 0)] := rfl
theorem T_Settings_most_21 : T_Settings_most 21 = some [(.ireturn, 1, 0, 0, 0, 0)] := rfl
theorem X_Settings_most_0 {W : WF} {G : GG} (hW : WOK G W) {L : List (Nat × Value)} {st : List Value} {h : HM} {o : Option Nat} {k n : Nat} {Q : XQ} (hx : exB W G m_Settings_most Q (exF W G m_Settings_most Q T_Settings_most 40) [(.iload_n 0, 1, 0, 0, 0, 0), (.ifCond .lt 19, 3, 20, 0, 0, 0), (.iload_n 0, 1, 0, 0, 0, 0), (.getstatic 15, 3, 1001, 0, 0, 0), (.arraylength, 1, 0, 0, 0, 0), (.if_icmp .ge 11, 3, 20, 0, 0, 0), (.getstatic 15, 3, 1001, 0, 0, 0), (.iload_n 0, 1, 0, 0, 0, 0), (.iaload, 1, 0, 0, 0, 0), (.goto 4, 3, 21, 0, 0, 0)] 0 L st h o k n) : EX G m_Settings_most 0 L st h o k n Q := exB_ok hW (fun q L st h o k n hq => exF_ok hW T_Settings_most_ok hq) (by decide +kernel) hx
def B_Settings_initial_20 : List OPX := [(.iconst 0, 1, 0, 0, 0, 0), (.ireturn, 1, 0, 0, 0, 0)]
def B_Settings_initial_21 : List OPX := [(.ireturn, 1, 0, 0, 0, 0)]
def T_Settings_initial : Nat → Option (List OPX) := tbL [(20, B_Settings_initial_20), (21, B_Settings_initial_21)]
theorem T_Settings_initial_ok : ∀ pc t, T_Settings_initial pc = some t → chkB m_Settings_initial pc t = true := tbL_ok (by decide +kernel)
theorem T_Settings_initial_20 : T_Settings_initial 20 = some [(.iconst 0, 1, 0, 0, 0, 0), (.ireturn, 1, 0, 0, 0, 0)] := rfl
theorem T_Settings_initial_21 : T_Settings_initial 21 = some [(.ireturn, 1, 0, 0, 0, 0)] := rfl
theorem X_Settings_initial_0 {W : WF} {G : GG} (hW : WOK G W) {L : List (Nat × Value)} {st : List Value} {h : HM} {o : Option Nat} {k n : Nat} {Q : XQ} (hx : exB W G m_Settings_initial Q (exF W G m_Settings_initial Q T_Settings_initial 40) [(.iload_n 0, 1, 0, 0, 0, 0), (.ifCond .lt 19, 3, 20, 0, 0, 0), (.iload_n 0, 1, 0, 0, 0, 0), (.getstatic 18, 3, 1002, 0, 0, 0), (.arraylength, 1, 0, 0, 0, 0), (.if_icmp .ge 11, 3, 20, 0, 0, 0), (.getstatic 18, 3, 1002, 0, 0, 0), (.iload_n 0, 1, 0, 0, 0, 0), (.iaload, 1, 0, 0, 0, 0), (.goto 4, 3, 21, 0, 0, 0)] 0 L st h o k n) : EX G m_Settings_initial 0 L st h o k n Q := exB_ok hW (fun q L st h o k n hq => exF_ok hW T_Settings_initial_ok hq) (by decide +kernel) hx
def B_Settings_named_11 : List OPX := [(.aload_n 0, 1, 0, 0, 0, 0), (.ldc 29, 2, 34, 1, 0, 0), (.invokevirtual 23, 3, 77, 0, 1, 9), (.ifCond .eq 5, 3, 22, 0, 0, 0), (.iconst 1, 1, 0, 0, 0, 0), (.ireturn, 1, 0, 0, 0, 0)]
def B_Settings_named_22 : List OPX := [(.aload_n 0, 1, 0, 0, 0, 0), (.ldc 31, 2, 35, 1, 0, 0), (.invokevirtual 23, 3, 77, 0, 1, 9), (.ifCond .eq 5, 3, 33, 0, 0, 0), (.iconst 2, 1, 0, 0, 0, 0), (.ireturn, 1, 0, 0, 0, 0)]
def B_Settings_named_33 : List OPX := [(.aload_n 0, 1, 0, 0, 0, 0), (.ldc 33, 2, 36, 1, 0, 0), (.invokevirtual 23, 3, 77, 0, 1, 9), (.ifCond .eq 5, 3, 44, 0, 0, 0), (.iconst 3, 1, 0, 0, 0, 0), (.ireturn, 1, 0, 0, 0, 0)]
def B_Settings_named_44 : List OPX := [(.aload_n 0, 1, 0, 0, 0, 0), (.ldc 35, 2, 37, 1, 0, 0), (.invokevirtual 23, 3, 77, 0, 1, 9), (.ifCond .eq 5, 3, 55, 0, 0, 0), (.iconst 4, 1, 0, 0, 0, 0), (.ireturn, 1, 0, 0, 0, 0)]
def B_Settings_named_55 : List OPX := [(.aload_n 0, 1, 0, 0, 0, 0), (.ldc 37, 2, 38, 1, 0, 0), (.invokevirtual 23, 3, 77, 0, 1, 9), (.ifCond .eq 7, 3, 68, 0, 0, 0), (.iconst 5, 1, 0, 0, 0, 0), (.goto 4, 3, 69, 0, 0, 0)]
def B_Settings_named_68 : List OPX := [(.iconst (-1), 1, 0, 0, 0, 0), (.ireturn, 1, 0, 0, 0, 0)]
def B_Settings_named_69 : List OPX := [(.ireturn, 1, 0, 0, 0, 0)]
def T_Settings_named : Nat → Option (List OPX) := tbL [(11, B_Settings_named_11), (22, B_Settings_named_22), (33, B_Settings_named_33), (44, B_Settings_named_44), (55, B_Settings_named_55), (68, B_Settings_named_68), (69, B_Settings_named_69)]
theorem T_Settings_named_ok : ∀ pc t, T_Settings_named pc = some t → chkB m_Settings_named pc t = true := tbL_ok (by decide +kernel)
theorem T_Settings_named_11 : T_Settings_named 11 = some [(.aload_n 0, 1, 0, 0, 0, 0), (.ldc 29, 2, 34, 1, 0, 0), (.invokevirtual 23, 3, 77, 0, 1, 9), (.ifCond .eq 5, 3, 22, 0, 0, 0), (.iconst 1, 1, 0, 0, 0, 0), (.ireturn, 1, 0, 0, 0, 0)] := rfl
theorem T_Settings_named_22 : T_Settings_named 22 = some [(.aload_n 0, 1, 0, 0, 0, 0), (.ldc 31, 2, 35, 1, 0, 0), (.invokevirtual 23, 3, 77, 0, 1, 9), (.ifCond .eq 5, 3, 33, 0, 0, 0), (.iconst 2, 1, 0, 0, 0, 0), (.ireturn, 1, 0, 0, 0, 0)] := rfl
theorem T_Settings_named_33 : T_Settings_named 33 = some [(.aload_n 0, 1, 0, 0, 0, 0), (.ldc 33, 2, 36, 1, 0, 0), (.invokevirtual 23, 3, 77, 0, 1, 9), (.ifCond .eq 5, 3, 44, 0, 0, 0), (.iconst 3, 1, 0, 0, 0, 0), (.ireturn, 1, 0, 0, 0, 0)] := rfl
theorem T_Settings_named_44 : T_Settings_named 44 = some [(.aload_n 0, 1, 0, 0, 0, 0), (.ldc 35, 2, 37, 1, 0, 0), (.invokevirtual 23, 3, 77, 0, 1, 9), (.ifCond .eq 5, 3, 55, 0, 0, 0), (.iconst 4, 1, 0, 0, 0, 0), (.ireturn, 1, 0, 0, 0, 0)] := rfl
theorem T_Settings_named_55 : T_Settings_named 55 = some [(.aload_n 0, 1, 0, 0, 0, 0), (.ldc 37, 2, 38, 1, 0, 0), (.invokevirtual 23, 3, 77, 0, 1, 9), (.ifCond .eq 7, 3, 68, 0, 0, 0), (.iconst 5, 1, 0, 0, 0, 0), (.goto 4, 3, 69, 0, 0, 0)] := rfl
theorem T_Settings_named_68 : T_Settings_named 68 = some [(.iconst (-1), 1, 0, 0, 0, 0), (.ireturn, 1, 0, 0, 0, 0)] := rfl
theorem T_Settings_named_69 : T_Settings_named 69 = some [(.ireturn, 1, 0, 0, 0, 0)] := rfl
theorem X_Settings_named_0 {W : WF} {G : GG} (hW : WOK G W) {L : List (Nat × Value)} {st : List Value} {h : HM} {o : Option Nat} {k n : Nat} {Q : XQ} (hx : exB W G m_Settings_named Q (exF W G m_Settings_named Q T_Settings_named 40) [(.aload_n 0, 1, 0, 0, 0, 0), (.ldc 21, 2, 33, 1, 0, 0), (.invokevirtual 23, 3, 77, 0, 1, 9), (.ifCond .eq 5, 3, 11, 0, 0, 0), (.iconst 0, 1, 0, 0, 0, 0), (.ireturn, 1, 0, 0, 0, 0)] 0 L st h o k n) : EX G m_Settings_named 0 L st h o k n Q := exB_ok hW (fun q L st h o k n hq => exF_ok hW T_Settings_named_ok hq) (by decide +kernel) hx
theorem O_Settings_named_Tokens_isWord : roomOK m_Settings_named m_Tokens_isWord 0 0 = true := by decide +kernel
