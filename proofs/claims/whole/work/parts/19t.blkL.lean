/-! blocks of L, by program -/
def B_L_feed_19 : List OPX := [(.astore 7, 2, 0, 0, 0, 0), (.iconst 1, 1, 0, 0, 0, 0), (.ireturn, 1, 0, 0, 0, 0)]
def B_L_feed_23 : List OPX := [(.iconst 0, 1, 0, 0, 0, 0), (.ireturn, 1, 0, 0, 0, 0)]
def T_L_feed : Nat → Option (List OPX) := tbL [(19, B_L_feed_19), (23, B_L_feed_23)]
theorem T_L_feed_ok : ∀ pc t, T_L_feed pc = some t → chkB m_L_feed pc t = true := tbL_ok (by decide +kernel)
theorem T_L_feed_19 : T_L_feed 19 = some [(.astore 7, 2, 0, 0, 0, 0), (.iconst 1, 1, 0, 0, 0, 0), (.ireturn, 1, 0, 0, 0, 0)] := rfl
theorem T_L_feed_23 : T_L_feed 23 = some [(.iconst 0, 1, 0, 0, 0, 0), (.ireturn, 1, 0, 0, 0, 0)] := rfl
theorem X_L_feed_0 {W : WF} {G : GG} (hW : WOK G W) {L : List (Nat × Value)} {st : List Value} {h : HM} {o : Option Nat} {k n : Nat} {Q : XQ} (hx : exB W G m_L_feed Q (exF W G m_L_feed Q T_L_feed 40) [(.aload 6, 2, 0, 0, 0, 0), (.iconst 0, 1, 0, 0, 0, 0), (.aload_n 0, 1, 0, 0, 0, 0), (.iload_n 1, 1, 0, 0, 0, 0), (.iload_n 2, 1, 0, 0, 0, 0), (.iload_n 3, 1, 0, 0, 0, 0), (.iload 4, 2, 0, 0, 0, 0), (.iload 5, 2, 0, 0, 0, 0), (.invokevirtual 7, 3, 99, 0, 5, 10), (.i2l, 1, 0, 0, 0, 0), (.lastore, 1, 0, 0, 0, 0), (.goto 7, 3, 23, 0, 0, 0)] 0 L st h o k n) : EX G m_L_feed 0 L st h o k n Q := exB_ok hW (fun q L st h o k n hq => exF_ok hW T_L_feed_ok hq) (by decide +kernel) hx
theorem O_L_feed_G_feed : roomOK m_L_feed m_G_feed 0 0 = true := by decide +kernel
def B_L_truncate_12 : List OPX := [(.astore_n 3, 1, 0, 0, 0, 0), (.iconst 1, 1, 0, 0, 0, 0), (.ireturn, 1, 0, 0, 0, 0)]
def B_L_truncate_15 : List OPX := [(.iconst 0, 1, 0, 0, 0, 0), (.ireturn, 1, 0, 0, 0, 0)]
def T_L_truncate : Nat → Option (List OPX) := tbL [(12, B_L_truncate_12), (15, B_L_truncate_15)]
theorem T_L_truncate_ok : ∀ pc t, T_L_truncate pc = some t → chkB m_L_truncate pc t = true := tbL_ok (by decide +kernel)
theorem T_L_truncate_12 : T_L_truncate 12 = some [(.astore_n 3, 1, 0, 0, 0, 0), (.iconst 1, 1, 0, 0, 0, 0), (.ireturn, 1, 0, 0, 0, 0)] := rfl
theorem T_L_truncate_15 : T_L_truncate 15 = some [(.iconst 0, 1, 0, 0, 0, 0), (.ireturn, 1, 0, 0, 0, 0)] := rfl
theorem X_L_truncate_0 {W : WF} {G : GG} (hW : WOK G W) {L : List (Nat × Value)} {st : List Value} {h : HM} {o : Option Nat} {k n : Nat} {Q : XQ} (hx : exB W G m_L_truncate Q (exF W G m_L_truncate Q T_L_truncate 40) [(.aload_n 2, 1, 0, 0, 0, 0), (.iconst 0, 1, 0, 0, 0, 0), (.aload_n 0, 1, 0, 0, 0, 0), (.iload_n 1, 1, 0, 0, 0, 0), (.invokevirtual 15, 3, 100, 0, 1, 10), (.i2l, 1, 0, 0, 0, 0), (.lastore, 1, 0, 0, 0, 0), (.goto 6, 3, 15, 0, 0, 0)] 0 L st h o k n) : EX G m_L_truncate 0 L st h o k n Q := exB_ok hW (fun q L st h o k n hq => exF_ok hW T_L_truncate_ok hq) (by decide +kernel) hx
theorem O_L_truncate_G_truncate : roomOK m_L_truncate m_G_truncate 0 0 = true := by decide +kernel
def B_L_readText_11 : List OPX := [(.astore_n 2, 1, 0, 0, 0, 0), (.iconst 1, 1, 0, 0, 0, 0), (.ireturn, 1, 0, 0, 0, 0)]
def B_L_readText_14 : List OPX := [(.iconst 0, 1, 0, 0, 0, 0), (.ireturn, 1, 0, 0, 0, 0)]
def T_L_readText : Nat → Option (List OPX) := tbL [(11, B_L_readText_11), (14, B_L_readText_14)]
theorem T_L_readText_ok : ∀ pc t, T_L_readText pc = some t → chkB m_L_readText pc t = true := tbL_ok (by decide +kernel)
theorem T_L_readText_11 : T_L_readText 11 = some [(.astore_n 2, 1, 0, 0, 0, 0), (.iconst 1, 1, 0, 0, 0, 0), (.ireturn, 1, 0, 0, 0, 0)] := rfl
theorem T_L_readText_14 : T_L_readText 14 = some [(.iconst 0, 1, 0, 0, 0, 0), (.ireturn, 1, 0, 0, 0, 0)] := rfl
theorem X_L_readText_0 {W : WF} {G : GG} (hW : WOK G W) {L : List (Nat × Value)} {st : List Value} {h : HM} {o : Option Nat} {k n : Nat} {Q : XQ} (hx : exB W G m_L_readText Q (exF W G m_L_readText Q T_L_readText 40) [(.aload_n 1, 1, 0, 0, 0, 0), (.iconst 0, 1, 0, 0, 0, 0), (.aload_n 0, 1, 0, 0, 0, 0), (.invokevirtual 21, 3, 101, 0, 0, 10), (.i2l, 1, 0, 0, 0, 0), (.lastore, 1, 0, 0, 0, 0), (.goto 6, 3, 14, 0, 0, 0)] 0 L st h o k n) : EX G m_L_readText 0 L st h o k n Q := exB_ok hW (fun q L st h o k n hq => exF_ok hW T_L_readText_ok hq) (by decide +kernel) hx
theorem O_L_readText_G_readText : roomOK m_L_readText m_G_readText 0 0 = true := by decide +kernel
def B_L_runScript_11 : List OPX := [(.astore_n 2, 1, 0, 0, 0, 0), (.iconst 1, 1, 0, 0, 0, 0), (.ireturn, 1, 0, 0, 0, 0)]
def B_L_runScript_14 : List OPX := [(.iconst 0, 1, 0, 0, 0, 0), (.ireturn, 1, 0, 0, 0, 0)]
def T_L_runScript : Nat → Option (List OPX) := tbL [(11, B_L_runScript_11), (14, B_L_runScript_14)]
theorem T_L_runScript_ok : ∀ pc t, T_L_runScript pc = some t → chkB m_L_runScript pc t = true := tbL_ok (by decide +kernel)
theorem T_L_runScript_11 : T_L_runScript 11 = some [(.astore_n 2, 1, 0, 0, 0, 0), (.iconst 1, 1, 0, 0, 0, 0), (.ireturn, 1, 0, 0, 0, 0)] := rfl
theorem T_L_runScript_14 : T_L_runScript 14 = some [(.iconst 0, 1, 0, 0, 0, 0), (.ireturn, 1, 0, 0, 0, 0)] := rfl
theorem X_L_runScript_0 {W : WF} {G : GG} (hW : WOK G W) {L : List (Nat × Value)} {st : List Value} {h : HM} {o : Option Nat} {k n : Nat} {Q : XQ} (hx : exB W G m_L_runScript Q (exF W G m_L_runScript Q T_L_runScript 40) [(.aload_n 1, 1, 0, 0, 0, 0), (.iconst 0, 1, 0, 0, 0, 0), (.aload_n 0, 1, 0, 0, 0, 0), (.invokevirtual 25, 3, 102, 0, 0, 10), (.i2l, 1, 0, 0, 0, 0), (.lastore, 1, 0, 0, 0, 0), (.goto 6, 3, 14, 0, 0, 0)] 0 L st h o k n) : EX G m_L_runScript 0 L st h o k n Q := exB_ok hW (fun q L st h o k n hq => exF_ok hW T_L_runScript_ok hq) (by decide +kernel) hx
theorem O_L_runScript_G_runScript : roomOK m_L_runScript m_G_runScript 0 0 = true := by decide +kernel
def B_L_nameByte_13 : List OPX := [(.astore 4, 2, 0, 0, 0, 0), (.iconst 1, 1, 0, 0, 0, 0), (.ireturn, 1, 0, 0, 0, 0)]
def B_L_nameByte_17 : List OPX := [(.iconst 0, 1, 0, 0, 0, 0), (.ireturn, 1, 0, 0, 0, 0)]
def T_L_nameByte : Nat → Option (List OPX) := tbL [(13, B_L_nameByte_13), (17, B_L_nameByte_17)]
theorem T_L_nameByte_ok : ∀ pc t, T_L_nameByte pc = some t → chkB m_L_nameByte pc t = true := tbL_ok (by decide +kernel)
theorem T_L_nameByte_13 : T_L_nameByte 13 = some [(.astore 4, 2, 0, 0, 0, 0), (.iconst 1, 1, 0, 0, 0, 0), (.ireturn, 1, 0, 0, 0, 0)] := rfl
theorem T_L_nameByte_17 : T_L_nameByte 17 = some [(.iconst 0, 1, 0, 0, 0, 0), (.ireturn, 1, 0, 0, 0, 0)] := rfl
theorem X_L_nameByte_0 {W : WF} {G : GG} (hW : WOK G W) {L : List (Nat × Value)} {st : List Value} {h : HM} {o : Option Nat} {k n : Nat} {Q : XQ} (hx : exB W G m_L_nameByte Q (exF W G m_L_nameByte Q T_L_nameByte 40) [(.aload_n 3, 1, 0, 0, 0, 0), (.iconst 0, 1, 0, 0, 0, 0), (.aload_n 0, 1, 0, 0, 0, 0), (.iload_n 1, 1, 0, 0, 0, 0), (.iload_n 2, 1, 0, 0, 0, 0), (.invokevirtual 28, 3, 118, 0, 2, 10), (.i2l, 1, 0, 0, 0, 0), (.lastore, 1, 0, 0, 0, 0), (.goto 7, 3, 17, 0, 0, 0)] 0 L st h o k n) : EX G m_L_nameByte 0 L st h o k n Q := exB_ok hW (fun q L st h o k n hq => exF_ok hW T_L_nameByte_ok hq) (by decide +kernel) hx
theorem O_L_nameByte_G_nameByte : roomOK m_L_nameByte m_G_nameByte 0 0 = true := by decide +kernel
def B_L_coldness_12 : List OPX := [(.astore_n 3, 1, 0, 0, 0, 0), (.iconst 1, 1, 0, 0, 0, 0), (.ireturn, 1, 0, 0, 0, 0)]
def B_L_coldness_15 : List OPX := [(.iconst 0, 1, 0, 0, 0, 0), (.ireturn, 1, 0, 0, 0, 0)]
def T_L_coldness : Nat → Option (List OPX) := tbL [(12, B_L_coldness_12), (15, B_L_coldness_15)]
theorem T_L_coldness_ok : ∀ pc t, T_L_coldness pc = some t → chkB m_L_coldness pc t = true := tbL_ok (by decide +kernel)
theorem T_L_coldness_12 : T_L_coldness 12 = some [(.astore_n 3, 1, 0, 0, 0, 0), (.iconst 1, 1, 0, 0, 0, 0), (.ireturn, 1, 0, 0, 0, 0)] := rfl
theorem T_L_coldness_15 : T_L_coldness 15 = some [(.iconst 0, 1, 0, 0, 0, 0), (.ireturn, 1, 0, 0, 0, 0)] := rfl
theorem X_L_coldness_0 {W : WF} {G : GG} (hW : WOK G W) {L : List (Nat × Value)} {st : List Value} {h : HM} {o : Option Nat} {k n : Nat} {Q : XQ} (hx : exB W G m_L_coldness Q (exF W G m_L_coldness Q T_L_coldness 40) [(.aload_n 2, 1, 0, 0, 0, 0), (.iconst 0, 1, 0, 0, 0, 0), (.aload_n 0, 1, 0, 0, 0, 0), (.iload_n 1, 1, 0, 0, 0, 0), (.invokevirtual 34, 3, 120, 0, 1, 10), (.i2l, 1, 0, 0, 0, 0), (.lastore, 1, 0, 0, 0, 0), (.goto 6, 3, 15, 0, 0, 0)] 0 L st h o k n) : EX G m_L_coldness 0 L st h o k n Q := exB_ok hW (fun q L st h o k n hq => exF_ok hW T_L_coldness_ok hq) (by decide +kernel) hx
theorem O_L_coldness_G_coldness : roomOK m_L_coldness m_G_coldness 0 0 = true := by decide +kernel
def B_L_hasThermometer_14 : List OPX := [(.lconst 0, 1, 0, 0, 0, 0), (.lastore, 1, 0, 0, 0, 0), (.goto 6, 3, 22, 0, 0, 0)]
def B_L_hasThermometer_15 : List OPX := [(.lastore, 1, 0, 0, 0, 0), (.goto 6, 3, 22, 0, 0, 0)]
def B_L_hasThermometer_19 : List OPX := [(.astore_n 3, 1, 0, 0, 0, 0), (.iconst 1, 1, 0, 0, 0, 0), (.ireturn, 1, 0, 0, 0, 0)]
def B_L_hasThermometer_22 : List OPX := [(.iconst 0, 1, 0, 0, 0, 0), (.ireturn, 1, 0, 0, 0, 0)]
def T_L_hasThermometer : Nat → Option (List OPX) := tbL [(14, B_L_hasThermometer_14), (15, B_L_hasThermometer_15), (19, B_L_hasThermometer_19), (22, B_L_hasThermometer_22)]
theorem T_L_hasThermometer_ok : ∀ pc t, T_L_hasThermometer pc = some t → chkB m_L_hasThermometer pc t = true := tbL_ok (by decide +kernel)
theorem T_L_hasThermometer_14 : T_L_hasThermometer 14 = some [(.lconst 0, 1, 0, 0, 0, 0), (.lastore, 1, 0, 0, 0, 0), (.goto 6, 3, 22, 0, 0, 0)] := rfl
theorem T_L_hasThermometer_15 : T_L_hasThermometer 15 = some [(.lastore, 1, 0, 0, 0, 0), (.goto 6, 3, 22, 0, 0, 0)] := rfl
theorem T_L_hasThermometer_19 : T_L_hasThermometer 19 = some [(.astore_n 3, 1, 0, 0, 0, 0), (.iconst 1, 1, 0, 0, 0, 0), (.ireturn, 1, 0, 0, 0, 0)] := rfl
theorem T_L_hasThermometer_22 : T_L_hasThermometer 22 = some [(.iconst 0, 1, 0, 0, 0, 0), (.ireturn, 1, 0, 0, 0, 0)] := rfl
theorem X_L_hasThermometer_0 {W : WF} {G : GG} (hW : WOK G W) {L : List (Nat × Value)} {st : List Value} {h : HM} {o : Option Nat} {k n : Nat} {Q : XQ} (hx : exB W G m_L_hasThermometer Q (exF W G m_L_hasThermometer Q T_L_hasThermometer 40) [(.aload_n 2, 1, 0, 0, 0, 0), (.iconst 0, 1, 0, 0, 0, 0), (.aload_n 0, 1, 0, 0, 0, 0), (.iload_n 1, 1, 0, 0, 0, 0), (.invokevirtual 37, 3, 121, 0, 1, 10), (.ifCond .eq 7, 3, 14, 0, 0, 0), (.lconst 1, 1, 0, 0, 0, 0), (.goto 4, 3, 15, 0, 0, 0)] 0 L st h o k n) : EX G m_L_hasThermometer 0 L st h o k n Q := exB_ok hW (fun q L st h o k n hq => exF_ok hW T_L_hasThermometer_ok hq) (by decide +kernel) hx
theorem O_L_hasThermometer_G_hasThermometer : roomOK m_L_hasThermometer m_G_hasThermometer 0 0 = true := by decide +kernel
def B_L_hasMicrophone_14 : List OPX := [(.lconst 0, 1, 0, 0, 0, 0), (.lastore, 1, 0, 0, 0, 0), (.goto 6, 3, 22, 0, 0, 0)]
def B_L_hasMicrophone_15 : List OPX := [(.lastore, 1, 0, 0, 0, 0), (.goto 6, 3, 22, 0, 0, 0)]
def B_L_hasMicrophone_19 : List OPX := [(.astore_n 3, 1, 0, 0, 0, 0), (.iconst 1, 1, 0, 0, 0, 0), (.ireturn, 1, 0, 0, 0, 0)]
def B_L_hasMicrophone_22 : List OPX := [(.iconst 0, 1, 0, 0, 0, 0), (.ireturn, 1, 0, 0, 0, 0)]
def T_L_hasMicrophone : Nat → Option (List OPX) := tbL [(14, B_L_hasMicrophone_14), (15, B_L_hasMicrophone_15), (19, B_L_hasMicrophone_19), (22, B_L_hasMicrophone_22)]
theorem T_L_hasMicrophone_ok : ∀ pc t, T_L_hasMicrophone pc = some t → chkB m_L_hasMicrophone pc t = true := tbL_ok (by decide +kernel)
theorem T_L_hasMicrophone_14 : T_L_hasMicrophone 14 = some [(.lconst 0, 1, 0, 0, 0, 0), (.lastore, 1, 0, 0, 0, 0), (.goto 6, 3, 22, 0, 0, 0)] := rfl
theorem T_L_hasMicrophone_15 : T_L_hasMicrophone 15 = some [(.lastore, 1, 0, 0, 0, 0), (.goto 6, 3, 22, 0, 0, 0)] := rfl
theorem T_L_hasMicrophone_19 : T_L_hasMicrophone 19 = some [(.astore_n 3, 1, 0, 0, 0, 0), (.iconst 1, 1, 0, 0, 0, 0), (.ireturn, 1, 0, 0, 0, 0)] := rfl
theorem T_L_hasMicrophone_22 : T_L_hasMicrophone 22 = some [(.iconst 0, 1, 0, 0, 0, 0), (.ireturn, 1, 0, 0, 0, 0)] := rfl
theorem X_L_hasMicrophone_0 {W : WF} {G : GG} (hW : WOK G W) {L : List (Nat × Value)} {st : List Value} {h : HM} {o : Option Nat} {k n : Nat} {Q : XQ} (hx : exB W G m_L_hasMicrophone Q (exF W G m_L_hasMicrophone Q T_L_hasMicrophone 40) [(.aload_n 2, 1, 0, 0, 0, 0), (.iconst 0, 1, 0, 0, 0, 0), (.aload_n 0, 1, 0, 0, 0, 0), (.iload_n 1, 1, 0, 0, 0, 0), (.invokevirtual 41, 3, 122, 0, 1, 10), (.ifCond .eq 7, 3, 14, 0, 0, 0), (.lconst 1, 1, 0, 0, 0, 0), (.goto 4, 3, 15, 0, 0, 0)] 0 L st h o k n) : EX G m_L_hasMicrophone 0 L st h o k n Q := exB_ok hW (fun q L st h o k n hq => exF_ok hW T_L_hasMicrophone_ok hq) (by decide +kernel) hx
theorem O_L_hasMicrophone_G_hasMicrophone : roomOK m_L_hasMicrophone m_G_hasMicrophone 0 0 = true := by decide +kernel
def B_L_neighbors_12 : List OPX := [(.astore_n 3, 1, 0, 0, 0, 0), (.iconst 1, 1, 0, 0, 0, 0), (.ireturn, 1, 0, 0, 0, 0)]
def B_L_neighbors_15 : List OPX := [(.iconst 0, 1, 0, 0, 0, 0), (.ireturn, 1, 0, 0, 0, 0)]
def T_L_neighbors : Nat → Option (List OPX) := tbL [(12, B_L_neighbors_12), (15, B_L_neighbors_15)]
theorem T_L_neighbors_ok : ∀ pc t, T_L_neighbors pc = some t → chkB m_L_neighbors pc t = true := tbL_ok (by decide +kernel)
theorem T_L_neighbors_12 : T_L_neighbors 12 = some [(.astore_n 3, 1, 0, 0, 0, 0), (.iconst 1, 1, 0, 0, 0, 0), (.ireturn, 1, 0, 0, 0, 0)] := rfl
theorem T_L_neighbors_15 : T_L_neighbors 15 = some [(.iconst 0, 1, 0, 0, 0, 0), (.ireturn, 1, 0, 0, 0, 0)] := rfl
theorem X_L_neighbors_0 {W : WF} {G : GG} (hW : WOK G W) {L : List (Nat × Value)} {st : List Value} {h : HM} {o : Option Nat} {k n : Nat} {Q : XQ} (hx : exB W G m_L_neighbors Q (exF W G m_L_neighbors Q T_L_neighbors 40) [(.aload_n 2, 1, 0, 0, 0, 0), (.iconst 0, 1, 0, 0, 0, 0), (.aload_n 0, 1, 0, 0, 0, 0), (.iload_n 1, 1, 0, 0, 0, 0), (.invokevirtual 44, 3, 123, 0, 1, 10), (.i2l, 1, 0, 0, 0, 0), (.lastore, 1, 0, 0, 0, 0), (.goto 6, 3, 15, 0, 0, 0)] 0 L st h o k n) : EX G m_L_neighbors 0 L st h o k n Q := exB_ok hW (fun q L st h o k n hq => exF_ok hW T_L_neighbors_ok hq) (by decide +kernel) hx
theorem O_L_neighbors_G_neighbors : roomOK m_L_neighbors m_G_neighbors 0 0 = true := by decide +kernel
def B_L_lowRoom_12 : List OPX := [(.astore_n 3, 1, 0, 0, 0, 0), (.iconst 1, 1, 0, 0, 0, 0), (.ireturn, 1, 0, 0, 0, 0)]
def B_L_lowRoom_15 : List OPX := [(.iconst 0, 1, 0, 0, 0, 0), (.ireturn, 1, 0, 0, 0, 0)]
def T_L_lowRoom : Nat → Option (List OPX) := tbL [(12, B_L_lowRoom_12), (15, B_L_lowRoom_15)]
theorem T_L_lowRoom_ok : ∀ pc t, T_L_lowRoom pc = some t → chkB m_L_lowRoom pc t = true := tbL_ok (by decide +kernel)
theorem T_L_lowRoom_12 : T_L_lowRoom 12 = some [(.astore_n 3, 1, 0, 0, 0, 0), (.iconst 1, 1, 0, 0, 0, 0), (.ireturn, 1, 0, 0, 0, 0)] := rfl
theorem T_L_lowRoom_15 : T_L_lowRoom 15 = some [(.iconst 0, 1, 0, 0, 0, 0), (.ireturn, 1, 0, 0, 0, 0)] := rfl
theorem X_L_lowRoom_0 {W : WF} {G : GG} (hW : WOK G W) {L : List (Nat × Value)} {st : List Value} {h : HM} {o : Option Nat} {k n : Nat} {Q : XQ} (hx : exB W G m_L_lowRoom Q (exF W G m_L_lowRoom Q T_L_lowRoom 40) [(.aload_n 2, 1, 0, 0, 0, 0), (.iconst 0, 1, 0, 0, 0, 0), (.aload_n 0, 1, 0, 0, 0, 0), (.iload_n 1, 1, 0, 0, 0, 0), (.invokevirtual 47, 3, 125, 0, 1, 10), (.i2l, 1, 0, 0, 0, 0), (.lastore, 1, 0, 0, 0, 0), (.goto 6, 3, 15, 0, 0, 0)] 0 L st h o k n) : EX G m_L_lowRoom 0 L st h o k n Q := exB_ok hW (fun q L st h o k n hq => exF_ok hW T_L_lowRoom_ok hq) (by decide +kernel) hx
theorem O_L_lowRoom_G_lowRoom : roomOK m_L_lowRoom m_G_lowRoom 0 0 = true := by decide +kernel
def B_L_highRoom_12 : List OPX := [(.astore_n 3, 1, 0, 0, 0, 0), (.iconst 1, 1, 0, 0, 0, 0), (.ireturn, 1, 0, 0, 0, 0)]
def B_L_highRoom_15 : List OPX := [(.iconst 0, 1, 0, 0, 0, 0), (.ireturn, 1, 0, 0, 0, 0)]
def T_L_highRoom : Nat → Option (List OPX) := tbL [(12, B_L_highRoom_12), (15, B_L_highRoom_15)]
theorem T_L_highRoom_ok : ∀ pc t, T_L_highRoom pc = some t → chkB m_L_highRoom pc t = true := tbL_ok (by decide +kernel)
theorem T_L_highRoom_12 : T_L_highRoom 12 = some [(.astore_n 3, 1, 0, 0, 0, 0), (.iconst 1, 1, 0, 0, 0, 0), (.ireturn, 1, 0, 0, 0, 0)] := rfl
theorem T_L_highRoom_15 : T_L_highRoom 15 = some [(.iconst 0, 1, 0, 0, 0, 0), (.ireturn, 1, 0, 0, 0, 0)] := rfl
theorem X_L_highRoom_0 {W : WF} {G : GG} (hW : WOK G W) {L : List (Nat × Value)} {st : List Value} {h : HM} {o : Option Nat} {k n : Nat} {Q : XQ} (hx : exB W G m_L_highRoom Q (exF W G m_L_highRoom Q T_L_highRoom 40) [(.aload_n 2, 1, 0, 0, 0, 0), (.iconst 0, 1, 0, 0, 0, 0), (.aload_n 0, 1, 0, 0, 0, 0), (.iload_n 1, 1, 0, 0, 0, 0), (.invokevirtual 50, 3, 126, 0, 1, 10), (.i2l, 1, 0, 0, 0, 0), (.lastore, 1, 0, 0, 0, 0), (.goto 6, 3, 15, 0, 0, 0)] 0 L st h o k n) : EX G m_L_highRoom 0 L st h o k n Q := exB_ok hW (fun q L st h o k n hq => exF_ok hW T_L_highRoom_ok hq) (by decide +kernel) hx
theorem O_L_highRoom_G_highRoom : roomOK m_L_highRoom m_G_highRoom 0 0 = true := by decide +kernel
def B_L_noise_12 : List OPX := [(.astore_n 3, 1, 0, 0, 0, 0), (.iconst 1, 1, 0, 0, 0, 0), (.ireturn, 1, 0, 0, 0, 0)]
def B_L_noise_15 : List OPX := [(.iconst 0, 1, 0, 0, 0, 0), (.ireturn, 1, 0, 0, 0, 0)]
def T_L_noise : Nat → Option (List OPX) := tbL [(12, B_L_noise_12), (15, B_L_noise_15)]
theorem T_L_noise_ok : ∀ pc t, T_L_noise pc = some t → chkB m_L_noise pc t = true := tbL_ok (by decide +kernel)
theorem T_L_noise_12 : T_L_noise 12 = some [(.astore_n 3, 1, 0, 0, 0, 0), (.iconst 1, 1, 0, 0, 0, 0), (.ireturn, 1, 0, 0, 0, 0)] := rfl
theorem T_L_noise_15 : T_L_noise 15 = some [(.iconst 0, 1, 0, 0, 0, 0), (.ireturn, 1, 0, 0, 0, 0)] := rfl
theorem X_L_noise_0 {W : WF} {G : GG} (hW : WOK G W) {L : List (Nat × Value)} {st : List Value} {h : HM} {o : Option Nat} {k n : Nat} {Q : XQ} (hx : exB W G m_L_noise Q (exF W G m_L_noise Q T_L_noise 40) [(.aload_n 2, 1, 0, 0, 0, 0), (.iconst 0, 1, 0, 0, 0, 0), (.aload_n 0, 1, 0, 0, 0, 0), (.iload_n 1, 1, 0, 0, 0, 0), (.invokevirtual 53, 3, 127, 0, 1, 10), (.i2l, 1, 0, 0, 0, 0), (.lastore, 1, 0, 0, 0, 0), (.goto 6, 3, 15, 0, 0, 0)] 0 L st h o k n) : EX G m_L_noise 0 L st h o k n Q := exB_ok hW (fun q L st h o k n hq => exF_ok hW T_L_noise_ok hq) (by decide +kernel) hx
theorem O_L_noise_G_noise : roomOK m_L_noise m_G_noise 0 0 = true := by decide +kernel
def B_L_isOpen_14 : List OPX := [(.lconst 0, 1, 0, 0, 0, 0), (.lastore, 1, 0, 0, 0, 0), (.goto 6, 3, 22, 0, 0, 0)]
def B_L_isOpen_15 : List OPX := [(.lastore, 1, 0, 0, 0, 0), (.goto 6, 3, 22, 0, 0, 0)]
def B_L_isOpen_19 : List OPX := [(.astore_n 3, 1, 0, 0, 0, 0), (.iconst 1, 1, 0, 0, 0, 0), (.ireturn, 1, 0, 0, 0, 0)]
def B_L_isOpen_22 : List OPX := [(.iconst 0, 1, 0, 0, 0, 0), (.ireturn, 1, 0, 0, 0, 0)]
def T_L_isOpen : Nat → Option (List OPX) := tbL [(14, B_L_isOpen_14), (15, B_L_isOpen_15), (19, B_L_isOpen_19), (22, B_L_isOpen_22)]
theorem T_L_isOpen_ok : ∀ pc t, T_L_isOpen pc = some t → chkB m_L_isOpen pc t = true := tbL_ok (by decide +kernel)
theorem T_L_isOpen_14 : T_L_isOpen 14 = some [(.lconst 0, 1, 0, 0, 0, 0), (.lastore, 1, 0, 0, 0, 0), (.goto 6, 3, 22, 0, 0, 0)] := rfl
theorem T_L_isOpen_15 : T_L_isOpen 15 = some [(.lastore, 1, 0, 0, 0, 0), (.goto 6, 3, 22, 0, 0, 0)] := rfl
theorem T_L_isOpen_19 : T_L_isOpen 19 = some [(.astore_n 3, 1, 0, 0, 0, 0), (.iconst 1, 1, 0, 0, 0, 0), (.ireturn, 1, 0, 0, 0, 0)] := rfl
theorem T_L_isOpen_22 : T_L_isOpen 22 = some [(.iconst 0, 1, 0, 0, 0, 0), (.ireturn, 1, 0, 0, 0, 0)] := rfl
theorem X_L_isOpen_0 {W : WF} {G : GG} (hW : WOK G W) {L : List (Nat × Value)} {st : List Value} {h : HM} {o : Option Nat} {k n : Nat} {Q : XQ} (hx : exB W G m_L_isOpen Q (exF W G m_L_isOpen Q T_L_isOpen 40) [(.aload_n 2, 1, 0, 0, 0, 0), (.iconst 0, 1, 0, 0, 0, 0), (.aload_n 0, 1, 0, 0, 0, 0), (.iload_n 1, 1, 0, 0, 0, 0), (.invokevirtual 56, 3, 128, 0, 1, 10), (.ifCond .eq 7, 3, 14, 0, 0, 0), (.lconst 1, 1, 0, 0, 0, 0), (.goto 4, 3, 15, 0, 0, 0)] 0 L st h o k n) : EX G m_L_isOpen 0 L st h o k n Q := exB_ok hW (fun q L st h o k n hq => exF_ok hW T_L_isOpen_ok hq) (by decide +kernel) hx
theorem O_L_isOpen_G_isOpen : roomOK m_L_isOpen m_G_isOpen 0 0 = true := by decide +kernel
def B_L_isMonitored_14 : List OPX := [(.lconst 0, 1, 0, 0, 0, 0), (.lastore, 1, 0, 0, 0, 0), (.goto 6, 3, 22, 0, 0, 0)]
def B_L_isMonitored_15 : List OPX := [(.lastore, 1, 0, 0, 0, 0), (.goto 6, 3, 22, 0, 0, 0)]
def B_L_isMonitored_19 : List OPX := [(.astore_n 3, 1, 0, 0, 0, 0), (.iconst 1, 1, 0, 0, 0, 0), (.ireturn, 1, 0, 0, 0, 0)]
def B_L_isMonitored_22 : List OPX := [(.iconst 0, 1, 0, 0, 0, 0), (.ireturn, 1, 0, 0, 0, 0)]
def T_L_isMonitored : Nat → Option (List OPX) := tbL [(14, B_L_isMonitored_14), (15, B_L_isMonitored_15), (19, B_L_isMonitored_19), (22, B_L_isMonitored_22)]
theorem T_L_isMonitored_ok : ∀ pc t, T_L_isMonitored pc = some t → chkB m_L_isMonitored pc t = true := tbL_ok (by decide +kernel)
theorem T_L_isMonitored_14 : T_L_isMonitored 14 = some [(.lconst 0, 1, 0, 0, 0, 0), (.lastore, 1, 0, 0, 0, 0), (.goto 6, 3, 22, 0, 0, 0)] := rfl
theorem T_L_isMonitored_15 : T_L_isMonitored 15 = some [(.lastore, 1, 0, 0, 0, 0), (.goto 6, 3, 22, 0, 0, 0)] := rfl
theorem T_L_isMonitored_19 : T_L_isMonitored 19 = some [(.astore_n 3, 1, 0, 0, 0, 0), (.iconst 1, 1, 0, 0, 0, 0), (.ireturn, 1, 0, 0, 0, 0)] := rfl
theorem T_L_isMonitored_22 : T_L_isMonitored 22 = some [(.iconst 0, 1, 0, 0, 0, 0), (.ireturn, 1, 0, 0, 0, 0)] := rfl
theorem X_L_isMonitored_0 {W : WF} {G : GG} (hW : WOK G W) {L : List (Nat × Value)} {st : List Value} {h : HM} {o : Option Nat} {k n : Nat} {Q : XQ} (hx : exB W G m_L_isMonitored Q (exF W G m_L_isMonitored Q T_L_isMonitored 40) [(.aload_n 2, 1, 0, 0, 0, 0), (.iconst 0, 1, 0, 0, 0, 0), (.aload_n 0, 1, 0, 0, 0, 0), (.iload_n 1, 1, 0, 0, 0, 0), (.invokevirtual 59, 3, 129, 0, 1, 10), (.ifCond .eq 7, 3, 14, 0, 0, 0), (.lconst 1, 1, 0, 0, 0, 0), (.goto 4, 3, 15, 0, 0, 0)] 0 L st h o k n) : EX G m_L_isMonitored 0 L st h o k n Q := exB_ok hW (fun q L st h o k n hq => exF_ok hW T_L_isMonitored_ok hq) (by decide +kernel) hx
theorem O_L_isMonitored_G_isMonitored : roomOK m_L_isMonitored m_G_isMonitored 0 0 = true := by decide +kernel
def B_L_doorBetween_13 : List OPX := [(.astore 4, 2, 0, 0, 0, 0), (.iconst 1, 1, 0, 0, 0, 0), (.ireturn, 1, 0, 0, 0, 0)]
def B_L_doorBetween_17 : List OPX := [(.iconst 0, 1, 0, 0, 0, 0), (.ireturn, 1, 0, 0, 0, 0)]
def T_L_doorBetween : Nat → Option (List OPX) := tbL [(13, B_L_doorBetween_13), (17, B_L_doorBetween_17)]
theorem T_L_doorBetween_ok : ∀ pc t, T_L_doorBetween pc = some t → chkB m_L_doorBetween pc t = true := tbL_ok (by decide +kernel)
theorem T_L_doorBetween_13 : T_L_doorBetween 13 = some [(.astore 4, 2, 0, 0, 0, 0), (.iconst 1, 1, 0, 0, 0, 0), (.ireturn, 1, 0, 0, 0, 0)] := rfl
theorem T_L_doorBetween_17 : T_L_doorBetween 17 = some [(.iconst 0, 1, 0, 0, 0, 0), (.ireturn, 1, 0, 0, 0, 0)] := rfl
theorem X_L_doorBetween_0 {W : WF} {G : GG} (hW : WOK G W) {L : List (Nat × Value)} {st : List Value} {h : HM} {o : Option Nat} {k n : Nat} {Q : XQ} (hx : exB W G m_L_doorBetween Q (exF W G m_L_doorBetween Q T_L_doorBetween 40) [(.aload_n 3, 1, 0, 0, 0, 0), (.iconst 0, 1, 0, 0, 0, 0), (.aload_n 0, 1, 0, 0, 0, 0), (.iload_n 1, 1, 0, 0, 0, 0), (.iload_n 2, 1, 0, 0, 0, 0), (.invokevirtual 62, 3, 130, 0, 2, 10), (.i2l, 1, 0, 0, 0, 0), (.lastore, 1, 0, 0, 0, 0), (.goto 7, 3, 17, 0, 0, 0)] 0 L st h o k n) : EX G m_L_doorBetween 0 L st h o k n Q := exB_ok hW (fun q L st h o k n hq => exF_ok hW T_L_doorBetween_ok hq) (by decide +kernel) hx
theorem O_L_doorBetween_G_doorBetween : roomOK m_L_doorBetween m_G_doorBetween 0 0 = true := by decide +kernel
def B_L_quietestPath_13 : List OPX := [(.astore 4, 2, 0, 0, 0, 0), (.iconst 1, 1, 0, 0, 0, 0), (.ireturn, 1, 0, 0, 0, 0)]
def B_L_quietestPath_17 : List OPX := [(.iconst 0, 1, 0, 0, 0, 0), (.ireturn, 1, 0, 0, 0, 0)]
def T_L_quietestPath : Nat → Option (List OPX) := tbL [(13, B_L_quietestPath_13), (17, B_L_quietestPath_17)]
theorem T_L_quietestPath_ok : ∀ pc t, T_L_quietestPath pc = some t → chkB m_L_quietestPath pc t = true := tbL_ok (by decide +kernel)
theorem T_L_quietestPath_13 : T_L_quietestPath 13 = some [(.astore 4, 2, 0, 0, 0, 0), (.iconst 1, 1, 0, 0, 0, 0), (.ireturn, 1, 0, 0, 0, 0)] := rfl
theorem T_L_quietestPath_17 : T_L_quietestPath 17 = some [(.iconst 0, 1, 0, 0, 0, 0), (.ireturn, 1, 0, 0, 0, 0)] := rfl
theorem X_L_quietestPath_0 {W : WF} {G : GG} (hW : WOK G W) {L : List (Nat × Value)} {st : List Value} {h : HM} {o : Option Nat} {k n : Nat} {Q : XQ} (hx : exB W G m_L_quietestPath Q (exF W G m_L_quietestPath Q T_L_quietestPath 40) [(.aload_n 3, 1, 0, 0, 0, 0), (.iconst 0, 1, 0, 0, 0, 0), (.aload_n 0, 1, 0, 0, 0, 0), (.iload_n 1, 1, 0, 0, 0, 0), (.iload_n 2, 1, 0, 0, 0, 0), (.invokevirtual 65, 3, 131, 0, 2, 10), (.i2l, 1, 0, 0, 0, 0), (.lastore, 1, 0, 0, 0, 0), (.goto 7, 3, 17, 0, 0, 0)] 0 L st h o k n) : EX G m_L_quietestPath 0 L st h o k n Q := exB_ok hW (fun q L st h o k n hq => exF_ok hW T_L_quietestPath_ok hq) (by decide +kernel) hx
theorem O_L_quietestPath_G_quietestPath : roomOK m_L_quietestPath m_G_quietestPath 0 0 = true := by decide +kernel
def B_L_exclusionReason_12 : List OPX := [(.astore_n 3, 1, 0, 0, 0, 0), (.iconst 1, 1, 0, 0, 0, 0), (.ireturn, 1, 0, 0, 0, 0)]
def B_L_exclusionReason_15 : List OPX := [(.iconst 0, 1, 0, 0, 0, 0), (.ireturn, 1, 0, 0, 0, 0)]
def T_L_exclusionReason : Nat → Option (List OPX) := tbL [(12, B_L_exclusionReason_12), (15, B_L_exclusionReason_15)]
theorem T_L_exclusionReason_ok : ∀ pc t, T_L_exclusionReason pc = some t → chkB m_L_exclusionReason pc t = true := tbL_ok (by decide +kernel)
theorem T_L_exclusionReason_12 : T_L_exclusionReason 12 = some [(.astore_n 3, 1, 0, 0, 0, 0), (.iconst 1, 1, 0, 0, 0, 0), (.ireturn, 1, 0, 0, 0, 0)] := rfl
theorem T_L_exclusionReason_15 : T_L_exclusionReason 15 = some [(.iconst 0, 1, 0, 0, 0, 0), (.ireturn, 1, 0, 0, 0, 0)] := rfl
theorem X_L_exclusionReason_0 {W : WF} {G : GG} (hW : WOK G W) {L : List (Nat × Value)} {st : List Value} {h : HM} {o : Option Nat} {k n : Nat} {Q : XQ} (hx : exB W G m_L_exclusionReason Q (exF W G m_L_exclusionReason Q T_L_exclusionReason 40) [(.aload_n 2, 1, 0, 0, 0, 0), (.iconst 0, 1, 0, 0, 0, 0), (.aload_n 0, 1, 0, 0, 0, 0), (.iload_n 1, 1, 0, 0, 0, 0), (.invokevirtual 68, 3, 132, 0, 1, 10), (.i2l, 1, 0, 0, 0, 0), (.lastore, 1, 0, 0, 0, 0), (.goto 6, 3, 15, 0, 0, 0)] 0 L st h o k n) : EX G m_L_exclusionReason 0 L st h o k n Q := exB_ok hW (fun q L st h o k n hq => exF_ok hW T_L_exclusionReason_ok hq) (by decide +kernel) hx
theorem O_L_exclusionReason_G_exclusionReason : roomOK m_L_exclusionReason m_G_exclusionReason 0 0 = true := by decide +kernel
def B_L_exclusionEvidence_12 : List OPX := [(.astore_n 3, 1, 0, 0, 0, 0), (.iconst 1, 1, 0, 0, 0, 0), (.ireturn, 1, 0, 0, 0, 0)]
def B_L_exclusionEvidence_15 : List OPX := [(.iconst 0, 1, 0, 0, 0, 0), (.ireturn, 1, 0, 0, 0, 0)]
def T_L_exclusionEvidence : Nat → Option (List OPX) := tbL [(12, B_L_exclusionEvidence_12), (15, B_L_exclusionEvidence_15)]
theorem T_L_exclusionEvidence_ok : ∀ pc t, T_L_exclusionEvidence pc = some t → chkB m_L_exclusionEvidence pc t = true := tbL_ok (by decide +kernel)
theorem T_L_exclusionEvidence_12 : T_L_exclusionEvidence 12 = some [(.astore_n 3, 1, 0, 0, 0, 0), (.iconst 1, 1, 0, 0, 0, 0), (.ireturn, 1, 0, 0, 0, 0)] := rfl
theorem T_L_exclusionEvidence_15 : T_L_exclusionEvidence 15 = some [(.iconst 0, 1, 0, 0, 0, 0), (.ireturn, 1, 0, 0, 0, 0)] := rfl
theorem X_L_exclusionEvidence_0 {W : WF} {G : GG} (hW : WOK G W) {L : List (Nat × Value)} {st : List Value} {h : HM} {o : Option Nat} {k n : Nat} {Q : XQ} (hx : exB W G m_L_exclusionEvidence Q (exF W G m_L_exclusionEvidence Q T_L_exclusionEvidence 40) [(.aload_n 2, 1, 0, 0, 0, 0), (.iconst 0, 1, 0, 0, 0, 0), (.aload_n 0, 1, 0, 0, 0, 0), (.iload_n 1, 1, 0, 0, 0, 0), (.invokevirtual 71, 3, 133, 0, 1, 10), (.i2l, 1, 0, 0, 0, 0), (.lastore, 1, 0, 0, 0, 0), (.goto 6, 3, 15, 0, 0, 0)] 0 L st h o k n) : EX G m_L_exclusionEvidence 0 L st h o k n Q := exB_ok hW (fun q L st h o k n hq => exF_ok hW T_L_exclusionEvidence_ok hq) (by decide +kernel) hx
theorem O_L_exclusionEvidence_G_exclusionEvidence : roomOK m_L_exclusionEvidence m_G_exclusionEvidence 0 0 = true := by decide +kernel
def B_L_exclusionSource_12 : List OPX := [(.astore_n 3, 1, 0, 0, 0, 0), (.iconst 1, 1, 0, 0, 0, 0), (.ireturn, 1, 0, 0, 0, 0)]
def B_L_exclusionSource_15 : List OPX := [(.iconst 0, 1, 0, 0, 0, 0), (.ireturn, 1, 0, 0, 0, 0)]
def T_L_exclusionSource : Nat → Option (List OPX) := tbL [(12, B_L_exclusionSource_12), (15, B_L_exclusionSource_15)]
theorem T_L_exclusionSource_ok : ∀ pc t, T_L_exclusionSource pc = some t → chkB m_L_exclusionSource pc t = true := tbL_ok (by decide +kernel)
theorem T_L_exclusionSource_12 : T_L_exclusionSource 12 = some [(.astore_n 3, 1, 0, 0, 0, 0), (.iconst 1, 1, 0, 0, 0, 0), (.ireturn, 1, 0, 0, 0, 0)] := rfl
theorem T_L_exclusionSource_15 : T_L_exclusionSource 15 = some [(.iconst 0, 1, 0, 0, 0, 0), (.ireturn, 1, 0, 0, 0, 0)] := rfl
theorem X_L_exclusionSource_0 {W : WF} {G : GG} (hW : WOK G W) {L : List (Nat × Value)} {st : List Value} {h : HM} {o : Option Nat} {k n : Nat} {Q : XQ} (hx : exB W G m_L_exclusionSource Q (exF W G m_L_exclusionSource Q T_L_exclusionSource 40) [(.aload_n 2, 1, 0, 0, 0, 0), (.iconst 0, 1, 0, 0, 0, 0), (.aload_n 0, 1, 0, 0, 0, 0), (.iload_n 1, 1, 0, 0, 0, 0), (.invokevirtual 74, 3, 134, 0, 1, 10), (.i2l, 1, 0, 0, 0, 0), (.lastore, 1, 0, 0, 0, 0), (.goto 6, 3, 15, 0, 0, 0)] 0 L st h o k n) : EX G m_L_exclusionSource 0 L st h o k n Q := exB_ok hW (fun q L st h o k n hq => exF_ok hW T_L_exclusionSource_ok hq) (by decide +kernel) hx
theorem O_L_exclusionSource_G_exclusionSource : roomOK m_L_exclusionSource m_G_exclusionSource 0 0 = true := by decide +kernel
def B_L_ghostRoomAfter_12 : List OPX := [(.astore_n 3, 1, 0, 0, 0, 0), (.iconst 1, 1, 0, 0, 0, 0), (.ireturn, 1, 0, 0, 0, 0)]
def B_L_ghostRoomAfter_15 : List OPX := [(.iconst 0, 1, 0, 0, 0, 0), (.ireturn, 1, 0, 0, 0, 0)]
def T_L_ghostRoomAfter : Nat → Option (List OPX) := tbL [(12, B_L_ghostRoomAfter_12), (15, B_L_ghostRoomAfter_15)]
theorem T_L_ghostRoomAfter_ok : ∀ pc t, T_L_ghostRoomAfter pc = some t → chkB m_L_ghostRoomAfter pc t = true := tbL_ok (by decide +kernel)
theorem T_L_ghostRoomAfter_12 : T_L_ghostRoomAfter 12 = some [(.astore_n 3, 1, 0, 0, 0, 0), (.iconst 1, 1, 0, 0, 0, 0), (.ireturn, 1, 0, 0, 0, 0)] := rfl
theorem T_L_ghostRoomAfter_15 : T_L_ghostRoomAfter 15 = some [(.iconst 0, 1, 0, 0, 0, 0), (.ireturn, 1, 0, 0, 0, 0)] := rfl
theorem X_L_ghostRoomAfter_0 {W : WF} {G : GG} (hW : WOK G W) {L : List (Nat × Value)} {st : List Value} {h : HM} {o : Option Nat} {k n : Nat} {Q : XQ} (hx : exB W G m_L_ghostRoomAfter Q (exF W G m_L_ghostRoomAfter Q T_L_ghostRoomAfter 40) [(.aload_n 2, 1, 0, 0, 0, 0), (.iconst 0, 1, 0, 0, 0, 0), (.aload_n 0, 1, 0, 0, 0, 0), (.iload_n 1, 1, 0, 0, 0, 0), (.invokevirtual 77, 3, 138, 0, 1, 10), (.i2l, 1, 0, 0, 0, 0), (.lastore, 1, 0, 0, 0, 0), (.goto 6, 3, 15, 0, 0, 0)] 0 L st h o k n) : EX G m_L_ghostRoomAfter 0 L st h o k n Q := exB_ok hW (fun q L st h o k n hq => exF_ok hW T_L_ghostRoomAfter_ok hq) (by decide +kernel) hx
theorem O_L_ghostRoomAfter_G_ghostRoomAfter : roomOK m_L_ghostRoomAfter m_G_ghostRoomAfter 0 0 = true := by decide +kernel
def B_L_possibleRoomsAfter_12 : List OPX := [(.astore_n 3, 1, 0, 0, 0, 0), (.iconst 1, 1, 0, 0, 0, 0), (.ireturn, 1, 0, 0, 0, 0)]
def B_L_possibleRoomsAfter_15 : List OPX := [(.iconst 0, 1, 0, 0, 0, 0), (.ireturn, 1, 0, 0, 0, 0)]
def T_L_possibleRoomsAfter : Nat → Option (List OPX) := tbL [(12, B_L_possibleRoomsAfter_12), (15, B_L_possibleRoomsAfter_15)]
theorem T_L_possibleRoomsAfter_ok : ∀ pc t, T_L_possibleRoomsAfter pc = some t → chkB m_L_possibleRoomsAfter pc t = true := tbL_ok (by decide +kernel)
theorem T_L_possibleRoomsAfter_12 : T_L_possibleRoomsAfter 12 = some [(.astore_n 3, 1, 0, 0, 0, 0), (.iconst 1, 1, 0, 0, 0, 0), (.ireturn, 1, 0, 0, 0, 0)] := rfl
theorem T_L_possibleRoomsAfter_15 : T_L_possibleRoomsAfter 15 = some [(.iconst 0, 1, 0, 0, 0, 0), (.ireturn, 1, 0, 0, 0, 0)] := rfl
theorem X_L_possibleRoomsAfter_0 {W : WF} {G : GG} (hW : WOK G W) {L : List (Nat × Value)} {st : List Value} {h : HM} {o : Option Nat} {k n : Nat} {Q : XQ} (hx : exB W G m_L_possibleRoomsAfter Q (exF W G m_L_possibleRoomsAfter Q T_L_possibleRoomsAfter 40) [(.aload_n 2, 1, 0, 0, 0, 0), (.iconst 0, 1, 0, 0, 0, 0), (.aload_n 0, 1, 0, 0, 0, 0), (.iload_n 1, 1, 0, 0, 0, 0), (.invokevirtual 80, 3, 139, 0, 1, 10), (.i2l, 1, 0, 0, 0, 0), (.lastore, 1, 0, 0, 0, 0), (.goto 6, 3, 15, 0, 0, 0)] 0 L st h o k n) : EX G m_L_possibleRoomsAfter 0 L st h o k n Q := exB_ok hW (fun q L st h o k n hq => exF_ok hW T_L_possibleRoomsAfter_ok hq) (by decide +kernel) hx
theorem O_L_possibleRoomsAfter_G_possibleRoomsAfter : roomOK m_L_possibleRoomsAfter m_G_possibleRoomsAfter 0 0 = true := by decide +kernel
def B_L_addRoom_12 : List OPX := [(.astore_n 3, 1, 0, 0, 0, 0), (.iconst 1, 1, 0, 0, 0, 0), (.ireturn, 1, 0, 0, 0, 0)]
def B_L_addRoom_15 : List OPX := [(.astore_n 3, 1, 0, 0, 0, 0), (.iconst 2, 1, 0, 0, 0, 0), (.ireturn, 1, 0, 0, 0, 0)]
def B_L_addRoom_18 : List OPX := [(.iconst 0, 1, 0, 0, 0, 0), (.ireturn, 1, 0, 0, 0, 0)]
def T_L_addRoom : Nat → Option (List OPX) := tbL [(12, B_L_addRoom_12), (15, B_L_addRoom_15), (18, B_L_addRoom_18)]
theorem T_L_addRoom_ok : ∀ pc t, T_L_addRoom pc = some t → chkB m_L_addRoom pc t = true := tbL_ok (by decide +kernel)
theorem T_L_addRoom_12 : T_L_addRoom 12 = some [(.astore_n 3, 1, 0, 0, 0, 0), (.iconst 1, 1, 0, 0, 0, 0), (.ireturn, 1, 0, 0, 0, 0)] := rfl
theorem T_L_addRoom_15 : T_L_addRoom 15 = some [(.astore_n 3, 1, 0, 0, 0, 0), (.iconst 2, 1, 0, 0, 0, 0), (.ireturn, 1, 0, 0, 0, 0)] := rfl
theorem T_L_addRoom_18 : T_L_addRoom 18 = some [(.iconst 0, 1, 0, 0, 0, 0), (.ireturn, 1, 0, 0, 0, 0)] := rfl
theorem X_L_addRoom_0 {W : WF} {G : GG} (hW : WOK G W) {L : List (Nat × Value)} {st : List Value} {h : HM} {o : Option Nat} {k n : Nat} {Q : XQ} (hx : exB W G m_L_addRoom Q (exF W G m_L_addRoom Q T_L_addRoom 40) [(.aload_n 2, 1, 0, 0, 0, 0), (.iconst 0, 1, 0, 0, 0, 0), (.aload_n 0, 1, 0, 0, 0, 0), (.iload_n 1, 1, 0, 0, 0, 0), (.invokevirtual 83, 3, 144, 0, 1, 10), (.i2l, 1, 0, 0, 0, 0), (.lastore, 1, 0, 0, 0, 0), (.goto 9, 3, 18, 0, 0, 0)] 0 L st h o k n) : EX G m_L_addRoom 0 L st h o k n Q := exB_ok hW (fun q L st h o k n hq => exF_ok hW T_L_addRoom_ok hq) (by decide +kernel) hx
theorem O_L_addRoom_G_addRoom : roomOK m_L_addRoom m_G_addRoom 0 0 = true := by decide +kernel
def B_L_addDoor_15 : List OPX := [(.astore 5, 2, 0, 0, 0, 0), (.iconst 1, 1, 0, 0, 0, 0), (.ireturn, 1, 0, 0, 0, 0)]
def B_L_addDoor_19 : List OPX := [(.astore 5, 2, 0, 0, 0, 0), (.iconst 2, 1, 0, 0, 0, 0), (.ireturn, 1, 0, 0, 0, 0)]
def B_L_addDoor_23 : List OPX := [(.astore 5, 2, 0, 0, 0, 0), (.iconst 3, 1, 0, 0, 0, 0), (.ireturn, 1, 0, 0, 0, 0)]
def B_L_addDoor_27 : List OPX := [(.iconst 0, 1, 0, 0, 0, 0), (.ireturn, 1, 0, 0, 0, 0)]
def T_L_addDoor : Nat → Option (List OPX) := tbL [(15, B_L_addDoor_15), (19, B_L_addDoor_19), (23, B_L_addDoor_23), (27, B_L_addDoor_27)]
theorem T_L_addDoor_ok : ∀ pc t, T_L_addDoor pc = some t → chkB m_L_addDoor pc t = true := tbL_ok (by decide +kernel)
theorem T_L_addDoor_15 : T_L_addDoor 15 = some [(.astore 5, 2, 0, 0, 0, 0), (.iconst 1, 1, 0, 0, 0, 0), (.ireturn, 1, 0, 0, 0, 0)] := rfl
theorem T_L_addDoor_19 : T_L_addDoor 19 = some [(.astore 5, 2, 0, 0, 0, 0), (.iconst 2, 1, 0, 0, 0, 0), (.ireturn, 1, 0, 0, 0, 0)] := rfl
theorem T_L_addDoor_23 : T_L_addDoor 23 = some [(.astore 5, 2, 0, 0, 0, 0), (.iconst 3, 1, 0, 0, 0, 0), (.ireturn, 1, 0, 0, 0, 0)] := rfl
theorem T_L_addDoor_27 : T_L_addDoor 27 = some [(.iconst 0, 1, 0, 0, 0, 0), (.ireturn, 1, 0, 0, 0, 0)] := rfl
theorem X_L_addDoor_0 {W : WF} {G : GG} (hW : WOK G W) {L : List (Nat × Value)} {st : List Value} {h : HM} {o : Option Nat} {k n : Nat} {Q : XQ} (hx : exB W G m_L_addDoor Q (exF W G m_L_addDoor Q T_L_addDoor 40) [(.aload 4, 2, 0, 0, 0, 0), (.iconst 0, 1, 0, 0, 0, 0), (.aload_n 0, 1, 0, 0, 0, 0), (.iload_n 1, 1, 0, 0, 0, 0), (.iload_n 2, 1, 0, 0, 0, 0), (.iload_n 3, 1, 0, 0, 0, 0), (.invokevirtual 86, 3, 145, 0, 3, 10), (.i2l, 1, 0, 0, 0, 0), (.lastore, 1, 0, 0, 0, 0), (.goto 15, 3, 27, 0, 0, 0)] 0 L st h o k n) : EX G m_L_addDoor 0 L st h o k n Q := exB_ok hW (fun q L st h o k n hq => exF_ok hW T_L_addDoor_ok hq) (by decide +kernel) hx
theorem O_L_addDoor_G_addDoor : roomOK m_L_addDoor m_G_addDoor 0 0 = true := by decide +kernel
def B_L_setDoorOpen_13 : List OPX := [(.astore 4, 2, 0, 0, 0, 0), (.iconst 1, 1, 0, 0, 0, 0), (.ireturn, 1, 0, 0, 0, 0)]
def B_L_setDoorOpen_17 : List OPX := [(.astore 4, 2, 0, 0, 0, 0), (.iconst 2, 1, 0, 0, 0, 0), (.ireturn, 1, 0, 0, 0, 0)]
def B_L_setDoorOpen_21 : List OPX := [(.iconst 0, 1, 0, 0, 0, 0), (.ireturn, 1, 0, 0, 0, 0)]
def T_L_setDoorOpen : Nat → Option (List OPX) := tbL [(13, B_L_setDoorOpen_13), (17, B_L_setDoorOpen_17), (21, B_L_setDoorOpen_21)]
theorem T_L_setDoorOpen_ok : ∀ pc t, T_L_setDoorOpen pc = some t → chkB m_L_setDoorOpen pc t = true := tbL_ok (by decide +kernel)
theorem T_L_setDoorOpen_13 : T_L_setDoorOpen 13 = some [(.astore 4, 2, 0, 0, 0, 0), (.iconst 1, 1, 0, 0, 0, 0), (.ireturn, 1, 0, 0, 0, 0)] := rfl
theorem T_L_setDoorOpen_17 : T_L_setDoorOpen 17 = some [(.astore 4, 2, 0, 0, 0, 0), (.iconst 2, 1, 0, 0, 0, 0), (.ireturn, 1, 0, 0, 0, 0)] := rfl
theorem T_L_setDoorOpen_21 : T_L_setDoorOpen 21 = some [(.iconst 0, 1, 0, 0, 0, 0), (.ireturn, 1, 0, 0, 0, 0)] := rfl
theorem X_L_setDoorOpen_0 {W : WF} {G : GG} (hW : WOK G W) {L : List (Nat × Value)} {st : List Value} {h : HM} {o : Option Nat} {k n : Nat} {Q : XQ} (hx : exB W G m_L_setDoorOpen Q (exF W G m_L_setDoorOpen Q T_L_setDoorOpen 40) [(.aload_n 3, 1, 0, 0, 0, 0), (.iconst 0, 1, 0, 0, 0, 0), (.aload_n 0, 1, 0, 0, 0, 0), (.iload_n 1, 1, 0, 0, 0, 0), (.iload_n 2, 1, 0, 0, 0, 0), (.invokevirtual 90, 3, 146, 0, 2, 10), (.i2l, 1, 0, 0, 0, 0), (.lastore, 1, 0, 0, 0, 0), (.goto 11, 3, 21, 0, 0, 0)] 0 L st h o k n) : EX G m_L_setDoorOpen 0 L st h o k n Q := exB_ok hW (fun q L st h o k n hq => exF_ok hW T_L_setDoorOpen_ok hq) (by decide +kernel) hx
theorem O_L_setDoorOpen_G_setDoorOpen : roomOK m_L_setDoorOpen m_G_setDoorOpen 0 0 = true := by decide +kernel
def B_L_setThermometer_13 : List OPX := [(.astore 4, 2, 0, 0, 0, 0), (.iconst 1, 1, 0, 0, 0, 0), (.ireturn, 1, 0, 0, 0, 0)]
def B_L_setThermometer_17 : List OPX := [(.astore 4, 2, 0, 0, 0, 0), (.iconst 2, 1, 0, 0, 0, 0), (.ireturn, 1, 0, 0, 0, 0)]
def B_L_setThermometer_21 : List OPX := [(.iconst 0, 1, 0, 0, 0, 0), (.ireturn, 1, 0, 0, 0, 0)]
def T_L_setThermometer : Nat → Option (List OPX) := tbL [(13, B_L_setThermometer_13), (17, B_L_setThermometer_17), (21, B_L_setThermometer_21)]
theorem T_L_setThermometer_ok : ∀ pc t, T_L_setThermometer pc = some t → chkB m_L_setThermometer pc t = true := tbL_ok (by decide +kernel)
theorem T_L_setThermometer_13 : T_L_setThermometer 13 = some [(.astore 4, 2, 0, 0, 0, 0), (.iconst 1, 1, 0, 0, 0, 0), (.ireturn, 1, 0, 0, 0, 0)] := rfl
theorem T_L_setThermometer_17 : T_L_setThermometer 17 = some [(.astore 4, 2, 0, 0, 0, 0), (.iconst 2, 1, 0, 0, 0, 0), (.ireturn, 1, 0, 0, 0, 0)] := rfl
theorem T_L_setThermometer_21 : T_L_setThermometer 21 = some [(.iconst 0, 1, 0, 0, 0, 0), (.ireturn, 1, 0, 0, 0, 0)] := rfl
theorem X_L_setThermometer_0 {W : WF} {G : GG} (hW : WOK G W) {L : List (Nat × Value)} {st : List Value} {h : HM} {o : Option Nat} {k n : Nat} {Q : XQ} (hx : exB W G m_L_setThermometer Q (exF W G m_L_setThermometer Q T_L_setThermometer 40) [(.aload_n 3, 1, 0, 0, 0, 0), (.iconst 0, 1, 0, 0, 0, 0), (.aload_n 0, 1, 0, 0, 0, 0), (.iload_n 1, 1, 0, 0, 0, 0), (.iload_n 2, 1, 0, 0, 0, 0), (.invokevirtual 94, 3, 147, 0, 2, 10), (.i2l, 1, 0, 0, 0, 0), (.lastore, 1, 0, 0, 0, 0), (.goto 11, 3, 21, 0, 0, 0)] 0 L st h o k n) : EX G m_L_setThermometer 0 L st h o k n Q := exB_ok hW (fun q L st h o k n hq => exF_ok hW T_L_setThermometer_ok hq) (by decide +kernel) hx
theorem O_L_setThermometer_G_setThermometer : roomOK m_L_setThermometer m_G_setThermometer 0 0 = true := by decide +kernel
def B_L_setMicrophone_13 : List OPX := [(.astore 4, 2, 0, 0, 0, 0), (.iconst 1, 1, 0, 0, 0, 0), (.ireturn, 1, 0, 0, 0, 0)]
def B_L_setMicrophone_17 : List OPX := [(.astore 4, 2, 0, 0, 0, 0), (.iconst 2, 1, 0, 0, 0, 0), (.ireturn, 1, 0, 0, 0, 0)]
def B_L_setMicrophone_21 : List OPX := [(.iconst 0, 1, 0, 0, 0, 0), (.ireturn, 1, 0, 0, 0, 0)]
def T_L_setMicrophone : Nat → Option (List OPX) := tbL [(13, B_L_setMicrophone_13), (17, B_L_setMicrophone_17), (21, B_L_setMicrophone_21)]
theorem T_L_setMicrophone_ok : ∀ pc t, T_L_setMicrophone pc = some t → chkB m_L_setMicrophone pc t = true := tbL_ok (by decide +kernel)
theorem T_L_setMicrophone_13 : T_L_setMicrophone 13 = some [(.astore 4, 2, 0, 0, 0, 0), (.iconst 1, 1, 0, 0, 0, 0), (.ireturn, 1, 0, 0, 0, 0)] := rfl
theorem T_L_setMicrophone_17 : T_L_setMicrophone 17 = some [(.astore 4, 2, 0, 0, 0, 0), (.iconst 2, 1, 0, 0, 0, 0), (.ireturn, 1, 0, 0, 0, 0)] := rfl
theorem T_L_setMicrophone_21 : T_L_setMicrophone 21 = some [(.iconst 0, 1, 0, 0, 0, 0), (.ireturn, 1, 0, 0, 0, 0)] := rfl
theorem X_L_setMicrophone_0 {W : WF} {G : GG} (hW : WOK G W) {L : List (Nat × Value)} {st : List Value} {h : HM} {o : Option Nat} {k n : Nat} {Q : XQ} (hx : exB W G m_L_setMicrophone Q (exF W G m_L_setMicrophone Q T_L_setMicrophone 40) [(.aload_n 3, 1, 0, 0, 0, 0), (.iconst 0, 1, 0, 0, 0, 0), (.aload_n 0, 1, 0, 0, 0, 0), (.iload_n 1, 1, 0, 0, 0, 0), (.iload_n 2, 1, 0, 0, 0, 0), (.invokevirtual 97, 3, 148, 0, 2, 10), (.i2l, 1, 0, 0, 0, 0), (.lastore, 1, 0, 0, 0, 0), (.goto 11, 3, 21, 0, 0, 0)] 0 L st h o k n) : EX G m_L_setMicrophone 0 L st h o k n Q := exB_ok hW (fun q L st h o k n hq => exF_ok hW T_L_setMicrophone_ok hq) (by decide +kernel) hx
theorem O_L_setMicrophone_G_setMicrophone : roomOK m_L_setMicrophone m_G_setMicrophone 0 0 = true := by decide +kernel
def B_L_warm_13 : List OPX := [(.astore 4, 2, 0, 0, 0, 0), (.iconst 1, 1, 0, 0, 0, 0), (.ireturn, 1, 0, 0, 0, 0)]
def B_L_warm_17 : List OPX := [(.astore 4, 2, 0, 0, 0, 0), (.iconst 2, 1, 0, 0, 0, 0), (.ireturn, 1, 0, 0, 0, 0)]
def B_L_warm_21 : List OPX := [(.astore 4, 2, 0, 0, 0, 0), (.iconst 3, 1, 0, 0, 0, 0), (.ireturn, 1, 0, 0, 0, 0)]
def B_L_warm_25 : List OPX := [(.iconst 0, 1, 0, 0, 0, 0), (.ireturn, 1, 0, 0, 0, 0)]
def T_L_warm : Nat → Option (List OPX) := tbL [(13, B_L_warm_13), (17, B_L_warm_17), (21, B_L_warm_21), (25, B_L_warm_25)]
theorem T_L_warm_ok : ∀ pc t, T_L_warm pc = some t → chkB m_L_warm pc t = true := tbL_ok (by decide +kernel)
theorem T_L_warm_13 : T_L_warm 13 = some [(.astore 4, 2, 0, 0, 0, 0), (.iconst 1, 1, 0, 0, 0, 0), (.ireturn, 1, 0, 0, 0, 0)] := rfl
theorem T_L_warm_17 : T_L_warm 17 = some [(.astore 4, 2, 0, 0, 0, 0), (.iconst 2, 1, 0, 0, 0, 0), (.ireturn, 1, 0, 0, 0, 0)] := rfl
theorem T_L_warm_21 : T_L_warm 21 = some [(.astore 4, 2, 0, 0, 0, 0), (.iconst 3, 1, 0, 0, 0, 0), (.ireturn, 1, 0, 0, 0, 0)] := rfl
theorem T_L_warm_25 : T_L_warm 25 = some [(.iconst 0, 1, 0, 0, 0, 0), (.ireturn, 1, 0, 0, 0, 0)] := rfl
theorem X_L_warm_0 {W : WF} {G : GG} (hW : WOK G W) {L : List (Nat × Value)} {st : List Value} {h : HM} {o : Option Nat} {k n : Nat} {Q : XQ} (hx : exB W G m_L_warm Q (exF W G m_L_warm Q T_L_warm 40) [(.aload_n 3, 1, 0, 0, 0, 0), (.iconst 0, 1, 0, 0, 0, 0), (.aload_n 0, 1, 0, 0, 0, 0), (.iload_n 1, 1, 0, 0, 0, 0), (.iload_n 2, 1, 0, 0, 0, 0), (.invokevirtual 100, 3, 149, 0, 2, 10), (.i2l, 1, 0, 0, 0, 0), (.lastore, 1, 0, 0, 0, 0), (.goto 15, 3, 25, 0, 0, 0)] 0 L st h o k n) : EX G m_L_warm 0 L st h o k n Q := exB_ok hW (fun q L st h o k n hq => exF_ok hW T_L_warm_ok hq) (by decide +kernel) hx
theorem O_L_warm_G_warm : roomOK m_L_warm m_G_warm 0 0 = true := by decide +kernel
def B_L_passNights_12 : List OPX := [(.astore_n 3, 1, 0, 0, 0, 0), (.iconst 1, 1, 0, 0, 0, 0), (.ireturn, 1, 0, 0, 0, 0)]
def B_L_passNights_15 : List OPX := [(.astore_n 3, 1, 0, 0, 0, 0), (.iconst 2, 1, 0, 0, 0, 0), (.ireturn, 1, 0, 0, 0, 0)]
def B_L_passNights_18 : List OPX := [(.iconst 0, 1, 0, 0, 0, 0), (.ireturn, 1, 0, 0, 0, 0)]
def T_L_passNights : Nat → Option (List OPX) := tbL [(12, B_L_passNights_12), (15, B_L_passNights_15), (18, B_L_passNights_18)]
theorem T_L_passNights_ok : ∀ pc t, T_L_passNights pc = some t → chkB m_L_passNights pc t = true := tbL_ok (by decide +kernel)
theorem T_L_passNights_12 : T_L_passNights 12 = some [(.astore_n 3, 1, 0, 0, 0, 0), (.iconst 1, 1, 0, 0, 0, 0), (.ireturn, 1, 0, 0, 0, 0)] := rfl
theorem T_L_passNights_15 : T_L_passNights 15 = some [(.astore_n 3, 1, 0, 0, 0, 0), (.iconst 2, 1, 0, 0, 0, 0), (.ireturn, 1, 0, 0, 0, 0)] := rfl
theorem T_L_passNights_18 : T_L_passNights 18 = some [(.iconst 0, 1, 0, 0, 0, 0), (.ireturn, 1, 0, 0, 0, 0)] := rfl
theorem X_L_passNights_0 {W : WF} {G : GG} (hW : WOK G W) {L : List (Nat × Value)} {st : List Value} {h : HM} {o : Option Nat} {k n : Nat} {Q : XQ} (hx : exB W G m_L_passNights Q (exF W G m_L_passNights Q T_L_passNights 40) [(.aload_n 2, 1, 0, 0, 0, 0), (.iconst 0, 1, 0, 0, 0, 0), (.aload_n 0, 1, 0, 0, 0, 0), (.iload_n 1, 1, 0, 0, 0, 0), (.invokevirtual 103, 3, 150, 0, 1, 10), (.i2l, 1, 0, 0, 0, 0), (.lastore, 1, 0, 0, 0, 0), (.goto 9, 3, 18, 0, 0, 0)] 0 L st h o k n) : EX G m_L_passNights 0 L st h o k n Q := exB_ok hW (fun q L st h o k n hq => exF_ok hW T_L_passNights_ok hq) (by decide +kernel) hx
theorem O_L_passNights_G_passNights : roomOK m_L_passNights m_G_passNights 0 0 = true := by decide +kernel
def B_L_holdSeance_14 : List OPX := [(.lconst 0, 1, 0, 0, 0, 0), (.lastore, 1, 0, 0, 0, 0), (.goto 6, 3, 22, 0, 0, 0)]
def B_L_holdSeance_15 : List OPX := [(.lastore, 1, 0, 0, 0, 0), (.goto 6, 3, 22, 0, 0, 0)]
def B_L_holdSeance_19 : List OPX := [(.astore_n 3, 1, 0, 0, 0, 0), (.iconst 1, 1, 0, 0, 0, 0), (.ireturn, 1, 0, 0, 0, 0)]
def B_L_holdSeance_22 : List OPX := [(.iconst 0, 1, 0, 0, 0, 0), (.ireturn, 1, 0, 0, 0, 0)]
def T_L_holdSeance : Nat → Option (List OPX) := tbL [(14, B_L_holdSeance_14), (15, B_L_holdSeance_15), (19, B_L_holdSeance_19), (22, B_L_holdSeance_22)]
theorem T_L_holdSeance_ok : ∀ pc t, T_L_holdSeance pc = some t → chkB m_L_holdSeance pc t = true := tbL_ok (by decide +kernel)
theorem T_L_holdSeance_14 : T_L_holdSeance 14 = some [(.lconst 0, 1, 0, 0, 0, 0), (.lastore, 1, 0, 0, 0, 0), (.goto 6, 3, 22, 0, 0, 0)] := rfl
theorem T_L_holdSeance_15 : T_L_holdSeance 15 = some [(.lastore, 1, 0, 0, 0, 0), (.goto 6, 3, 22, 0, 0, 0)] := rfl
theorem T_L_holdSeance_19 : T_L_holdSeance 19 = some [(.astore_n 3, 1, 0, 0, 0, 0), (.iconst 1, 1, 0, 0, 0, 0), (.ireturn, 1, 0, 0, 0, 0)] := rfl
theorem T_L_holdSeance_22 : T_L_holdSeance 22 = some [(.iconst 0, 1, 0, 0, 0, 0), (.ireturn, 1, 0, 0, 0, 0)] := rfl
theorem X_L_holdSeance_0 {W : WF} {G : GG} (hW : WOK G W) {L : List (Nat × Value)} {st : List Value} {h : HM} {o : Option Nat} {k n : Nat} {Q : XQ} (hx : exB W G m_L_holdSeance Q (exF W G m_L_holdSeance Q T_L_holdSeance 40) [(.aload_n 2, 1, 0, 0, 0, 0), (.iconst 0, 1, 0, 0, 0, 0), (.aload_n 0, 1, 0, 0, 0, 0), (.iload_n 1, 1, 0, 0, 0, 0), (.invokevirtual 106, 3, 151, 0, 1, 10), (.ifCond .eq 7, 3, 14, 0, 0, 0), (.lconst 1, 1, 0, 0, 0, 0), (.goto 4, 3, 15, 0, 0, 0)] 0 L st h o k n) : EX G m_L_holdSeance 0 L st h o k n Q := exB_ok hW (fun q L st h o k n hq => exF_ok hW T_L_holdSeance_ok hq) (by decide +kernel) hx
theorem O_L_holdSeance_G_holdSeance : roomOK m_L_holdSeance m_G_holdSeance 0 0 = true := by decide +kernel
def B_L_earnCoins_12 : List OPX := [(.astore_n 3, 1, 0, 0, 0, 0), (.iconst 1, 1, 0, 0, 0, 0), (.ireturn, 1, 0, 0, 0, 0)]
def B_L_earnCoins_15 : List OPX := [(.astore_n 3, 1, 0, 0, 0, 0), (.iconst 2, 1, 0, 0, 0, 0), (.ireturn, 1, 0, 0, 0, 0)]
def B_L_earnCoins_18 : List OPX := [(.iconst 0, 1, 0, 0, 0, 0), (.ireturn, 1, 0, 0, 0, 0)]
def T_L_earnCoins : Nat → Option (List OPX) := tbL [(12, B_L_earnCoins_12), (15, B_L_earnCoins_15), (18, B_L_earnCoins_18)]
theorem T_L_earnCoins_ok : ∀ pc t, T_L_earnCoins pc = some t → chkB m_L_earnCoins pc t = true := tbL_ok (by decide +kernel)
theorem T_L_earnCoins_12 : T_L_earnCoins 12 = some [(.astore_n 3, 1, 0, 0, 0, 0), (.iconst 1, 1, 0, 0, 0, 0), (.ireturn, 1, 0, 0, 0, 0)] := rfl
theorem T_L_earnCoins_15 : T_L_earnCoins 15 = some [(.astore_n 3, 1, 0, 0, 0, 0), (.iconst 2, 1, 0, 0, 0, 0), (.ireturn, 1, 0, 0, 0, 0)] := rfl
theorem T_L_earnCoins_18 : T_L_earnCoins 18 = some [(.iconst 0, 1, 0, 0, 0, 0), (.ireturn, 1, 0, 0, 0, 0)] := rfl
theorem X_L_earnCoins_0 {W : WF} {G : GG} (hW : WOK G W) {L : List (Nat × Value)} {st : List Value} {h : HM} {o : Option Nat} {k n : Nat} {Q : XQ} (hx : exB W G m_L_earnCoins Q (exF W G m_L_earnCoins Q T_L_earnCoins 40) [(.aload_n 2, 1, 0, 0, 0, 0), (.iconst 0, 1, 0, 0, 0, 0), (.aload_n 0, 1, 0, 0, 0, 0), (.iload_n 1, 1, 0, 0, 0, 0), (.invokevirtual 109, 3, 152, 0, 1, 10), (.i2l, 1, 0, 0, 0, 0), (.lastore, 1, 0, 0, 0, 0), (.goto 9, 3, 18, 0, 0, 0)] 0 L st h o k n) : EX G m_L_earnCoins 0 L st h o k n Q := exB_ok hW (fun q L st h o k n hq => exF_ok hW T_L_earnCoins_ok hq) (by decide +kernel) hx
theorem O_L_earnCoins_G_earnCoins : roomOK m_L_earnCoins m_G_earnCoins 0 0 = true := by decide +kernel
def B_L_setMode_12 : List OPX := [(.astore_n 3, 1, 0, 0, 0, 0), (.iconst 1, 1, 0, 0, 0, 0), (.ireturn, 1, 0, 0, 0, 0)]
def B_L_setMode_15 : List OPX := [(.iconst 0, 1, 0, 0, 0, 0), (.ireturn, 1, 0, 0, 0, 0)]
def T_L_setMode : Nat → Option (List OPX) := tbL [(12, B_L_setMode_12), (15, B_L_setMode_15)]
theorem T_L_setMode_ok : ∀ pc t, T_L_setMode pc = some t → chkB m_L_setMode pc t = true := tbL_ok (by decide +kernel)
theorem T_L_setMode_12 : T_L_setMode 12 = some [(.astore_n 3, 1, 0, 0, 0, 0), (.iconst 1, 1, 0, 0, 0, 0), (.ireturn, 1, 0, 0, 0, 0)] := rfl
theorem T_L_setMode_15 : T_L_setMode 15 = some [(.iconst 0, 1, 0, 0, 0, 0), (.ireturn, 1, 0, 0, 0, 0)] := rfl
theorem X_L_setMode_0 {W : WF} {G : GG} (hW : WOK G W) {L : List (Nat × Value)} {st : List Value} {h : HM} {o : Option Nat} {k n : Nat} {Q : XQ} (hx : exB W G m_L_setMode Q (exF W G m_L_setMode Q T_L_setMode 40) [(.aload_n 2, 1, 0, 0, 0, 0), (.iconst 0, 1, 0, 0, 0, 0), (.aload_n 0, 1, 0, 0, 0, 0), (.iload_n 1, 1, 0, 0, 0, 0), (.invokevirtual 112, 3, 153, 0, 1, 10), (.i2l, 1, 0, 0, 0, 0), (.lastore, 1, 0, 0, 0, 0), (.goto 6, 3, 15, 0, 0, 0)] 0 L st h o k n) : EX G m_L_setMode 0 L st h o k n Q := exB_ok hW (fun q L st h o k n hq => exF_ok hW T_L_setMode_ok hq) (by decide +kernel) hx
theorem O_L_setMode_G_setMode : roomOK m_L_setMode m_G_setMode 0 0 = true := by decide +kernel
def B_L_setChill_12 : List OPX := [(.astore_n 3, 1, 0, 0, 0, 0), (.iconst 1, 1, 0, 0, 0, 0), (.ireturn, 1, 0, 0, 0, 0)]
def B_L_setChill_15 : List OPX := [(.iconst 0, 1, 0, 0, 0, 0), (.ireturn, 1, 0, 0, 0, 0)]
def T_L_setChill : Nat → Option (List OPX) := tbL [(12, B_L_setChill_12), (15, B_L_setChill_15)]
theorem T_L_setChill_ok : ∀ pc t, T_L_setChill pc = some t → chkB m_L_setChill pc t = true := tbL_ok (by decide +kernel)
theorem T_L_setChill_12 : T_L_setChill 12 = some [(.astore_n 3, 1, 0, 0, 0, 0), (.iconst 1, 1, 0, 0, 0, 0), (.ireturn, 1, 0, 0, 0, 0)] := rfl
theorem T_L_setChill_15 : T_L_setChill 15 = some [(.iconst 0, 1, 0, 0, 0, 0), (.ireturn, 1, 0, 0, 0, 0)] := rfl
theorem X_L_setChill_0 {W : WF} {G : GG} (hW : WOK G W) {L : List (Nat × Value)} {st : List Value} {h : HM} {o : Option Nat} {k n : Nat} {Q : XQ} (hx : exB W G m_L_setChill Q (exF W G m_L_setChill Q T_L_setChill 40) [(.aload_n 2, 1, 0, 0, 0, 0), (.iconst 0, 1, 0, 0, 0, 0), (.aload_n 0, 1, 0, 0, 0, 0), (.iload_n 1, 1, 0, 0, 0, 0), (.invokevirtual 115, 3, 154, 0, 1, 10), (.i2l, 1, 0, 0, 0, 0), (.lastore, 1, 0, 0, 0, 0), (.goto 6, 3, 15, 0, 0, 0)] 0 L st h o k n) : EX G m_L_setChill 0 L st h o k n Q := exB_ok hW (fun q L st h o k n hq => exF_ok hW T_L_setChill_ok hq) (by decide +kernel) hx
theorem O_L_setChill_G_setChill : roomOK m_L_setChill m_G_setChill 0 0 = true := by decide +kernel
def B_L_setHearingThreshold_12 : List OPX := [(.astore_n 3, 1, 0, 0, 0, 0), (.iconst 1, 1, 0, 0, 0, 0), (.ireturn, 1, 0, 0, 0, 0)]
def B_L_setHearingThreshold_15 : List OPX := [(.iconst 0, 1, 0, 0, 0, 0), (.ireturn, 1, 0, 0, 0, 0)]
def T_L_setHearingThreshold : Nat → Option (List OPX) := tbL [(12, B_L_setHearingThreshold_12), (15, B_L_setHearingThreshold_15)]
theorem T_L_setHearingThreshold_ok : ∀ pc t, T_L_setHearingThreshold pc = some t → chkB m_L_setHearingThreshold pc t = true := tbL_ok (by decide +kernel)
theorem T_L_setHearingThreshold_12 : T_L_setHearingThreshold 12 = some [(.astore_n 3, 1, 0, 0, 0, 0), (.iconst 1, 1, 0, 0, 0, 0), (.ireturn, 1, 0, 0, 0, 0)] := rfl
theorem T_L_setHearingThreshold_15 : T_L_setHearingThreshold 15 = some [(.iconst 0, 1, 0, 0, 0, 0), (.ireturn, 1, 0, 0, 0, 0)] := rfl
theorem X_L_setHearingThreshold_0 {W : WF} {G : GG} (hW : WOK G W) {L : List (Nat × Value)} {st : List Value} {h : HM} {o : Option Nat} {k n : Nat} {Q : XQ} (hx : exB W G m_L_setHearingThreshold Q (exF W G m_L_setHearingThreshold Q T_L_setHearingThreshold 40) [(.aload_n 2, 1, 0, 0, 0, 0), (.iconst 0, 1, 0, 0, 0, 0), (.aload_n 0, 1, 0, 0, 0, 0), (.iload_n 1, 1, 0, 0, 0, 0), (.invokevirtual 118, 3, 155, 0, 1, 10), (.i2l, 1, 0, 0, 0, 0), (.lastore, 1, 0, 0, 0, 0), (.goto 6, 3, 15, 0, 0, 0)] 0 L st h o k n) : EX G m_L_setHearingThreshold 0 L st h o k n Q := exB_ok hW (fun q L st h o k n hq => exF_ok hW T_L_setHearingThreshold_ok hq) (by decide +kernel) hx
theorem O_L_setHearingThreshold_G_setHearingThreshold : roomOK m_L_setHearingThreshold m_G_setHearingThreshold 0 0 = true := by decide +kernel
def B_L_setSeancePrice_12 : List OPX := [(.astore_n 3, 1, 0, 0, 0, 0), (.iconst 1, 1, 0, 0, 0, 0), (.ireturn, 1, 0, 0, 0, 0)]
def B_L_setSeancePrice_15 : List OPX := [(.iconst 0, 1, 0, 0, 0, 0), (.ireturn, 1, 0, 0, 0, 0)]
def T_L_setSeancePrice : Nat → Option (List OPX) := tbL [(12, B_L_setSeancePrice_12), (15, B_L_setSeancePrice_15)]
theorem T_L_setSeancePrice_ok : ∀ pc t, T_L_setSeancePrice pc = some t → chkB m_L_setSeancePrice pc t = true := tbL_ok (by decide +kernel)
theorem T_L_setSeancePrice_12 : T_L_setSeancePrice 12 = some [(.astore_n 3, 1, 0, 0, 0, 0), (.iconst 1, 1, 0, 0, 0, 0), (.ireturn, 1, 0, 0, 0, 0)] := rfl
theorem T_L_setSeancePrice_15 : T_L_setSeancePrice 15 = some [(.iconst 0, 1, 0, 0, 0, 0), (.ireturn, 1, 0, 0, 0, 0)] := rfl
theorem X_L_setSeancePrice_0 {W : WF} {G : GG} (hW : WOK G W) {L : List (Nat × Value)} {st : List Value} {h : HM} {o : Option Nat} {k n : Nat} {Q : XQ} (hx : exB W G m_L_setSeancePrice Q (exF W G m_L_setSeancePrice Q T_L_setSeancePrice 40) [(.aload_n 2, 1, 0, 0, 0, 0), (.iconst 0, 1, 0, 0, 0, 0), (.aload_n 0, 1, 0, 0, 0, 0), (.iload_n 1, 1, 0, 0, 0, 0), (.invokevirtual 121, 3, 156, 0, 1, 10), (.i2l, 1, 0, 0, 0, 0), (.lastore, 1, 0, 0, 0, 0), (.goto 6, 3, 15, 0, 0, 0)] 0 L st h o k n) : EX G m_L_setSeancePrice 0 L st h o k n Q := exB_ok hW (fun q L st h o k n hq => exF_ok hW T_L_setSeancePrice_ok hq) (by decide +kernel) hx
theorem O_L_setSeancePrice_G_setSeancePrice : roomOK m_L_setSeancePrice m_G_setSeancePrice 0 0 = true := by decide +kernel
def B_L_setRandomState_12 : List OPX := [(.astore_n 3, 1, 0, 0, 0, 0), (.iconst 1, 1, 0, 0, 0, 0), (.ireturn, 1, 0, 0, 0, 0)]
def B_L_setRandomState_15 : List OPX := [(.iconst 0, 1, 0, 0, 0, 0), (.ireturn, 1, 0, 0, 0, 0)]
def T_L_setRandomState : Nat → Option (List OPX) := tbL [(12, B_L_setRandomState_12), (15, B_L_setRandomState_15)]
theorem T_L_setRandomState_ok : ∀ pc t, T_L_setRandomState pc = some t → chkB m_L_setRandomState pc t = true := tbL_ok (by decide +kernel)
theorem T_L_setRandomState_12 : T_L_setRandomState 12 = some [(.astore_n 3, 1, 0, 0, 0, 0), (.iconst 1, 1, 0, 0, 0, 0), (.ireturn, 1, 0, 0, 0, 0)] := rfl
theorem T_L_setRandomState_15 : T_L_setRandomState 15 = some [(.iconst 0, 1, 0, 0, 0, 0), (.ireturn, 1, 0, 0, 0, 0)] := rfl
theorem X_L_setRandomState_0 {W : WF} {G : GG} (hW : WOK G W) {L : List (Nat × Value)} {st : List Value} {h : HM} {o : Option Nat} {k n : Nat} {Q : XQ} (hx : exB W G m_L_setRandomState Q (exF W G m_L_setRandomState Q T_L_setRandomState 40) [(.aload_n 2, 1, 0, 0, 0, 0), (.iconst 0, 1, 0, 0, 0, 0), (.aload_n 0, 1, 0, 0, 0, 0), (.iload_n 1, 1, 0, 0, 0, 0), (.invokevirtual 124, 3, 157, 0, 1, 10), (.i2l, 1, 0, 0, 0, 0), (.lastore, 1, 0, 0, 0, 0), (.goto 6, 3, 15, 0, 0, 0)] 0 L st h o k n) : EX G m_L_setRandomState 0 L st h o k n Q := exB_ok hW (fun q L st h o k n hq => exF_ok hW T_L_setRandomState_ok hq) (by decide +kernel) hx
theorem O_L_setRandomState_G_setRandomState : roomOK m_L_setRandomState m_G_setRandomState 0 0 = true := by decide +kernel
def B_L_undo_11 : List OPX := [(.astore_n 2, 1, 0, 0, 0, 0), (.iconst 1, 1, 0, 0, 0, 0), (.ireturn, 1, 0, 0, 0, 0)]
def B_L_undo_14 : List OPX := [(.iconst 0, 1, 0, 0, 0, 0), (.ireturn, 1, 0, 0, 0, 0)]
def T_L_undo : Nat → Option (List OPX) := tbL [(11, B_L_undo_11), (14, B_L_undo_14)]
theorem T_L_undo_ok : ∀ pc t, T_L_undo pc = some t → chkB m_L_undo pc t = true := tbL_ok (by decide +kernel)
theorem T_L_undo_11 : T_L_undo 11 = some [(.astore_n 2, 1, 0, 0, 0, 0), (.iconst 1, 1, 0, 0, 0, 0), (.ireturn, 1, 0, 0, 0, 0)] := rfl
theorem T_L_undo_14 : T_L_undo 14 = some [(.iconst 0, 1, 0, 0, 0, 0), (.ireturn, 1, 0, 0, 0, 0)] := rfl
theorem X_L_undo_0 {W : WF} {G : GG} (hW : WOK G W) {L : List (Nat × Value)} {st : List Value} {h : HM} {o : Option Nat} {k n : Nat} {Q : XQ} (hx : exB W G m_L_undo Q (exF W G m_L_undo Q T_L_undo 40) [(.aload_n 1, 1, 0, 0, 0, 0), (.iconst 0, 1, 0, 0, 0, 0), (.aload_n 0, 1, 0, 0, 0, 0), (.invokevirtual 127, 3, 158, 0, 0, 10), (.i2l, 1, 0, 0, 0, 0), (.lastore, 1, 0, 0, 0, 0), (.goto 6, 3, 14, 0, 0, 0)] 0 L st h o k n) : EX G m_L_undo 0 L st h o k n Q := exB_ok hW (fun q L st h o k n hq => exF_ok hW T_L_undo_ok hq) (by decide +kernel) hx
theorem O_L_undo_G_undo : roomOK m_L_undo m_G_undo 0 0 = true := by decide +kernel
def B_L_outputByte_12 : List OPX := [(.astore_n 3, 1, 0, 0, 0, 0), (.iconst 1, 1, 0, 0, 0, 0), (.ireturn, 1, 0, 0, 0, 0)]
def B_L_outputByte_15 : List OPX := [(.iconst 0, 1, 0, 0, 0, 0), (.ireturn, 1, 0, 0, 0, 0)]
def T_L_outputByte : Nat → Option (List OPX) := tbL [(12, B_L_outputByte_12), (15, B_L_outputByte_15)]
theorem T_L_outputByte_ok : ∀ pc t, T_L_outputByte pc = some t → chkB m_L_outputByte pc t = true := tbL_ok (by decide +kernel)
theorem T_L_outputByte_12 : T_L_outputByte 12 = some [(.astore_n 3, 1, 0, 0, 0, 0), (.iconst 1, 1, 0, 0, 0, 0), (.ireturn, 1, 0, 0, 0, 0)] := rfl
theorem T_L_outputByte_15 : T_L_outputByte 15 = some [(.iconst 0, 1, 0, 0, 0, 0), (.ireturn, 1, 0, 0, 0, 0)] := rfl
theorem X_L_outputByte_0 {W : WF} {G : GG} (hW : WOK G W) {L : List (Nat × Value)} {st : List Value} {h : HM} {o : Option Nat} {k n : Nat} {Q : XQ} (hx : exB W G m_L_outputByte Q (exF W G m_L_outputByte Q T_L_outputByte 40) [(.aload_n 2, 1, 0, 0, 0, 0), (.iconst 0, 1, 0, 0, 0, 0), (.aload_n 0, 1, 0, 0, 0, 0), (.iload_n 1, 1, 0, 0, 0, 0), (.invokevirtual 130, 3, 160, 0, 1, 10), (.i2l, 1, 0, 0, 0, 0), (.lastore, 1, 0, 0, 0, 0), (.goto 6, 3, 15, 0, 0, 0)] 0 L st h o k n) : EX G m_L_outputByte 0 L st h o k n Q := exB_ok hW (fun q L st h o k n hq => exF_ok hW T_L_outputByte_ok hq) (by decide +kernel) hx
theorem O_L_outputByte_G_outputByte : roomOK m_L_outputByte m_G_outputByte 0 0 = true := by decide +kernel
def B_L_restoreState_11 : List OPX := [(.astore_n 2, 1, 0, 0, 0, 0), (.iconst 1, 1, 0, 0, 0, 0), (.ireturn, 1, 0, 0, 0, 0)]
def B_L_restoreState_14 : List OPX := [(.iconst 0, 1, 0, 0, 0, 0), (.ireturn, 1, 0, 0, 0, 0)]
def T_L_restoreState : Nat → Option (List OPX) := tbL [(11, B_L_restoreState_11), (14, B_L_restoreState_14)]
theorem T_L_restoreState_ok : ∀ pc t, T_L_restoreState pc = some t → chkB m_L_restoreState pc t = true := tbL_ok (by decide +kernel)
theorem T_L_restoreState_11 : T_L_restoreState 11 = some [(.astore_n 2, 1, 0, 0, 0, 0), (.iconst 1, 1, 0, 0, 0, 0), (.ireturn, 1, 0, 0, 0, 0)] := rfl
theorem T_L_restoreState_14 : T_L_restoreState 14 = some [(.iconst 0, 1, 0, 0, 0, 0), (.ireturn, 1, 0, 0, 0, 0)] := rfl
theorem X_L_restoreState_0 {W : WF} {G : GG} (hW : WOK G W) {L : List (Nat × Value)} {st : List Value} {h : HM} {o : Option Nat} {k n : Nat} {Q : XQ} (hx : exB W G m_L_restoreState Q (exF W G m_L_restoreState Q T_L_restoreState 40) [(.aload_n 1, 1, 0, 0, 0, 0), (.iconst 0, 1, 0, 0, 0, 0), (.aload_n 0, 1, 0, 0, 0, 0), (.invokevirtual 133, 3, 162, 0, 0, 10), (.i2l, 1, 0, 0, 0, 0), (.lastore, 1, 0, 0, 0, 0), (.goto 6, 3, 14, 0, 0, 0)] 0 L st h o k n) : EX G m_L_restoreState 0 L st h o k n Q := exB_ok hW (fun q L st h o k n hq => exF_ok hW T_L_restoreState_ok hq) (by decide +kernel) hx
theorem O_L_restoreState_G_restoreState : roomOK m_L_restoreState m_G_restoreState 0 0 = true := by decide +kernel
