/-! blocks of M, by program -/
def T_M_seancePrice : Nat → Option (List OPX) := tbL []
theorem T_M_seancePrice_ok : ∀ pc t, T_M_seancePrice pc = some t → chkB m_M_seancePrice pc t = true := tbL_ok (by decide +kernel)
theorem X_M_seancePrice_0 {W : WF} {G : GG} (hW : WOK G W) {L : List (Nat × Value)} {st : List Value} {h : HM} {o : Option Nat} {k n : Nat} {Q : XQ} (hx : exB W G m_M_seancePrice Q (exF W G m_M_seancePrice Q T_M_seancePrice 40) [(.aload_n 0, 1, 0, 0, 0, 0), (.aload_n 0, 1, 0, 0, 0, 0), (.getfield 20, 3, 11, 13, 0, 0), (.iconst 3, 1, 0, 0, 0, 0), (.iaload, 1, 0, 0, 0, 0), (.invokevirtual 442, 3, 292, 0, 1, 11), (.ireturn, 1, 0, 0, 0, 0)] 0 L st h o k n) : EX G m_M_seancePrice 0 L st h o k n Q := exB_ok hW (fun q L st h o k n hq => exF_ok hW T_M_seancePrice_ok hq) (by decide +kernel) hx
theorem O_M_seancePrice_M_told : roomOK m_M_seancePrice m_M_told 0 0 = true := by decide +kernel
def T_M_randomState : Nat → Option (List OPX) := tbL []
theorem T_M_randomState_ok : ∀ pc t, T_M_randomState pc = some t → chkB m_M_randomState pc t = true := tbL_ok (by decide +kernel)
theorem X_M_randomState_0 {W : WF} {G : GG} (hW : WOK G W) {L : List (Nat × Value)} {st : List Value} {h : HM} {o : Option Nat} {k n : Nat} {Q : XQ} (hx : exB W G m_M_randomState Q (exF W G m_M_randomState Q T_M_randomState 40) [(.aload_n 0, 1, 0, 0, 0, 0), (.aload_n 0, 1, 0, 0, 0, 0), (.getfield 20, 3, 11, 13, 0, 0), (.iconst 4, 1, 0, 0, 0, 0), (.iaload, 1, 0, 0, 0, 0), (.invokevirtual 442, 3, 292, 0, 1, 11), (.ireturn, 1, 0, 0, 0, 0)] 0 L st h o k n) : EX G m_M_randomState 0 L st h o k n Q := exB_ok hW (fun q L st h o k n hq => exF_ok hW T_M_randomState_ok hq) (by decide +kernel) hx
theorem O_M_randomState_M_told : roomOK m_M_randomState m_M_told 0 0 = true := by decide +kernel
def T_M_coins : Nat → Option (List OPX) := tbL []
theorem T_M_coins_ok : ∀ pc t, T_M_coins pc = some t → chkB m_M_coins pc t = true := tbL_ok (by decide +kernel)
theorem X_M_coins_0 {W : WF} {G : GG} (hW : WOK G W) {L : List (Nat × Value)} {st : List Value} {h : HM} {o : Option Nat} {k n : Nat} {Q : XQ} (hx : exB W G m_M_coins Q (exF W G m_M_coins Q T_M_coins 40) [(.aload_n 0, 1, 0, 0, 0, 0), (.aload_n 0, 1, 0, 0, 0, 0), (.getfield 20, 3, 11, 13, 0, 0), (.iconst 5, 1, 0, 0, 0, 0), (.iaload, 1, 0, 0, 0, 0), (.invokevirtual 442, 3, 292, 0, 1, 11), (.ireturn, 1, 0, 0, 0, 0)] 0 L st h o k n) : EX G m_M_coins 0 L st h o k n Q := exB_ok hW (fun q L st h o k n hq => exF_ok hW T_M_coins_ok hq) (by decide +kernel) hx
theorem O_M_coins_M_told : roomOK m_M_coins m_M_told 0 0 = true := by decide +kernel
def T_M_coinsSpent : Nat → Option (List OPX) := tbL []
theorem T_M_coinsSpent_ok : ∀ pc t, T_M_coinsSpent pc = some t → chkB m_M_coinsSpent pc t = true := tbL_ok (by decide +kernel)
theorem X_M_coinsSpent_0 {W : WF} {G : GG} (hW : WOK G W) {L : List (Nat × Value)} {st : List Value} {h : HM} {o : Option Nat} {k n : Nat} {Q : XQ} (hx : exB W G m_M_coinsSpent Q (exF W G m_M_coinsSpent Q T_M_coinsSpent 40) [(.aload_n 0, 1, 0, 0, 0, 0), (.aload_n 0, 1, 0, 0, 0, 0), (.getfield 20, 3, 11, 13, 0, 0), (.bipush 6, 2, 0, 0, 0, 0), (.iaload, 1, 0, 0, 0, 0), (.invokevirtual 442, 3, 292, 0, 1, 11), (.ireturn, 1, 0, 0, 0, 0)] 0 L st h o k n) : EX G m_M_coinsSpent 0 L st h o k n Q := exB_ok hW (fun q L st h o k n hq => exF_ok hW T_M_coinsSpent_ok hq) (by decide +kernel) hx
theorem O_M_coinsSpent_M_told : roomOK m_M_coinsSpent m_M_told 0 0 = true := by decide +kernel
def T_M_nightNumber : Nat → Option (List OPX) := tbL []
theorem T_M_nightNumber_ok : ∀ pc t, T_M_nightNumber pc = some t → chkB m_M_nightNumber pc t = true := tbL_ok (by decide +kernel)
theorem X_M_nightNumber_0 {W : WF} {G : GG} (hW : WOK G W) {L : List (Nat × Value)} {st : List Value} {h : HM} {o : Option Nat} {k n : Nat} {Q : XQ} (hx : exB W G m_M_nightNumber Q (exF W G m_M_nightNumber Q T_M_nightNumber 40) [(.aload_n 0, 1, 0, 0, 0, 0), (.aload_n 0, 1, 0, 0, 0, 0), (.getfield 20, 3, 11, 13, 0, 0), (.bipush 7, 2, 0, 0, 0, 0), (.iaload, 1, 0, 0, 0, 0), (.invokevirtual 442, 3, 292, 0, 1, 11), (.ireturn, 1, 0, 0, 0, 0)] 0 L st h o k n) : EX G m_M_nightNumber 0 L st h o k n Q := exB_ok hW (fun q L st h o k n hq => exF_ok hW T_M_nightNumber_ok hq) (by decide +kernel) hx
theorem O_M_nightNumber_M_told : roomOK m_M_nightNumber m_M_told 0 0 = true := by decide +kernel
def T_M_ghostMoves : Nat → Option (List OPX) := tbL []
theorem T_M_ghostMoves_ok : ∀ pc t, T_M_ghostMoves pc = some t → chkB m_M_ghostMoves pc t = true := tbL_ok (by decide +kernel)
theorem X_M_ghostMoves_0 {W : WF} {G : GG} (hW : WOK G W) {L : List (Nat × Value)} {st : List Value} {h : HM} {o : Option Nat} {k n : Nat} {Q : XQ} (hx : exB W G m_M_ghostMoves Q (exF W G m_M_ghostMoves Q T_M_ghostMoves 40) [(.aload_n 0, 1, 0, 0, 0, 0), (.aload_n 0, 1, 0, 0, 0, 0), (.getfield 20, 3, 11, 13, 0, 0), (.bipush 8, 2, 0, 0, 0, 0), (.iaload, 1, 0, 0, 0, 0), (.invokevirtual 442, 3, 292, 0, 1, 11), (.ireturn, 1, 0, 0, 0, 0)] 0 L st h o k n) : EX G m_M_ghostMoves 0 L st h o k n Q := exB_ok hW (fun q L st h o k n hq => exF_ok hW T_M_ghostMoves_ok hq) (by decide +kernel) hx
theorem O_M_ghostMoves_M_told : roomOK m_M_ghostMoves m_M_told 0 0 = true := by decide +kernel
def T_M_roomCount : Nat → Option (List OPX) := tbL []
theorem T_M_roomCount_ok : ∀ pc t, T_M_roomCount pc = some t → chkB m_M_roomCount pc t = true := tbL_ok (by decide +kernel)
theorem X_M_roomCount_0 {W : WF} {G : GG} (hW : WOK G W) {L : List (Nat × Value)} {st : List Value} {h : HM} {o : Option Nat} {k n : Nat} {Q : XQ} (hx : exB W G m_M_roomCount Q (exF W G m_M_roomCount Q T_M_roomCount 40) [(.aload_n 0, 1, 0, 0, 0, 0), (.aload_n 0, 1, 0, 0, 0, 0), (.getfield 20, 3, 11, 13, 0, 0), (.bipush 9, 2, 0, 0, 0, 0), (.iaload, 1, 0, 0, 0, 0), (.invokevirtual 442, 3, 292, 0, 1, 11), (.ireturn, 1, 0, 0, 0, 0)] 0 L st h o k n) : EX G m_M_roomCount 0 L st h o k n Q := exB_ok hW (fun q L st h o k n hq => exF_ok hW T_M_roomCount_ok hq) (by decide +kernel) hx
theorem O_M_roomCount_M_told : roomOK m_M_roomCount m_M_told 0 0 = true := by decide +kernel
def T_M_doorCount : Nat → Option (List OPX) := tbL []
theorem T_M_doorCount_ok : ∀ pc t, T_M_doorCount pc = some t → chkB m_M_doorCount pc t = true := tbL_ok (by decide +kernel)
theorem X_M_doorCount_0 {W : WF} {G : GG} (hW : WOK G W) {L : List (Nat × Value)} {st : List Value} {h : HM} {o : Option Nat} {k n : Nat} {Q : XQ} (hx : exB W G m_M_doorCount Q (exF W G m_M_doorCount Q T_M_doorCount 40) [(.aload_n 0, 1, 0, 0, 0, 0), (.aload_n 0, 1, 0, 0, 0, 0), (.getfield 20, 3, 11, 13, 0, 0), (.bipush 10, 2, 0, 0, 0, 0), (.iaload, 1, 0, 0, 0, 0), (.invokevirtual 442, 3, 292, 0, 1, 11), (.ireturn, 1, 0, 0, 0, 0)] 0 L st h o k n) : EX G m_M_doorCount 0 L st h o k n Q := exB_ok hW (fun q L st h o k n hq => exF_ok hW T_M_doorCount_ok hq) (by decide +kernel) hx
theorem O_M_doorCount_M_told : roomOK m_M_doorCount m_M_told 0 0 = true := by decide +kernel
def B_M_ghostRoom_15 : List OPX := [(.aload_n 0, 1, 0, 0, 0, 0), (.getfield 20, 3, 11, 13, 0, 0), (.bipush 11, 2, 0, 0, 0, 0), (.iaload, 1, 0, 0, 0, 0), (.invokevirtual 442, 3, 292, 0, 1, 11), (.ireturn, 1, 0, 0, 0, 0)]
def B_M_ghostRoom_22 : List OPX := [(.invokevirtual 442, 3, 292, 0, 1, 11), (.ireturn, 1, 0, 0, 0, 0)]
def T_M_ghostRoom : Nat → Option (List OPX) := tbL [(15, B_M_ghostRoom_15), (22, B_M_ghostRoom_22)]
theorem T_M_ghostRoom_ok : ∀ pc t, T_M_ghostRoom pc = some t → chkB m_M_ghostRoom pc t = true := tbL_ok (by decide +kernel)
theorem T_M_ghostRoom_15 : T_M_ghostRoom 15 = some [(.aload_n 0, 1, 0, 0, 0, 0), (.getfield 20, 3, 11, 13, 0, 0), (.bipush 11, 2, 0, 0, 0, 0), (.iaload, 1, 0, 0, 0, 0), (.invokevirtual 442, 3, 292, 0, 1, 11), (.ireturn, 1, 0, 0, 0, 0)] := rfl
theorem T_M_ghostRoom_22 : T_M_ghostRoom 22 = some [(.invokevirtual 442, 3, 292, 0, 1, 11), (.ireturn, 1, 0, 0, 0, 0)] := rfl
theorem X_M_ghostRoom_0 {W : WF} {G : GG} (hW : WOK G W) {L : List (Nat × Value)} {st : List Value} {h : HM} {o : Option Nat} {k n : Nat} {Q : XQ} (hx : exB W G m_M_ghostRoom Q (exF W G m_M_ghostRoom Q T_M_ghostRoom 40) [(.aload_n 0, 1, 0, 0, 0, 0), (.aload_n 0, 1, 0, 0, 0, 0), (.getfield 20, 3, 11, 13, 0, 0), (.bipush 9, 2, 0, 0, 0, 0), (.iaload, 1, 0, 0, 0, 0), (.ifCond .ne 7, 3, 15, 0, 0, 0), (.iconst (-1), 1, 0, 0, 0, 0), (.goto 10, 3, 22, 0, 0, 0)] 0 L st h o k n) : EX G m_M_ghostRoom 0 L st h o k n Q := exB_ok hW (fun q L st h o k n hq => exF_ok hW T_M_ghostRoom_ok hq) (by decide +kernel) hx
theorem O_M_ghostRoom_M_told : roomOK m_M_ghostRoom m_M_told 0 0 = true := by decide +kernel
def T_M_possibleRooms : Nat → Option (List OPX) := tbL []
theorem T_M_possibleRooms_ok : ∀ pc t, T_M_possibleRooms pc = some t → chkB m_M_possibleRooms pc t = true := tbL_ok (by decide +kernel)
theorem X_M_possibleRooms_0 {W : WF} {G : GG} (hW : WOK G W) {L : List (Nat × Value)} {st : List Value} {h : HM} {o : Option Nat} {k n : Nat} {Q : XQ} (hx : exB W G m_M_possibleRooms Q (exF W G m_M_possibleRooms Q T_M_possibleRooms 40) [(.aload_n 0, 1, 0, 0, 0, 0), (.aload_n 0, 1, 0, 0, 0, 0), (.invokevirtual 242, 3, 226, 0, 0, 11), (.invokevirtual 442, 3, 292, 0, 1, 11), (.ireturn, 1, 0, 0, 0, 0)] 0 L st h o k n) : EX G m_M_possibleRooms 0 L st h o k n Q := exB_ok hW (fun q L st h o k n hq => exF_ok hW T_M_possibleRooms_ok hq) (by decide +kernel) hx
theorem O_M_possibleRooms_M_possible : roomOK m_M_possibleRooms m_M_possible 0 0 = true := by decide +kernel
theorem O_M_possibleRooms_M_told : roomOK m_M_possibleRooms m_M_told 0 0 = true := by decide +kernel
def B_M_lettersOf_20 : List OPX := [(.iload_n 2, 1, 0, 0, 0, 0), (.ireturn, 1, 0, 0, 0, 0)]
def T_M_lettersOf : Nat → Option (List OPX) := tbL [(20, B_M_lettersOf_20)]
theorem T_M_lettersOf_ok : ∀ pc t, T_M_lettersOf pc = some t → chkB m_M_lettersOf pc t = true := tbL_ok (by decide +kernel)
theorem T_M_lettersOf_20 : T_M_lettersOf 20 = some [(.iload_n 2, 1, 0, 0, 0, 0), (.ireturn, 1, 0, 0, 0, 0)] := rfl
theorem T_M_lettersOf_4 : T_M_lettersOf 4 = none := rfl
theorem X_M_lettersOf_0 {W : WF} {G : GG} (hW : WOK G W) {L : List (Nat × Value)} {st : List Value} {h : HM} {o : Option Nat} {k n : Nat} {Q : XQ} (hx : exB W G m_M_lettersOf Q (exF W G m_M_lettersOf Q T_M_lettersOf 40) [(.iconst 0, 1, 0, 0, 0, 0), (.istore_n 2, 1, 0, 0, 0, 0), (.lload_n 0, 1, 0, 0, 0, 0), (.lstore_n 3, 1, 0, 0, 0, 0)] 0 L st h o k n) : EX G m_M_lettersOf 0 L st h o k n Q := exB_ok hW (fun q L st h o k n hq => exF_ok hW T_M_lettersOf_ok hq) (by decide +kernel) hx
theorem X_M_lettersOf_4 {W : WF} {G : GG} (hW : WOK G W) {L : List (Nat × Value)} {st : List Value} {h : HM} {o : Option Nat} {k n : Nat} {Q : XQ} (hx : exB W G m_M_lettersOf Q (exF W G m_M_lettersOf Q T_M_lettersOf 40) [(.lload_n 3, 1, 0, 0, 0, 0), (.lconst 0, 1, 0, 0, 0, 0), (.lcmp, 1, 0, 0, 0, 0), (.ifCond .le 13, 3, 20, 0, 0, 0), (.iinc 2 1, 3, 0, 0, 0, 0), (.lload_n 3, 1, 0, 0, 0, 0), (.iconst 5, 1, 0, 0, 0, 0), (.lshr, 1, 0, 0, 0, 0), (.lstore_n 3, 1, 0, 0, 0, 0), (.goto (-13), 3, 4, 0, 0, 0)] 4 L st h o k n) : EX G m_M_lettersOf 4 L st h o k n Q := exB_ok hW (fun q L st h o k n hq => exF_ok hW T_M_lettersOf_ok hq) (by decide +kernel) hx
def B_M_letterOf_35 : List OPX := [(.iconst 0, 1, 0, 0, 0, 0), (.ireturn, 1, 0, 0, 0, 0)]
def B_M_letterOf_36 : List OPX := [(.ireturn, 1, 0, 0, 0, 0)]
def T_M_letterOf : Nat → Option (List OPX) := tbL [(35, B_M_letterOf_35), (36, B_M_letterOf_36)]
theorem T_M_letterOf_ok : ∀ pc t, T_M_letterOf pc = some t → chkB m_M_letterOf pc t = true := tbL_ok (by decide +kernel)
theorem T_M_letterOf_35 : T_M_letterOf 35 = some [(.iconst 0, 1, 0, 0, 0, 0), (.ireturn, 1, 0, 0, 0, 0)] := rfl
theorem T_M_letterOf_36 : T_M_letterOf 36 = some [(.ireturn, 1, 0, 0, 0, 0)] := rfl
theorem X_M_letterOf_0 {W : WF} {G : GG} (hW : WOK G W) {L : List (Nat × Value)} {st : List Value} {h : HM} {o : Option Nat} {k n : Nat} {Q : XQ} (hx : exB W G m_M_letterOf Q (exF W G m_M_letterOf Q T_M_letterOf 40) [(.lload_n 0, 1, 0, 0, 0, 0), (.invokestatic 445, 3, 306, 0, 1, 0), (.istore_n 3, 1, 0, 0, 0, 0), (.iload_n 2, 1, 0, 0, 0, 0), (.i2l, 1, 0, 0, 0, 0), (.lconst 0, 1, 0, 0, 0, 0), (.iload_n 3, 1, 0, 0, 0, 0), (.iconst 1, 1, 0, 0, 0, 0), (.isub, 1, 0, 0, 0, 0), (.i2l, 1, 0, 0, 0, 0), (.invokestatic 86, 3, 178, 0, 3, 0), (.ifCond .eq 20, 3, 35, 0, 0, 0), (.lload_n 0, 1, 0, 0, 0, 0), (.iconst 5, 1, 0, 0, 0, 0), (.iload_n 3, 1, 0, 0, 0, 0), (.iconst 1, 1, 0, 0, 0, 0), (.isub, 1, 0, 0, 0, 0), (.iload_n 2, 1, 0, 0, 0, 0), (.isub, 1, 0, 0, 0, 0), (.imul, 1, 0, 0, 0, 0), (.lshr, 1, 0, 0, 0, 0), (.ldc2_w 448, 3, 31, 0, 0, 0), (.land, 1, 0, 0, 0, 0), (.l2i, 1, 0, 0, 0, 0), (.goto 4, 3, 36, 0, 0, 0)] 0 L st h o k n) : EX G m_M_letterOf 0 L st h o k n Q := exB_ok hW (fun q L st h o k n hq => exF_ok hW T_M_letterOf_ok hq) (by decide +kernel) hx
theorem O_M_letterOf_M_isIn : roomOK m_M_letterOf m_M_isIn 0 0 = true := by decide +kernel
theorem O_M_letterOf_M_lettersOf : roomOK m_M_letterOf m_M_lettersOf 0 0 = true := by decide +kernel
def B_M_byteOf_14 : List OPX := [(.bipush 96, 2, 0, 0, 0, 0), (.iload_n 3, 1, 0, 0, 0, 0), (.iadd, 1, 0, 0, 0, 0), (.ireturn, 1, 0, 0, 0, 0)]
def B_M_byteOf_18 : List OPX := [(.ireturn, 1, 0, 0, 0, 0)]
def T_M_byteOf : Nat → Option (List OPX) := tbL [(14, B_M_byteOf_14), (18, B_M_byteOf_18)]
theorem T_M_byteOf_ok : ∀ pc t, T_M_byteOf pc = some t → chkB m_M_byteOf pc t = true := tbL_ok (by decide +kernel)
theorem T_M_byteOf_14 : T_M_byteOf 14 = some [(.bipush 96, 2, 0, 0, 0, 0), (.iload_n 3, 1, 0, 0, 0, 0), (.iadd, 1, 0, 0, 0, 0), (.ireturn, 1, 0, 0, 0, 0)] := rfl
theorem T_M_byteOf_18 : T_M_byteOf 18 = some [(.ireturn, 1, 0, 0, 0, 0)] := rfl
theorem X_M_byteOf_0 {W : WF} {G : GG} (hW : WOK G W) {L : List (Nat × Value)} {st : List Value} {h : HM} {o : Option Nat} {k n : Nat} {Q : XQ} (hx : exB W G m_M_byteOf Q (exF W G m_M_byteOf Q T_M_byteOf 40) [(.lload_n 0, 1, 0, 0, 0, 0), (.iload_n 2, 1, 0, 0, 0, 0), (.invokestatic 450, 3, 307, 0, 2, 0), (.istore_n 3, 1, 0, 0, 0, 0), (.iload_n 3, 1, 0, 0, 0, 0), (.ifCond .ne 7, 3, 14, 0, 0, 0), (.iconst (-1), 1, 0, 0, 0, 0), (.goto 7, 3, 18, 0, 0, 0)] 0 L st h o k n) : EX G m_M_byteOf 0 L st h o k n Q := exB_ok hW (fun q L st h o k n hq => exF_ok hW T_M_byteOf_ok hq) (by decide +kernel) hx
theorem O_M_byteOf_M_letterOf : roomOK m_M_byteOf m_M_letterOf 0 0 = true := by decide +kernel
def B_M_nameByte_24 : List OPX := [(.iconst 0, 1, 0, 0, 0, 0), (.ireturn, 1, 0, 0, 0, 0)]
def B_M_nameByte_25 : List OPX := [(.ireturn, 1, 0, 0, 0, 0)]
def T_M_nameByte : Nat → Option (List OPX) := tbL [(24, B_M_nameByte_24), (25, B_M_nameByte_25)]
theorem T_M_nameByte_ok : ∀ pc t, T_M_nameByte pc = some t → chkB m_M_nameByte pc t = true := tbL_ok (by decide +kernel)
theorem T_M_nameByte_24 : T_M_nameByte 24 = some [(.iconst 0, 1, 0, 0, 0, 0), (.ireturn, 1, 0, 0, 0, 0)] := rfl
theorem T_M_nameByte_25 : T_M_nameByte 25 = some [(.ireturn, 1, 0, 0, 0, 0)] := rfl
theorem X_M_nameByte_0 {W : WF} {G : GG} (hW : WOK G W) {L : List (Nat × Value)} {st : List Value} {h : HM} {o : Option Nat} {k n : Nat} {Q : XQ} (hx : exB W G m_M_nameByte Q (exF W G m_M_nameByte Q T_M_nameByte 40) [(.aload_n 0, 1, 0, 0, 0, 0), (.aload_n 0, 1, 0, 0, 0, 0), (.iload_n 1, 1, 0, 0, 0, 0), (.invokevirtual 295, 3, 220, 0, 1, 11), (.invokevirtual 78, 3, 181, 0, 1, 11), (.ifCond .eq 15, 3, 24, 0, 0, 0), (.aload_n 0, 1, 0, 0, 0, 0), (.iload_n 1, 1, 0, 0, 0, 0), (.invokevirtual 355, 3, 278, 0, 1, 11), (.iload_n 2, 1, 0, 0, 0, 0), (.invokestatic 454, 3, 308, 0, 2, 0), (.goto 4, 3, 25, 0, 0, 0)] 0 L st h o k n) : EX G m_M_nameByte 0 L st h o k n Q := exB_ok hW (fun q L st h o k n hq => exF_ok hW T_M_nameByte_ok hq) (by decide +kernel) hx
theorem O_M_nameByte_M_goes : roomOK m_M_nameByte m_M_goes 0 0 = true := by decide +kernel
theorem O_M_nameByte_M_isRoom : roomOK m_M_nameByte m_M_isRoom 0 0 = true := by decide +kernel
theorem O_M_nameByte_M_nameOf : roomOK m_M_nameByte m_M_nameOf 0 0 = true := by decide +kernel
theorem O_M_nameByte_M_byteOf : roomOK m_M_nameByte m_M_byteOf 0 0 = true := by decide +kernel
def B_M_findRoom_16 : List OPX := [(.aload_n 0, 1, 0, 0, 0, 0), (.lload_n 1, 1, 0, 0, 0, 0), (.invokevirtual 267, 3, 279, 0, 1, 11), (.invokevirtual 442, 3, 292, 0, 1, 11), (.ireturn, 1, 0, 0, 0, 0)]
def B_M_findRoom_21 : List OPX := [(.invokevirtual 442, 3, 292, 0, 1, 11), (.ireturn, 1, 0, 0, 0, 0)]
def T_M_findRoom : Nat → Option (List OPX) := tbL [(16, B_M_findRoom_16), (21, B_M_findRoom_21)]
theorem T_M_findRoom_ok : ∀ pc t, T_M_findRoom pc = some t → chkB m_M_findRoom pc t = true := tbL_ok (by decide +kernel)
theorem T_M_findRoom_16 : T_M_findRoom 16 = some [(.aload_n 0, 1, 0, 0, 0, 0), (.lload_n 1, 1, 0, 0, 0, 0), (.invokevirtual 267, 3, 279, 0, 1, 11), (.invokevirtual 442, 3, 292, 0, 1, 11), (.ireturn, 1, 0, 0, 0, 0)] := rfl
theorem T_M_findRoom_21 : T_M_findRoom 21 = some [(.invokevirtual 442, 3, 292, 0, 1, 11), (.ireturn, 1, 0, 0, 0, 0)] := rfl
theorem X_M_findRoom_0 {W : WF} {G : GG} (hW : WOK G W) {L : List (Nat × Value)} {st : List Value} {h : HM} {o : Option Nat} {k n : Nat} {Q : XQ} (hx : exB W G m_M_findRoom Q (exF W G m_M_findRoom Q T_M_findRoom 40) [(.aload_n 0, 1, 0, 0, 0, 0), (.invokevirtual 271, 3, 203, 0, 0, 11), (.lstore_n 1, 1, 0, 0, 0, 0), (.aload_n 0, 1, 0, 0, 0, 0), (.lload_n 1, 1, 0, 0, 0, 0), (.lconst 0, 1, 0, 0, 0, 0), (.lcmp, 1, 0, 0, 0, 0), (.ifCond .ne 7, 3, 16, 0, 0, 0), (.iconst (-1), 1, 0, 0, 0, 0), (.goto 8, 3, 21, 0, 0, 0)] 0 L st h o k n) : EX G m_M_findRoom 0 L st h o k n Q := exB_ok hW (fun q L st h o k n hq => exF_ok hW T_M_findRoom_ok hq) (by decide +kernel) hx
theorem O_M_findRoom_M_bufferName : roomOK m_M_findRoom m_M_bufferName 0 0 = true := by decide +kernel
theorem O_M_findRoom_M_named : roomOK m_M_findRoom m_M_named 0 0 = true := by decide +kernel
theorem O_M_findRoom_M_told : roomOK m_M_findRoom m_M_told 0 0 = true := by decide +kernel
def B_M_coldness_21 : List OPX := [(.iconst 0, 1, 0, 0, 0, 0), (.ireturn, 1, 0, 0, 0, 0)]
def B_M_coldness_22 : List OPX := [(.ireturn, 1, 0, 0, 0, 0)]
def T_M_coldness : Nat → Option (List OPX) := tbL [(21, B_M_coldness_21), (22, B_M_coldness_22)]
theorem T_M_coldness_ok : ∀ pc t, T_M_coldness pc = some t → chkB m_M_coldness pc t = true := tbL_ok (by decide +kernel)
theorem T_M_coldness_21 : T_M_coldness 21 = some [(.iconst 0, 1, 0, 0, 0, 0), (.ireturn, 1, 0, 0, 0, 0)] := rfl
theorem T_M_coldness_22 : T_M_coldness 22 = some [(.ireturn, 1, 0, 0, 0, 0)] := rfl
theorem X_M_coldness_0 {W : WF} {G : GG} (hW : WOK G W) {L : List (Nat × Value)} {st : List Value} {h : HM} {o : Option Nat} {k n : Nat} {Q : XQ} (hx : exB W G m_M_coldness Q (exF W G m_M_coldness Q T_M_coldness 40) [(.aload_n 0, 1, 0, 0, 0, 0), (.aload_n 0, 1, 0, 0, 0, 0), (.iload_n 1, 1, 0, 0, 0, 0), (.invokevirtual 295, 3, 220, 0, 1, 11), (.invokevirtual 78, 3, 181, 0, 1, 11), (.ifCond .eq 12, 3, 21, 0, 0, 0), (.aload_n 0, 1, 0, 0, 0, 0), (.iload_n 1, 1, 0, 0, 0, 0), (.iconst 2, 1, 0, 0, 0, 0), (.invokevirtual 179, 3, 216, 0, 2, 11), (.goto 4, 3, 22, 0, 0, 0)] 0 L st h o k n) : EX G m_M_coldness 0 L st h o k n Q := exB_ok hW (fun q L st h o k n hq => exF_ok hW T_M_coldness_ok hq) (by decide +kernel) hx
theorem O_M_coldness_M_goes : roomOK m_M_coldness m_M_goes 0 0 = true := by decide +kernel
theorem O_M_coldness_M_of : roomOK m_M_coldness m_M_of 0 0 = true := by decide +kernel
theorem O_M_coldness_M_isRoom : roomOK m_M_coldness m_M_isRoom 0 0 = true := by decide +kernel
def B_M_hasThermometer_26 : List OPX := [(.iconst 0, 1, 0, 0, 0, 0), (.ireturn, 1, 0, 0, 0, 0)]
def B_M_hasThermometer_27 : List OPX := [(.ireturn, 1, 0, 0, 0, 0)]
def T_M_hasThermometer : Nat → Option (List OPX) := tbL [(26, B_M_hasThermometer_26), (27, B_M_hasThermometer_27)]
theorem T_M_hasThermometer_ok : ∀ pc t, T_M_hasThermometer pc = some t → chkB m_M_hasThermometer pc t = true := tbL_ok (by decide +kernel)
theorem T_M_hasThermometer_26 : T_M_hasThermometer 26 = some [(.iconst 0, 1, 0, 0, 0, 0), (.ireturn, 1, 0, 0, 0, 0)] := rfl
theorem T_M_hasThermometer_27 : T_M_hasThermometer 27 = some [(.ireturn, 1, 0, 0, 0, 0)] := rfl
theorem X_M_hasThermometer_0 {W : WF} {G : GG} (hW : WOK G W) {L : List (Nat × Value)} {st : List Value} {h : HM} {o : Option Nat} {k n : Nat} {Q : XQ} (hx : exB W G m_M_hasThermometer Q (exF W G m_M_hasThermometer Q T_M_hasThermometer 40) [(.aload_n 0, 1, 0, 0, 0, 0), (.aload_n 0, 1, 0, 0, 0, 0), (.iload_n 1, 1, 0, 0, 0, 0), (.invokevirtual 295, 3, 220, 0, 1, 11), (.invokevirtual 78, 3, 181, 0, 1, 11), (.ifCond .eq 17, 3, 26, 0, 0, 0), (.aload_n 0, 1, 0, 0, 0, 0), (.iload_n 1, 1, 0, 0, 0, 0), (.iconst 3, 1, 0, 0, 0, 0), (.invokevirtual 179, 3, 216, 0, 2, 11), (.iconst 1, 1, 0, 0, 0, 0), (.if_icmp .ne 7, 3, 26, 0, 0, 0), (.iconst 1, 1, 0, 0, 0, 0), (.goto 4, 3, 27, 0, 0, 0)] 0 L st h o k n) : EX G m_M_hasThermometer 0 L st h o k n Q := exB_ok hW (fun q L st h o k n hq => exF_ok hW T_M_hasThermometer_ok hq) (by decide +kernel) hx
theorem O_M_hasThermometer_M_goes : roomOK m_M_hasThermometer m_M_goes 0 0 = true := by decide +kernel
theorem O_M_hasThermometer_M_of : roomOK m_M_hasThermometer m_M_of 0 0 = true := by decide +kernel
theorem O_M_hasThermometer_M_isRoom : roomOK m_M_hasThermometer m_M_isRoom 0 0 = true := by decide +kernel
def B_M_hasMicrophone_26 : List OPX := [(.iconst 0, 1, 0, 0, 0, 0), (.ireturn, 1, 0, 0, 0, 0)]
def B_M_hasMicrophone_27 : List OPX := [(.ireturn, 1, 0, 0, 0, 0)]
def T_M_hasMicrophone : Nat → Option (List OPX) := tbL [(26, B_M_hasMicrophone_26), (27, B_M_hasMicrophone_27)]
theorem T_M_hasMicrophone_ok : ∀ pc t, T_M_hasMicrophone pc = some t → chkB m_M_hasMicrophone pc t = true := tbL_ok (by decide +kernel)
theorem T_M_hasMicrophone_26 : T_M_hasMicrophone 26 = some [(.iconst 0, 1, 0, 0, 0, 0), (.ireturn, 1, 0, 0, 0, 0)] := rfl
theorem T_M_hasMicrophone_27 : T_M_hasMicrophone 27 = some [(.ireturn, 1, 0, 0, 0, 0)] := rfl
theorem X_M_hasMicrophone_0 {W : WF} {G : GG} (hW : WOK G W) {L : List (Nat × Value)} {st : List Value} {h : HM} {o : Option Nat} {k n : Nat} {Q : XQ} (hx : exB W G m_M_hasMicrophone Q (exF W G m_M_hasMicrophone Q T_M_hasMicrophone 40) [(.aload_n 0, 1, 0, 0, 0, 0), (.aload_n 0, 1, 0, 0, 0, 0), (.iload_n 1, 1, 0, 0, 0, 0), (.invokevirtual 295, 3, 220, 0, 1, 11), (.invokevirtual 78, 3, 181, 0, 1, 11), (.ifCond .eq 17, 3, 26, 0, 0, 0), (.aload_n 0, 1, 0, 0, 0, 0), (.iload_n 1, 1, 0, 0, 0, 0), (.iconst 4, 1, 0, 0, 0, 0), (.invokevirtual 179, 3, 216, 0, 2, 11), (.iconst 1, 1, 0, 0, 0, 0), (.if_icmp .ne 7, 3, 26, 0, 0, 0), (.iconst 1, 1, 0, 0, 0, 0), (.goto 4, 3, 27, 0, 0, 0)] 0 L st h o k n) : EX G m_M_hasMicrophone 0 L st h o k n Q := exB_ok hW (fun q L st h o k n hq => exF_ok hW T_M_hasMicrophone_ok hq) (by decide +kernel) hx
theorem O_M_hasMicrophone_M_goes : roomOK m_M_hasMicrophone m_M_goes 0 0 = true := by decide +kernel
theorem O_M_hasMicrophone_M_of : roomOK m_M_hasMicrophone m_M_of 0 0 = true := by decide +kernel
theorem O_M_hasMicrophone_M_isRoom : roomOK m_M_hasMicrophone m_M_isRoom 0 0 = true := by decide +kernel
def B_M_neighbors_20 : List OPX := [(.iconst 0, 1, 0, 0, 0, 0), (.ireturn, 1, 0, 0, 0, 0)]
def B_M_neighbors_21 : List OPX := [(.ireturn, 1, 0, 0, 0, 0)]
def T_M_neighbors : Nat → Option (List OPX) := tbL [(20, B_M_neighbors_20), (21, B_M_neighbors_21)]
theorem T_M_neighbors_ok : ∀ pc t, T_M_neighbors pc = some t → chkB m_M_neighbors pc t = true := tbL_ok (by decide +kernel)
theorem T_M_neighbors_20 : T_M_neighbors 20 = some [(.iconst 0, 1, 0, 0, 0, 0), (.ireturn, 1, 0, 0, 0, 0)] := rfl
theorem T_M_neighbors_21 : T_M_neighbors 21 = some [(.ireturn, 1, 0, 0, 0, 0)] := rfl
theorem X_M_neighbors_0 {W : WF} {G : GG} (hW : WOK G W) {L : List (Nat × Value)} {st : List Value} {h : HM} {o : Option Nat} {k n : Nat} {Q : XQ} (hx : exB W G m_M_neighbors Q (exF W G m_M_neighbors Q T_M_neighbors 40) [(.aload_n 0, 1, 0, 0, 0, 0), (.aload_n 0, 1, 0, 0, 0, 0), (.iload_n 1, 1, 0, 0, 0, 0), (.invokevirtual 295, 3, 220, 0, 1, 11), (.invokevirtual 78, 3, 181, 0, 1, 11), (.ifCond .eq 11, 3, 20, 0, 0, 0), (.aload_n 0, 1, 0, 0, 0, 0), (.iload_n 1, 1, 0, 0, 0, 0), (.invokevirtual 182, 3, 224, 0, 1, 11), (.goto 4, 3, 21, 0, 0, 0)] 0 L st h o k n) : EX G m_M_neighbors 0 L st h o k n Q := exB_ok hW (fun q L st h o k n hq => exF_ok hW T_M_neighbors_ok hq) (by decide +kernel) hx
theorem O_M_neighbors_M_goes : roomOK m_M_neighbors m_M_goes 0 0 = true := by decide +kernel
theorem O_M_neighbors_M_isRoom : roomOK m_M_neighbors m_M_isRoom 0 0 = true := by decide +kernel
theorem O_M_neighbors_M_neighborsOf : roomOK m_M_neighbors m_M_neighborsOf 0 0 = true := by decide +kernel
def B_M_rankOf_51 : List OPX := [(.iconst 1, 1, 0, 0, 0, 0), (.goto 4, 3, 56, 0, 0, 0)]
def B_M_rankOf_55 : List OPX := [(.iconst 0, 1, 0, 0, 0, 0), (.invokestatic 71, 3, 179, 0, 1, 0), (.iadd, 1, 0, 0, 0, 0), (.istore_n 2, 1, 0, 0, 0, 0), (.iinc 3 1, 3, 0, 0, 0, 0), (.goto (-60), 3, 4, 0, 0, 0)]
def B_M_rankOf_56 : List OPX := [(.invokestatic 71, 3, 179, 0, 1, 0), (.iadd, 1, 0, 0, 0, 0), (.istore_n 2, 1, 0, 0, 0, 0), (.iinc 3 1, 3, 0, 0, 0, 0), (.goto (-60), 3, 4, 0, 0, 0)]
def B_M_rankOf_67 : List OPX := [(.iload_n 2, 1, 0, 0, 0, 0), (.ireturn, 1, 0, 0, 0, 0)]
def T_M_rankOf : Nat → Option (List OPX) := tbL [(51, B_M_rankOf_51), (55, B_M_rankOf_55), (56, B_M_rankOf_56), (67, B_M_rankOf_67)]
theorem T_M_rankOf_ok : ∀ pc t, T_M_rankOf pc = some t → chkB m_M_rankOf pc t = true := tbL_ok (by decide +kernel)
theorem T_M_rankOf_51 : T_M_rankOf 51 = some [(.iconst 1, 1, 0, 0, 0, 0), (.goto 4, 3, 56, 0, 0, 0)] := rfl
theorem T_M_rankOf_55 : T_M_rankOf 55 = some [(.iconst 0, 1, 0, 0, 0, 0), (.invokestatic 71, 3, 179, 0, 1, 0), (.iadd, 1, 0, 0, 0, 0), (.istore_n 2, 1, 0, 0, 0, 0), (.iinc 3 1, 3, 0, 0, 0, 0), (.goto (-60), 3, 4, 0, 0, 0)] := rfl
theorem T_M_rankOf_56 : T_M_rankOf 56 = some [(.invokestatic 71, 3, 179, 0, 1, 0), (.iadd, 1, 0, 0, 0, 0), (.istore_n 2, 1, 0, 0, 0, 0), (.iinc 3 1, 3, 0, 0, 0, 0), (.goto (-60), 3, 4, 0, 0, 0)] := rfl
theorem T_M_rankOf_67 : T_M_rankOf 67 = some [(.iload_n 2, 1, 0, 0, 0, 0), (.ireturn, 1, 0, 0, 0, 0)] := rfl
theorem T_M_rankOf_4 : T_M_rankOf 4 = none := rfl
theorem X_M_rankOf_0 {W : WF} {G : GG} (hW : WOK G W) {L : List (Nat × Value)} {st : List Value} {h : HM} {o : Option Nat} {k n : Nat} {Q : XQ} (hx : exB W G m_M_rankOf Q (exF W G m_M_rankOf Q T_M_rankOf 40) [(.iconst 0, 1, 0, 0, 0, 0), (.istore_n 2, 1, 0, 0, 0, 0), (.iconst 0, 1, 0, 0, 0, 0), (.istore_n 3, 1, 0, 0, 0, 0)] 0 L st h o k n) : EX G m_M_rankOf 0 L st h o k n Q := exB_ok hW (fun q L st h o k n hq => exF_ok hW T_M_rankOf_ok hq) (by decide +kernel) hx
theorem X_M_rankOf_4 {W : WF} {G : GG} (hW : WOK G W) {L : List (Nat × Value)} {st : List Value} {h : HM} {o : Option Nat} {k n : Nat} {Q : XQ} (hx : exB W G m_M_rankOf Q (exF W G m_M_rankOf Q T_M_rankOf 40) [(.iload_n 3, 1, 0, 0, 0, 0), (.aload_n 0, 1, 0, 0, 0, 0), (.getfield 20, 3, 11, 13, 0, 0), (.bipush 9, 2, 0, 0, 0, 0), (.iaload, 1, 0, 0, 0, 0), (.if_icmp .ge 55, 3, 67, 0, 0, 0), (.iload_n 2, 1, 0, 0, 0, 0), (.aload_n 0, 1, 0, 0, 0, 0), (.iload_n 3, 1, 0, 0, 0, 0), (.iconst 2, 1, 0, 0, 0, 0), (.invokevirtual 179, 3, 216, 0, 2, 11), (.aload_n 0, 1, 0, 0, 0, 0), (.iload_n 1, 1, 0, 0, 0, 0), (.iconst 2, 1, 0, 0, 0, 0), (.invokevirtual 179, 3, 216, 0, 2, 11), (.if_icmp .gt 23, 3, 51, 0, 0, 0), (.aload_n 0, 1, 0, 0, 0, 0), (.iload_n 3, 1, 0, 0, 0, 0), (.iconst 2, 1, 0, 0, 0, 0), (.invokevirtual 179, 3, 216, 0, 2, 11), (.aload_n 0, 1, 0, 0, 0, 0), (.iload_n 1, 1, 0, 0, 0, 0), (.iconst 2, 1, 0, 0, 0, 0), (.invokevirtual 179, 3, 216, 0, 2, 11), (.if_icmp .ne 12, 3, 55, 0, 0, 0), (.iload_n 3, 1, 0, 0, 0, 0), (.iload_n 1, 1, 0, 0, 0, 0), (.if_icmp .ge 7, 3, 55, 0, 0, 0), (.iconst 1, 1, 0, 0, 0, 0), (.goto 4, 3, 56, 0, 0, 0)] 4 L st h o k n) : EX G m_M_rankOf 4 L st h o k n Q := exB_ok hW (fun q L st h o k n hq => exF_ok hW T_M_rankOf_ok hq) (by decide +kernel) hx
theorem O_M_rankOf_M_truth : roomOK m_M_rankOf m_M_truth 0 0 = true := by decide +kernel
theorem O_M_rankOf_M_of : roomOK m_M_rankOf m_M_of 0 0 = true := by decide +kernel
def B_M_withRank_24 : List OPX := [(.iinc 2 1, 3, 0, 0, 0, 0), (.goto (-25), 3, 2, 0, 0, 0)]
def B_M_withRank_30 : List OPX := [(.iconst (-1), 1, 0, 0, 0, 0), (.ireturn, 1, 0, 0, 0, 0)]
def T_M_withRank : Nat → Option (List OPX) := tbL [(24, B_M_withRank_24), (30, B_M_withRank_30)]
theorem T_M_withRank_ok : ∀ pc t, T_M_withRank pc = some t → chkB m_M_withRank pc t = true := tbL_ok (by decide +kernel)
theorem T_M_withRank_24 : T_M_withRank 24 = some [(.iinc 2 1, 3, 0, 0, 0, 0), (.goto (-25), 3, 2, 0, 0, 0)] := rfl
theorem T_M_withRank_30 : T_M_withRank 30 = some [(.iconst (-1), 1, 0, 0, 0, 0), (.ireturn, 1, 0, 0, 0, 0)] := rfl
theorem T_M_withRank_2 : T_M_withRank 2 = none := rfl
theorem X_M_withRank_0 {W : WF} {G : GG} (hW : WOK G W) {L : List (Nat × Value)} {st : List Value} {h : HM} {o : Option Nat} {k n : Nat} {Q : XQ} (hx : exB W G m_M_withRank Q (exF W G m_M_withRank Q T_M_withRank 40) [(.iconst 0, 1, 0, 0, 0, 0), (.istore_n 2, 1, 0, 0, 0, 0)] 0 L st h o k n) : EX G m_M_withRank 0 L st h o k n Q := exB_ok hW (fun q L st h o k n hq => exF_ok hW T_M_withRank_ok hq) (by decide +kernel) hx
theorem X_M_withRank_2 {W : WF} {G : GG} (hW : WOK G W) {L : List (Nat × Value)} {st : List Value} {h : HM} {o : Option Nat} {k n : Nat} {Q : XQ} (hx : exB W G m_M_withRank Q (exF W G m_M_withRank Q T_M_withRank 40) [(.iload_n 2, 1, 0, 0, 0, 0), (.aload_n 0, 1, 0, 0, 0, 0), (.getfield 20, 3, 11, 13, 0, 0), (.bipush 9, 2, 0, 0, 0, 0), (.iaload, 1, 0, 0, 0, 0), (.if_icmp .ge 20, 3, 30, 0, 0, 0), (.aload_n 0, 1, 0, 0, 0, 0), (.iload_n 2, 1, 0, 0, 0, 0), (.invokevirtual 457, 3, 315, 0, 1, 11), (.iload_n 1, 1, 0, 0, 0, 0), (.if_icmp .ne 5, 3, 24, 0, 0, 0), (.iload_n 2, 1, 0, 0, 0, 0), (.ireturn, 1, 0, 0, 0, 0)] 2 L st h o k n) : EX G m_M_withRank 2 L st h o k n Q := exB_ok hW (fun q L st h o k n hq => exF_ok hW T_M_withRank_ok hq) (by decide +kernel) hx
theorem O_M_withRank_M_rankOf : roomOK m_M_withRank m_M_rankOf 0 0 = true := by decide +kernel
def T_M_roomByColdness : Nat → Option (List OPX) := tbL []
theorem T_M_roomByColdness_ok : ∀ pc t, T_M_roomByColdness pc = some t → chkB m_M_roomByColdness pc t = true := tbL_ok (by decide +kernel)
theorem X_M_roomByColdness_0 {W : WF} {G : GG} (hW : WOK G W) {L : List (Nat × Value)} {st : List Value} {h : HM} {o : Option Nat} {k n : Nat} {Q : XQ} (hx : exB W G m_M_roomByColdness Q (exF W G m_M_roomByColdness Q T_M_roomByColdness 40) [(.aload_n 0, 1, 0, 0, 0, 0), (.aload_n 0, 1, 0, 0, 0, 0), (.iload_n 1, 1, 0, 0, 0, 0), (.invokevirtual 460, 3, 316, 0, 1, 11), (.invokevirtual 442, 3, 292, 0, 1, 11), (.ireturn, 1, 0, 0, 0, 0)] 0 L st h o k n) : EX G m_M_roomByColdness 0 L st h o k n Q := exB_ok hW (fun q L st h o k n hq => exF_ok hW T_M_roomByColdness_ok hq) (by decide +kernel) hx
theorem O_M_roomByColdness_M_told : roomOK m_M_roomByColdness m_M_told 0 0 = true := by decide +kernel
theorem O_M_roomByColdness_M_withRank : roomOK m_M_roomByColdness m_M_withRank 0 0 = true := by decide +kernel
def B_M_lowRoom_21 : List OPX := [(.iconst 0, 1, 0, 0, 0, 0), (.ireturn, 1, 0, 0, 0, 0)]
def B_M_lowRoom_22 : List OPX := [(.ireturn, 1, 0, 0, 0, 0)]
def T_M_lowRoom : Nat → Option (List OPX) := tbL [(21, B_M_lowRoom_21), (22, B_M_lowRoom_22)]
theorem T_M_lowRoom_ok : ∀ pc t, T_M_lowRoom pc = some t → chkB m_M_lowRoom pc t = true := tbL_ok (by decide +kernel)
theorem T_M_lowRoom_21 : T_M_lowRoom 21 = some [(.iconst 0, 1, 0, 0, 0, 0), (.ireturn, 1, 0, 0, 0, 0)] := rfl
theorem T_M_lowRoom_22 : T_M_lowRoom 22 = some [(.ireturn, 1, 0, 0, 0, 0)] := rfl
theorem X_M_lowRoom_0 {W : WF} {G : GG} (hW : WOK G W) {L : List (Nat × Value)} {st : List Value} {h : HM} {o : Option Nat} {k n : Nat} {Q : XQ} (hx : exB W G m_M_lowRoom Q (exF W G m_M_lowRoom Q T_M_lowRoom 40) [(.aload_n 0, 1, 0, 0, 0, 0), (.aload_n 0, 1, 0, 0, 0, 0), (.iload_n 1, 1, 0, 0, 0, 0), (.invokevirtual 307, 3, 221, 0, 1, 11), (.invokevirtual 78, 3, 181, 0, 1, 11), (.ifCond .eq 12, 3, 21, 0, 0, 0), (.aload_n 0, 1, 0, 0, 0, 0), (.iload_n 1, 1, 0, 0, 0, 0), (.iconst 0, 1, 0, 0, 0, 0), (.invokevirtual 169, 3, 219, 0, 2, 11), (.goto 4, 3, 22, 0, 0, 0)] 0 L st h o k n) : EX G m_M_lowRoom 0 L st h o k n Q := exB_ok hW (fun q L st h o k n hq => exF_ok hW T_M_lowRoom_ok hq) (by decide +kernel) hx
theorem O_M_lowRoom_M_goes : roomOK m_M_lowRoom m_M_goes 0 0 = true := by decide +kernel
theorem O_M_lowRoom_M_ofDoor : roomOK m_M_lowRoom m_M_ofDoor 0 0 = true := by decide +kernel
theorem O_M_lowRoom_M_isDoor : roomOK m_M_lowRoom m_M_isDoor 0 0 = true := by decide +kernel
def B_M_highRoom_21 : List OPX := [(.iconst 0, 1, 0, 0, 0, 0), (.ireturn, 1, 0, 0, 0, 0)]
def B_M_highRoom_22 : List OPX := [(.ireturn, 1, 0, 0, 0, 0)]
def T_M_highRoom : Nat → Option (List OPX) := tbL [(21, B_M_highRoom_21), (22, B_M_highRoom_22)]
theorem T_M_highRoom_ok : ∀ pc t, T_M_highRoom pc = some t → chkB m_M_highRoom pc t = true := tbL_ok (by decide +kernel)
theorem T_M_highRoom_21 : T_M_highRoom 21 = some [(.iconst 0, 1, 0, 0, 0, 0), (.ireturn, 1, 0, 0, 0, 0)] := rfl
theorem T_M_highRoom_22 : T_M_highRoom 22 = some [(.ireturn, 1, 0, 0, 0, 0)] := rfl
theorem X_M_highRoom_0 {W : WF} {G : GG} (hW : WOK G W) {L : List (Nat × Value)} {st : List Value} {h : HM} {o : Option Nat} {k n : Nat} {Q : XQ} (hx : exB W G m_M_highRoom Q (exF W G m_M_highRoom Q T_M_highRoom 40) [(.aload_n 0, 1, 0, 0, 0, 0), (.aload_n 0, 1, 0, 0, 0, 0), (.iload_n 1, 1, 0, 0, 0, 0), (.invokevirtual 307, 3, 221, 0, 1, 11), (.invokevirtual 78, 3, 181, 0, 1, 11), (.ifCond .eq 12, 3, 21, 0, 0, 0), (.aload_n 0, 1, 0, 0, 0, 0), (.iload_n 1, 1, 0, 0, 0, 0), (.iconst 1, 1, 0, 0, 0, 0), (.invokevirtual 169, 3, 219, 0, 2, 11), (.goto 4, 3, 22, 0, 0, 0)] 0 L st h o k n) : EX G m_M_highRoom 0 L st h o k n Q := exB_ok hW (fun q L st h o k n hq => exF_ok hW T_M_highRoom_ok hq) (by decide +kernel) hx
theorem O_M_highRoom_M_goes : roomOK m_M_highRoom m_M_goes 0 0 = true := by decide +kernel
theorem O_M_highRoom_M_ofDoor : roomOK m_M_highRoom m_M_ofDoor 0 0 = true := by decide +kernel
theorem O_M_highRoom_M_isDoor : roomOK m_M_highRoom m_M_isDoor 0 0 = true := by decide +kernel
def B_M_noise_21 : List OPX := [(.iconst 0, 1, 0, 0, 0, 0), (.ireturn, 1, 0, 0, 0, 0)]
def B_M_noise_22 : List OPX := [(.ireturn, 1, 0, 0, 0, 0)]
def T_M_noise : Nat → Option (List OPX) := tbL [(21, B_M_noise_21), (22, B_M_noise_22)]
theorem T_M_noise_ok : ∀ pc t, T_M_noise pc = some t → chkB m_M_noise pc t = true := tbL_ok (by decide +kernel)
theorem T_M_noise_21 : T_M_noise 21 = some [(.iconst 0, 1, 0, 0, 0, 0), (.ireturn, 1, 0, 0, 0, 0)] := rfl
theorem T_M_noise_22 : T_M_noise 22 = some [(.ireturn, 1, 0, 0, 0, 0)] := rfl
theorem X_M_noise_0 {W : WF} {G : GG} (hW : WOK G W) {L : List (Nat × Value)} {st : List Value} {h : HM} {o : Option Nat} {k n : Nat} {Q : XQ} (hx : exB W G m_M_noise Q (exF W G m_M_noise Q T_M_noise 40) [(.aload_n 0, 1, 0, 0, 0, 0), (.aload_n 0, 1, 0, 0, 0, 0), (.iload_n 1, 1, 0, 0, 0, 0), (.invokevirtual 307, 3, 221, 0, 1, 11), (.invokevirtual 78, 3, 181, 0, 1, 11), (.ifCond .eq 12, 3, 21, 0, 0, 0), (.aload_n 0, 1, 0, 0, 0, 0), (.iload_n 1, 1, 0, 0, 0, 0), (.iconst 2, 1, 0, 0, 0, 0), (.invokevirtual 169, 3, 219, 0, 2, 11), (.goto 4, 3, 22, 0, 0, 0)] 0 L st h o k n) : EX G m_M_noise 0 L st h o k n Q := exB_ok hW (fun q L st h o k n hq => exF_ok hW T_M_noise_ok hq) (by decide +kernel) hx
theorem O_M_noise_M_goes : roomOK m_M_noise m_M_goes 0 0 = true := by decide +kernel
theorem O_M_noise_M_ofDoor : roomOK m_M_noise m_M_ofDoor 0 0 = true := by decide +kernel
theorem O_M_noise_M_isDoor : roomOK m_M_noise m_M_isDoor 0 0 = true := by decide +kernel
def B_M_isOpen_26 : List OPX := [(.iconst 0, 1, 0, 0, 0, 0), (.ireturn, 1, 0, 0, 0, 0)]
def B_M_isOpen_27 : List OPX := [(.ireturn, 1, 0, 0, 0, 0)]
def T_M_isOpen : Nat → Option (List OPX) := tbL [(26, B_M_isOpen_26), (27, B_M_isOpen_27)]
theorem T_M_isOpen_ok : ∀ pc t, T_M_isOpen pc = some t → chkB m_M_isOpen pc t = true := tbL_ok (by decide +kernel)
theorem T_M_isOpen_26 : T_M_isOpen 26 = some [(.iconst 0, 1, 0, 0, 0, 0), (.ireturn, 1, 0, 0, 0, 0)] := rfl
theorem T_M_isOpen_27 : T_M_isOpen 27 = some [(.ireturn, 1, 0, 0, 0, 0)] := rfl
theorem X_M_isOpen_0 {W : WF} {G : GG} (hW : WOK G W) {L : List (Nat × Value)} {st : List Value} {h : HM} {o : Option Nat} {k n : Nat} {Q : XQ} (hx : exB W G m_M_isOpen Q (exF W G m_M_isOpen Q T_M_isOpen 40) [(.aload_n 0, 1, 0, 0, 0, 0), (.aload_n 0, 1, 0, 0, 0, 0), (.iload_n 1, 1, 0, 0, 0, 0), (.invokevirtual 307, 3, 221, 0, 1, 11), (.invokevirtual 78, 3, 181, 0, 1, 11), (.ifCond .eq 17, 3, 26, 0, 0, 0), (.aload_n 0, 1, 0, 0, 0, 0), (.iload_n 1, 1, 0, 0, 0, 0), (.iconst 3, 1, 0, 0, 0, 0), (.invokevirtual 169, 3, 219, 0, 2, 11), (.iconst 1, 1, 0, 0, 0, 0), (.if_icmp .ne 7, 3, 26, 0, 0, 0), (.iconst 1, 1, 0, 0, 0, 0), (.goto 4, 3, 27, 0, 0, 0)] 0 L st h o k n) : EX G m_M_isOpen 0 L st h o k n Q := exB_ok hW (fun q L st h o k n hq => exF_ok hW T_M_isOpen_ok hq) (by decide +kernel) hx
theorem O_M_isOpen_M_goes : roomOK m_M_isOpen m_M_goes 0 0 = true := by decide +kernel
theorem O_M_isOpen_M_ofDoor : roomOK m_M_isOpen m_M_ofDoor 0 0 = true := by decide +kernel
theorem O_M_isOpen_M_isDoor : roomOK m_M_isOpen m_M_isDoor 0 0 = true := by decide +kernel
def B_M_isMonitored_24 : List OPX := [(.iconst 0, 1, 0, 0, 0, 0), (.ireturn, 1, 0, 0, 0, 0)]
def B_M_isMonitored_25 : List OPX := [(.ireturn, 1, 0, 0, 0, 0)]
def T_M_isMonitored : Nat → Option (List OPX) := tbL [(24, B_M_isMonitored_24), (25, B_M_isMonitored_25)]
theorem T_M_isMonitored_ok : ∀ pc t, T_M_isMonitored pc = some t → chkB m_M_isMonitored pc t = true := tbL_ok (by decide +kernel)
theorem T_M_isMonitored_24 : T_M_isMonitored 24 = some [(.iconst 0, 1, 0, 0, 0, 0), (.ireturn, 1, 0, 0, 0, 0)] := rfl
theorem T_M_isMonitored_25 : T_M_isMonitored 25 = some [(.ireturn, 1, 0, 0, 0, 0)] := rfl
theorem X_M_isMonitored_0 {W : WF} {G : GG} (hW : WOK G W) {L : List (Nat × Value)} {st : List Value} {h : HM} {o : Option Nat} {k n : Nat} {Q : XQ} (hx : exB W G m_M_isMonitored Q (exF W G m_M_isMonitored Q T_M_isMonitored 40) [(.aload_n 0, 1, 0, 0, 0, 0), (.aload_n 0, 1, 0, 0, 0, 0), (.iload_n 1, 1, 0, 0, 0, 0), (.invokevirtual 307, 3, 221, 0, 1, 11), (.invokevirtual 78, 3, 181, 0, 1, 11), (.ifCond .eq 15, 3, 24, 0, 0, 0), (.aload_n 0, 1, 0, 0, 0, 0), (.iload_n 1, 1, 0, 0, 0, 0), (.invokevirtual 197, 3, 227, 0, 1, 11), (.ifCond .eq 7, 3, 24, 0, 0, 0), (.iconst 1, 1, 0, 0, 0, 0), (.goto 4, 3, 25, 0, 0, 0)] 0 L st h o k n) : EX G m_M_isMonitored 0 L st h o k n Q := exB_ok hW (fun q L st h o k n hq => exF_ok hW T_M_isMonitored_ok hq) (by decide +kernel) hx
theorem O_M_isMonitored_M_goes : roomOK m_M_isMonitored m_M_goes 0 0 = true := by decide +kernel
theorem O_M_isMonitored_M_isDoor : roomOK m_M_isMonitored m_M_isDoor 0 0 = true := by decide +kernel
theorem O_M_isMonitored_M_isHeard : roomOK m_M_isMonitored m_M_isHeard 0 0 = true := by decide +kernel
def B_M_doorBetween_21 : List OPX := [(.iconst 0, 1, 0, 0, 0, 0), (.invokevirtual 78, 3, 181, 0, 1, 11), (.ifCond .eq 12, 3, 37, 0, 0, 0), (.aload_n 0, 1, 0, 0, 0, 0), (.iload_n 1, 1, 0, 0, 0, 0), (.iload_n 2, 1, 0, 0, 0, 0), (.invokevirtual 172, 3, 222, 0, 2, 11), (.goto 4, 3, 38, 0, 0, 0)]
def B_M_doorBetween_22 : List OPX := [(.invokevirtual 78, 3, 181, 0, 1, 11), (.ifCond .eq 12, 3, 37, 0, 0, 0), (.aload_n 0, 1, 0, 0, 0, 0), (.iload_n 1, 1, 0, 0, 0, 0), (.iload_n 2, 1, 0, 0, 0, 0), (.invokevirtual 172, 3, 222, 0, 2, 11), (.goto 4, 3, 38, 0, 0, 0)]
def B_M_doorBetween_37 : List OPX := [(.iconst 0, 1, 0, 0, 0, 0), (.ireturn, 1, 0, 0, 0, 0)]
def B_M_doorBetween_38 : List OPX := [(.ireturn, 1, 0, 0, 0, 0)]
def T_M_doorBetween : Nat → Option (List OPX) := tbL [(21, B_M_doorBetween_21), (22, B_M_doorBetween_22), (37, B_M_doorBetween_37), (38, B_M_doorBetween_38)]
theorem T_M_doorBetween_ok : ∀ pc t, T_M_doorBetween pc = some t → chkB m_M_doorBetween pc t = true := tbL_ok (by decide +kernel)
theorem T_M_doorBetween_21 : T_M_doorBetween 21 = some [(.iconst 0, 1, 0, 0, 0, 0), (.invokevirtual 78, 3, 181, 0, 1, 11), (.ifCond .eq 12, 3, 37, 0, 0, 0), (.aload_n 0, 1, 0, 0, 0, 0), (.iload_n 1, 1, 0, 0, 0, 0), (.iload_n 2, 1, 0, 0, 0, 0), (.invokevirtual 172, 3, 222, 0, 2, 11), (.goto 4, 3, 38, 0, 0, 0)] := rfl
theorem T_M_doorBetween_22 : T_M_doorBetween 22 = some [(.invokevirtual 78, 3, 181, 0, 1, 11), (.ifCond .eq 12, 3, 37, 0, 0, 0), (.aload_n 0, 1, 0, 0, 0, 0), (.iload_n 1, 1, 0, 0, 0, 0), (.iload_n 2, 1, 0, 0, 0, 0), (.invokevirtual 172, 3, 222, 0, 2, 11), (.goto 4, 3, 38, 0, 0, 0)] := rfl
theorem T_M_doorBetween_37 : T_M_doorBetween 37 = some [(.iconst 0, 1, 0, 0, 0, 0), (.ireturn, 1, 0, 0, 0, 0)] := rfl
theorem T_M_doorBetween_38 : T_M_doorBetween 38 = some [(.ireturn, 1, 0, 0, 0, 0)] := rfl
theorem X_M_doorBetween_0 {W : WF} {G : GG} (hW : WOK G W) {L : List (Nat × Value)} {st : List Value} {h : HM} {o : Option Nat} {k n : Nat} {Q : XQ} (hx : exB W G m_M_doorBetween Q (exF W G m_M_doorBetween Q T_M_doorBetween 40) [(.aload_n 0, 1, 0, 0, 0, 0), (.aload_n 0, 1, 0, 0, 0, 0), (.iload_n 1, 1, 0, 0, 0, 0), (.invokevirtual 295, 3, 220, 0, 1, 11), (.ifCond .eq 15, 3, 21, 0, 0, 0), (.aload_n 0, 1, 0, 0, 0, 0), (.iload_n 2, 1, 0, 0, 0, 0), (.invokevirtual 295, 3, 220, 0, 1, 11), (.ifCond .eq 7, 3, 21, 0, 0, 0), (.iconst 1, 1, 0, 0, 0, 0), (.goto 4, 3, 22, 0, 0, 0)] 0 L st h o k n) : EX G m_M_doorBetween 0 L st h o k n Q := exB_ok hW (fun q L st h o k n hq => exF_ok hW T_M_doorBetween_ok hq) (by decide +kernel) hx
theorem O_M_doorBetween_M_goes : roomOK m_M_doorBetween m_M_goes 0 0 = true := by decide +kernel
theorem O_M_doorBetween_M_isRoom : roomOK m_M_doorBetween m_M_isRoom 0 0 = true := by decide +kernel
theorem O_M_doorBetween_M_between : roomOK m_M_doorBetween m_M_between 0 0 = true := by decide +kernel
def T_M_pair : Nat → Option (List OPX) := tbL []
theorem T_M_pair_ok : ∀ pc t, T_M_pair pc = some t → chkB m_M_pair pc t = true := tbL_ok (by decide +kernel)
theorem X_M_pair_0 {W : WF} {G : GG} (hW : WOK G W) {L : List (Nat × Value)} {st : List Value} {h : HM} {o : Option Nat} {k n : Nat} {Q : XQ} (hx : exB W G m_M_pair Q (exF W G m_M_pair Q T_M_pair 40) [(.bipush 12, 2, 0, 0, 0, 0), (.iload_n 0, 1, 0, 0, 0, 0), (.imul, 1, 0, 0, 0, 0), (.iload_n 1, 1, 0, 0, 0, 0), (.iadd, 1, 0, 0, 0, 0), (.ireturn, 1, 0, 0, 0, 0)] 0 L st h o k n) : EX G m_M_pair 0 L st h o k n Q := exB_ok hW (fun q L st h o k n hq => exF_ok hW T_M_pair_ok hq) (by decide +kernel) hx
def B_M_laysPaths_44 : List OPX := [(.sipush 9999, 3, 0, 0, 0, 0), (.iastore, 1, 0, 0, 0, 0), (.iinc 3 1, 3, 0, 0, 0, 0), (.goto (-36), 3, 15, 0, 0, 0)]
def B_M_laysPaths_47 : List OPX := [(.iastore, 1, 0, 0, 0, 0), (.iinc 3 1, 3, 0, 0, 0, 0), (.goto (-36), 3, 15, 0, 0, 0)]
def B_M_laysPaths_54 : List OPX := [(.iinc 2 1, 3, 0, 0, 0, 0), (.goto (-55), 3, 2, 0, 0, 0)]
def B_M_laysPaths_60 : List OPX := [(.iconst 0, 1, 0, 0, 0, 0), (.istore_n 2, 1, 0, 0, 0, 0)]
def B_M_laysPaths_90 : List OPX := [(.aload_n 0, 1, 0, 0, 0, 0), (.getfield 41, 3, 11, 22, 0, 0), (.aload_n 0, 1, 0, 0, 0, 0), (.iload_n 2, 1, 0, 0, 0, 0), (.iconst 0, 1, 0, 0, 0, 0), (.invokevirtual 169, 3, 219, 0, 2, 11), (.aload_n 0, 1, 0, 0, 0, 0), (.iload_n 2, 1, 0, 0, 0, 0), (.iconst 1, 1, 0, 0, 0, 0), (.invokevirtual 169, 3, 219, 0, 2, 11), (.invokestatic 463, 3, 324, 0, 2, 0), (.aload_n 0, 1, 0, 0, 0, 0), (.iload_n 2, 1, 0, 0, 0, 0), (.iconst 2, 1, 0, 0, 0, 0), (.invokevirtual 169, 3, 219, 0, 2, 11), (.iastore, 1, 0, 0, 0, 0), (.aload_n 0, 1, 0, 0, 0, 0), (.getfield 41, 3, 11, 22, 0, 0), (.aload_n 0, 1, 0, 0, 0, 0), (.iload_n 2, 1, 0, 0, 0, 0), (.iconst 1, 1, 0, 0, 0, 0), (.invokevirtual 169, 3, 219, 0, 2, 11), (.aload_n 0, 1, 0, 0, 0, 0), (.iload_n 2, 1, 0, 0, 0, 0), (.iconst 0, 1, 0, 0, 0, 0), (.invokevirtual 169, 3, 219, 0, 2, 11), (.invokestatic 463, 3, 324, 0, 2, 0), (.aload_n 0, 1, 0, 0, 0, 0), (.iload_n 2, 1, 0, 0, 0, 0), (.iconst 2, 1, 0, 0, 0, 0), (.invokevirtual 169, 3, 219, 0, 2, 11), (.iastore, 1, 0, 0, 0, 0), (.iinc 2 1, 3, 0, 0, 0, 0), (.goto (-83), 3, 62, 0, 0, 0)]
def B_M_laysPaths_142 : List OPX := [(.iinc 2 1, 3, 0, 0, 0, 0), (.goto (-83), 3, 62, 0, 0, 0)]
def B_M_laysPaths_148 : List OPX := [(.iconst 0, 1, 0, 0, 0, 0), (.istore_n 2, 1, 0, 0, 0, 0)]
def B_M_laysPaths_203 : List OPX := [(.iinc 3 1, 3, 0, 0, 0, 0), (.goto (-43), 3, 163, 0, 0, 0)]
def B_M_laysPaths_209 : List OPX := [(.iinc 2 1, 3, 0, 0, 0, 0), (.goto (-62), 3, 150, 0, 0, 0)]
def B_M_laysPaths_215 : List OPX := [(.return_, 1, 0, 0, 0, 0)]
def T_M_laysPaths : Nat → Option (List OPX) := tbL [(44, B_M_laysPaths_44), (47, B_M_laysPaths_47), (54, B_M_laysPaths_54), (60, B_M_laysPaths_60), (90, B_M_laysPaths_90), (142, B_M_laysPaths_142), (148, B_M_laysPaths_148), (203, B_M_laysPaths_203), (209, B_M_laysPaths_209), (215, B_M_laysPaths_215)]
theorem T_M_laysPaths_ok : ∀ pc t, T_M_laysPaths pc = some t → chkB m_M_laysPaths pc t = true := tbL_ok (by decide +kernel)
theorem T_M_laysPaths_44 : T_M_laysPaths 44 = some [(.sipush 9999, 3, 0, 0, 0, 0), (.iastore, 1, 0, 0, 0, 0), (.iinc 3 1, 3, 0, 0, 0, 0), (.goto (-36), 3, 15, 0, 0, 0)] := rfl
theorem T_M_laysPaths_47 : T_M_laysPaths 47 = some [(.iastore, 1, 0, 0, 0, 0), (.iinc 3 1, 3, 0, 0, 0, 0), (.goto (-36), 3, 15, 0, 0, 0)] := rfl
theorem T_M_laysPaths_54 : T_M_laysPaths 54 = some [(.iinc 2 1, 3, 0, 0, 0, 0), (.goto (-55), 3, 2, 0, 0, 0)] := rfl
theorem T_M_laysPaths_60 : T_M_laysPaths 60 = some [(.iconst 0, 1, 0, 0, 0, 0), (.istore_n 2, 1, 0, 0, 0, 0)] := rfl
theorem T_M_laysPaths_90 : T_M_laysPaths 90 = some [(.aload_n 0, 1, 0, 0, 0, 0), (.getfield 41, 3, 11, 22, 0, 0), (.aload_n 0, 1, 0, 0, 0, 0), (.iload_n 2, 1, 0, 0, 0, 0), (.iconst 0, 1, 0, 0, 0, 0), (.invokevirtual 169, 3, 219, 0, 2, 11), (.aload_n 0, 1, 0, 0, 0, 0), (.iload_n 2, 1, 0, 0, 0, 0), (.iconst 1, 1, 0, 0, 0, 0), (.invokevirtual 169, 3, 219, 0, 2, 11), (.invokestatic 463, 3, 324, 0, 2, 0), (.aload_n 0, 1, 0, 0, 0, 0), (.iload_n 2, 1, 0, 0, 0, 0), (.iconst 2, 1, 0, 0, 0, 0), (.invokevirtual 169, 3, 219, 0, 2, 11), (.iastore, 1, 0, 0, 0, 0), (.aload_n 0, 1, 0, 0, 0, 0), (.getfield 41, 3, 11, 22, 0, 0), (.aload_n 0, 1, 0, 0, 0, 0), (.iload_n 2, 1, 0, 0, 0, 0), (.iconst 1, 1, 0, 0, 0, 0), (.invokevirtual 169, 3, 219, 0, 2, 11), (.aload_n 0, 1, 0, 0, 0, 0), (.iload_n 2, 1, 0, 0, 0, 0), (.iconst 0, 1, 0, 0, 0, 0), (.invokevirtual 169, 3, 219, 0, 2, 11), (.invokestatic 463, 3, 324, 0, 2, 0), (.aload_n 0, 1, 0, 0, 0, 0), (.iload_n 2, 1, 0, 0, 0, 0), (.iconst 2, 1, 0, 0, 0, 0), (.invokevirtual 169, 3, 219, 0, 2, 11), (.iastore, 1, 0, 0, 0, 0), (.iinc 2 1, 3, 0, 0, 0, 0), (.goto (-83), 3, 62, 0, 0, 0)] := rfl
theorem T_M_laysPaths_142 : T_M_laysPaths 142 = some [(.iinc 2 1, 3, 0, 0, 0, 0), (.goto (-83), 3, 62, 0, 0, 0)] := rfl
theorem T_M_laysPaths_148 : T_M_laysPaths 148 = some [(.iconst 0, 1, 0, 0, 0, 0), (.istore_n 2, 1, 0, 0, 0, 0)] := rfl
theorem T_M_laysPaths_203 : T_M_laysPaths 203 = some [(.iinc 3 1, 3, 0, 0, 0, 0), (.goto (-43), 3, 163, 0, 0, 0)] := rfl
theorem T_M_laysPaths_209 : T_M_laysPaths 209 = some [(.iinc 2 1, 3, 0, 0, 0, 0), (.goto (-62), 3, 150, 0, 0, 0)] := rfl
theorem T_M_laysPaths_215 : T_M_laysPaths 215 = some [(.return_, 1, 0, 0, 0, 0)] := rfl
theorem T_M_laysPaths_2 : T_M_laysPaths 2 = none := rfl
theorem T_M_laysPaths_15 : T_M_laysPaths 15 = none := rfl
theorem T_M_laysPaths_62 : T_M_laysPaths 62 = none := rfl
theorem T_M_laysPaths_150 : T_M_laysPaths 150 = none := rfl
theorem T_M_laysPaths_163 : T_M_laysPaths 163 = none := rfl
theorem T_M_laysPaths_177 : T_M_laysPaths 177 = none := rfl
theorem X_M_laysPaths_0 {W : WF} {G : GG} (hW : WOK G W) {L : List (Nat × Value)} {st : List Value} {h : HM} {o : Option Nat} {k n : Nat} {Q : XQ} (hx : exB W G m_M_laysPaths Q (exF W G m_M_laysPaths Q T_M_laysPaths 40) [(.iconst 0, 1, 0, 0, 0, 0), (.istore_n 2, 1, 0, 0, 0, 0)] 0 L st h o k n) : EX G m_M_laysPaths 0 L st h o k n Q := exB_ok hW (fun q L st h o k n hq => exF_ok hW T_M_laysPaths_ok hq) (by decide +kernel) hx
theorem X_M_laysPaths_2 {W : WF} {G : GG} (hW : WOK G W) {L : List (Nat × Value)} {st : List Value} {h : HM} {o : Option Nat} {k n : Nat} {Q : XQ} (hx : exB W G m_M_laysPaths Q (exF W G m_M_laysPaths Q T_M_laysPaths 40) [(.iload_n 2, 1, 0, 0, 0, 0), (.aload_n 0, 1, 0, 0, 0, 0), (.getfield 20, 3, 11, 13, 0, 0), (.bipush 9, 2, 0, 0, 0, 0), (.iaload, 1, 0, 0, 0, 0), (.if_icmp .ge 50, 3, 60, 0, 0, 0), (.iconst 0, 1, 0, 0, 0, 0), (.istore_n 3, 1, 0, 0, 0, 0)] 2 L st h o k n) : EX G m_M_laysPaths 2 L st h o k n Q := exB_ok hW (fun q L st h o k n hq => exF_ok hW T_M_laysPaths_ok hq) (by decide +kernel) hx
theorem X_M_laysPaths_15 {W : WF} {G : GG} (hW : WOK G W) {L : List (Nat × Value)} {st : List Value} {h : HM} {o : Option Nat} {k n : Nat} {Q : XQ} (hx : exB W G m_M_laysPaths Q (exF W G m_M_laysPaths Q T_M_laysPaths 40) [(.iload_n 3, 1, 0, 0, 0, 0), (.aload_n 0, 1, 0, 0, 0, 0), (.getfield 20, 3, 11, 13, 0, 0), (.bipush 9, 2, 0, 0, 0, 0), (.iaload, 1, 0, 0, 0, 0), (.if_icmp .ge 31, 3, 54, 0, 0, 0), (.aload_n 0, 1, 0, 0, 0, 0), (.getfield 41, 3, 11, 22, 0, 0), (.iload_n 2, 1, 0, 0, 0, 0), (.iload_n 3, 1, 0, 0, 0, 0), (.invokestatic 463, 3, 324, 0, 2, 0), (.iload_n 2, 1, 0, 0, 0, 0), (.iload_n 3, 1, 0, 0, 0, 0), (.if_icmp .ne 7, 3, 44, 0, 0, 0), (.iconst 0, 1, 0, 0, 0, 0), (.goto 6, 3, 47, 0, 0, 0)] 15 L st h o k n) : EX G m_M_laysPaths 15 L st h o k n Q := exB_ok hW (fun q L st h o k n hq => exF_ok hW T_M_laysPaths_ok hq) (by decide +kernel) hx
theorem X_M_laysPaths_62 {W : WF} {G : GG} (hW : WOK G W) {L : List (Nat × Value)} {st : List Value} {h : HM} {o : Option Nat} {k n : Nat} {Q : XQ} (hx : exB W G m_M_laysPaths Q (exF W G m_M_laysPaths Q T_M_laysPaths 40) [(.iload_n 2, 1, 0, 0, 0, 0), (.aload_n 0, 1, 0, 0, 0, 0), (.getfield 20, 3, 11, 13, 0, 0), (.bipush 10, 2, 0, 0, 0, 0), (.iaload, 1, 0, 0, 0, 0), (.if_icmp .ge 78, 3, 148, 0, 0, 0), (.iload_n 2, 1, 0, 0, 0, 0), (.iload_n 1, 1, 0, 0, 0, 0), (.if_icmp .eq 67, 3, 142, 0, 0, 0), (.aload_n 0, 1, 0, 0, 0, 0), (.iload_n 2, 1, 0, 0, 0, 0), (.iconst 3, 1, 0, 0, 0, 0), (.invokevirtual 169, 3, 219, 0, 2, 11), (.ifCond .ne 6, 3, 90, 0, 0, 0), (.goto 55, 3, 142, 0, 0, 0)] 62 L st h o k n) : EX G m_M_laysPaths 62 L st h o k n Q := exB_ok hW (fun q L st h o k n hq => exF_ok hW T_M_laysPaths_ok hq) (by decide +kernel) hx
theorem X_M_laysPaths_150 {W : WF} {G : GG} (hW : WOK G W) {L : List (Nat × Value)} {st : List Value} {h : HM} {o : Option Nat} {k n : Nat} {Q : XQ} (hx : exB W G m_M_laysPaths Q (exF W G m_M_laysPaths Q T_M_laysPaths 40) [(.iload_n 2, 1, 0, 0, 0, 0), (.aload_n 0, 1, 0, 0, 0, 0), (.getfield 20, 3, 11, 13, 0, 0), (.bipush 9, 2, 0, 0, 0, 0), (.iaload, 1, 0, 0, 0, 0), (.if_icmp .ge 57, 3, 215, 0, 0, 0), (.iconst 0, 1, 0, 0, 0, 0), (.istore_n 3, 1, 0, 0, 0, 0)] 150 L st h o k n) : EX G m_M_laysPaths 150 L st h o k n Q := exB_ok hW (fun q L st h o k n hq => exF_ok hW T_M_laysPaths_ok hq) (by decide +kernel) hx
theorem X_M_laysPaths_163 {W : WF} {G : GG} (hW : WOK G W) {L : List (Nat × Value)} {st : List Value} {h : HM} {o : Option Nat} {k n : Nat} {Q : XQ} (hx : exB W G m_M_laysPaths Q (exF W G m_M_laysPaths Q T_M_laysPaths 40) [(.iload_n 3, 1, 0, 0, 0, 0), (.aload_n 0, 1, 0, 0, 0, 0), (.getfield 20, 3, 11, 13, 0, 0), (.bipush 9, 2, 0, 0, 0, 0), (.iaload, 1, 0, 0, 0, 0), (.if_icmp .ge 38, 3, 209, 0, 0, 0), (.iconst 0, 1, 0, 0, 0, 0), (.istore 4, 2, 0, 0, 0, 0)] 163 L st h o k n) : EX G m_M_laysPaths 163 L st h o k n Q := exB_ok hW (fun q L st h o k n hq => exF_ok hW T_M_laysPaths_ok hq) (by decide +kernel) hx
theorem X_M_laysPaths_177 {W : WF} {G : GG} (hW : WOK G W) {L : List (Nat × Value)} {st : List Value} {h : HM} {o : Option Nat} {k n : Nat} {Q : XQ} (hx : exB W G m_M_laysPaths Q (exF W G m_M_laysPaths Q T_M_laysPaths 40) [(.iload 4, 2, 0, 0, 0, 0), (.aload_n 0, 1, 0, 0, 0, 0), (.getfield 20, 3, 11, 13, 0, 0), (.bipush 9, 2, 0, 0, 0, 0), (.iaload, 1, 0, 0, 0, 0), (.if_icmp .ge 17, 3, 203, 0, 0, 0), (.aload_n 0, 1, 0, 0, 0, 0), (.iload_n 2, 1, 0, 0, 0, 0), (.iload_n 3, 1, 0, 0, 0, 0), (.iload 4, 2, 0, 0, 0, 0), (.invokevirtual 466, 3, 326, 0, 3, 11), (.iinc 4 1, 3, 0, 0, 0, 0), (.goto (-23), 3, 177, 0, 0, 0)] 177 L st h o k n) : EX G m_M_laysPaths 177 L st h o k n Q := exB_ok hW (fun q L st h o k n hq => exF_ok hW T_M_laysPaths_ok hq) (by decide +kernel) hx
theorem O_M_laysPaths_M_ofDoor : roomOK m_M_laysPaths m_M_ofDoor 0 0 = true := by decide +kernel
theorem O_M_laysPaths_M_pair : roomOK m_M_laysPaths m_M_pair 0 0 = true := by decide +kernel
theorem O_M_laysPaths_M_shortens : roomOK m_M_laysPaths m_M_shortens 0 0 = true := by decide +kernel
def B_M_shortens_50 : List OPX := [(.return_, 1, 0, 0, 0, 0)]
def T_M_shortens : Nat → Option (List OPX) := tbL [(50, B_M_shortens_50)]
theorem T_M_shortens_ok : ∀ pc t, T_M_shortens pc = some t → chkB m_M_shortens pc t = true := tbL_ok (by decide +kernel)
theorem T_M_shortens_50 : T_M_shortens 50 = some [(.return_, 1, 0, 0, 0, 0)] := rfl
theorem X_M_shortens_0 {W : WF} {G : GG} (hW : WOK G W) {L : List (Nat × Value)} {st : List Value} {h : HM} {o : Option Nat} {k n : Nat} {Q : XQ} (hx : exB W G m_M_shortens Q (exF W G m_M_shortens Q T_M_shortens 40) [(.aload_n 0, 1, 0, 0, 0, 0), (.getfield 41, 3, 11, 22, 0, 0), (.iload_n 2, 1, 0, 0, 0, 0), (.iload_n 1, 1, 0, 0, 0, 0), (.invokestatic 463, 3, 324, 0, 2, 0), (.iaload, 1, 0, 0, 0, 0), (.aload_n 0, 1, 0, 0, 0, 0), (.getfield 41, 3, 11, 22, 0, 0), (.iload_n 1, 1, 0, 0, 0, 0), (.iload_n 3, 1, 0, 0, 0, 0), (.invokestatic 463, 3, 324, 0, 2, 0), (.iaload, 1, 0, 0, 0, 0), (.iadd, 1, 0, 0, 0, 0), (.istore 4, 2, 0, 0, 0, 0), (.iload 4, 2, 0, 0, 0, 0), (.aload_n 0, 1, 0, 0, 0, 0), (.getfield 41, 3, 11, 22, 0, 0), (.iload_n 2, 1, 0, 0, 0, 0), (.iload_n 3, 1, 0, 0, 0, 0), (.invokestatic 463, 3, 324, 0, 2, 0), (.iaload, 1, 0, 0, 0, 0), (.if_icmp .ge 15, 3, 50, 0, 0, 0), (.aload_n 0, 1, 0, 0, 0, 0), (.getfield 41, 3, 11, 22, 0, 0), (.iload_n 2, 1, 0, 0, 0, 0), (.iload_n 3, 1, 0, 0, 0, 0), (.invokestatic 463, 3, 324, 0, 2, 0), (.iload 4, 2, 0, 0, 0, 0), (.iastore, 1, 0, 0, 0, 0), (.return_, 1, 0, 0, 0, 0)] 0 L st h o k n) : EX G m_M_shortens 0 L st h o k n Q := exB_ok hW (fun q L st h o k n hq => exF_ok hW T_M_shortens_ok hq) (by decide +kernel) hx
theorem O_M_shortens_M_pair : roomOK m_M_shortens m_M_pair 0 0 = true := by decide +kernel
def B_M_pathTold_27 : List OPX := [(.iload_n 3, 1, 0, 0, 0, 0), (.ireturn, 1, 0, 0, 0, 0)]
def B_M_pathTold_28 : List OPX := [(.ireturn, 1, 0, 0, 0, 0)]
def T_M_pathTold : Nat → Option (List OPX) := tbL [(27, B_M_pathTold_27), (28, B_M_pathTold_28)]
theorem T_M_pathTold_ok : ∀ pc t, T_M_pathTold pc = some t → chkB m_M_pathTold pc t = true := tbL_ok (by decide +kernel)
theorem T_M_pathTold_27 : T_M_pathTold 27 = some [(.iload_n 3, 1, 0, 0, 0, 0), (.ireturn, 1, 0, 0, 0, 0)] := rfl
theorem T_M_pathTold_28 : T_M_pathTold 28 = some [(.ireturn, 1, 0, 0, 0, 0)] := rfl
theorem X_M_pathTold_0 {W : WF} {G : GG} (hW : WOK G W) {L : List (Nat × Value)} {st : List Value} {h : HM} {o : Option Nat} {k n : Nat} {Q : XQ} (hx : exB W G m_M_pathTold Q (exF W G m_M_pathTold Q T_M_pathTold 40) [(.aload_n 0, 1, 0, 0, 0, 0), (.iconst (-1), 1, 0, 0, 0, 0), (.invokevirtual 469, 3, 325, 0, 1, 11), (.aload_n 0, 1, 0, 0, 0, 0), (.getfield 41, 3, 11, 22, 0, 0), (.iload_n 1, 1, 0, 0, 0, 0), (.iload_n 2, 1, 0, 0, 0, 0), (.invokestatic 463, 3, 324, 0, 2, 0), (.iaload, 1, 0, 0, 0, 0), (.istore_n 3, 1, 0, 0, 0, 0), (.iload_n 3, 1, 0, 0, 0, 0), (.sipush 9999, 3, 0, 0, 0, 0), (.if_icmp .lt 7, 3, 27, 0, 0, 0), (.iconst (-1), 1, 0, 0, 0, 0), (.goto 4, 3, 28, 0, 0, 0)] 0 L st h o k n) : EX G m_M_pathTold 0 L st h o k n Q := exB_ok hW (fun q L st h o k n hq => exF_ok hW T_M_pathTold_ok hq) (by decide +kernel) hx
theorem O_M_pathTold_M_pair : roomOK m_M_pathTold m_M_pair 0 0 = true := by decide +kernel
theorem O_M_pathTold_M_laysPaths : roomOK m_M_pathTold m_M_laysPaths 0 0 = true := by decide +kernel
def B_M_quietestPath_21 : List OPX := [(.iconst 0, 1, 0, 0, 0, 0), (.invokevirtual 78, 3, 181, 0, 1, 11), (.ifCond .eq 12, 3, 37, 0, 0, 0), (.aload_n 0, 1, 0, 0, 0, 0), (.iload_n 1, 1, 0, 0, 0, 0), (.iload_n 2, 1, 0, 0, 0, 0), (.invokevirtual 472, 3, 327, 0, 2, 11), (.goto 4, 3, 38, 0, 0, 0)]
def B_M_quietestPath_22 : List OPX := [(.invokevirtual 78, 3, 181, 0, 1, 11), (.ifCond .eq 12, 3, 37, 0, 0, 0), (.aload_n 0, 1, 0, 0, 0, 0), (.iload_n 1, 1, 0, 0, 0, 0), (.iload_n 2, 1, 0, 0, 0, 0), (.invokevirtual 472, 3, 327, 0, 2, 11), (.goto 4, 3, 38, 0, 0, 0)]
def B_M_quietestPath_37 : List OPX := [(.iconst 0, 1, 0, 0, 0, 0), (.ireturn, 1, 0, 0, 0, 0)]
def B_M_quietestPath_38 : List OPX := [(.ireturn, 1, 0, 0, 0, 0)]
def T_M_quietestPath : Nat → Option (List OPX) := tbL [(21, B_M_quietestPath_21), (22, B_M_quietestPath_22), (37, B_M_quietestPath_37), (38, B_M_quietestPath_38)]
theorem T_M_quietestPath_ok : ∀ pc t, T_M_quietestPath pc = some t → chkB m_M_quietestPath pc t = true := tbL_ok (by decide +kernel)
theorem T_M_quietestPath_21 : T_M_quietestPath 21 = some [(.iconst 0, 1, 0, 0, 0, 0), (.invokevirtual 78, 3, 181, 0, 1, 11), (.ifCond .eq 12, 3, 37, 0, 0, 0), (.aload_n 0, 1, 0, 0, 0, 0), (.iload_n 1, 1, 0, 0, 0, 0), (.iload_n 2, 1, 0, 0, 0, 0), (.invokevirtual 472, 3, 327, 0, 2, 11), (.goto 4, 3, 38, 0, 0, 0)] := rfl
theorem T_M_quietestPath_22 : T_M_quietestPath 22 = some [(.invokevirtual 78, 3, 181, 0, 1, 11), (.ifCond .eq 12, 3, 37, 0, 0, 0), (.aload_n 0, 1, 0, 0, 0, 0), (.iload_n 1, 1, 0, 0, 0, 0), (.iload_n 2, 1, 0, 0, 0, 0), (.invokevirtual 472, 3, 327, 0, 2, 11), (.goto 4, 3, 38, 0, 0, 0)] := rfl
theorem T_M_quietestPath_37 : T_M_quietestPath 37 = some [(.iconst 0, 1, 0, 0, 0, 0), (.ireturn, 1, 0, 0, 0, 0)] := rfl
theorem T_M_quietestPath_38 : T_M_quietestPath 38 = some [(.ireturn, 1, 0, 0, 0, 0)] := rfl
theorem X_M_quietestPath_0 {W : WF} {G : GG} (hW : WOK G W) {L : List (Nat × Value)} {st : List Value} {h : HM} {o : Option Nat} {k n : Nat} {Q : XQ} (hx : exB W G m_M_quietestPath Q (exF W G m_M_quietestPath Q T_M_quietestPath 40) [(.aload_n 0, 1, 0, 0, 0, 0), (.aload_n 0, 1, 0, 0, 0, 0), (.iload_n 1, 1, 0, 0, 0, 0), (.invokevirtual 295, 3, 220, 0, 1, 11), (.ifCond .eq 15, 3, 21, 0, 0, 0), (.aload_n 0, 1, 0, 0, 0, 0), (.iload_n 2, 1, 0, 0, 0, 0), (.invokevirtual 295, 3, 220, 0, 1, 11), (.ifCond .eq 7, 3, 21, 0, 0, 0), (.iconst 1, 1, 0, 0, 0, 0), (.goto 4, 3, 22, 0, 0, 0)] 0 L st h o k n) : EX G m_M_quietestPath 0 L st h o k n Q := exB_ok hW (fun q L st h o k n hq => exF_ok hW T_M_quietestPath_ok hq) (by decide +kernel) hx
theorem O_M_quietestPath_M_goes : roomOK m_M_quietestPath m_M_goes 0 0 = true := by decide +kernel
theorem O_M_quietestPath_M_isRoom : roomOK m_M_quietestPath m_M_isRoom 0 0 = true := by decide +kernel
theorem O_M_quietestPath_M_pathTold : roomOK m_M_quietestPath m_M_pathTold 0 0 = true := by decide +kernel
def B_M_exclusionReason_22 : List OPX := [(.iconst 0, 1, 0, 0, 0, 0), (.ireturn, 1, 0, 0, 0, 0)]
def B_M_exclusionReason_23 : List OPX := [(.ireturn, 1, 0, 0, 0, 0)]
def T_M_exclusionReason : Nat → Option (List OPX) := tbL [(22, B_M_exclusionReason_22), (23, B_M_exclusionReason_23)]
theorem T_M_exclusionReason_ok : ∀ pc t, T_M_exclusionReason pc = some t → chkB m_M_exclusionReason pc t = true := tbL_ok (by decide +kernel)
theorem T_M_exclusionReason_22 : T_M_exclusionReason 22 = some [(.iconst 0, 1, 0, 0, 0, 0), (.ireturn, 1, 0, 0, 0, 0)] := rfl
theorem T_M_exclusionReason_23 : T_M_exclusionReason 23 = some [(.ireturn, 1, 0, 0, 0, 0)] := rfl
theorem X_M_exclusionReason_0 {W : WF} {G : GG} (hW : WOK G W) {L : List (Nat × Value)} {st : List Value} {h : HM} {o : Option Nat} {k n : Nat} {Q : XQ} (hx : exB W G m_M_exclusionReason Q (exF W G m_M_exclusionReason Q T_M_exclusionReason 40) [(.aload_n 0, 1, 0, 0, 0, 0), (.aload_n 0, 1, 0, 0, 0, 0), (.iload_n 1, 1, 0, 0, 0, 0), (.invokevirtual 295, 3, 220, 0, 1, 11), (.invokevirtual 78, 3, 181, 0, 1, 11), (.ifCond .eq 13, 3, 22, 0, 0, 0), (.aload_n 0, 1, 0, 0, 0, 0), (.iload_n 1, 1, 0, 0, 0, 0), (.bipush 6, 2, 0, 0, 0, 0), (.invokevirtual 179, 3, 216, 0, 2, 11), (.goto 4, 3, 23, 0, 0, 0)] 0 L st h o k n) : EX G m_M_exclusionReason 0 L st h o k n Q := exB_ok hW (fun q L st h o k n hq => exF_ok hW T_M_exclusionReason_ok hq) (by decide +kernel) hx
theorem O_M_exclusionReason_M_goes : roomOK m_M_exclusionReason m_M_goes 0 0 = true := by decide +kernel
theorem O_M_exclusionReason_M_of : roomOK m_M_exclusionReason m_M_of 0 0 = true := by decide +kernel
theorem O_M_exclusionReason_M_isRoom : roomOK m_M_exclusionReason m_M_isRoom 0 0 = true := by decide +kernel
def B_M_exclusionEvidence_22 : List OPX := [(.iconst 0, 1, 0, 0, 0, 0), (.ireturn, 1, 0, 0, 0, 0)]
def B_M_exclusionEvidence_23 : List OPX := [(.ireturn, 1, 0, 0, 0, 0)]
def T_M_exclusionEvidence : Nat → Option (List OPX) := tbL [(22, B_M_exclusionEvidence_22), (23, B_M_exclusionEvidence_23)]
theorem T_M_exclusionEvidence_ok : ∀ pc t, T_M_exclusionEvidence pc = some t → chkB m_M_exclusionEvidence pc t = true := tbL_ok (by decide +kernel)
theorem T_M_exclusionEvidence_22 : T_M_exclusionEvidence 22 = some [(.iconst 0, 1, 0, 0, 0, 0), (.ireturn, 1, 0, 0, 0, 0)] := rfl
theorem T_M_exclusionEvidence_23 : T_M_exclusionEvidence 23 = some [(.ireturn, 1, 0, 0, 0, 0)] := rfl
theorem X_M_exclusionEvidence_0 {W : WF} {G : GG} (hW : WOK G W) {L : List (Nat × Value)} {st : List Value} {h : HM} {o : Option Nat} {k n : Nat} {Q : XQ} (hx : exB W G m_M_exclusionEvidence Q (exF W G m_M_exclusionEvidence Q T_M_exclusionEvidence 40) [(.aload_n 0, 1, 0, 0, 0, 0), (.aload_n 0, 1, 0, 0, 0, 0), (.iload_n 1, 1, 0, 0, 0, 0), (.invokevirtual 295, 3, 220, 0, 1, 11), (.invokevirtual 78, 3, 181, 0, 1, 11), (.ifCond .eq 13, 3, 22, 0, 0, 0), (.aload_n 0, 1, 0, 0, 0, 0), (.iload_n 1, 1, 0, 0, 0, 0), (.bipush 7, 2, 0, 0, 0, 0), (.invokevirtual 179, 3, 216, 0, 2, 11), (.goto 4, 3, 23, 0, 0, 0)] 0 L st h o k n) : EX G m_M_exclusionEvidence 0 L st h o k n Q := exB_ok hW (fun q L st h o k n hq => exF_ok hW T_M_exclusionEvidence_ok hq) (by decide +kernel) hx
theorem O_M_exclusionEvidence_M_goes : roomOK m_M_exclusionEvidence m_M_goes 0 0 = true := by decide +kernel
theorem O_M_exclusionEvidence_M_of : roomOK m_M_exclusionEvidence m_M_of 0 0 = true := by decide +kernel
theorem O_M_exclusionEvidence_M_isRoom : roomOK m_M_exclusionEvidence m_M_isRoom 0 0 = true := by decide +kernel
def B_M_exclusionSource_22 : List OPX := [(.iconst 0, 1, 0, 0, 0, 0), (.ireturn, 1, 0, 0, 0, 0)]
def B_M_exclusionSource_23 : List OPX := [(.ireturn, 1, 0, 0, 0, 0)]
def T_M_exclusionSource : Nat → Option (List OPX) := tbL [(22, B_M_exclusionSource_22), (23, B_M_exclusionSource_23)]
theorem T_M_exclusionSource_ok : ∀ pc t, T_M_exclusionSource pc = some t → chkB m_M_exclusionSource pc t = true := tbL_ok (by decide +kernel)
theorem T_M_exclusionSource_22 : T_M_exclusionSource 22 = some [(.iconst 0, 1, 0, 0, 0, 0), (.ireturn, 1, 0, 0, 0, 0)] := rfl
theorem T_M_exclusionSource_23 : T_M_exclusionSource 23 = some [(.ireturn, 1, 0, 0, 0, 0)] := rfl
theorem X_M_exclusionSource_0 {W : WF} {G : GG} (hW : WOK G W) {L : List (Nat × Value)} {st : List Value} {h : HM} {o : Option Nat} {k n : Nat} {Q : XQ} (hx : exB W G m_M_exclusionSource Q (exF W G m_M_exclusionSource Q T_M_exclusionSource 40) [(.aload_n 0, 1, 0, 0, 0, 0), (.aload_n 0, 1, 0, 0, 0, 0), (.iload_n 1, 1, 0, 0, 0, 0), (.invokevirtual 295, 3, 220, 0, 1, 11), (.invokevirtual 78, 3, 181, 0, 1, 11), (.ifCond .eq 13, 3, 22, 0, 0, 0), (.aload_n 0, 1, 0, 0, 0, 0), (.iload_n 1, 1, 0, 0, 0, 0), (.bipush 8, 2, 0, 0, 0, 0), (.invokevirtual 179, 3, 216, 0, 2, 11), (.goto 4, 3, 23, 0, 0, 0)] 0 L st h o k n) : EX G m_M_exclusionSource 0 L st h o k n Q := exB_ok hW (fun q L st h o k n hq => exF_ok hW T_M_exclusionSource_ok hq) (by decide +kernel) hx
theorem O_M_exclusionSource_M_goes : roomOK m_M_exclusionSource m_M_goes 0 0 = true := by decide +kernel
theorem O_M_exclusionSource_M_of : roomOK m_M_exclusionSource m_M_of 0 0 = true := by decide +kernel
theorem O_M_exclusionSource_M_isRoom : roomOK m_M_exclusionSource m_M_isRoom 0 0 = true := by decide +kernel
def B_M_violations_39 : List OPX := [(.iconst 0, 1, 0, 0, 0, 0), (.invokestatic 71, 3, 179, 0, 1, 0), (.istore_n 1, 1, 0, 0, 0, 0), (.iconst 0, 1, 0, 0, 0, 0), (.istore_n 2, 1, 0, 0, 0, 0)]
def B_M_violations_40 : List OPX := [(.invokestatic 71, 3, 179, 0, 1, 0), (.istore_n 1, 1, 0, 0, 0, 0), (.iconst 0, 1, 0, 0, 0, 0), (.istore_n 2, 1, 0, 0, 0, 0)]
def B_M_violations_92 : List OPX := [(.iconst 0, 1, 0, 0, 0, 0), (.invokestatic 71, 3, 179, 0, 1, 0), (.iadd, 1, 0, 0, 0, 0), (.istore_n 1, 1, 0, 0, 0, 0), (.iinc 3 1, 3, 0, 0, 0, 0), (.goto (-42), 3, 59, 0, 0, 0)]
def B_M_violations_93 : List OPX := [(.invokestatic 71, 3, 179, 0, 1, 0), (.iadd, 1, 0, 0, 0, 0), (.istore_n 1, 1, 0, 0, 0, 0), (.iinc 3 1, 3, 0, 0, 0, 0), (.goto (-42), 3, 59, 0, 0, 0)]
def B_M_violations_104 : List OPX := [(.iinc 2 1, 3, 0, 0, 0, 0), (.goto (-61), 3, 46, 0, 0, 0)]
def B_M_violations_110 : List OPX := [(.iload_n 1, 1, 0, 0, 0, 0), (.ireturn, 1, 0, 0, 0, 0)]
def T_M_violations : Nat → Option (List OPX) := tbL [(39, B_M_violations_39), (40, B_M_violations_40), (92, B_M_violations_92), (93, B_M_violations_93), (104, B_M_violations_104), (110, B_M_violations_110)]
theorem T_M_violations_ok : ∀ pc t, T_M_violations pc = some t → chkB m_M_violations pc t = true := tbL_ok (by decide +kernel)
theorem T_M_violations_39 : T_M_violations 39 = some [(.iconst 0, 1, 0, 0, 0, 0), (.invokestatic 71, 3, 179, 0, 1, 0), (.istore_n 1, 1, 0, 0, 0, 0), (.iconst 0, 1, 0, 0, 0, 0), (.istore_n 2, 1, 0, 0, 0, 0)] := rfl
theorem T_M_violations_40 : T_M_violations 40 = some [(.invokestatic 71, 3, 179, 0, 1, 0), (.istore_n 1, 1, 0, 0, 0, 0), (.iconst 0, 1, 0, 0, 0, 0), (.istore_n 2, 1, 0, 0, 0, 0)] := rfl
theorem T_M_violations_92 : T_M_violations 92 = some [(.iconst 0, 1, 0, 0, 0, 0), (.invokestatic 71, 3, 179, 0, 1, 0), (.iadd, 1, 0, 0, 0, 0), (.istore_n 1, 1, 0, 0, 0, 0), (.iinc 3 1, 3, 0, 0, 0, 0), (.goto (-42), 3, 59, 0, 0, 0)] := rfl
theorem T_M_violations_93 : T_M_violations 93 = some [(.invokestatic 71, 3, 179, 0, 1, 0), (.iadd, 1, 0, 0, 0, 0), (.istore_n 1, 1, 0, 0, 0, 0), (.iinc 3 1, 3, 0, 0, 0, 0), (.goto (-42), 3, 59, 0, 0, 0)] := rfl
theorem T_M_violations_104 : T_M_violations 104 = some [(.iinc 2 1, 3, 0, 0, 0, 0), (.goto (-61), 3, 46, 0, 0, 0)] := rfl
theorem T_M_violations_110 : T_M_violations 110 = some [(.iload_n 1, 1, 0, 0, 0, 0), (.ireturn, 1, 0, 0, 0, 0)] := rfl
theorem T_M_violations_46 : T_M_violations 46 = none := rfl
theorem T_M_violations_59 : T_M_violations 59 = none := rfl
theorem X_M_violations_0 {W : WF} {G : GG} (hW : WOK G W) {L : List (Nat × Value)} {st : List Value} {h : HM} {o : Option Nat} {k n : Nat} {Q : XQ} (hx : exB W G m_M_violations Q (exF W G m_M_violations Q T_M_violations 40) [(.aload_n 0, 1, 0, 0, 0, 0), (.iconst 0, 1, 0, 0, 0, 0), (.putfield 68, 3, 11, 0, 0, 0), (.aload_n 0, 1, 0, 0, 0, 0), (.iconst (-1), 1, 0, 0, 0, 0), (.invokevirtual 469, 3, 325, 0, 1, 11), (.aload_n 0, 1, 0, 0, 0, 0), (.getfield 20, 3, 11, 13, 0, 0), (.bipush 9, 2, 0, 0, 0, 0), (.iaload, 1, 0, 0, 0, 0), (.ifCond .le 22, 3, 39, 0, 0, 0), (.aload_n 0, 1, 0, 0, 0, 0), (.aload_n 0, 1, 0, 0, 0, 0), (.getfield 20, 3, 11, 13, 0, 0), (.bipush 11, 2, 0, 0, 0, 0), (.iaload, 1, 0, 0, 0, 0), (.iconst 5, 1, 0, 0, 0, 0), (.invokevirtual 179, 3, 216, 0, 2, 11), (.ifCond .ne 7, 3, 39, 0, 0, 0), (.iconst 1, 1, 0, 0, 0, 0), (.goto 4, 3, 40, 0, 0, 0)] 0 L st h o k n) : EX G m_M_violations 0 L st h o k n Q := exB_ok hW (fun q L st h o k n hq => exF_ok hW T_M_violations_ok hq) (by decide +kernel) hx
theorem X_M_violations_46 {W : WF} {G : GG} (hW : WOK G W) {L : List (Nat × Value)} {st : List Value} {h : HM} {o : Option Nat} {k n : Nat} {Q : XQ} (hx : exB W G m_M_violations Q (exF W G m_M_violations Q T_M_violations 40) [(.iload_n 2, 1, 0, 0, 0, 0), (.aload_n 0, 1, 0, 0, 0, 0), (.getfield 20, 3, 11, 13, 0, 0), (.bipush 9, 2, 0, 0, 0, 0), (.iaload, 1, 0, 0, 0, 0), (.if_icmp .ge 56, 3, 110, 0, 0, 0), (.iconst 0, 1, 0, 0, 0, 0), (.istore_n 3, 1, 0, 0, 0, 0)] 46 L st h o k n) : EX G m_M_violations 46 L st h o k n Q := exB_ok hW (fun q L st h o k n hq => exF_ok hW T_M_violations_ok hq) (by decide +kernel) hx
theorem X_M_violations_59 {W : WF} {G : GG} (hW : WOK G W) {L : List (Nat × Value)} {st : List Value} {h : HM} {o : Option Nat} {k n : Nat} {Q : XQ} (hx : exB W G m_M_violations Q (exF W G m_M_violations Q T_M_violations 40) [(.iload_n 3, 1, 0, 0, 0, 0), (.iload_n 2, 1, 0, 0, 0, 0), (.if_icmp .ge 43, 3, 104, 0, 0, 0), (.iload_n 1, 1, 0, 0, 0, 0), (.aload_n 0, 1, 0, 0, 0, 0), (.getfield 41, 3, 11, 22, 0, 0), (.iload_n 2, 1, 0, 0, 0, 0), (.iload_n 3, 1, 0, 0, 0, 0), (.invokestatic 463, 3, 324, 0, 2, 0), (.iaload, 1, 0, 0, 0, 0), (.aload_n 0, 1, 0, 0, 0, 0), (.getfield 41, 3, 11, 22, 0, 0), (.iload_n 3, 1, 0, 0, 0, 0), (.iload_n 2, 1, 0, 0, 0, 0), (.invokestatic 463, 3, 324, 0, 2, 0), (.iaload, 1, 0, 0, 0, 0), (.if_icmp .eq 7, 3, 92, 0, 0, 0), (.iconst 1, 1, 0, 0, 0, 0), (.goto 4, 3, 93, 0, 0, 0)] 59 L st h o k n) : EX G m_M_violations 59 L st h o k n Q := exB_ok hW (fun q L st h o k n hq => exF_ok hW T_M_violations_ok hq) (by decide +kernel) hx
theorem O_M_violations_M_truth : roomOK m_M_violations m_M_truth 0 0 = true := by decide +kernel
theorem O_M_violations_M_of : roomOK m_M_violations m_M_of 0 0 = true := by decide +kernel
theorem O_M_violations_M_pair : roomOK m_M_violations m_M_pair 0 0 = true := by decide +kernel
theorem O_M_violations_M_laysPaths : roomOK m_M_violations m_M_laysPaths 0 0 = true := by decide +kernel
def B_M_meanColdness_21 : List OPX := [(.aload_n 0, 1, 0, 0, 0, 0), (.iconst 2, 1, 0, 0, 0, 0), (.invokevirtual 251, 3, 247, 0, 1, 11), (.i2d, 1, 0, 0, 0, 0), (.iload_n 1, 1, 0, 0, 0, 0), (.i2d, 1, 0, 0, 0, 0), (.ddiv, 1, 0, 0, 0, 0), (.dreturn, 1, 0, 0, 0, 0)]
def B_M_meanColdness_30 : List OPX := [(.dreturn, 1, 0, 0, 0, 0)]
def T_M_meanColdness : Nat → Option (List OPX) := tbL [(21, B_M_meanColdness_21), (30, B_M_meanColdness_30)]
theorem T_M_meanColdness_ok : ∀ pc t, T_M_meanColdness pc = some t → chkB m_M_meanColdness pc t = true := tbL_ok (by decide +kernel)
theorem T_M_meanColdness_21 : T_M_meanColdness 21 = some [(.aload_n 0, 1, 0, 0, 0, 0), (.iconst 2, 1, 0, 0, 0, 0), (.invokevirtual 251, 3, 247, 0, 1, 11), (.i2d, 1, 0, 0, 0, 0), (.iload_n 1, 1, 0, 0, 0, 0), (.i2d, 1, 0, 0, 0, 0), (.ddiv, 1, 0, 0, 0, 0), (.dreturn, 1, 0, 0, 0, 0)] := rfl
theorem T_M_meanColdness_30 : T_M_meanColdness 30 = some [(.dreturn, 1, 0, 0, 0, 0)] := rfl
theorem X_M_meanColdness_0 {W : WF} {G : GG} (hW : WOK G W) {L : List (Nat × Value)} {st : List Value} {h : HM} {o : Option Nat} {k n : Nat} {Q : XQ} (hx : exB W G m_M_meanColdness Q (exF W G m_M_meanColdness Q T_M_meanColdness 40) [(.aload_n 0, 1, 0, 0, 0, 0), (.iconst 0, 1, 0, 0, 0, 0), (.putfield 68, 3, 11, 0, 0, 0), (.aload_n 0, 1, 0, 0, 0, 0), (.getfield 20, 3, 11, 13, 0, 0), (.bipush 9, 2, 0, 0, 0, 0), (.iaload, 1, 0, 0, 0, 0), (.istore_n 1, 1, 0, 0, 0, 0), (.iload_n 1, 1, 0, 0, 0, 0), (.ifCond .ne 7, 3, 21, 0, 0, 0), (.dconst 0, 1, 0, 0, 0, 0), (.goto 12, 3, 30, 0, 0, 0)] 0 L st h o k n) : EX G m_M_meanColdness 0 L st h o k n Q := exB_ok hW (fun q L st h o k n hq => exF_ok hW T_M_meanColdness_ok hq) (by decide +kernel) hx
theorem O_M_meanColdness_M_counted : roomOK m_M_meanColdness m_M_counted 0 0 = true := by decide +kernel
def B_M_possibleFraction_21 : List OPX := [(.aload_n 0, 1, 0, 0, 0, 0), (.invokevirtual 242, 3, 226, 0, 0, 11), (.invokestatic 185, 3, 225, 0, 1, 0), (.i2f, 1, 0, 0, 0, 0), (.iload_n 1, 1, 0, 0, 0, 0), (.i2f, 1, 0, 0, 0, 0), (.fdiv, 1, 0, 0, 0, 0), (.freturn, 1, 0, 0, 0, 0)]
def B_M_possibleFraction_32 : List OPX := [(.freturn, 1, 0, 0, 0, 0)]
def T_M_possibleFraction : Nat → Option (List OPX) := tbL [(21, B_M_possibleFraction_21), (32, B_M_possibleFraction_32)]
theorem T_M_possibleFraction_ok : ∀ pc t, T_M_possibleFraction pc = some t → chkB m_M_possibleFraction pc t = true := tbL_ok (by decide +kernel)
theorem T_M_possibleFraction_21 : T_M_possibleFraction 21 = some [(.aload_n 0, 1, 0, 0, 0, 0), (.invokevirtual 242, 3, 226, 0, 0, 11), (.invokestatic 185, 3, 225, 0, 1, 0), (.i2f, 1, 0, 0, 0, 0), (.iload_n 1, 1, 0, 0, 0, 0), (.i2f, 1, 0, 0, 0, 0), (.fdiv, 1, 0, 0, 0, 0), (.freturn, 1, 0, 0, 0, 0)] := rfl
theorem T_M_possibleFraction_32 : T_M_possibleFraction 32 = some [(.freturn, 1, 0, 0, 0, 0)] := rfl
theorem X_M_possibleFraction_0 {W : WF} {G : GG} (hW : WOK G W) {L : List (Nat × Value)} {st : List Value} {h : HM} {o : Option Nat} {k n : Nat} {Q : XQ} (hx : exB W G m_M_possibleFraction Q (exF W G m_M_possibleFraction Q T_M_possibleFraction 40) [(.aload_n 0, 1, 0, 0, 0, 0), (.iconst 0, 1, 0, 0, 0, 0), (.putfield 68, 3, 11, 0, 0, 0), (.aload_n 0, 1, 0, 0, 0, 0), (.getfield 20, 3, 11, 13, 0, 0), (.bipush 9, 2, 0, 0, 0, 0), (.iaload, 1, 0, 0, 0, 0), (.istore_n 1, 1, 0, 0, 0, 0), (.iload_n 1, 1, 0, 0, 0, 0), (.ifCond .ne 7, 3, 21, 0, 0, 0), (.fconst 0, 1, 0, 0, 0, 0), (.goto 14, 3, 32, 0, 0, 0)] 0 L st h o k n) : EX G m_M_possibleFraction 0 L st h o k n Q := exB_ok hW (fun q L st h o k n hq => exF_ok hW T_M_possibleFraction_ok hq) (by decide +kernel) hx
theorem O_M_possibleFraction_M_size : roomOK m_M_possibleFraction m_M_size 0 0 = true := by decide +kernel
theorem O_M_possibleFraction_M_possible : roomOK m_M_possibleFraction m_M_possible 0 0 = true := by decide +kernel
def T_M_isAhead : Nat → Option (List OPX) := tbL []
theorem T_M_isAhead_ok : ∀ pc t, T_M_isAhead pc = some t → chkB m_M_isAhead pc t = true := tbL_ok (by decide +kernel)
theorem X_M_isAhead_0 {W : WF} {G : GG} (hW : WOK G W) {L : List (Nat × Value)} {st : List Value} {h : HM} {o : Option Nat} {k n : Nat} {Q : XQ} (hx : exB W G m_M_isAhead Q (exF W G m_M_isAhead Q T_M_isAhead 40) [(.iload_n 0, 1, 0, 0, 0, 0), (.i2l, 1, 0, 0, 0, 0), (.lconst 0, 1, 0, 0, 0, 0), (.ldc2_w 265, 3, 50, 0, 0, 0), (.invokestatic 86, 3, 178, 0, 3, 0), (.ireturn, 1, 0, 0, 0, 0)] 0 L st h o k n) : EX G m_M_isAhead 0 L st h o k n Q := exB_ok hW (fun q L st h o k n hq => exF_ok hW T_M_isAhead_ok hq) (by decide +kernel) hx
theorem O_M_isAhead_M_isIn : roomOK m_M_isAhead m_M_isIn 0 0 = true := by decide +kernel
