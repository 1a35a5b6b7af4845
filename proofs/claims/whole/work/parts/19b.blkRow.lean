/-! blocks of Row, by program -/
def B_Row_init_13 : List OPX := [(.iconst 0, 1, 0, 0, 0, 0), (.newarray .int, 2, 0, 0, 0, 0), (.putfield 7, 3, 7, 0, 0, 0), (.return_, 1, 0, 0, 0, 0)]
def B_Row_init_14 : List OPX := [(.newarray .int, 2, 0, 0, 0, 0), (.putfield 7, 3, 7, 0, 0, 0), (.return_, 1, 0, 0, 0, 0)]
def T_Row_init : Nat → Option (List OPX) := tbL [(13, B_Row_init_13), (14, B_Row_init_14)]
theorem T_Row_init_ok : ∀ pc t, T_Row_init pc = some t → chkB m_Row_init pc t = true := tbL_ok (by decide +kernel)
theorem T_Row_init_13 : T_Row_init 13 = some [(.iconst 0, 1, 0, 0, 0, 0), (.newarray .int, 2, 0, 0, 0, 0), (.putfield 7, 3, 7, 0, 0, 0), (.return_, 1, 0, 0, 0, 0)] := rfl
theorem T_Row_init_14 : T_Row_init 14 = some [(.newarray .int, 2, 0, 0, 0, 0), (.putfield 7, 3, 7, 0, 0, 0), (.return_, 1, 0, 0, 0, 0)] := rfl
theorem X_Row_init_0 {G : GG} {L : List (Nat × Value)} {st : List Value} {h : HM} {o : Option Nat} {k n : Nat} {Q : XQ} (hx : exB G m_Row_init Q (exF G m_Row_init Q T_Row_init 40) [(.aload_n 0, 1, 0, 0, 0, 0), (.invokespecial 1, 3, 100000, 0, 0, 0), (.aload_n 0, 1, 0, 0, 0, 0), (.iload_n 1, 1, 0, 0, 0, 0), (.ifCond .le 7, 3, 13, 0, 0, 0), (.iload_n 1, 1, 0, 0, 0, 0), (.goto 4, 3, 14, 0, 0, 0)] 0 L st h o k n) : EX G m_Row_init 0 L st h o k n Q := exB_ok (fun q L st h o k n hq => exF_ok T_Row_init_ok hq) (by decide +kernel) hx
def B_Row_get_22 : List OPX := [(.iconst 0, 1, 0, 0, 0, 0), (.ireturn, 1, 0, 0, 0, 0)]
def B_Row_get_23 : List OPX := [(.ireturn, 1, 0, 0, 0, 0)]
def T_Row_get : Nat → Option (List OPX) := tbL [(22, B_Row_get_22), (23, B_Row_get_23)]
theorem T_Row_get_ok : ∀ pc t, T_Row_get pc = some t → chkB m_Row_get pc t = true := tbL_ok (by decide +kernel)
theorem T_Row_get_22 : T_Row_get 22 = some [(.iconst 0, 1, 0, 0, 0, 0), (.ireturn, 1, 0, 0, 0, 0)] := rfl
theorem T_Row_get_23 : T_Row_get 23 = some [(.ireturn, 1, 0, 0, 0, 0)] := rfl
theorem X_Row_get_0 {G : GG} {L : List (Nat × Value)} {st : List Value} {h : HM} {o : Option Nat} {k n : Nat} {Q : XQ} (hx : exB G m_Row_get Q (exF G m_Row_get Q T_Row_get 40) [(.iload_n 1, 1, 0, 0, 0, 0), (.ifCond .lt 21, 3, 22, 0, 0, 0), (.iload_n 1, 1, 0, 0, 0, 0), (.aload_n 0, 1, 0, 0, 0, 0), (.getfield 7, 3, 7, 0, 0, 0), (.arraylength, 1, 0, 0, 0, 0), (.if_icmp .ge 12, 3, 22, 0, 0, 0), (.aload_n 0, 1, 0, 0, 0, 0), (.getfield 7, 3, 7, 0, 0, 0), (.iload_n 1, 1, 0, 0, 0, 0), (.iaload, 1, 0, 0, 0, 0), (.goto 4, 3, 23, 0, 0, 0)] 0 L st h o k n) : EX G m_Row_get 0 L st h o k n Q := exB_ok (fun q L st h o k n hq => exF_ok T_Row_get_ok hq) (by decide +kernel) hx
def B_Row_set_20 : List OPX := [(.return_, 1, 0, 0, 0, 0)]
def T_Row_set : Nat → Option (List OPX) := tbL [(20, B_Row_set_20)]
theorem T_Row_set_ok : ∀ pc t, T_Row_set pc = some t → chkB m_Row_set pc t = true := tbL_ok (by decide +kernel)
theorem T_Row_set_20 : T_Row_set 20 = some [(.return_, 1, 0, 0, 0, 0)] := rfl
theorem X_Row_set_0 {G : GG} {L : List (Nat × Value)} {st : List Value} {h : HM} {o : Option Nat} {k n : Nat} {Q : XQ} (hx : exB G m_Row_set Q (exF G m_Row_set Q T_Row_set 40) [(.iload_n 1, 1, 0, 0, 0, 0), (.ifCond .lt 19, 3, 20, 0, 0, 0), (.iload_n 1, 1, 0, 0, 0, 0), (.aload_n 0, 1, 0, 0, 0, 0), (.getfield 7, 3, 7, 0, 0, 0), (.arraylength, 1, 0, 0, 0, 0), (.if_icmp .ge 10, 3, 20, 0, 0, 0), (.aload_n 0, 1, 0, 0, 0, 0), (.getfield 7, 3, 7, 0, 0, 0), (.iload_n 1, 1, 0, 0, 0, 0), (.iload_n 2, 1, 0, 0, 0, 0), (.iastore, 1, 0, 0, 0, 0), (.return_, 1, 0, 0, 0, 0)] 0 L st h o k n) : EX G m_Row_set 0 L st h o k n Q := exB_ok (fun q L st h o k n hq => exF_ok T_Row_set_ok hq) (by decide +kernel) hx
def B_Row_fill_24 : List OPX := [(.return_, 1, 0, 0, 0, 0)]
def T_Row_fill : Nat → Option (List OPX) := tbL [(24, B_Row_fill_24)]
theorem T_Row_fill_ok : ∀ pc t, T_Row_fill pc = some t → chkB m_Row_fill pc t = true := tbL_ok (by decide +kernel)
theorem T_Row_fill_24 : T_Row_fill 24 = some [(.return_, 1, 0, 0, 0, 0)] := rfl
theorem T_Row_fill_2 : T_Row_fill 2 = none := rfl
theorem X_Row_fill_0 {G : GG} {L : List (Nat × Value)} {st : List Value} {h : HM} {o : Option Nat} {k n : Nat} {Q : XQ} (hx : exB G m_Row_fill Q (exF G m_Row_fill Q T_Row_fill 40) [(.iconst 0, 1, 0, 0, 0, 0), (.istore_n 2, 1, 0, 0, 0, 0)] 0 L st h o k n) : EX G m_Row_fill 0 L st h o k n Q := exB_ok (fun q L st h o k n hq => exF_ok T_Row_fill_ok hq) (by decide +kernel) hx
theorem X_Row_fill_2 {G : GG} {L : List (Nat × Value)} {st : List Value} {h : HM} {o : Option Nat} {k n : Nat} {Q : XQ} (hx : exB G m_Row_fill Q (exF G m_Row_fill Q T_Row_fill 40) [(.iload_n 2, 1, 0, 0, 0, 0), (.aload_n 0, 1, 0, 0, 0, 0), (.getfield 7, 3, 7, 0, 0, 0), (.arraylength, 1, 0, 0, 0, 0), (.if_icmp .ge 16, 3, 24, 0, 0, 0), (.aload_n 0, 1, 0, 0, 0, 0), (.getfield 7, 3, 7, 0, 0, 0), (.iload_n 2, 1, 0, 0, 0, 0), (.iload_n 1, 1, 0, 0, 0, 0), (.iastore, 1, 0, 0, 0, 0), (.iinc 2 1, 3, 0, 0, 0, 0), (.goto (-19), 3, 2, 0, 0, 0)] 2 L st h o k n) : EX G m_Row_fill 2 L st h o k n Q := exB_ok (fun q L st h o k n hq => exF_ok T_Row_fill_ok hq) (by decide +kernel) hx
def B_Row_copyFrom_38 : List OPX := [(.return_, 1, 0, 0, 0, 0)]
def T_Row_copyFrom : Nat → Option (List OPX) := tbL [(38, B_Row_copyFrom_38)]
theorem T_Row_copyFrom_ok : ∀ pc t, T_Row_copyFrom pc = some t → chkB m_Row_copyFrom pc t = true := tbL_ok (by decide +kernel)
theorem T_Row_copyFrom_38 : T_Row_copyFrom 38 = some [(.return_, 1, 0, 0, 0, 0)] := rfl
theorem T_Row_copyFrom_2 : T_Row_copyFrom 2 = none := rfl
theorem X_Row_copyFrom_0 {G : GG} {L : List (Nat × Value)} {st : List Value} {h : HM} {o : Option Nat} {k n : Nat} {Q : XQ} (hx : exB G m_Row_copyFrom Q (exF G m_Row_copyFrom Q T_Row_copyFrom 40) [(.iconst 0, 1, 0, 0, 0, 0), (.istore_n 2, 1, 0, 0, 0, 0)] 0 L st h o k n) : EX G m_Row_copyFrom 0 L st h o k n Q := exB_ok (fun q L st h o k n hq => exF_ok T_Row_copyFrom_ok hq) (by decide +kernel) hx
theorem X_Row_copyFrom_2 {G : GG} {L : List (Nat × Value)} {st : List Value} {h : HM} {o : Option Nat} {k n : Nat} {Q : XQ} (hx : exB G m_Row_copyFrom Q (exF G m_Row_copyFrom Q T_Row_copyFrom 40) [(.iload_n 2, 1, 0, 0, 0, 0), (.aload_n 0, 1, 0, 0, 0, 0), (.getfield 7, 3, 7, 0, 0, 0), (.arraylength, 1, 0, 0, 0, 0), (.if_icmp .ge 30, 3, 38, 0, 0, 0), (.iload_n 2, 1, 0, 0, 0, 0), (.aload_n 1, 1, 0, 0, 0, 0), (.getfield 7, 3, 7, 0, 0, 0), (.arraylength, 1, 0, 0, 0, 0), (.if_icmp .ge 21, 3, 38, 0, 0, 0), (.aload_n 0, 1, 0, 0, 0, 0), (.getfield 7, 3, 7, 0, 0, 0), (.iload_n 2, 1, 0, 0, 0, 0), (.aload_n 1, 1, 0, 0, 0, 0), (.getfield 7, 3, 7, 0, 0, 0), (.iload_n 2, 1, 0, 0, 0, 0), (.iaload, 1, 0, 0, 0, 0), (.iastore, 1, 0, 0, 0, 0), (.iinc 2 1, 3, 0, 0, 0, 0), (.goto (-33), 3, 2, 0, 0, 0)] 2 L st h o k n) : EX G m_Row_copyFrom 2 L st h o k n Q := exB_ok (fun q L st h o k n hq => exF_ok T_Row_copyFrom_ok hq) (by decide +kernel) hx
