/-! 62: the reference's changes (3) -/
def zrR (s : Nat → Int32) (k n : Nat) : Nat → Int32 := cpy (fun _ => 0) 0 s (12 + 9 * k) n
def adHi (x : Int64) : Int32 := (x >>> ((20 : Int32).toInt64 &&& 63)).toInt32
def adLo (x : Int64) : Int32 := (x &&& 1048575).toInt32
def adR (s : Nat → Int32) (x : Int64) (c b : Int32) : Nat → Int32 := upd (tw (upd (upd (upd (upd (zrR s (nR s) 9) (12 + 9 * nR s) (adHi x)) (12 + 9 * nR s + 1) (adLo x)) (12 + 9 * nR s + 2) c) (12 + 9 * nR s + 5) (trI b)) (nR s) (if b = 0 then 5 else 0) (-1) (-1)) 9 (nI (nR s + 1))
def askS (s : Nat → Int32) (x : Int32) (b : Bool) : Nat → (Nat → Int32)
  | 0 => s
  | k + 1 => if askS s x b k (12 + 9 * k + 5) = 0 then askS s x b k else if tI (hasF x (nI k)) = tI b then askS s x b k else tw (upd (askS s x b k) (12 + 9 * k + 5) 0) k 1 (askS s x b k 7) (-1)
theorem FR_refl (s : Nat → Int32) : FR s s := fun _ _ => rfl
theorem askS_FR (s : Nat → Int32) (x : Int32) (b : Bool) : ∀ k, k ≤ 12 → FR (askS s x b k) s := by
  intro k
  induction k with
  | zero => intro _; exact FR_refl s
  | succ k ih =>
    intro hk
    have ih := ih (by omega)
    rw [askS]
    split
    · exact ih
    · split
      · exact ih
      · intro i hi
        rw [← ih i hi]
        unfold tw upd
        rw [if_neg (by omega), if_neg (by omega), if_neg (by omega), if_neg (by omega)]
def asF (s : Nat → Int32) (x : Int32) : Nat → Int32 := upd (upd (askS s x (hasF x (s 11)) (nR s)) 5 (askS s x (hasF x (s 11)) (nR s) 5 - askS s x (hasF x (s 11)) (nR s) 3)) 6 (askS s x (hasF x (s 11)) (nR s) 6 + askS s x (hasF x (s 11)) (nR s) 3)
def nmd (s : Nat → Int32) (x : Int64) : Int32 := frst (nR s) (fun k => nmS s k == x)
def rnP (s : Nat → Int32) (i j : Nat) : Bool := if s (12 + 9 * i + 2) < s (12 + 9 * j + 2) then true else if s (12 + 9 * j + 2) = s (12 + 9 * i + 2) then (if nI i ≤ nI j then false else true) else false
def rnS (s : Nat → Int32) (i : Nat) : Nat → Int32
  | 0 => 0
  | j + 1 => rnS s i j + tI (rnP s i j)
def wrk (s : Nat → Int32) (x : Int32) : Int32 := frst (nR s) (fun k => rnS s k (nR s) == x)
def leaF (w : Int32) : Int32 := if w = 1 ∨ w = 3 then 1 else 0
def mosF (w : Int32) : Int32 := if w = 0 then 2 else if w = 4 then 15 else if w = 5 then 999 else 9
def cadB (s : Nat → Int32) (x : Int64) : Bool := if x = 0 then false else if nmd s x = -1 then (if 12 ≤ s 9 then false else true) else false
def cpaB (s : Nat → Int32) (x : Int32) : Bool := if s 9 ≤ 0 then false else if 9999 < s 7 + x then false else true
def bfP (Bu : Nat → Int32) : Nat → Int64
  | 0 => 0
  | k + 1 => (bfP Bu k <<< ((5 : Int32).toInt64 &&& 63)) ||| (Bu k - 97 + 1).toInt64
def bfN (Bu : Nat → Int32) (n : Nat) : Int64 := if isInF (nI n).toInt64 1 8 = true then (if frst n (fun k => !isLet (Bu k)) = -1 then bfP Bu n else 0) else 0
section MC3
variable {G : GG} {as : List Value} {h : HM} {o : Option Nat} {Q : XQ}
theorem zr_s (s : Nat → Int32) (m d : Nat) : upd (zrR s m d) (12 + 9 * m + d) 0 = zrR s m (d + 1) := cpy_s (fun _ => 0) 0 s (12 + 9 * m) d
theorem zr_0 (s : Nat → Int32) (m : Nat) : zrR s m 0 = s := cpy_0 _ _ _ _
end MC3
