/-! THE HASH AS A FUNCTION: SHA-256 over octets that stand in a function, in the machine's own ints -/
def us (u a : Int32) : Int32 := (u.toUInt32 >>> (a.toUInt32 &&& Int32.toUInt32 31)).toInt32
/-- turned right by a (b = 32 - a) -/
def ro (u a b : Int32) : Int32 := us u a ||| (u <<< (b &&& 31))
/-- a word of a block -/
def hwd (f : Nat → Int32) (t : Nat) : Int32 := (((f (4 * t) <<< (24 &&& 31)) ||| (f (4 * t + 1) <<< (16 &&& 31))) ||| (f (4 * t + 2) <<< (8 &&& 31))) ||| f (4 * t + 3)
def hs0 (u : Int32) : Int32 := (ro u 7 25 ^^^ ro u 18 14) ^^^ us u 3
def hs1 (v : Int32) : Int32 := (ro v 17 15 ^^^ ro v 19 13) ^^^ us v 10
/-- the plan, behind k of its 48 further words -/
def hW (f : Nat → Int32) : Nat → Nat → Int32
  | 0 => fun t => hwd f t
  | k + 1 => fun t => if t = 16 + k then hW f k k + hs0 (hW f k (k + 1)) + hW f k (k + 9) + hs1 (hW f k (k + 14)) else hW f k t
abbrev h8 : Type := Int32 × Int32 × Int32 × Int32 × Int32 × Int32 × Int32 × Int32
def hS1 (e : Int32) : Int32 := (ro e 6 26 ^^^ ro e 11 21) ^^^ ro e 25 7
def hS0 (a : Int32) : Int32 := (ro a 2 30 ^^^ ro a 13 19) ^^^ ro a 22 10
def hx (q : h8) (kt wt : Int32) : Int32 := q.2.2.2.2.2.2.2 + hS1 q.2.2.2.2.1 + ((q.2.2.2.2.1 &&& q.2.2.2.2.2.1) ^^^ ((q.2.2.2.2.1 ^^^ (-1)) &&& q.2.2.2.2.2.2.1)) + kt + wt
def hy (q : h8) : Int32 := hS0 q.1 + (((q.1 &&& q.2.1) ^^^ (q.1 &&& q.2.2.1)) ^^^ (q.2.1 &&& q.2.2.1))
def hrd (q : h8) (kt wt : Int32) : h8 := (hx q kt wt + hy q, q.1, q.2.1, q.2.2.1, q.2.2.2.1 + hx q kt wt, q.2.2.2.2.1, q.2.2.2.2.2.1, q.2.2.2.2.2.2.1)
def hrs (w : Nat → Int32) (q : h8) : Nat → h8
  | 0 => q
  | t + 1 => hrd (hrs w q t) (xK64.getD t 0) (w t)
def hst (st : Nat → Int32) : h8 := (st 0, st 1, st 2, st 3, st 4, st 5, st 6, st 7)
def hadd (st : Nat → Int32) (q : h8) : Nat → Int32 := fun i => match i with
  | 0 => st 0 + q.1
  | 1 => st 1 + q.2.1
  | 2 => st 2 + q.2.2.1
  | 3 => st 3 + q.2.2.2.1
  | 4 => st 4 + q.2.2.2.2.1
  | 5 => st 5 + q.2.2.2.2.2.1
  | 6 => st 6 + q.2.2.2.2.2.2.1
  | 7 => st 7 + q.2.2.2.2.2.2.2
  | _ => st i
/-- a block goes through -/
def hcmp (st f : Nat → Int32) : Nat → Int32 := hadd st (hrs (hW f 48) (hst st) 64)
theorem hW_lo (f : Nat → Int32) : ∀ k t, t < 16 + k → hW f (k + 1) t = hW f k t := by
  intro k t h
  show (if t = 16 + k then _ else _) = _
  rw [if_neg (by omega)]
theorem hrs_w {w w' : Nat → Int32} (q : h8) : ∀ k, (∀ t, t < k → w t = w' t) → hrs w q k = hrs w' q k := by
  intro k
  induction k with
  | zero => intro _; rfl
  | succ k ih =>
    intro h
    show hrd (hrs w q k) _ (w k) = hrd (hrs w' q k) _ (w' k)
    rw [ih (fun t ht => h t (by omega)), h k (by omega)]
