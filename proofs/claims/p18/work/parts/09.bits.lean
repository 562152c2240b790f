/-- sums of weights -/
def ci_sum (w : Nat → Nat) : Nat → Nat
  | 0 => 0
  | k + 1 => ci_sum w k + w k
/-- a bit, as hasBit answers -/
def hb_ (x i : Int32) : Int32 := if ((x >>> (i &&& 31)) &&& 1) = 0 then 0 else 1
