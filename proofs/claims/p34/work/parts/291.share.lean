def fX7_share (f : Nat → Int32) : UInt64 :=
  (if (fX7_wishes f 0) = 0 then FP.dconst1 else (FP.ddiv (FP.i2d (fX7_wishes f 1)) (FP.i2d (fX7_wishes f 0))))
def fX7_met (f : Nat → Int32) (M : Nat → Int32) : UInt64 × ((Nat → Int32)) :=
  ((fX7_share f), (upd M 0 0))
