def fX7_holds (M : Nat → Int32) (v : Int32) : Int32 × ((Nat → Int32)) :=
  (if v = 0 then (1, (upd M 0 v)) else (0, (upd M 0 v)))
def fX7_isSeat (f : Nat → Int32) (tb : Int32) (z : Int32) : Int32 :=
  (if (fX7_isTable f tb) = 0 then 0 else (if (fX7_in z 0 ((f (18 + tb.toNatClampNeg)) - 1)) = 0 then 0 else 1))
def fX7_wishes_b4 (f : Nat → Int32) (a9 : Int32) (kk4 : Nat) (x4_2 : Int32) (nextkk4 : Int32 → Int32) : Int32 :=
  (bd ((if a9 = 0 then (if (fX7_of f 0 kk4 2) = (-1) then 0 else 1) else (if (fX7_metBy f 0 kk4) ≤ 0 then 0 else 1)) : Nat) (fun v15_0 => (bd ((if (nI v15_0) = 0 then 0 else 1) : Nat) (fun v56_0 => (nextkk4 (x4_2 + (nI v56_0)))))))
def fX7_wishes_r4 (x4_2 : Int32) : Int32 :=
  x4_2
def fX7_wishes (f : Nat → Int32) (a9 : Int32) : Int32 :=
  (lq1 (fX7_wishes_b4 f a9) fX7_wishes_r4 ((f 0).toNatClampNeg) 0 0)
def fX7_standing (f : Nat → Int32) (v : Int32) (c9 : Int32) : Int32 :=
  (if (fX7_feudPlace f 0 (fX7_feudOf v c9)) = (-1) then (fX7_leavers f v c9) else 0)
