def fX7_standsUp_b5 (b : Nat) (g : Nat) (kk5 : Nat) (x5_3 : Nat) (U5_1 : Nat → Int32) (nextkk5 : Nat → (Nat → Int32) → (Nat → Int32)) : (Nat → Int32) :=
  (bd ((if (U5_1 ((b + 22) + kk5)) = (nI g) then 0 else 1) : Nat) (fun v49_0 => (nextkk5 (x5_3 + v49_0) (upd U5_1 ((b + 22) + x5_3) (U5_1 ((b + 22) + kk5))))))
def fX7_standsUp_r5 (b : Nat) (g : Nat) (x5_3 : Nat) (U5_1 : Nat → Int32) : (Nat → Int32) :=
  (bd (fX7_lay (upd U5_1 (b + 3) (nI x5_3)) b g 3 (-1)) (fun U79 => (bd (fX7_lay U79 b g 4 (-1)) (fun U87 => (upd U87 (b + 5) ((U87 (b + 5)) + 1))))))
def fX7_standsUp (f : Nat → Int32) (b : Nat) (g : Nat) : (Nat → Int32) :=
  (lq2 (fX7_standsUp_b5 b g) (fX7_standsUp_r5 b g) ((f (b + 3)).toNatClampNeg) 0 0 f)
