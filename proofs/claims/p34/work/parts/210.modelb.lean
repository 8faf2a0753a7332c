def fX7_metBy (f : Nat → Int32) (b : Nat) (g : Nat) : Int32 :=
  (if (fX7_of f b g 2) = (-1) then 0 else (if (fX7_of f b g 3) = (-1) then 0 else (if (fX7_of f b ((fX7_of f b g 2).toNatClampNeg) 3) = (fX7_of f b g 3) then (if ((fX7_of f b g 4) - (fX7_of f b ((fX7_of f b g 2).toNatClampNeg) 4)) = 1 then 2 else (if ((fX7_of f b g 4) - (fX7_of f b ((fX7_of f b g 2).toNatClampNeg) 4)) = (-1) then 2 else (if ((fX7_of f b g 4) - (fX7_of f b ((fX7_of f b g 2).toNatClampNeg) 4)) = ((f ((b + 18) + (fX7_of f b g 3).toNatClampNeg)) - 1) then 2 else (if ((fX7_of f b g 4) - (fX7_of f b ((fX7_of f b g 2).toNatClampNeg) 4)) = (-((f ((b + 18) + (fX7_of f b g 3).toNatClampNeg)) - 1)) then 2 else 1)))) else 0)))
def fX7_pointsOf (f : Nat → Int32) (b : Nat) (g : Nat) : Int32 :=
  (if (fX7_of f b g 3) = (-1) then 0 else (bd ((if (fX7_isAtLeg (fX7_of f b g 4)) = 0 then 0 else (if (fX7_of f b g 1) = 2 then (f ((b + 6) + 3)) else 0)) : Int32) (fun v30_0 => (bd ((if (fX7_metBy f b g) ≤ 0 then 0 else (f ((b + 6) + 1))) : Int32) (fun v66_0 => (bd ((if (fX7_metBy f b g) ≤ 1 then 0 else (f ((b + 6) + 2))) : Int32) (fun v87_0 => (((1 - v30_0) + v66_0) + v87_0))))))))
def fX7_points_b5 (f : Nat → Int32) (b : Nat) (tb : Int32) (kk5 : Nat) (x5_3 : Int32) (nextkk5 : Int32 → Int32) : Int32 :=
  (bd ((if tb = (-1) then (fX7_pointsOf f b kk5) else (if (fX7_of f b kk5 3) = tb then (fX7_pointsOf f b kk5) else 0)) : Int32) (fun v21_0 => (nextkk5 (x5_3 + v21_0))))
def fX7_points_r5 (x5_3 : Int32) : Int32 :=
  x5_3
def fX7_points (f : Nat → Int32) (b : Nat) (tb : Int32) : Int32 :=
  (lq1 (fX7_points_b5 f b tb) fX7_points_r5 ((f (b + 0)).toNatClampNeg) 0 0)
def fX7_pointsIf (f : Nat → Int32) (b : Nat) (g : Nat) (tb : Nat) (z : Int32) : Int32 :=
  (bd (fX7_lay f b g 3 (nI tb)) (fun U23 => (bd (fX7_lay U23 b g 4 z) (fun U32 => (bd (fX7_lay U32 b g 3 (fX7_of f b g 3)) (fun U49 => (bd (fX7_lay U49 b g 4 (fX7_of f b g 4)) (fun U58 => (fX7_points U32 b (-1))))))))))
