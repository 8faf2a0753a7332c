def fX7_peace_b72 (kk72 : Nat) (U72_0 : Nat → Int32) (nextkk72 : (Nat → Int32) → (Int32 × ((Nat → Int32) × (Nat → Int32)))) : Int32 × ((Nat → Int32) × (Nat → Int32)) :=
  (nextkk72 (upd U72_0 (10 + kk72) (U72_0 ((10 + kk72) + 1))))
def fX7_peace_r72 (U55 : (Nat → Int32) × (Nat → Int32)) (U72_0 : Nat → Int32) : Int32 × ((Nat → Int32) × (Nat → Int32)) :=
  ((U72_0 2), (U72_0, U55.2))
def fX7_peace (f : Nat → Int32) (M : Nat → Int32) (v : Int32) (a : Int32) : Int32 × ((Nat → Int32) × (Nat → Int32)) :=
  (bd ((if (fX7_arePair v a) = 0 then (-1) else (fX7_feudPlace f 0 (fX7_feudOf v a))) : Int32) (fun v7_0 => (bd ((if (fX7_arePair v a) = 0 then 1 else (if v7_0 = (-1) then 2 else 0)) : Nat) (fun v28_0 => (bd2 (fX7_holds M (nI v28_0)) (fun r46 U46 => (if r46 = 0 then (0, (f, U46)) else (bd (fX7_save f U46) (fun U55 => (lq1 fX7_peace_b72 (fX7_peace_r72 U55) ((((upd U55.1 2 ((U55.1 2) - 1)) 2).toNatClampNeg) - v7_0.toNatClampNeg) v7_0.toNatClampNeg (upd U55.1 2 ((U55.1 2) - 1))))))))))))
