def fX5_isIn (z : Int32) (a : Int32) (b : Int32) : Int32 :=
  (if z < a then 0 else (if b < z then 0 else 1))
abbrev rmX5_isIn : Room := { frames := 0, cells := 0, slots := 0, locals := 0 }
def fX5_only (z : Int32) (a : Int32) (b : Int32) : Int32 :=
  (if z = a then b else (-1))
abbrev rmX5_only : Room := { frames := 0, cells := 0, slots := 0, locals := 0 }
def fX5_firstDigit (z : Int32) (a : Int32) (b : Int32) : Int32 :=
  (if (fX5_isIn z 48 57) = 0 then (-1) else (if z = 49 then a else b))
abbrev rmX5_firstDigit : Room := { frames := 1, cells := 0, slots := 0, locals := 22 }
def fX5_next (z : Int32) (a : Int32) : Int32 :=
  (if z = 0 then (if a = 45 then 6 else (fX5_firstDigit a 1 2)) else (if z = 1 then (if (fX5_isIn a 48 53) = 0 then (fX5_only a 64 3) else 2) else (if z = 2 then (fX5_only a 64 3) else (if z = 3 then (if (fX5_isIn a 48 51) = 0 then (-1) else 4) else (if z = 4 then (if (fX5_isIn a 97 104) = 0 then (-1) else 5) else (if z = 5 then (fX5_only a 59 0) else (if z = 6 then (fX5_firstDigit a 7 8) else (if z = 7 then (if (fX5_isIn a 48 53) = 0 then (fX5_only a 59 0) else 8) else (if z = 8 then (fX5_only a 59 0) else (-1))))))))))
abbrev rmX5_next : Room := { frames := 2, cells := 0, slots := 0, locals := 44 }
def fX5_firstBroken_b4 (f : Nat → Int32) (u : Int32) (kk4 : Nat) (x4_1 : Int32) (nextkk4 : Int32 → Int32) : Int32 :=
  (if (fX5_next x4_1 (fX1_itemAt 60 f u (nI kk4))) = (-1) then (nI kk4) else (nextkk4 (fX5_next x4_1 (fX1_itemAt 60 f u (nI kk4)))))
def fX5_firstBroken_r4 (f : Nat → Int32) (u : Int32) (x4_1 : Int32) : Int32 :=
  (fX1_length 60 f u)
def fX5_firstBroken (f : Nat → Int32) (u : Int32) : Int32 :=
  (lq1 (fX5_firstBroken_b4 f u) (fX5_firstBroken_r4 f u) ((fX1_length 60 f u).toNatClampNeg) 0 0)
abbrev rmX5_firstBroken : Room := { frames := 3, cells := 0, slots := 0, locals := 65 }
def fX5_isComplete_b4 (f : Nat → Int32) (u : Int32) (kk4 : Nat) (x4_1 : Int32) (nextkk4 : Int32 → Int32) : Int32 :=
  (nextkk4 (fX5_next x4_1 (fX1_itemAt 60 f u (nI kk4))))
def fX5_isComplete_r4 (x4_1 : Int32) : Int32 :=
  (if x4_1 = 5 then 1 else (if x4_1 = 7 then 1 else (if x4_1 = 8 then 1 else 0)))
def fX5_isComplete (f : Nat → Int32) (u : Int32) : Int32 :=
  (lq1 (fX5_isComplete_b4 f u) fX5_isComplete_r4 ((fX1_length 60 f u).toNatClampNeg) 0 0)
abbrev rmX5_isComplete : Room := { frames := 3, cells := 0, slots := 0, locals := 65 }
def fX5_numberIn_b5 (f : Nat → Int32) (u : Int32) (kk5 : Nat) (x5_3 : Int32) (nextkk5 : Int32 → Int32) : Int32 :=
  (nextkk5 (((10 * x5_3) + (fX1_itemAt 60 f u (nI kk5))) - 48))
def fX5_numberIn_r5 (x5_3 : Int32) : Int32 :=
  x5_3
def fX5_numberIn (f : Nat → Int32) (u : Int32) (a : Nat) (b : Int32) : Int32 :=
  (lq1 (fX5_numberIn_b5 f u) fX5_numberIn_r5 (b.toNatClampNeg - a) a 0)
abbrev rmX5_numberIn : Room := { frames := 1, cells := 0, slots := 0, locals := 21 }
def fX5_doRise (f : Nat → Int32) (u : Int32) (P : PV) (a : Nat) (b : Int32) : Int32 × (PV) :=
  (if (fX2_isGuest P (fX5_numberIn f u a b)) = 0 then (0, P) else (if (fX2_isSitting P (fX5_numberIn f u a b)) = 0 then (0, P) else (bd (fX2_standUp P (fX5_numberIn f u a b)) (fun U31 => (1, U31)))))
abbrev rmX5_doRise : Room := { frames := 3, cells := 0, slots := 0, locals := 69 }
def fX5_doSit (f : Nat → Int32) (u : Int32) (P : PV) (a : Nat) (b : Int32) : Int32 × (PV) :=
  (if (fX2_mayTake P (fX5_numberIn f u a (b - 3)) ((fX1_itemAt 60 f u (b - 2)) - 48) ((fX1_itemAt 60 f u (b - 1)) - 97)) = 0 then (0, P) else (bd (fX2_takeSeat P (fX5_numberIn f u a (b - 3)) ((fX1_itemAt 60 f u (b - 2)) - 48) ((fX1_itemAt 60 f u (b - 1)) - 97)) (fun U62 => (1, U62))))
abbrev rmX5_doSit : Room := { frames := 4, cells := 0, slots := 0, locals := 97 }
def fX5_doParts_b7 (f : Nat → Int32) (u : Int32) (kk7 : Nat) (x7_3 : Nat) (x7_2 : Int32) (U7_2 : PV) (nextkk7 : Nat → Int32 → PV → (Int32 × (PV))) : Int32 × (PV) :=
  (bd3 ((if (nI kk7) = (fX1_length 60 f u) then (bd2 ((if (fX1_itemAt 60 f u (nI x7_3)) = 45 then (bd2 (fX5_doRise f u U7_2 (x7_3 + 1) (nI kk7)) (fun r65 U65 => (r65, U65))) else (bd2 (fX5_doSit f u U7_2 x7_3 (nI kk7)) (fun r76 U76 => (r76, U76)))) : Int32 × PV) (fun v55_0 U55_1 => (bd ((if v55_0 = 0 then x7_2 else (x7_2 + 1)) : Int32) (fun v83_0 => ((kk7 + 1), v83_0, U55_1))))) else (if (fX1_itemAt 60 f u (nI kk7)) = 59 then (bd2 ((if (fX1_itemAt 60 f u (nI x7_3)) = 45 then (bd2 (fX5_doRise f u U7_2 (x7_3 + 1) (nI kk7)) (fun r65 U65 => (r65, U65))) else (bd2 (fX5_doSit f u U7_2 x7_3 (nI kk7)) (fun r76 U76 => (r76, U76)))) : Int32 × PV) (fun v55_0 U55_1 => (bd ((if v55_0 = 0 then x7_2 else (x7_2 + 1)) : Int32) (fun v83_0 => ((kk7 + 1), v83_0, U55_1))))) else (x7_3, x7_2, U7_2))) : Nat × Int32 × PV) (fun v28_0 v28_1 U28_2 => (nextkk7 v28_0 v28_1 U28_2)))
def fX5_doParts_r7 (x7_3 : Nat) (x7_2 : Int32) (U7_2 : PV) : Int32 × (PV) :=
  (x7_2, U7_2)
def fX5_doParts (f : Nat → Int32) (u : Int32) (P : PV) : Int32 × (PV) :=
  (lq3 (fX5_doParts_b7 f u) fX5_doParts_r7 (u.toNatClampNeg + 1) 0 0 0 P)
abbrev rmX5_doParts : Room := { frames := 5, cells := 0, slots := 0, locals := 123 }
