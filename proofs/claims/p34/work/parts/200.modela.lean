def fX7_in (v : Int32) (a : Int32) (c9 : Int32) : Int32 :=
  (if v < a then 0 else (if c9 < v then 0 else 1))
def fX7_isFamily (v : Int32) : Int32 :=
  (fX7_in v 0 5)
def fX7_arePair (v : Int32) (a : Int32) : Int32 :=
  (if (fX7_isFamily v) = 0 then 0 else (if (fX7_isFamily a) = 0 then 0 else (if v = a then 0 else 1)))
def fX7_isAtLeg (z : Int32) : Int32 :=
  (if (z - z / 3 * 3) = 0 then 1 else 0)
def fX7_feudOf (v : Int32) (a : Int32) : Int32 :=
  (if a ≤ v then ((6 * a) + v) else ((6 * v) + a))
def fX7_mostOf (v : Int32) : Int32 :=
  (if v = 0 then 8 else (if v = 3 then 9 else 20))
def fX7_thrown (M : Nat → Int32) : Int32 :=
  (M 0)
def fX7_isGuest (f : Nat → Int32) (v : Int32) : Int32 :=
  (fX7_in v 0 ((f 0) - 1))
def fX7_isTable (f : Nat → Int32) (v : Int32) : Int32 :=
  (fX7_in v 0 ((f 1) - 1))
def fX7_of (f : Nat → Int32) (b : Nat) (g : Nat) (w : Nat) : Int32 :=
  (f (((b + 38) + (5 * g)) + w))
def fX7_lay (f : Nat → Int32) (b : Nat) (g : Nat) (w : Nat) (v : Int32) : (Nat → Int32) :=
  (upd f (((b + 38) + (5 * g)) + w) v)
def fX7_whoSits_b3 (f : Nat → Int32) (b : Nat) (tb : Int32) (z : Int32) (kk3 : Nat) (nextkk3 : Int32) : Int32 :=
  (if (fX7_of f b kk3 3) = tb then (if (fX7_of f b kk3 4) = z then (nI kk3) else nextkk3) else nextkk3)
def fX7_whoSits_r3 : Int32 :=
  (-1)
def fX7_whoSits (f : Nat → Int32) (b : Nat) (tb : Int32) (z : Int32) : Int32 :=
  (lq0 (fX7_whoSits_b3 f b tb z) fX7_whoSits_r3 ((f (b + 0)).toNatClampNeg) 0)
def fX7_feudPlace_b2 (f : Nat → Int32) (b : Nat) (v : Int32) (kk2 : Nat) (nextkk2 : Int32) : Int32 :=
  (if (f ((b + 10) + kk2)) = v then (nI kk2) else nextkk2)
def fX7_feudPlace_r2 : Int32 :=
  (-1)
def fX7_feudPlace (f : Nat → Int32) (b : Nat) (v : Int32) : Int32 :=
  (lq0 (fX7_feudPlace_b2 f b v) fX7_feudPlace_r2 ((f (b + 2)).toNatClampNeg) 0)
def fX7_reason_b58 (f : Nat → Int32) (b : Nat) (g : Nat) (tb : Int32) (kk58 : Nat) (x58_7 : Int32) (x58_6 : Int32) (nextkk58 : Int32 → Int32 → Int32) : Int32 :=
  (bd2 ((if (nI kk58) = (nI g) then (x58_7, x58_6) else (if (fX7_of f b kk58 3) = tb then (bd ((if x58_6 = 0 then (if (fX7_feudPlace f b (fX7_feudOf (fX7_of f b g 0) (fX7_of f b kk58 0))) = (-1) then 0 else 1) else 1) : Nat) (fun v91_0 => (bd ((if (fX7_of f b kk58 0) = (fX7_of f b g 0) then 1 else 0) : Nat) (fun v145_0 => ((x58_7 + (nI v145_0)), (nI v91_0)))))) else (x58_7, x58_6))) : Int32 × Int32) (fun v74_0 v74_1 => (nextkk58 v74_0 v74_1)))
def fX7_reason_r58 (f : Nat → Int32) (b : Nat) (x58_7 : Int32) (x58_6 : Int32) : Int32 :=
  (if x58_6 = 0 then (if x58_7 < (f (b + 6)) then 0 else 5) else 4)
def fX7_reason (f : Nat → Int32) (b : Nat) (g : Nat) (tb : Int32) (z : Int32) : Int32 :=
  (if (fX7_whoSits f b tb z) = (-1) then (if (fX7_isAtLeg z) = 0 then (lq2 (fX7_reason_b58 f b g tb) (fX7_reason_r58 f b) ((f (b + 0)).toNatClampNeg) 0 0 0) else (if (fX7_of f b g 1) = 3 then 3 else (lq2 (fX7_reason_b58 f b g tb) (fX7_reason_r58 f b) ((f (b + 0)).toNatClampNeg) 0 0 0))) else (if (fX7_whoSits f b tb z) = (nI g) then 1 else 2))
