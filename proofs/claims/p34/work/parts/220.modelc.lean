def fX7_copies_b2 (a : Nat) (c9 : Nat) (kk2 : Nat) (U2_0 : Nat → Int32) (nextkk2 : (Nat → Int32) → (Nat → Int32)) : (Nat → Int32) :=
  (nextkk2 (upd U2_0 ((118 * c9) + kk2) (U2_0 ((118 * a) + kk2))))
def fX7_copies_r2 (U2_0 : Nat → Int32) : (Nat → Int32) :=
  U2_0
def fX7_copies (f : Nat → Int32) (a : Nat) (c9 : Nat) : (Nat → Int32) :=
  (lq1 (fX7_copies_b2 a c9) fX7_copies_r2 118 0 f)
def fX7_sitting_b5 (f : Nat → Int32) (tb : Int32) (v : Int32) (kk5 : Nat) (x5_3 : Int32) (nextkk5 : Int32 → Int32) : Int32 :=
  (bd ((if (fX7_of f 0 kk5 3) = tb then (if (fX7_of f 0 kk5 0) = v then 1 else 0) else 0) : Nat) (fun v26_0 => (nextkk5 (x5_3 + (nI v26_0)))))
def fX7_sitting_r5 (x5_3 : Int32) : Int32 :=
  x5_3
def fX7_sitting (f : Nat → Int32) (tb : Int32) (v : Int32) : Int32 :=
  (lq1 (fX7_sitting_b5 f tb v) fX7_sitting_r5 ((f 0).toNatClampNeg) 0 0)
def fX7_leaving (f : Nat → Int32) (tb : Int32) (v : Int32) (c9 : Int32) : Int32 :=
  (if (fX7_sitting f tb v) = 0 then (-1) else (if (fX7_sitting f tb c9) = 0 then (-1) else (bd ((if v ≤ c9 then c9 else v) : Int32) (fun v30_0 => (if (fX7_sitting f tb c9) ≤ (fX7_sitting f tb v) then (if (fX7_sitting f tb v) ≤ (fX7_sitting f tb c9) then v30_0 else c9) else v)))))
def fX7_leavers_b5 (f : Nat → Int32) (v : Int32) (c9 : Int32) (kk5 : Nat) (x5_3 : Int32) (nextkk5 : Int32 → Int32) : Int32 :=
  (bd ((if (fX7_leaving f (nI kk5) v c9) = (-1) then 0 else (fX7_sitting f (nI kk5) (fX7_leaving f (nI kk5) v c9))) : Int32) (fun v30_0 => (nextkk5 (x5_3 + v30_0))))
def fX7_leavers_r5 (x5_3 : Int32) : Int32 :=
  x5_3
def fX7_leavers (f : Nat → Int32) (v : Int32) (c9 : Int32) : Int32 :=
  (lq1 (fX7_leavers_b5 f v c9) fX7_leavers_r5 ((f 1).toNatClampNeg) 0 0)
