def fX7_areSeats_b5 (x : Nat → Int32) (kk5 : Nat) (U5_0 : Nat → Int32) (nextkk5 : (Nat → Int32) → (Int32 × ((Nat → Int32)))) : Int32 × ((Nat → Int32)) :=
  (bd2 (fX7_readsPart x U5_0) (fun r6 U6 => (if r6 = 0 then (0, U6) else (if (U6 4) = (U6 3) then (1, U6) else (bd2 (fX7_takes x U6 59) (fun r28 U28 => (if r28 = 0 then (0, U28) else (nextkk5 U28))))))))
def fX7_areSeats_r5 (U5_0 : Nat → Int32) : Int32 × ((Nat → Int32)) :=
  (0, U5_0)
def fX7_areSeats (x : Nat → Int32) (M : Nat → Int32) : Int32 × ((Nat → Int32)) :=
  (lq1 (fX7_areSeats_b5 x) fX7_areSeats_r5 61 0 (upd M 4 0))
def fX7_firstError (x : Nat → Int32) (M : Nat → Int32) : Int32 × ((Nat → Int32)) :=
  (bd2 (fX7_areSeats x (upd M 0 0)) (fun r6 U6 => ((U6 4), U6)))
def fX7_isDone (f : Nat → Int32) (M : Nat → Int32) : Int32 × ((Nat → Int32)) :=
  (if (fX7_isGuest f (M 6)) = 0 then (0, f) else (if (M 5) = 0 then (bd ((if (fX7_isSeat f (M 7) (M 8)) = 0 then 0 else (if (fX7_reason f 0 ((M 6).toNatClampNeg) (M 7) (M 8)) = 0 then 1 else 0)) : Nat) (fun v67_0 => (bd ((if (nI v67_0) = 0 then f else (bd (fX7_sitsDown f 0 ((M 6).toNatClampNeg) (M 7) (M 8)) (fun U114 => U114))) : (Nat → Int32)) (fun U97_0 => ((nI v67_0), U97_0))))) else (bd ((if (fX7_of f 0 ((M 6).toNatClampNeg) 3) = (-1) then 0 else 1) : Nat) (fun v31_0 => (bd ((if (nI v31_0) = 0 then f else (bd (fX7_standsUp f 0 ((M 6).toNatClampNeg)) (fun U50 => U50))) : (Nat → Int32)) (fun U41_0 => ((nI v31_0), U41_0)))))))
