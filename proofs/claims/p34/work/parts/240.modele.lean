def fX7_seatsAll_b4 (b : Nat) (kk4 : Nat) (x4_2 : Int32) (U4_1 : Nat → Int32) (nextkk4 : Int32 → (Nat → Int32) → (Int32 × ((Nat → Int32)))) : Int32 × ((Nat → Int32)) :=
  (bd2 ((if (fX7_of U4_1 b kk4 3) = (-1) then (if (fX7_best U4_1 b kk4) = (-1) then ((x4_2 + 1), U4_1) else (bd (fX7_sitsDown U4_1 b kk4 ((fX7_best U4_1 b kk4) / 8) ((fX7_best U4_1 b kk4) - (fX7_best U4_1 b kk4) / 8 * 8)) (fun U60 => (x4_2, U60)))) else (x4_2, U4_1)) : Int32 × (Nat → Int32)) (fun v24_0 U24_1 => (nextkk4 v24_0 U24_1)))
def fX7_seatsAll_r4 (x4_2 : Int32) (U4_1 : Nat → Int32) : Int32 × ((Nat → Int32)) :=
  (x4_2, U4_1)
def fX7_seatsAll (f : Nat → Int32) (b : Nat) : Int32 × ((Nat → Int32)) :=
  (lq2 (fX7_seatsAll_b4 b) fX7_seatsAll_r4 ((f (b + 0)).toNatClampNeg) 0 0 f)
def fX7_save_b2 (M : Nat → Int32) (kk2 : Nat) (U2_0 : Nat → Int32) (nextkk2 : (Nat → Int32) → ((Nat → Int32) × (Nat → Int32))) : (Nat → Int32) × (Nat → Int32) :=
  (if (M 1) = 6 then (bd (fX7_copies U2_0 (kk2 + 1) kk2) (fun U22 => (nextkk2 U22))) else (bd ((if 6 ≤ (M 1) then 0 else 1) : Nat) (fun v42_0 => (bd (fX7_copies U2_0 0 (((M 1) + (nI v42_0)).toNatClampNeg)) (fun U60 => (U60, (upd M 1 ((M 1) + (nI v42_0)))))))))
def fX7_save_r2 (M : Nat → Int32) (U2_0 : Nat → Int32) : (Nat → Int32) × (Nat → Int32) :=
  (bd ((if 6 ≤ (M 1) then 0 else 1) : Nat) (fun v42_0 => (bd (fX7_copies U2_0 0 (((M 1) + (nI v42_0)).toNatClampNeg)) (fun U60 => (U60, (upd M 1 ((M 1) + (nI v42_0))))))))
def fX7_save (f : Nat → Int32) (M : Nat → Int32) : (Nat → Int32) × (Nat → Int32) :=
  (lq1 (fX7_save_b2 M) (fX7_save_r2 M) (((6 : Int32).toNatClampNeg) - 1) 1 f)
