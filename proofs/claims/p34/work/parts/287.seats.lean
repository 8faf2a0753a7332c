def fX7_seats_b32 (x : Nat → Int32) (kk32 : Nat) (x32_1 : Int32) (U32_1 : Nat → Int32) (U32_2 : Nat → Int32) (nextkk32 : Int32 → (Nat → Int32) → (Nat → Int32) → (Int32 × ((Nat → Int32) × (Nat → Int32)))) : Int32 × ((Nat → Int32) × (Nat → Int32)) :=
  (bd2 (fX7_readsPart x U32_2) (fun r33 U33 => (if r33 = 0 then (x32_1, (U32_1, (upd U33 3 0))) else (bd2 (fX7_isDone U32_1 U33) (fun r41 U41 => (bd ((if r41 = 0 then 0 else 1) : Nat) (fun v44_0 => (bd2 (fX7_takes x U33 59) (fun r57 U57 => (nextkk32 (x32_1 + (nI v44_0)) U41 U57))))))))))
def fX7_seats_r32 (x32_1 : Int32) (U32_1 : Nat → Int32) (U32_2 : Nat → Int32) : Int32 × ((Nat → Int32) × (Nat → Int32)) :=
  (x32_1, (U32_1, U32_2))
def fX7_seats (f : Nat → Int32) (x : Nat → Int32) (M : Nat → Int32) : Int32 × ((Nat → Int32) × (Nat → Int32)) :=
  (bd2 (fX7_areSeats x M) (fun r2 U2 => (bd ((if r2 = 0 then 1 else 0) : Nat) (fun v5_0 => (bd2 (fX7_holds U2 (nI v5_0)) (fun r13 U13 => (if r13 = 0 then (0, (f, U13)) else (bd (fX7_save f U13) (fun U22 => (lq3 (fX7_seats_b32 x) fX7_seats_r32 61 0 0 U22.1 (upd U22.2 4 0)))))))))))
