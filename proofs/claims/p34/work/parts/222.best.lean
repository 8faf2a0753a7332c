def fX7_best_b8 (f : Nat → Int32) (b : Nat) (g : Nat) (kk8 : Nat) (x8_4 : Int32) (x8_3 : Int32) (nextkk8 : Int32 → Int32 → Int32) : Int32 :=
  (bd2 ((if (f ((b + 18) + (kk8 / 8))) ≤ (nI (kk8 % 8)) then (x8_4, x8_3) else (if (fX7_reason f b g (nI (kk8 / 8)) (nI (kk8 % 8))) = 0 then (bd ((if x8_3 = (-1) then (nI kk8) else (if (fX7_pointsIf f b g (kk8 / 8) (nI (kk8 % 8))) ≤ x8_4 then x8_3 else (nI kk8))) : Int32) (fun v86_0 => (bd ((if v86_0 = (nI kk8) then (fX7_pointsIf f b g (kk8 / 8) (nI (kk8 % 8))) else x8_4) : Int32) (fun v106_0 => (v106_0, v86_0))))) else (x8_4, x8_3))) : Int32 × Int32) (fun v44_0 v44_1 => (nextkk8 v44_0 v44_1)))
def fX7_best_r8 (x8_4 : Int32) (x8_3 : Int32) : Int32 :=
  x8_3
def fX7_best (f : Nat → Int32) (b : Nat) (g : Nat) : Int32 :=
  (lq2 (fX7_best_b8 f b g) fX7_best_r8 ((8 * (f (b + 1))).toNatClampNeg) 0 0 (-1))
