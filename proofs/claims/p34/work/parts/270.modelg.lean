def fX7_ofGuest (f : Nat → Int32) (g : Nat) (w9 : Nat) : Int32 :=
  (if 5 ≤ (nI w9) then (if (nI w9) = 5 then (fX7_metBy f 0 g) else (fX7_pointsOf f 0 g)) else (fX7_of f 0 g w9))
def fX7_character_b5 (f : Nat → Int32) (t5 : Nat) (kk5 : Nat) (x5_3 : Int32) (nextkk5 : Int32 → Int32) : Int32 :=
  (if x5_3 = 0 then (if (fX7_whoSits f 0 (nI t5) (nI kk5)) = (-1) then 46 else (65 + (fX7_of f 0 ((fX7_whoSits f 0 (nI t5) (nI kk5)).toNatClampNeg) 0))) else (if (fX7_isAtLeg (nI kk5)) = 0 then (nextkk5 (x5_3 + (-1))) else (if (x5_3 + (-1)) = 0 then 124 else (nextkk5 ((x5_3 + (-1)) + (-1))))))
def fX7_character_r5 (x5_3 : Int32) : Int32 :=
  (-1)
def fX7_character (f : Nat → Int32) (t5 : Nat) (i : Int32) : Int32 :=
  (lq1 (fX7_character_b5 f t5) fX7_character_r5 ((f (18 + t5)).toNatClampNeg) 0 i)
def fX7_ofTable_b11 (f : Nat → Int32) (t5 : Nat) (kk11 : Nat) (x11_5 : Int32) (x11_4 : Int32) (x11_3 : Int32) (nextkk11 : Int32 → Int32 → Int32 → Int32) : Int32 :=
  (bd ((if (fX7_whoSits f 0 (nI t5) (nI kk11)) = (-1) then 0 else 1) : Nat) (fun v39_0 => (bd ((if (fX7_whoSits f 0 (nI t5) (nI kk11)) = (-1) then 0 else ((1 : Int32) <<< ((fX7_of f 0 ((fX7_whoSits f 0 (nI t5) (nI kk11)).toNatClampNeg) 0) &&& 31))) : Int32) (fun v54_0 => (bd ((if (fX7_whoSits f 0 (nI t5) (nI kk11)) = (-1) then (if (fX7_isAtLeg (nI kk11)) = 0 then 1 else 0) else 0) : Nat) (fun v79_0 => (nextkk11 (x11_5 + (nI v79_0)) (x11_4 ||| v54_0) (x11_3 + (nI v39_0)))))))))
def fX7_ofTable_r11 (f : Nat → Int32) (t5 : Nat) (w : Int32) (x11_5 : Int32) (x11_4 : Int32) (x11_3 : Int32) : Int32 :=
  (if w = 0 then (f (18 + t5)) else (if w = 1 then x11_3 else (if w = 2 then x11_4 else (if w = 3 then (fX7_points f 0 (nI t5)) else x11_5))))
def fX7_ofTable (f : Nat → Int32) (t5 : Nat) (w : Int32) : Int32 :=
  (lq3 (fX7_ofTable_b11 f t5) (fX7_ofTable_r11 f t5 w) ((f (18 + t5)).toNatClampNeg) 0 0 0 0)
def fX7_counted (f : Nat → Int32) (M : Nat → Int32) (w9 : Nat) : Int32 :=
  (if (nI w9) = 4 then (fX7_points f 0 (-1)) else (if (nI w9) = 5 then (fX7_points f 0 (-1)) else (if (nI w9) = 6 then (fX7_wishes f 1) else (if (nI w9) = 7 then (f ((4 + w9) - 7)) else (if (nI w9) = 8 then (f ((4 + w9) - 7)) else (if (nI w9) = 9 then (if 4 ≤ (nI w9) then (f ((6 + w9) - 9)) else (f w9)) else (if (nI w9) = 10 then (if 4 ≤ (nI w9) then (f ((6 + w9) - 9)) else (f w9)) else (if (nI w9) = 11 then (if 4 ≤ (nI w9) then (f ((6 + w9) - 9)) else (f w9)) else (if (nI w9) = 12 then (if 4 ≤ (nI w9) then (f ((6 + w9) - 9)) else (f w9)) else (if (nI w9) = 13 then (M 1) else (if 4 ≤ (nI w9) then (f ((6 + w9) - 9)) else (f w9))))))))))))
def fX7_canSwap (f : Nat → Int32) (g : Nat) (g2 : Nat) : Int32 × ((Nat → Int32)) :=
  (bd (fX7_copies f 0 8) (fun U39 => (bd (fX7_standsUp U39 944 g) (fun U47 => (bd (fX7_standsUp U47 944 g2) (fun U55 => (bd ((if (fX7_reason U55 944 g (fX7_of f 0 g2 3) (fX7_of f 0 g2 4)) = 0 then 1 else 0) : Nat) (fun v70_0 => (bd (fX7_sitsDown U55 944 g (fX7_of f 0 g2 3) (fX7_of f 0 g2 4)) (fun U89 => (bd ((if (nI v70_0) = 0 then 0 else (if (fX7_reason U89 944 g2 (fX7_of f 0 g 3) (fX7_of f 0 g 4)) = 0 then 1 else 0)) : Nat) (fun v94_0 => (bd (fX7_sitsDown U89 944 g2 (fX7_of f 0 g 3) (fX7_of f 0 g 4)) (fun U126 => ((nI v94_0), U126)))))))))))))))
def fX7_seatedIf (f : Nat → Int32) (w : Int32) : Int32 × ((Nat → Int32)) :=
  (bd (fX7_copies f 0 8) (fun U4 => (bd2 (fX7_seatsAll U4 944) (fun r11 U11 => (if w = 0 then (r11, U11) else (((fX7_points U11 944 (-1)) + 1000), U11))))))
def fX7_sign (x : Nat → Int32) (M : Nat → Int32) : Int32 :=
  (if (nI (M 3).toNatClampNeg) ≤ (nI (M 4).toNatClampNeg) then 0 else (x ((M 4).toNatClampNeg)))
def fX7_takes (x : Nat → Int32) (M : Nat → Int32) (v : Int32) : Int32 × ((Nat → Int32)) :=
  (bd ((if (fX7_sign x M) = v then 1 else 0) : Nat) (fun v5_0 => (bd ((if (nI v5_0) = 0 then 0 else 1) : Nat) (fun v20_0 => ((nI v5_0), (upd M 4 ((M 4) + (nI v20_0))))))))
def fX7_readsOne (x : Nat → Int32) (M : Nat → Int32) (v : Int32) (a : Int32) : Int32 × ((Nat → Int32)) :=
  (bd ((if (fX7_in (fX7_sign x M) v a) = 0 then (-1) else ((fX7_sign x M) - v)) : Int32) (fun v9_0 => (bd ((if v9_0 = (-1) then 0 else 1) : Nat) (fun v30_0 => (v9_0, (upd M 4 ((M 4) + (nI v30_0))))))))
