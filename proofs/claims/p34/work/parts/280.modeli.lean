def fX7_guest (f : Nat → Int32) (M : Nat → Int32) (v : Int32) (a : Int32) : Int32 × ((Nat → Int32) × (Nat → Int32)) :=
  (bd ((if (fX7_isFamily v) = 0 then 1 else (if (fX7_in a 1 3) = 0 then 1 else (if (f 0) = 16 then 2 else 0))) : Nat) (fun v5_0 => (bd2 (fX7_holds M (nI v5_0)) (fun r37 U37 => (if r37 = 0 then (0, (f, U37)) else (bd (fX7_save f U37) (fun U46 => (bd (fX7_lay (upd U46.1 0 ((U46.1 0) + 1)) 0 ((U46.1 0).toNatClampNeg) 0 v) (fun U71 => (bd (fX7_lay U71 0 ((U46.1 0).toNatClampNeg) 1 a) (fun U79 => (bd (fX7_lay U79 0 ((U46.1 0).toNatClampNeg) 2 (-1)) (fun U87 => (bd (fX7_lay U87 0 ((U46.1 0).toNatClampNeg) 3 (-1)) (fun U95 => (bd (fX7_lay U95 0 ((U46.1 0).toNatClampNeg) 4 (-1)) (fun U103 => ((nI (U46.1 0).toNatClampNeg), (U103, U46.2)))))))))))))))))))
def fX7_wish (f : Nat → Int32) (M : Nat → Int32) (v : Int32) (a : Int32) : Int32 × ((Nat → Int32) × (Nat → Int32)) :=
  (bd ((if (fX7_isGuest f v) = 0 then 0 else (if a = (-1) then 1 else (if (fX7_isGuest f a) = 0 then 0 else 1))) : Nat) (fun v5_0 => (bd ((if (nI v5_0) = 0 then 1 else (if a = v then 2 else 0)) : Nat) (fun v29_0 => (bd2 (fX7_holds M (nI v29_0)) (fun r46 U46 => (if r46 = 0 then (0, (f, U46)) else (bd (fX7_save f U46) (fun U55 => (bd (fX7_lay U55.1 0 v.toNatClampNeg 2 a) (fun U72 => ((fX7_of U55.1 0 v.toNatClampNeg 2), (U72, U55.2)))))))))))))
def fX7_table (f : Nat → Int32) (M : Nat → Int32) (n5 : Int32) : Int32 × ((Nat → Int32) × (Nat → Int32)) :=
  (bd ((if (fX7_in n5 3 8) = 0 then 1 else (if (f 1) = 4 then 2 else 0)) : Nat) (fun v8_0 => (bd2 (fX7_holds M (nI v8_0)) (fun r30 U30 => (if r30 = 0 then (0, (f, U30)) else (bd (fX7_save f U30) (fun U39 => ((((upd (upd U39.1 (18 + (U39.1 1).toNatClampNeg) n5) 1 (((upd U39.1 (18 + (U39.1 1).toNatClampNeg) n5) 1) + 1)) 1) - 1), ((upd (upd U39.1 (18 + (U39.1 1).toNatClampNeg) n5) 1 (((upd U39.1 (18 + (U39.1 1).toNatClampNeg) n5) 1) + 1)), U39.2)))))))))
def fX7_set (f : Nat → Int32) (M : Nat → Int32) (v : Int32) (a : Int32) : Int32 × ((Nat → Int32) × (Nat → Int32)) :=
  (bd ((if (fX7_in v 0 3) = 0 then 1 else (bd ((if v = 0 then 1 else 0) : Nat) (fun v16_0 => (if (fX7_in a (nI v16_0) (fX7_mostOf v)) = 0 then 2 else 0)))) : Nat) (fun v7_0 => (bd2 (fX7_holds M (nI v7_0)) (fun r39 U39 => (if r39 = 0 then (0, (f, U39)) else (bd (fX7_save f U39) (fun U48 => ((U48.1 (6 + v.toNatClampNeg)), ((upd U48.1 (6 + v.toNatClampNeg) a), U48.2)))))))))
def fX7_sit (f : Nat → Int32) (M : Nat → Int32) (v : Int32) (tb : Int32) (z : Int32) : Int32 × ((Nat → Int32) × (Nat → Int32)) :=
  (bd ((if (fX7_isGuest f v) = 0 then 0 else (if (fX7_isSeat f tb z) = 0 then 0 else 1)) : Nat) (fun v5_0 => (bd ((if (nI v5_0) = 0 then 1 else (if (fX7_reason f 0 v.toNatClampNeg tb z) ≤ 0 then 0 else 2)) : Nat) (fun v27_0 => (bd2 (fX7_holds M (nI v27_0)) (fun r50 U50 => (if r50 = 0 then (0, (f, U50)) else (bd (fX7_save f U50) (fun U59 => (bd (fX7_sitsDown U59.1 0 v.toNatClampNeg tb z) (fun U67 => ((fX7_points U67 0 (-1)), (U67, U59.2)))))))))))))
def fX7_rise (f : Nat → Int32) (M : Nat → Int32) (v : Int32) : Int32 × ((Nat → Int32) × (Nat → Int32)) :=
  (bd ((if (fX7_isGuest f v) = 0 then 1 else (if (fX7_of f 0 v.toNatClampNeg 3) = (-1) then 2 else 0)) : Nat) (fun v8_0 => (bd2 (fX7_holds M (nI v8_0)) (fun r31 U31 => (if r31 = 0 then (0, (f, U31)) else (bd (fX7_save f U31) (fun U40 => (bd (fX7_standsUp U40.1 0 v.toNatClampNeg) (fun U46 => ((fX7_points U46 0 (-1)), (U46, U40.2)))))))))))
def fX7_seatAll (f : Nat → Int32) (M : Nat → Int32) : Int32 × ((Nat → Int32) × (Nat → Int32)) :=
  (bd (fX7_save f (upd M 0 0)) (fun U6 => (bd2 (fX7_seatsAll U6.1 0) (fun r11 U11 => (r11, (U11, U6.2))))))
def fX7_append (x : Nat → Int32) (M : Nat → Int32) (v : Int32) : Int32 × ((Nat → Int32) × (Nat → Int32)) :=
  (bd ((if (fX7_in v 33 126) = 0 then 1 else (if (M 3) = 60 then 2 else 0)) : Nat) (fun v9_0 => (bd2 (fX7_holds M (nI v9_0)) (fun r30 U30 => (if r30 = 0 then (0, (x, U30)) else (((U30 3) + 1), ((upd x ((U30 3).toNatClampNeg) v), (upd U30 3 ((U30 3) + 1)))))))))
def fX7_clearBuffer (M : Nat → Int32) : Int32 × ((Nat → Int32)) :=
  ((M 3), (upd (upd M 0 0) 3 0))
def fX7_undo (f : Nat → Int32) (M : Nat → Int32) : Int32 × ((Nat → Int32) × (Nat → Int32)) :=
  (bd ((if (M 1) ≤ 0 then 1 else 0) : Nat) (fun v5_0 => (bd2 (fX7_holds M (nI v5_0)) (fun r13 U13 => (if r13 = 0 then (0, (f, U13)) else (bd (fX7_copies f ((U13 1).toNatClampNeg) 0) (fun U27 => (((U13 1) - 1), (U27, (upd U13 1 ((U13 1) - 1)))))))))))
def fX7_keep (f : Nat → Int32) (M : Nat → Int32) : Int32 × ((Nat → Int32) × (Nat → Int32)) :=
  (bd (fX7_copies f 0 7) (fun U9 => ((U9 3), (U9, (upd (upd M 0 0) 2 1)))))
def fX7_restore (f : Nat → Int32) (M : Nat → Int32) : Int32 × ((Nat → Int32) × (Nat → Int32)) :=
  (bd ((if (M 2) = 0 then 1 else 0) : Nat) (fun v5_0 => (bd2 (fX7_holds M (nI v5_0)) (fun r13 U13 => (if r13 = 0 then (0, (f, U13)) else (bd (fX7_save f U13) (fun U22 => (bd (fX7_copies U22.1 7 0) (fun U29 => ((U29 3), (U29, U22.2)))))))))))
def fX7_told (f : Nat → Int32) (M : Nat → Int32) (tb : Int32) (i : Int32) : Int32 × ((Nat → Int32)) :=
  (bd ((if (fX7_isTable f tb) = 0 then 1 else (if 0 ≤ i then 0 else 2)) : Nat) (fun v6_0 => (bd2 (fX7_holds M (nI v6_0)) (fun r22 U22 => (if r22 = 0 then (0, U22) else ((fX7_character f tb.toNatClampNeg i), U22))))))
def fX7_guestOf (f : Nat → Int32) (M : Nat → Int32) (v : Int32) (a : Int32) : Int32 × ((Nat → Int32)) :=
  (bd ((if (fX7_isGuest f v) = 0 then 1 else (if (fX7_in a 0 6) = 0 then 2 else 0)) : Nat) (fun v6_0 => (bd2 (fX7_holds M (nI v6_0)) (fun r28 U28 => (if r28 = 0 then (0, U28) else ((fX7_ofGuest f v.toNatClampNeg a.toNatClampNeg), U28))))))
def fX7_tableOf (f : Nat → Int32) (M : Nat → Int32) (tb : Int32) (a : Int32) : Int32 × ((Nat → Int32)) :=
  (bd ((if (fX7_isTable f tb) = 0 then 1 else (if (fX7_in a 0 4) = 0 then 2 else 0)) : Nat) (fun v6_0 => (bd2 (fX7_holds M (nI v6_0)) (fun r27 U27 => (if r27 = 0 then (0, U27) else ((fX7_ofTable f tb.toNatClampNeg a), U27))))))
def fX7_who (f : Nat → Int32) (M : Nat → Int32) (tb : Int32) (z : Int32) : Int32 × ((Nat → Int32)) :=
  (bd ((if (fX7_isSeat f tb z) = 0 then 1 else 0) : Nat) (fun v7_0 => (bd2 (fX7_holds M (nI v7_0)) (fun r15 U15 => (if r15 = 0 then (0, U15) else ((fX7_whoSits f 0 tb z), U15))))))
def fX7_seated (f : Nat → Int32) (M : Nat → Int32) (v : Int32) : Int32 × ((Nat → Int32)) :=
  (bd ((if 0 ≤ v then 0 else 1) : Nat) (fun v2_0 => (bd2 (fX7_holds M (nI v2_0)) (fun r10 U10 => (if r10 = 0 then (0, U10) else (if (f 3) ≤ (nI v.toNatClampNeg) then ((-1), U10) else ((f (22 + v.toNatClampNeg)), U10)))))))
def fX7_feudAt (f : Nat → Int32) (M : Nat → Int32) (v : Int32) : Int32 × ((Nat → Int32)) :=
  (bd ((if 0 ≤ v then 0 else 1) : Nat) (fun v2_0 => (bd2 (fX7_holds M (nI v2_0)) (fun r10 U10 => (if r10 = 0 then (0, U10) else (if (f 2) ≤ (nI v.toNatClampNeg) then ((-1), U10) else ((f (10 + v.toNatClampNeg)), U10)))))))
def fX7_count (f : Nat → Int32) (M : Nat → Int32) (v : Int32) : Int32 × ((Nat → Int32)) :=
  (bd ((if (fX7_in v 0 13) = 0 then 1 else 0) : Nat) (fun v8_0 => (bd2 (fX7_holds M (nI v8_0)) (fun r16 U16 => (if r16 = 0 then (0, U16) else ((fX7_counted f U16 v.toNatClampNeg), U16))))))
def fX7_whyNot (f : Nat → Int32) (M : Nat → Int32) (v : Int32) (tb : Int32) (z : Int32) : Int32 × ((Nat → Int32)) :=
  (bd ((if (fX7_isGuest f v) = 0 then 1 else (if (fX7_isSeat f tb z) = 0 then 1 else 0)) : Nat) (fun v6_0 => (bd2 (fX7_holds M (nI v6_0)) (fun r23 U23 => (if r23 = 0 then (0, U23) else ((fX7_reason f 0 v.toNatClampNeg tb z), U23))))))
def fX7_ifSat (f : Nat → Int32) (M : Nat → Int32) (v : Int32) (tb : Int32) (z : Int32) : Int32 × ((Nat → Int32)) :=
  (bd ((if (fX7_isGuest f v) = 0 then 1 else (if (fX7_isSeat f tb z) = 0 then 1 else 0)) : Nat) (fun v6_0 => (bd2 (fX7_holds M (nI v6_0)) (fun r23 U23 => (if r23 = 0 then (0, U23) else (if (fX7_reason f 0 v.toNatClampNeg tb z) ≤ 0 then (((fX7_pointsIf f 0 v.toNatClampNeg tb.toNatClampNeg z) + 1000), U23) else ((-1), U23)))))))
def fX7_bestSeat (f : Nat → Int32) (M : Nat → Int32) (v : Int32) : Int32 × ((Nat → Int32)) :=
  (bd ((if (fX7_isGuest f v) = 0 then 1 else 0) : Nat) (fun v6_0 => (bd2 (fX7_holds M (nI v6_0)) (fun r14 U14 => (if r14 = 0 then (0, U14) else ((fX7_best f 0 v.toNatClampNeg), U14))))))
def fX7_ifFeud (f : Nat → Int32) (M : Nat → Int32) (v : Int32) (a : Int32) : Int32 × ((Nat → Int32)) :=
  (bd ((if (fX7_arePair v a) = 0 then 1 else 0) : Nat) (fun v6_0 => (bd2 (fX7_holds M (nI v6_0)) (fun r14 U14 => (if r14 = 0 then (0, U14) else ((fX7_standing f v a), U14))))))
def fX7_ifSeated (f : Nat → Int32) (M : Nat → Int32) (v : Int32) : Int32 × ((Nat → Int32) × (Nat → Int32)) :=
  (bd ((if (fX7_in v 0 1) = 0 then 1 else 0) : Nat) (fun v7_0 => (bd2 (fX7_holds M (nI v7_0)) (fun r15 U15 => (if r15 = 0 then (0, (f, U15)) else (bd2 (fX7_seatedIf f v) (fun r23 U23 => (r23, (U23, U15)))))))))
