def fX7_bits_b15 (kk15 : Nat) (x15_4 : Int64) (x15_2 : UInt64) (nextkk15 : Int64 → UInt64 → Int64) : Int64 :=
  (if 0 ≤ (Op.cmpValue (FP.dcmp x15_2 FP.dconst1) .g) then ((x15_4 * 4503599627370496) + (FP.d2l (FP.dmul (FP.dsub x15_2 FP.dconst1) 4841369599423283200))) else (nextkk15 (x15_4 - 1) (FP.dmul x15_2 4611686018427387904)))
def fX7_bits_r15 (x15_4 : Int64) (x15_2 : UInt64) : Int64 :=
  0
def fX7_bits (v : UInt64) : Int64 :=
  (if (Op.cmpValue (FP.dcmp v FP.dconst0) .l) = 0 then 0 else (lq2 fX7_bits_b15 fX7_bits_r15 9 0 1023 v))
def fX7_mix (h : Int64) (v : Int64) : Int64 :=
  ((31 * h) + v)
def fX7_mixTable_b59 (f : Nat → Int32) (t5 : Nat) (kk59 : Nat) (x59_2 : Nat) (U59_1 : Int64) (nextkk59 : Nat → Int64 → Int64) : Int64 :=
  (if (fX7_character f t5 (nI x59_2)) = (-1) then U59_1 else (bd (fX7_mix U59_1 ((fX7_character f t5 (nI x59_2)).toInt64)) (fun U77 => (nextkk59 (x59_2 + 1) U77))))
def fX7_mixTable_r59 (x59_2 : Nat) (U59_1 : Int64) : Int64 :=
  U59_1
def fX7_mixTable_b26 (f : Nat → Int32) (t5 : Nat) (kk26 : Nat) (U26_0 : Int64) (nextkk26 : Int64 → Int64) : Int64 :=
  (bd (fX7_mix U26_0 ((fX7_whoSits f 0 (nI t5) (nI kk26)).toInt64)) (fun U48 => (nextkk26 U48)))
def fX7_mixTable_r26 (f : Nat → Int32) (t5 : Nat) (U26_0 : Int64) : Int64 :=
  (lq2 (fX7_mixTable_b59 f t5) fX7_mixTable_r59 12 0 0 U26_0)
def fX7_mixTable_b2 (f : Nat → Int32) (t5 : Nat) (kk2 : Nat) (U2_0 : Int64) (nextkk2 : Int64 → Int64) : Int64 :=
  (bd (fX7_mix U2_0 ((fX7_ofTable f t5 (nI kk2)).toInt64)) (fun U15 => (nextkk2 U15)))
def fX7_mixTable_r2 (f : Nat → Int32) (t5 : Nat) (U2_0 : Int64) : Int64 :=
  (lq1 (fX7_mixTable_b26 f t5) (fX7_mixTable_r26 f t5) ((f (18 + t5)).toNatClampNeg) 0 U2_0)
def fX7_mixTable (f : Nat → Int32) (h : Int64) (t5 : Nat) : Int64 :=
  (lq1 (fX7_mixTable_b2 f t5) (fX7_mixTable_r2 f t5) 5 0 h)
