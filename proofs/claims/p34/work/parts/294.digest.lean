def fX7_digest_b241 (x : Nat → Int32) (kk241 : Nat) (U241_0 : Int64) (nextkk241 : Int64 → (Int64 × ((Nat → Int32) × (Nat → Int32) × Int64))) : Int64 × ((Nat → Int32) × (Nat → Int32) × Int64) :=
  (bd (fX7_mix U241_0 ((x kk241).toInt64)) (fun U257 => (nextkk241 U257)))
def fX7_digest_r241 (M : Nat → Int32) (U212 : (Nat → Int32)) (U241_0 : Int64) : Int64 × ((Nat → Int32) × (Nat → Int32) × Int64) :=
  (U241_0, (U212, (upd M 0 0), U241_0))
def fX7_digest_b147 (f : Nat → Int32) (kk147 : Nat) (U147_0 : Int64) (nextkk147 : Int64 → (Int64 × ((Nat → Int32) × (Nat → Int32) × Int64))) : Int64 × ((Nat → Int32) × (Nat → Int32) × Int64) :=
  (bd (fX7_mix U147_0 ((f (10 + kk147)).toInt64)) (fun U168 => (nextkk147 U168)))
def fX7_digest_r147 (f : Nat → Int32) (x : Nat → Int32) (M : Nat → Int32) (U147_0 : Int64) : Int64 × ((Nat → Int32) × (Nat → Int32) × Int64) :=
  (bd (fX7_mix U147_0 ((fX7_standing f 0 1).toInt64)) (fun U185 => (bd (fX7_mix U185 ((fX7_standing f 2 3).toInt64)) (fun U196 => (bd2 (fX7_seatedIf f 0) (fun r202 U202 => (bd (fX7_mix U196 r202.toInt64) (fun U206 => (bd2 (fX7_seatedIf U202 1) (fun r212 U212 => (bd (fX7_mix U206 r212.toInt64) (fun U216 => (bd (fX7_mix U216 (fX7_bits (fX7_share U212))) (fun U227 => (bd (fX7_mix U227 ((M 3).toInt64)) (fun U236 => (lq1 (fX7_digest_b241 x) (fX7_digest_r241 M U212) ((M 3).toNatClampNeg) 0 U236)))))))))))))))))
def fX7_digest_b115 (f : Nat → Int32) (kk115 : Nat) (U115_0 : Int64) (nextkk115 : Int64 → (Int64 × ((Nat → Int32) × (Nat → Int32) × Int64))) : Int64 × ((Nat → Int32) × (Nat → Int32) × Int64) :=
  (bd (fX7_mix U115_0 ((f (22 + kk115)).toInt64)) (fun U136 => (nextkk115 U136)))
def fX7_digest_r115 (f : Nat → Int32) (x : Nat → Int32) (M : Nat → Int32) (U115_0 : Int64) : Int64 × ((Nat → Int32) × (Nat → Int32) × Int64) :=
  (lq1 (fX7_digest_b147 f) (fX7_digest_r147 f x M) ((f 2).toNatClampNeg) 0 U115_0)
def fX7_digest_b92 (f : Nat → Int32) (kk92 : Nat) (U92_0 : Int64) (nextkk92 : Int64 → (Int64 × ((Nat → Int32) × (Nat → Int32) × Int64))) : Int64 × ((Nat → Int32) × (Nat → Int32) × Int64) :=
  (bd (fX7_mixTable f U92_0 kk92) (fun U104 => (nextkk92 U104)))
def fX7_digest_r92 (f : Nat → Int32) (x : Nat → Int32) (M : Nat → Int32) (U92_0 : Int64) : Int64 × ((Nat → Int32) × (Nat → Int32) × Int64) :=
  (lq1 (fX7_digest_b115 f) (fX7_digest_r115 f x M) ((f 3).toNatClampNeg) 0 U92_0)
def fX7_digest_b50 (f : Nat → Int32) (kk38 : Nat) (kk50 : Nat) (U50_0 : Int64) (nextkk50 : Int64 → (Int64 × ((Nat → Int32) × (Nat → Int32) × Int64))) : Int64 × ((Nat → Int32) × (Nat → Int32) × Int64) :=
  (bd (fX7_mix U50_0 ((fX7_ofGuest f kk38 kk50).toInt64)) (fun U64 => (nextkk50 U64)))
def fX7_digest_r50 (nextkk38 : Int64 → (Int64 × ((Nat → Int32) × (Nat → Int32) × Int64))) (f : Nat → Int32) (kk38 : Nat) (U50_0 : Int64) : Int64 × ((Nat → Int32) × (Nat → Int32) × Int64) :=
  (bd (fX7_mix U50_0 ((fX7_best f 0 kk38).toInt64)) (fun U81 => (nextkk38 U81)))
def fX7_digest_b38 (f : Nat → Int32) (kk38 : Nat) (U38_0 : Int64) (nextkk38 : Int64 → (Int64 × ((Nat → Int32) × (Nat → Int32) × Int64))) : Int64 × ((Nat → Int32) × (Nat → Int32) × Int64) :=
  (lq1 (fX7_digest_b50 f kk38) (fX7_digest_r50 nextkk38 f kk38) 7 0 U38_0)
def fX7_digest_r38 (f : Nat → Int32) (x : Nat → Int32) (M : Nat → Int32) (U38_0 : Int64) : Int64 × ((Nat → Int32) × (Nat → Int32) × Int64) :=
  (lq1 (fX7_digest_b92 f) (fX7_digest_r92 f x M) ((f 1).toNatClampNeg) 0 U38_0)
def fX7_digest_b14 (f : Nat → Int32) (M : Nat → Int32) (kk14 : Nat) (U14_0 : Int64) (nextkk14 : Int64 → (Int64 × ((Nat → Int32) × (Nat → Int32) × Int64))) : Int64 × ((Nat → Int32) × (Nat → Int32) × Int64) :=
  (bd (fX7_mix U14_0 ((fX7_counted f (upd M 0 0) kk14).toInt64)) (fun U27 => (nextkk14 U27)))
def fX7_digest_r14 (f : Nat → Int32) (x : Nat → Int32) (M : Nat → Int32) (U14_0 : Int64) : Int64 × ((Nat → Int32) × (Nat → Int32) × Int64) :=
  (lq1 (fX7_digest_b38 f) (fX7_digest_r38 f x M) ((f 0).toNatClampNeg) 0 U14_0)
def fX7_digest (f : Nat → Int32) (x : Nat → Int32) (M : Nat → Int32) : Int64 × ((Nat → Int32) × (Nat → Int32) × Int64) :=
  (lq1 (fX7_digest_b14 f M) (fX7_digest_r14 f x M) 14 0 3719)
