/-! shares, and their bits. Mine. -/
theorem wishes_in {f : Nat → Int32} (hR : RW f 0) (a : Int32) : ∃ k : Nat, k ≤ 16 ∧ fX7_wishes f a = nI k := by
  have rG : (f 0).toNatClampNeg ≤ 16 := hR.2.1.c (by decide)
  unfold fX7_wishes
  refine lq1_ind (N := (f 0).toNatClampNeg) (fun k x => ∃ j : Nat, j ≤ k ∧ x = nI j) (fun r => ∃ k : Nat, k ≤ 16 ∧ r = nI k) (fun k x nx hk hI hn => ?_) (fun x hI => ?_) _ _ _ (Nat.zero_add _) ⟨0, Nat.le_refl _, rfl⟩
  · obtain ⟨j, hj, rfl⟩ := hI
    unfold fX7_wishes_b4
    rw [bd_eq, bd_eq]
    generalize (if a = 0 then (if (fX7_of f 0 k 2) = (-1) then 0 else 1) else (if (fX7_metBy f 0 k) ≤ 0 then 0 else 1)) = v
    refine hn _ ?_
    by_cases h : nI v = 0
    · rw [if_pos h]
      exact ⟨j, by omega, nI_add j 0⟩
    · rw [if_neg h]
      exact ⟨j + 1, by omega, nI_add j 1⟩
  · obtain ⟨j, hj, rfl⟩ := hI
    exact ⟨j, by omega, rfl⟩
def shv (a b : Nat) : UInt64 := FP.ddiv (FP.i2d (nI a)) (FP.i2d (nI b))
def dbl (v : UInt64) : Nat → UInt64
  | 0 => v
  | k + 1 => FP.dmul (dbl v k) 4611686018427387904
def fin64 (r : UInt64) : Bool := decide (r &&& 0x7fffffffffffffff ≤ 0x7ff0000000000000)
theorem fin64_n {r : UInt64} (h : fin64 r = true) : vf_n64 r := by
  unfold vf_n64
  exact of_decide_eq_true h
/-- all that the bits of a share rest on, to be reckoned -/
def okB (v : UInt64) : Bool := (List.range 9).all (fun k => fin64 (dbl v k) && fin64 (FP.dsub (dbl v k) FP.dconst1) && fin64 (FP.dmul (FP.dsub (dbl v k) FP.dconst1) 4841369599423283200)) && ((decide (Op.cmpValue (FP.dcmp v FP.dconst0) .l = 0) && decide (¬ 0 < Op.cmpValue (FP.dcmp v FP.dconst0) .g)) || (List.range 8).any (fun n => decide (0 ≤ Op.cmpValue (FP.dcmp (dbl v n) FP.dconst1) .g)))
theorem okB_fin {v : UInt64} (h : okB v = true) {k : Nat} (hk : k < 9) : vf_n64 (dbl v k) ∧ vf_n64 (FP.dsub (dbl v k) FP.dconst1) ∧ vf_n64 (FP.dmul (FP.dsub (dbl v k) FP.dconst1) 4841369599423283200) := by
  unfold okB at h
  rw [Bool.and_eq_true] at h
  have h1 := List.all_eq_true.mp h.1 k (List.mem_range.mpr hk)
  rw [Bool.and_eq_true, Bool.and_eq_true] at h1
  exact ⟨fin64_n h1.1.1, fin64_n h1.1.2, fin64_n h1.2⟩
theorem okB_end {v : UInt64} (h : okB v = true) : (Op.cmpValue (FP.dcmp v FP.dconst0) .l = 0 ∧ ¬ 0 < Op.cmpValue (FP.dcmp v FP.dconst0) .g) ∨ ∃ n : Nat, n < 8 ∧ 0 ≤ Op.cmpValue (FP.dcmp (dbl v n) FP.dconst1) .g := by
  unfold okB at h
  rw [Bool.and_eq_true, Bool.or_eq_true] at h
  rcases h.2 with h2 | h2
  · rw [Bool.and_eq_true] at h2
    exact Or.inl ⟨of_decide_eq_true h2.1, of_decide_eq_true h2.2⟩
  · obtain ⟨n, hn, h3⟩ := List.any_eq_true.mp h2
    exact Or.inr ⟨n, List.mem_range.mp hn, of_decide_eq_true h3⟩
theorem shv_all : (List.range 17).all (fun a => (List.range 17).all (fun b => b == 0 || (fin64 (shv a b) && okB (shv a b)))) = true := by decide +kernel
theorem shv_ok {a b : Nat} (ha : a ≤ 16) (hb : b ≤ 16) (h0 : b ≠ 0) : vf_n64 (shv a b) ∧ okB (shv a b) = true := by
  have h1 := List.all_eq_true.mp (List.all_eq_true.mp shv_all a (List.mem_range.mpr (by omega))) b (List.mem_range.mpr (by omega))
  rw [Bool.or_eq_true] at h1
  rcases h1 with h1 | h1
  · exact absurd (eq_of_beq h1) h0
  · rw [Bool.and_eq_true] at h1
    exact ⟨fin64_n h1.1, h1.2⟩
theorem one_ok : okB FP.dconst1 = true := by decide +kernel
theorem share_fin {f : Nat → Int32} (hR : RW f 0) (c : ¬ fX7_wishes f 0 = 0) : vf_n64 (FP.ddiv (FP.i2d (fX7_wishes f 1)) (FP.i2d (fX7_wishes f 0))) := by
  obtain ⟨b, hb, e⟩ := wishes_in hR 0
  obtain ⟨a, ha, e2⟩ := wishes_in hR 1
  rw [e] at c ⊢
  rw [e2]
  exact (shv_ok ha hb (fun z => c (by rw [z]; rfl))).1

