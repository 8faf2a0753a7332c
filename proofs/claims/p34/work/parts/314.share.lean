theorem wishesMet_in {P : PV} (hG : IN (P 10 0) 16) : ∃ k : Nat, k ≤ 16 ∧ fX4_wishesMet P = nI k := by
  have rG : (P 10 0).toNatClampNeg ≤ 16 := hG.c (by decide)
  unfold fX4_wishesMet
  refine lq1_ind (N := (P 10 0).toNatClampNeg) (fun k x => ∃ j : Nat, j ≤ k ∧ x = nI j) (fun r => ∃ k : Nat, k ≤ 16 ∧ r = nI k) (fun k x nx hk hI hn => ?_) (fun x hI => ?_) _ _ _ (Nat.zero_add _) ⟨0, Nat.le_refl _, rfl⟩
  · obtain ⟨j, hj, rfl⟩ := hI
    unfold fX4_wishesMet_b4
    rw [bd_eq]
    refine hn _ ?_
    by_cases h : fX4_levelOfGuest P (nI k) ≤ 0
    · rw [if_pos h]
      exact ⟨j, by omega, rfl⟩
    · rw [if_neg h]
      exact ⟨j + 1, by omega, nI_add j 1⟩
  · obtain ⟨j, hj, rfl⟩ := hI
    exact ⟨j, by omega, rfl⟩
theorem sm_step {x v c : Int32} {k : Nat} (h : ∃ j : Nat, j ≤ k ∧ x = nI j) (hz : v = (if c = (-1) then x else (x + 1))) : ∃ j : Nat, j ≤ k + 1 ∧ v = nI j := by
  obtain ⟨j, hj, rfl⟩ := h
  rw [hz]
  split
  · exact ⟨j, by omega, rfl⟩
  · exact ⟨j + 1, by omega, nI_add j 1⟩
theorem share_fin2 {P : PV} {x : Int32} {k : Nat} (hG : IN (P 10 0) 16) (hi : ∃ j : Nat, j ≤ k ∧ x = nI j) (hk : k + 0 = (P 10 0).toNatClampNeg) (c : ¬ x = 0) : vf_n64 (FP.ddiv (FP.i2d (fX4_wishesMet P)) (FP.i2d x)) := by
  have rG : (P 10 0).toNatClampNeg ≤ 16 := hG.c (by decide)
  obtain ⟨b, hb, rfl⟩ := hi
  obtain ⟨a, ha, e2⟩ := wishesMet_in hG
  rw [e2]
  exact (shv_ok ha (by omega) (fun z => c (by rw [z]; rfl))).1

