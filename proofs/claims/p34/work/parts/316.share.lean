/-- a share is one of some few -/
theorem shareMet_at {P : PV} (hG : IN (P 10 0) 16) : fX4_shareMet P = FP.dconst1 ∨ ∃ a b : Nat, a ≤ 16 ∧ b ≤ 16 ∧ b ≠ 0 ∧ fX4_shareMet P = shv a b := by
  have rG : (P 10 0).toNatClampNeg ≤ 16 := hG.c (by decide)
  obtain ⟨a, ha, e2⟩ := wishesMet_in hG
  unfold fX4_shareMet
  refine lq1_ind (N := (P 10 0).toNatClampNeg) (fun k x => ∃ j : Nat, j ≤ k ∧ x = nI j) (fun r => r = FP.dconst1 ∨ ∃ a b : Nat, a ≤ 16 ∧ b ≤ 16 ∧ b ≠ 0 ∧ r = shv a b) (fun k x nx hk hI hn => ?_) (fun x hI => ?_) _ _ _ (Nat.zero_add _) ⟨0, Nat.le_refl _, rfl⟩
  · unfold fX4_shareMet_b4
    rw [bd_eq]
    exact hn _ (sm_step hI rfl)
  · obtain ⟨b, hb, rfl⟩ := hI
    unfold fX4_shareMet_r4
    by_cases c : nI b = 0
    · left
      rw [if_pos c]
    · right
      refine ⟨a, b, ha, by omega, fun z => c (by rw [z]; rfl), ?_⟩
      rw [if_neg c, e2]
      rfl
theorem share_okB2 {P : PV} (hG : IN (P 10 0) 16) : okB (fX4_shareMet P) = true := by
  rcases shareMet_at hG with e | ⟨a, b, ha, hb, h0, e⟩
  · rw [e]
    exact one_ok
  · rw [e]
    exact (shv_ok ha hb h0).2

