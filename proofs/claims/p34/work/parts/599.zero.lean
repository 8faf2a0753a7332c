/-! the states of a new object and of a new reference. Mine. -/
theorem F0m_0 {i : Nat} (h : i < 6 ∨ 9 < i) : F0m i = 0 := by
  unfold F0m
  rw [upd_ne (by omega), upd_ne (by omega), upd_ne (by omega), upd_ne (by omega)]
theorem WF_0 : WF F0m 0 0 0 [] := by
  refine ⟨⟨⟨by decide, ⟨0, by decide, F0m_0 (by decide)⟩, ⟨0, by decide, F0m_0 (by decide)⟩, ⟨0, by decide, F0m_0 (by decide)⟩, ⟨0, by decide, F0m_0 (by decide)⟩, fun g hg => Or.inr ⟨0, by decide, F0m_0 (by omega)⟩, fun g hg => Or.inr ⟨0, by decide, F0m_0 (by omega)⟩⟩, F0m_0 (by decide), by decide, List.nodup_nil, F0m_0 (by decide), fun k y hk => by simp at hk, fun g => ⟨fun hg => absurd hg List.not_mem_nil, fun hg => absurd hg.1 (Nat.not_lt_zero g)⟩⟩, F0m_0 (by decide), by decide, fun g hg => absurd hg (Nat.not_lt_zero g), fun g hg => absurd hg (Nat.not_lt_zero g), fun g hg => absurd hg (Nat.not_lt_zero g), fun g hg => absurd hg (Nat.not_lt_zero g), fun g hg => absurd hg (Nat.not_lt_zero g), fun g _ hg => absurd hg (Nat.not_lt_zero g), ⟨3, 5, 3, 2, by decide, by decide, by decide, by decide, by decide, rfl, rfl, rfl, rfl⟩, ⟨0, by decide, F0m_0 (by decide), fun k hk => absurd hk (Nat.not_lt_zero k), fun j k hj => absurd hj (Nat.not_lt_zero j)⟩⟩
theorem P0_0 {a k : Nat} (h : a ≠ 7) : P0 a k = 0 := by
  unfold P0
  rw [if_neg h]
theorem P0_7 : ∀ k : Nat, k < 4 → P0 7 k = F0m (6 + k) := fun k hk => by
  unfold P0
  rw [if_pos rfl, copy_in (by decide) hk]
  rcases (show k = 0 ∨ k = 1 ∨ k = 2 ∨ k = 3 by omega) with rfl | rfl | rfl | rfl <;> rfl
theorem REL_0 : REL P0 F0m 0 0 0 [] := by
  refine ⟨WF_0, P0_0 (by decide), P0_0 (by decide), ?_, ?_, ?_, ?_, fun w g hw hg => ?_, fun t ht => ?_, fun k hk => ?_, fun t z ht => absurd ht (Nat.not_lt_zero t), fun k hk => ?_, fun k hk => absurd hk (Nat.not_lt_zero k)⟩
  · rw [P0_0 (by decide), F0m_0 (by decide)]
  · rw [P0_0 (by decide), F0m_0 (by decide)]
  · rw [P0_0 (by decide), F0m_0 (by decide)]
  · rw [P0_0 (by decide), F0m_0 (by decide)]
  · unfold fX7_of
    rw [P0_0 (by omega), F0m_0 (by omega)]
  · rw [P0_0 (by decide), F0m_0 (by omega)]
  · rw [P0_7 k hk, Nat.zero_add]
  · rw [F0m_0 (by decide)] at hk
    exact absurd hk (Nat.not_lt_zero k)
