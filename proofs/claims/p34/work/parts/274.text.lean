/-- a guest's number: what is read, and that the place goes on -/
theorem readsGuest_ok {x M U : Nat → Int32} {r : Int32} (hT : TX M) (h : (r, U) = fX7_readsGuest x M) : TX U ∧ (M 4).toNatClampNeg ≤ (U 4).toNatClampNeg ∧ (¬ r = 0 → (M 4).toNatClampNeg < (U 4).toNatClampNeg) ∧ U 5 = M 5 ∧ (r = 0 ∨ r = 1) ∧ (¬ r = 0 → U 6 ≠ -1) := by
  unfold fX7_readsGuest at h
  obtain ⟨⟨r6, U6⟩, h6⟩ : ∃ z, z = fX7_readsOne x M 48 57 := ⟨_, rfl⟩
  rw [← h6] at h
  unfold bd2 at h
  dsimp only at h
  have hT6 := readsOne_TX hT h6
  have hle := readsOne_le (lo := 48) (hi := 57) hT (by decide) (by decide) (by decide) h6
  have h65 : U6 5 = M 5 := by
    rcases readsOne_at (lo := 48) (hi := 57) hT (by decide) (by decide) (by decide) h6 with ⟨j, -, -, -, rfl, -⟩ | ⟨-, -, rfl⟩
    · exact upd_ne (by decide)
    · rfl
  have key : ∀ V : Nat → Int32, TX V → (M 4).toNatClampNeg ≤ (V 4).toNatClampNeg → (V 6 ≠ -1 → (M 4).toNatClampNeg < (V 4).toNatClampNeg) → V 5 = M 5 → (r, U) = (if (V 6) = (-1) then ((0 : Int32), V) else (1, V)) → TX U ∧ (M 4).toNatClampNeg ≤ (U 4).toNatClampNeg ∧ (¬ r = 0 → (M 4).toNatClampNeg < (U 4).toNatClampNeg) ∧ U 5 = M 5 ∧ (r = 0 ∨ r = 1) ∧ (¬ r = 0 → U 6 ≠ -1) := by
    intro V a1 a2 a3 a4 a5
    by_cases c : V 6 = -1
    · rw [if_pos c] at a5
      cases a5
      exact ⟨a1, a2, fun z => absurd rfl z, a4, Or.inl rfl, fun z => absurd rfl z⟩
    · rw [if_neg c] at a5
      cases a5
      exact ⟨a1, a2, fun _ => a3 c, a4, Or.inr rfl, fun _ => c⟩
  have hTu := TX_upd (k := 6) (v := r6) hT6 (by decide) (by decide)
  have k1 : ∀ h' : (r, U) = (if ((upd U6 6 r6) 6) = (-1) then ((0 : Int32), (upd U6 6 r6)) else (1, (upd U6 6 r6))), TX U ∧ (M 4).toNatClampNeg ≤ (U 4).toNatClampNeg ∧ (¬ r = 0 → (M 4).toNatClampNeg < (U 4).toNatClampNeg) ∧ U 5 = M 5 ∧ (r = 0 ∨ r = 1) ∧ (¬ r = 0 → U 6 ≠ -1) :=
    key _ hTu (by rw [upd_ne (by decide)]; exact hle.1) (fun z => by rw [upd_eq] at z; rw [upd_ne (by decide)]; exact hle.2 z) (by rw [upd_ne (by decide)]; exact h65)
  unfold bd at h
  by_cases c1 : r6 = 1
  · rw [if_pos c1] at h
    by_cases c2 : fX7_in (fX7_sign x (upd U6 6 r6)) 48 53 = 0
    · rw [if_pos c2] at h
      exact k1 h
    · rw [if_neg c2] at h
      obtain ⟨⟨r7, U7⟩, h7⟩ : ∃ z, z = fX7_readsOne x (upd U6 6 r6) 48 53 := ⟨_, rfl⟩
      rw [← h7] at h
      dsimp only at h
      have hT7 := readsOne_TXn (lo := 48) (hi := 53) hTu (by decide) (by decide) (by decide) h7
      have hle7 := readsOne_le (lo := 48) (hi := 53) hTu (by decide) (by decide) (by decide) h7
      rw [upd_ne (by decide)] at hle7
      have hlt := hle.2 (by rw [c1]; decide)
      refine key _ (TX_upd hT7 (by decide) (by decide)) (by rw [upd_ne (by decide)]; omega) (fun _ => by rw [upd_ne (by decide)]; omega) ?_ h
      rw [upd_ne (by decide)]
      rcases readsOne_at (lo := 48) (hi := 53) hTu (by decide) (by decide) (by decide) h7 with ⟨j, -, -, -, rfl, -⟩ | ⟨-, -, rfl⟩
      · rw [upd_ne (by decide), upd_ne (by decide)]; exact h65
      · rw [upd_ne (by decide)]; exact h65
  · rw [if_neg c1] at h
    exact k1 h
theorem readsGuest_TX {x M U : Nat → Int32} {r : Int32} (hT : TX M) (h : (r, U) = fX7_readsGuest x M) : TX U := (readsGuest_ok hT h).1

