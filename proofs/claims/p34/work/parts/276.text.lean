/-- a part: what is read is behind the place from where it was -/
theorem readsPart_ok {x M U : Nat → Int32} {r : Int32} (hT : TX M) (h : (r, U) = fX7_readsPart x M) : TX U ∧ (M 4).toNatClampNeg ≤ (U 4).toNatClampNeg ∧ (¬ r = 0 → (M 4).toNatClampNeg < (U 4).toNatClampNeg) := by
  unfold fX7_readsPart at h
  obtain ⟨⟨r4, U4⟩, h4⟩ : ∃ z, z = fX7_takes x M 45 := ⟨_, rfl⟩
  rw [← h4] at h
  unfold bd2 at h
  dsimp only at h
  have hT4 := takes_TX hT (by decide) h4
  have hle4 := takes_le hT (by decide) h4
  have hTu := TX_upd (k := 5) (v := r4) hT4 (by decide) (by decide)
  obtain ⟨⟨r11, U11⟩, h11⟩ : ∃ z, z = fX7_readsGuest x (upd U4 5 r4) := ⟨_, rfl⟩
  rw [← h11] at h
  dsimp only at h
  obtain ⟨hT11, hle11, hlt11, h115, hr11, h116⟩ := readsGuest_ok hTu h11
  rw [upd_ne (by decide)] at hle11 hlt11
  rw [upd_eq] at h115
  have out0 : (r, U) = ((0 : Int32), U11) → TX U ∧ (M 4).toNatClampNeg ≤ (U 4).toNatClampNeg ∧ (¬ r = 0 → (M 4).toNatClampNeg < (U 4).toNatClampNeg) := fun e => by
    cases e
    exact ⟨hT11, by omega, fun z => absurd rfl z⟩
  have rise : ¬ U11 5 = 0 → (r, U) = (if (U11 6) = (-1) then ((0 : Int32), U11) else (1, U11)) → TX U ∧ (M 4).toNatClampNeg ≤ (U 4).toNatClampNeg ∧ (¬ r = 0 → (M 4).toNatClampNeg < (U 4).toNatClampNeg) := fun c5 e => by
    have := hle4.2 (fun z => c5 (by rw [h115, z]))
    split at e
    · cases e
      exact ⟨hT11, by omega, fun z => absurd rfl z⟩
    · cases e
      exact ⟨hT11, by omega, fun _ => by omega⟩
  by_cases c11 : r11 = 0
  · rw [if_pos c11] at h
    by_cases c5 : U11 5 = 0
    · rw [if_pos c5] at h
      exact out0 h
    · rw [if_neg c5] at h
      exact rise c5 h
  · rw [if_neg c11] at h
    by_cases c5 : U11 5 = 0
    · rw [if_pos c5] at h
      have hlt := hlt11 c11
      obtain ⟨⟨r49, U49⟩, h49⟩ : ∃ z, z = fX7_takes x U11 64 := ⟨_, rfl⟩
      rw [← h49] at h
      dsimp only at h
      have hT49 := takes_TX hT11 (by decide) h49
      have hle49 := takes_le hT11 (by decide) h49
      obtain ⟨⟨v52, U52⟩, h52⟩ : ∃ z, z = (if r49 = 0 then ((-1 : Int32), U49) else (bd2 (fX7_readsOne x U49 48 51) (fun r60 U60 => (r60, U60)))) := ⟨_, rfl⟩
      have h := h
      have e52 : (if r49 = 0 then ((-1 : Int32), U49) else (match fX7_readsOne x U49 48 51 with | (a, b) => (a, b))) = (v52, U52) := h52.symm
      have hT52 := second_TX hT49 h52
      have hle52 : (U49 4).toNatClampNeg ≤ (U52 4).toNatClampNeg := by
        by_cases c : r49 = 0
        · rw [if_pos c] at h52
          cases h52
          exact Nat.le_refl _
        · rw [if_neg c] at h52
          exact (readsOne_le (lo := 48) (hi := 51) hT49 (by decide) (by decide) (by decide) h52).1
      have h2 : (r, U) = (bd2 ((if v52 = (-1) then ((-1 : Int32), upd U52 7 v52) else (bd2 (fX7_readsOne x (upd U52 7 v52) 97 104) (fun r84 U84 => (r84, U84)))) : Int32 × (Nat → Int32)) (fun v76_0 U76_1 => (if v76_0 = (-1) then (0, (upd U76_1 8 v76_0)) else (1, (upd U76_1 8 v76_0))))) := by
        rw [h]
        show _ = _
        have := congrArg (fun z : Int32 × (Nat → Int32) => (bd2 ((if z.1 = (-1) then ((-1 : Int32), upd z.2 7 z.1) else (bd2 (fX7_readsOne x (upd z.2 7 z.1) 97 104) (fun r84 U84 => (r84, U84)))) : Int32 × (Nat → Int32)) (fun v76_0 U76_1 => (if v76_0 = (-1) then ((0 : Int32), (upd U76_1 8 v76_0)) else (1, (upd U76_1 8 v76_0)))))) h52
        exact this.symm
      have hTv := TX_upd (k := 7) (v := v52) hT52 (by decide) (by decide)
      obtain ⟨⟨v76, U76⟩, h76⟩ : ∃ z, z = (if v52 = (-1) then ((-1 : Int32), upd U52 7 v52) else (bd2 (fX7_readsOne x (upd U52 7 v52) 97 104) (fun r84 U84 => (r84, U84)))) := ⟨_, rfl⟩
      rw [← h76] at h2
      have h3 : (r, U) = (if v76 = (-1) then ((0 : Int32), (upd U76 8 v76)) else (1, (upd U76 8 v76))) := h2
      have hT76 : TX U76 ∧ (U52 4).toNatClampNeg ≤ (U76 4).toNatClampNeg := by
        by_cases c : v52 = -1
        · rw [if_pos c] at h76
          cases h76
          refine ⟨hTv, ?_⟩
          rw [upd_ne (by decide)]
          exact Nat.le_refl _
        · rw [if_neg c] at h76
          have a := readsOne_le (lo := 97) (hi := 104) hTv (by decide) (by decide) (by decide) h76
          rw [upd_ne (by decide)] at a
          exact ⟨readsOne_TXn (lo := 97) (hi := 104) hTv (by decide) (by decide) (by decide) h76, a.1⟩
      have hTz := TX_upd (k := 8) (v := v76) hT76.1 (by decide) (by decide)
      have hz4 : ((upd U76 8 v76) 4).toNatClampNeg = (U76 4).toNatClampNeg := by rw [upd_ne (by decide)]
      have h49l := hle49.1
      have h76l := hT76.2
      by_cases c : v76 = -1
      · rw [if_pos c] at h3
        cases h3
        exact ⟨hTz, by omega, fun z => absurd rfl z⟩
      · rw [if_neg c] at h3
        cases h3
        exact ⟨hTz, by omega, fun _ => by omega⟩
    · rw [if_neg c5, if_neg c5] at h
      exact rise c5 h
theorem readsPart_TX {x M U : Nat → Int32} {r : Int32} (hT : TX M) (h : (r, U) = fX7_readsPart x M) : TX U := (readsPart_ok hT h).1
theorem areSeats_step {x U5 U6 U28 : Nat → Int32} {r6 r28 : Int32} {k : Nat} (hT : TX U5) (hk : k ≤ (U5 4).toNatClampNeg) (h6 : (r6, U6) = fX7_readsPart x U5) (c : ¬ r6 = 0) (h28 : (r28, U28) = fX7_takes x U6 59) : TX U28 ∧ k + 1 ≤ (U28 4).toNatClampNeg := by
  obtain ⟨a, -, b⟩ := readsPart_ok hT h6
  have e := takes_le a (v := 59) (by decide) h28
  have := b c
  exact ⟨takes_TX a (by decide) h28, by omega⟩

