/-- the saved states of both sides -/
def HI (Ps : Nat → PV) (o v : Nat) (f : Nat → Int32) : Prop := o < 6 ∧ v ≤ 6 ∧ ∀ j : Nat, 1 ≤ j → j ≤ v → ∃ (G T : Nat) (L : List Nat), REL (Ps ((o + (j - 1)) % 6)) f (118 * j) G T L
theorem HI_fr {Ps : Nat → PV} {o v : Nat} {f F : Nat → Int32} (h : HI Ps o v f) (hF : ∀ i : Nat, 118 ≤ i → i < 826 → F i = f i) : HI Ps o v F := by
  obtain ⟨h1, h2, h3⟩ := h
  refine ⟨h1, h2, fun j h4 h5 => ?_⟩
  obtain ⟨G, T, L, h6⟩ := h3 j h4 h5
  exact ⟨G, T, L, REL_to (PE_refl _) (fun k hk => hF _ (by omega) (by omega)) (by omega) h6⟩
theorem save_HI {PN : PV} {Ps : Nat → PV} {o v G T : Nat} {L : List Nat} {f M : Nat → Int32} (hR : REL PN f 0 G T L) (h : HI Ps o v f) (em : M 1 = nI v) :
    HI (fX0_save Ps o v PN).1 (fX0_save Ps o v PN).2.1 (fX0_save Ps o v PN).2.2 (fX7_save f M).1 ∧ (fX7_save f M).2 = upd M 1 (nI (fX0_save Ps o v PN).2.2) ∧ (∀ k : Nat, k < 118 → (fX7_save f M).1 k = f k) ∧ (∀ k : Nat, k < 118 → (fX7_save f M).1 (826 + k) = f (826 + k)) ∧ (∀ k : Nat, k < 118 → (fX7_save f M).1 (944 + k) = f (944 + k)) := by
  obtain ⟨h1, h2, h3⟩ := h
  obtain ⟨s1, s2⟩ := save_at (f := f) h2 em
  have r7 : savSrc v 7 = 7 := by unfold savSrc; split <;> simp <;> omega
  have r8 : savSrc v 8 = 8 := by unfold savSrc; split <;> simp <;> omega
  refine ⟨?_, ?_, fun k hk => save_row0 h2 em hk, fun k hk => ?_, fun k hk => ?_⟩
  · unfold fX0_save
    by_cases c : v < 6
    · rw [if_pos c]
      refine ⟨h1, by show v + 1 ≤ 6; omega, fun j h4 h5 => ?_⟩
      have h5 : j ≤ v + 1 := h5
      show ∃ (G T : Nat) (L : List Nat), REL (va_up Ps ((o + v) % 6) (fX2_copyFrom (Ps ((o + v) % 6)) PN) ((o + (j - 1)) % 6)) (fX7_save f M).1 (118 * j) G T L
      by_cases cj : j = v + 1
      · subst cj
        rw [show o + (v + 1 - 1) = o + v by omega, va_up_self]
        exact ⟨G, T, L, copy_REL (fun k hk => by
          rw [s1 (v + 1) k hk, show savSrc v (v + 1) = 0 by unfold savSrc; rw [if_pos c, if_pos rfl]]) (by omega) hR⟩
      · rw [va_up_ne _ _ (by omega)]
        obtain ⟨G', T', L', h6⟩ := h3 j h4 (by omega)
        exact ⟨G', T', L', REL_to (PE_refl _) (fun k hk => by
          rw [s1 j k hk, show savSrc v j = j by unfold savSrc; rw [if_pos c, if_neg cj]]) (by omega) h6⟩
    · obtain rfl : v = 6 := by omega
      rw [if_neg c]
      refine ⟨Nat.mod_lt _ (by decide), Nat.le_refl 6, fun j h4 h5 => ?_⟩
      have h5 : j ≤ 6 := h5
      show ∃ (G T : Nat) (L : List Nat), REL (va_up Ps ((o + 6) % 6) (fX2_copyFrom (Ps ((o + 6) % 6)) PN) (((o + 1) % 6 + (j - 1)) % 6)) (fX7_save f M).1 (118 * j) G T L
      by_cases cj : j = 6
      · subst cj
        rw [show ((o + 1) % 6 + (6 - 1)) % 6 = (o + 6) % 6 by omega, va_up_self]
        exact ⟨G, T, L, copy_REL (fun k hk => by
          rw [s1 6 k hk, show savSrc 6 6 = 0 by decide]) (by omega) hR⟩
      · rw [va_up_ne _ _ (by omega), show ((o + 1) % 6 + (j - 1)) % 6 = (o + (j + 1 - 1)) % 6 by omega]
        obtain ⟨G', T', L', h6⟩ := h3 (j + 1) (by omega) (by omega)
        exact ⟨G', T', L', REL_to (PE_refl _) (fun k hk => by
          rw [s1 j k hk, show savSrc 6 j = j + 1 by unfold savSrc; rw [if_neg (by decide), if_neg cj, if_pos (by omega)]]) (by omega) h6⟩
  · rw [s2]
    unfold fX0_save
    by_cases c : v < 6
    · rw [if_pos c, if_pos c]
    · rw [if_neg c, if_neg c, show v = 6 by omega]
  · have := s1 7 k hk
    rw [r7] at this
    exact this
  · have := s1 8 k hk
    rw [r8] at this
    exact this
/-- the latest saved state comes back -/
theorem take_HI {PN : PV} {Ps : Nat → PV} {o v : Nat} {f : Nat → Int32} (h : HI Ps o v f) (hv : 1 ≤ v) : (∃ (G T : Nat) (L : List Nat), REL (fX0_takeLatest Ps o v PN).1 (fX7_copies f v 0) 0 G T L) ∧ (fX0_takeLatest Ps o v PN).2 = v - 1 ∧ HI Ps o (v - 1) (fX7_copies f v 0) ∧ ∀ i : Nat, 118 ≤ i → fX7_copies f v 0 i = f i := by
  obtain ⟨c1, c2⟩ := copies_at f (show v ≠ 0 by omega)
  have c3 : ∀ i : Nat, 118 ≤ i → fX7_copies f v 0 i = f i := fun i hi => c2 i (Or.inr (by omega))
  have hh := h
  obtain ⟨h1, h2, h3⟩ := h
  unfold fX0_takeLatest
  rw [if_neg (by omega)]
  obtain ⟨G, T, L, h6⟩ := h3 v hv (Nat.le_refl v)
  refine ⟨⟨G, T, L, copy_REL (b := 118 * v) (c := 0) (fun k hk => ?_) (by decide) h6⟩, rfl, ?_, c3⟩
  · have := c1 k hk
    rw [Nat.mul_zero] at this
    exact this
  · obtain ⟨k1, k2, k3⟩ := HI_fr hh (fun i hi _ => c3 i hi)
    exact ⟨k1, by omega, fun j h4 h5 => k3 j h4 (by omega)⟩


