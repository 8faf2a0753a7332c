/-- the best place so far, as both sides hold it -/
def BR (B : Int) (k : Nat) (x4 x3 y3 y2 : Int32) : Prop := x3 = y2 ∧ (y2 = -1 ∨ (∃ i : Nat, i < k ∧ i < 32 ∧ y2 = nI i) ∧ x4.toInt = B + y3.toInt)
theorem BR.up {B : Int} {k j : Nat} {x4 x3 y3 y2 : Int32} (h : BR B k x4 x3 y3 y2) (hk : k ≤ j) : BR B j x4 x3 y3 y2 := by
  obtain ⟨h1, h2⟩ := h
  refine ⟨h1, ?_⟩
  rcases h2 with h2 | ⟨⟨i, h3, h4, h5⟩, h6⟩
  · exact Or.inl h2
  · exact Or.inr ⟨⟨i, by omega, h4, h5⟩, h6⟩
theorem best_skip {f : Nat → Int32} {b g t n : Nat} (ht : t < 4) (hn : f (b + 18 + t) = nI n) (hn8 : n ≤ 8) (m : Nat) (x4 x3 : Int32) : ∀ (d z : Nat), z + d = 8 → n ≤ z → lq2 (fX7_best_b8 f b g) fX7_best_r8 (d + m) (8 * t + z) x4 x3 = lq2 (fX7_best_b8 f b g) fX7_best_r8 m (8 * (t + 1)) x4 x3
  | 0, z, h, hz => by rw [Nat.zero_add, show 8 * t + z = 8 * (t + 1) by omega]
  | d + 1, z, h, hz => by
    rw [show d + 1 + m = (d + m) + 1 by omega, lq2_s]
    have e : fX7_best_b8 f b g (8 * t + z) x4 x3 (lq2 (fX7_best_b8 f b g) fX7_best_r8 (d + m) (8 * t + z + 1)) = lq2 (fX7_best_b8 f b g) fX7_best_r8 (d + m) (8 * t + z + 1) x4 x3 := by
      unfold fX7_best_b8
      rw [bd2_eq, show (8 * t + z) / 8 = t by omega, show (8 * t + z) % 8 = z by omega, hn, if_pos (nI_le hz (by omega))]
    rw [e, show 8 * t + z + 1 = 8 * t + (z + 1) by omega]
    exact best_skip ht hn hn8 m x4 x3 d (z + 1) (by omega) (by omega)
theorem best_row {P : PV} {f : Nat → Int32} {b G T : Nat} {L : List Nat} (h : REL P f b G T L) {g t n : Nat} (hg : g < G) (ht : t < T) (hn : f (b + 18 + t) = nI n) (hn8 : n ≤ 8) (B : Int) (hB : B = (fX7_points f b (-1)).toInt - (OW f b G g).toInt) (m : Nat) (nx : Int32 → Int32 → Int32) (hnx : ∀ x4 x3 y3 y2 : Int32, BR B (8 * (t + 1)) x4 x3 y3 y2 → lq2 (fX7_best_b8 f b g) fX7_best_r8 m (8 * (t + 1)) x4 x3 = nx y3 y2) : ∀ (e z : Nat) (x4 x3 y3 y2 : Int32), z + e = n → BR B (8 * t + z) x4 x3 y3 y2 → lq2 (fX7_best_b8 f b g) fX7_best_r8 (e + ((8 - n) + m)) (8 * t + z) x4 x3 = lq2 (fX2_bestPlace_b19 P (nI g) t) (fX2_bestPlace_r19 nx) e z y3 y2
  | 0, z, x4, x3, y3, y2, h1, h2 => by
    have hT := h.wf.hT
    obtain rfl : z = n := by omega
    rw [Nat.zero_add, best_skip (by omega) hn hn8 m x4 x3 (8 - z) z (by omega) (Nat.le_refl z), lq2_z]
    exact hnx x4 x3 y3 y2 (h2.up (by omega))
  | e + 1, z, x4, x3, y3, y2, h1, h2 => by
    have hT := h.wf.hT
    have hG := h.wf.G16
    have hz : z < n := by omega
    rw [show e + 1 + ((8 - n) + m) = (e + ((8 - n) + m)) + 1 by omega, lq2_s, lq2_s]
    have ih := fun (x4 x3 y3 y2 : Int32) (hh : BR B (8 * t + (z + 1)) x4 x3 y3 y2) => best_row h hg ht hn hn8 B hB m nx hnx e (z + 1) x4 x3 y3 y2 (by omega) hh
    unfold fX7_best_b8 fX2_bestPlace_b19
    rw [bd2_eq, bd2_eq, show (8 * t + z) / 8 = t by omega, show (8 * t + z) % 8 = z by omega, hn, if_neg (nI_ge hz (by omega)), reason_eq h hg ht (by omega), gain_eq h hg ht hn hz hn8, show nI t * 8 + nI z = nI (8 * t + z) from m8z t z, bd_eq, bd_eq]
    have hp := pIf_int h.wf hg ht hn hz hn8
    rw [← hB] at hp
    obtain ⟨h3, h4⟩ := h2
    subst h3
    by_cases c : fX7_reason f b g (nI t) (nI z) = 0
    · rw [if_pos c, if_pos c]
      by_cases c2 : x3 = -1
      · simp only [if_pos c2]
        exact ih _ _ _ _ ⟨rfl, Or.inr ⟨⟨8 * t + z, by omega, by omega, rfl⟩, hp⟩⟩
      · obtain ⟨⟨i, k1, k2, k3⟩, k4⟩ := h4.resolve_left c2
        have hiff : fX7_pointsIf f b g t (nI z) ≤ x4 ↔ sm G (CG f b g t z) ≤ y3 := by
          rw [Int32.le_iff_toInt_le, Int32.le_iff_toInt_le]
          omega
        by_cases c3 : sm G (CG f b g t z) ≤ y3
        · have hne : ¬ x3 = nI (8 * t + z) := fun e => by
            have := (nI_eq (by omega) (by omega)).mp (k3.symm.trans e)
            omega
          simp only [if_neg c2, if_pos c3, if_pos (hiff.mpr c3), if_neg hne]
          exact ih _ _ _ _ ⟨rfl, Or.inr ⟨⟨i, by omega, k2, k3⟩, k4⟩⟩
        · simp only [if_neg c2, if_neg c3, if_neg (fun e => c3 (hiff.mp e))]
          exact ih _ _ _ _ ⟨rfl, Or.inr ⟨⟨8 * t + z, by omega, by omega, rfl⟩, hp⟩⟩
    · rw [if_neg c, if_neg c]
      exact ih _ _ _ _ (BR.up ⟨rfl, h4⟩ (by omega))
theorem best_all {P : PV} {f : Nat → Int32} {b G T : Nat} {L : List Nat} (h : REL P f b G T L) {g : Nat} (hg : g < G) (B : Int) (hB : B = (fX7_points f b (-1)).toInt - (OW f b G g).toInt) : ∀ (d t : Nat) (x4 x3 y3 y2 : Int32), t + d = T → BR B (8 * t) x4 x3 y3 y2 → lq2 (fX7_best_b8 f b g) fX7_best_r8 (8 * d) (8 * t) x4 x3 = lq2 (fX2_bestPlace_b7 P (nI g)) fX2_bestPlace_r7 d t y3 y2
  | 0, t, x4, x3, y3, y2, h1, h2 => by
    rw [Nat.mul_zero, lq2_z, lq2_z]
    exact h2.1
  | d + 1, t, x4, x3, y3, y2, h1, h2 => by
    have hT := h.wf.hT
    obtain ⟨n, hn3, hn8, hn⟩ := h.wf.sts t (by omega)
    rw [lq2_s]
    unfold fX2_bestPlace_b7
    rw [h.seats (by omega), hn, nI_clamp (by omega), show 8 * (d + 1) = n + ((8 - n) + 8 * d) by omega]
    exact best_row h hg (by omega) hn hn8 B hB (8 * d) _ (fun x4 x3 y3 y2 hh => best_all h hg B hB d (t + 1) x4 x3 y3 y2 (by omega) hh) n 0 x4 x3 y3 y2 (Nat.zero_add n) h2
theorem best_eq {P : PV} {f : Nat → Int32} {b G T : Nat} {L : List Nat} (h : REL P f b G T L) {g : Nat} (hg : g < G) : fX2_bestPlace P (nI g) = fX7_best f b g := by
  have hT := h.wf.hT
  unfold fX2_bestPlace fX7_best
  rw [h.pt, h.wf.ht, show (8 : Int32) = nI 8 from rfl, pk_mul, nI_clamp (by omega), nI_clamp (by omega)]
  exact (best_all h hg _ rfl T 0 0 (-1) 0 (-1) (Nat.zero_add T) ⟨rfl, Or.inl rfl⟩).symm

