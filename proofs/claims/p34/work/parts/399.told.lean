theorem sub_1 (i x : Int32) : i - x + (-1) = i - (x + 1) := by
  rw [Int32.sub_eq_add_neg, Int32.sub_eq_add_neg, Int32.neg_add, Int32.sub_eq_add_neg, Int32.add_assoc]
theorem sub_0 {i x : Int32} : i - x = 0 ↔ x = i := by
  constructor
  · intro e
    have : i - x + x = 0 + x := by rw [e]
    rw [Int32.sub_eq_add_neg, Int32.add_assoc, Int32.add_comm (-x) x, ← Int32.sub_eq_add_neg x x, Int32.sub_self, Int32.add_zero, Int32.zero_add] at this
    exact this.symm
  · intro e
    rw [e, Int32.sub_self]
theorem letter_loop {PN : PV} {f : Nat → Int32} {G T t m : Nat} {L : List Nat} (hR : REL PN f 0 G T L) (ht : t < T) (hm : m ≤ 8) (i : Int32) : ∀ (n k : Nat) (x : Int32), k + n = m → lq1 (fX2_letterOfTable_b5 PN (nI t) i) fX2_letterOfTable_r5 n k x = lq1 (fX7_character_b5 f t) fX7_character_r5 n k (i - x)
  | 0, k, x, h => by rw [lq1_z, lq1_z]; rfl
  | n + 1, k, x, h => by
    have hG := hR.wf.G16
    have h1 := letter_loop hR ht hm i n (k + 1) (x + 1) (by omega)
    have h2 := letter_loop hR ht hm i n (k + 1) (x + 1 + 1) (by omega)
    rw [lq1_s, lq1_s]
    have eX : ∀ nx : Int32 → Int32, fX2_letterOfTable_b5 PN (nI t) i k x nx = (if x = i then (if fX7_whoSits f 0 (nI t) (nI k) = -1 then 46 else (65 + fX3_at 16 (PN 0) (fX7_whoSits f 0 (nI t) (nI k)))) else (if fX7_isAtLeg (nI k) = 0 then nx (x + 1) else (if x + 1 = i then 124 else nx (x + 1 + 1)))) := fun nx => by
      unfold fX2_letterOfTable_b5
      rw [hR.hold ht (by omega)]
      rfl
    have eY : ∀ nx : Int32 → Int32, fX7_character_b5 f t k (i - x) nx = (if i - x = 0 then (if fX7_whoSits f 0 (nI t) (nI k) = -1 then 46 else (65 + fX7_of f 0 (fX7_whoSits f 0 (nI t) (nI k)).toNatClampNeg 0)) else (if fX7_isAtLeg (nI k) = 0 then nx (i - (x + 1)) else (if i - (x + 1) = 0 then 124 else nx (i - (x + 1 + 1))))) := fun nx => by
      unfold fX7_character_b5
      rw [sub_1, sub_1]
    rw [eX, eY, h1, h2]
    by_cases c : x = i
    · rw [if_pos c, if_pos (sub_0.mpr c)]
      rcases who_is hR.wf (nI t) (nI k) with ⟨j, k1, k2, k3, k4⟩ | ⟨k1, k2⟩
      · rw [k4, if_neg (nI_m1 (by omega)), if_neg (nI_m1 (by omega)), hR.rat (by decide) (by omega), nI_clamp (by omega)]
      · rw [k2, if_pos rfl, if_pos rfl]
    · rw [if_neg c, if_neg (fun e => c (sub_0.mp e))]
      by_cases c2 : fX7_isAtLeg (nI k) = 0
      · rw [if_pos c2, if_pos c2]
      · rw [if_neg c2, if_neg c2]
        by_cases c3 : x + 1 = i
        · rw [if_pos c3, if_pos (sub_0.mpr c3)]
        · rw [if_neg c3, if_neg (fun e => c3 (sub_0.mp e))]
theorem letter_eq {PN : PV} {f : Nat → Int32} {G T t : Nat} {L : List Nat} (hR : REL PN f 0 G T L) (ht : t < T) (i : Int32) : fX2_letterOfTable PN (nI t) i = fX7_character f t i := by
  have hT := hR.wf.hT
  obtain ⟨n, n3, n8, hn⟩ := hR.wf.sts t ht
  have hn' : f (18 + t) = nI n := by rw [Nat.zero_add] at hn; exact hn
  have hi : i - 0 = i := sub_of_add (Int32.add_zero i) |>.symm
  have := letter_loop hR ht n8 i n 0 0 (Nat.zero_add n)
  rw [hi] at this
  unfold fX2_letterOfTable fX7_character
  rw [hR.seats (by omega), hn, nI_clamp (by omega)]
  exact this
/-- told -/
theorem told_LK {PN : PV} {f M : Nat → Int32} {G T : Nat} {L : List Nat} (hR : REL PN f 0 G T L) (g i : Int32) : LK 2 1 (fX6_told PN g i) (fX7_told f M g i) M ∨ LK 0 2 (fX6_told PN g i) (fX7_told f M g i) M := by
  have hT := hR.wf.hT
  have h10 : ¬ (1 : Int32) = 0 := by decide
  unfold fX6_told fX7_told fX6_needTable
  rcases table_is hR g with ⟨c1, c2, x, hx, rfl⟩ | ⟨c1, c2⟩
  · rw [c1, c2, if_neg h10, if_neg h10, if_pos rfl]
    by_cases d : 0 ≤ i
    · rw [if_pos d, if_pos d, bd_eq, bd2_eq, holds_0, letter_eq hR hx, nI_clamp (show x < 2 ^ 31 by omega)]
      exact Or.inl (Or.inr ⟨_, rfl, rfl⟩)
    · rw [if_neg d, if_neg d, bd_eq, bd2_eq, holds_p (by decide) (by decide)]
      exact Or.inr (Or.inl ⟨rfl, rfl⟩)
  · rw [c1, c2, if_pos rfl, if_pos rfl, if_neg h10, bd_eq, bd2_eq, holds_p (by decide) (by decide)]
    exact Or.inl (Or.inl ⟨rfl, rfl⟩)


