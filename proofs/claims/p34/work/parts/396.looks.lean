theorem ge0_is (v : Int32) (hv : ¬ v < 0) : 0 ≤ v := by
  rw [Int32.lt_iff_toInt_lt] at hv
  rw [Int32.le_iff_toInt_le]
  omega
/-- seated -/
theorem seated_LK {PN : PV} {f M : Nat → Int32} {G T : Nat} {L : List Nat} (hR : REL PN f 0 G T L) (v : Int32) : LK 0 1 (fX6_seated PN v) (fX7_seated f M v) M := by
  have hl := hR.wf.l16
  have e3 : f 3 = nI L.length := by have := hR.wf.ro.2.2.2.2.1; rw [Nat.zero_add] at this; exact this
  have e5 : PN 10 5 = nI L.length := hR.p5.trans hR.wf.ro.2.2.2.2.1
  unfold fX6_seated fX7_seated fX6_needPlace
  by_cases c : v < 0
  · have c2 : ¬ 0 ≤ v := by
      rw [Int32.lt_iff_toInt_lt] at c
      rw [Int32.le_iff_toInt_le]
      omega
    rw [if_neg c2, if_neg c2, if_neg (by decide), bd_eq, bd2_eq, holds_p (by decide) (by decide)]
    exact Or.inl ⟨rfl, rfl⟩
  · have c2 := ge0_is v c
    rw [if_pos c2, if_pos c2, if_pos rfl, bd_eq, bd2_eq, holds_0, e3]
    obtain ⟨j, hj, rfl⟩ := nI_of c
    refine Or.inr ⟨if j < L.length then f (22 + j) else -1, ?_, ?_⟩
    · congr 2
      unfold fX1_itemAt
      rw [e5, if_neg c, nI_clamp hj]
      by_cases k : j < L.length
      · rw [if_pos k, if_neg (nI_ge k (by omega)), if_neg (nI_ge (by omega) (by decide)), hR.od j k, Nat.zero_add]
      · rw [if_neg k, if_pos (nI_le (by omega) hj)]
    · show (if (1 : Int32) = 0 then (0, upd M 0 0) else _) = _
      rw [if_neg (by decide), nI_clamp hj]
      by_cases k : j < L.length
      · rw [if_pos k, if_neg (nI_ge k (by omega))]
      · rw [if_neg k, if_pos (nI_le (by omega) hj)]
/-- feudAt -/
theorem feudAt_LK {PN : PV} {f M : Nat → Int32} {G T : Nat} {L : List Nat} (hR : REL PN f 0 G T L) (v : Int32) : LK 0 1 (fX6_feudAt PN v) (fX7_feudAt f M v) M := by
  have h8 := hR.wf.f8
  have hfe := hR.wf.fe
  obtain ⟨n, hn⟩ : ∃ n, n = (f (0 + 2)).toNatClampNeg := ⟨_, rfl⟩
  have hfd := hR.fd
  rw [← hn] at h8 hfe hfd
  have e3 : f 2 = nI n := by have := hfe; rw [Nat.zero_add] at this; exact this
  have e5 : PN 10 4 = nI n := hR.p4.trans hfe
  unfold fX6_feudAt fX7_feudAt fX6_needPlace
  by_cases c : v < 0
  · have c2 : ¬ 0 ≤ v := by
      rw [Int32.lt_iff_toInt_lt] at c
      rw [Int32.le_iff_toInt_le]
      omega
    rw [if_neg c2, if_neg c2, if_neg (by decide), bd_eq, bd2_eq, holds_p (by decide) (by decide)]
    exact Or.inl ⟨rfl, rfl⟩
  · have c2 := ge0_is v c
    rw [if_pos c2, if_pos c2, if_pos rfl, bd_eq, bd2_eq, holds_0, e3]
    obtain ⟨j, hj, rfl⟩ := nI_of c
    refine Or.inr ⟨if j < n then f (10 + j) else -1, ?_, ?_⟩
    · congr 2
      unfold fX1_itemAt
      rw [e5, if_neg c, nI_clamp hj]
      by_cases k : j < n
      · rw [if_pos k, if_neg (nI_ge k (by omega)), if_neg (nI_ge (by omega) (by decide)), hfd j k, Nat.zero_add]
      · rw [if_neg k, if_pos (nI_le (by omega) hj)]
    · show (if (1 : Int32) = 0 then (0, upd M 0 0) else _) = _
      rw [if_neg (by decide), nI_clamp hj]
      by_cases k : j < n
      · rw [if_pos k, if_neg (nI_ge k (by omega))]
      · rw [if_neg k, if_pos (nI_le (by omega) hj)]
/-- one of the first numbers -/
theorem what_is {w hi : Int32} {n : Nat} (hh : hi = nI n - 1) (hn : n < 2 ^ 30) : (fX7_in w 0 hi = 1 ∧ ¬ w < 0 ∧ w < nI n ∧ ∃ j : Nat, j < n ∧ w = nI j) ∨ (fX7_in w 0 hi = 0 ∧ (w < 0 ∨ (¬ w < 0 ∧ ¬ w < nI n))) := by
  rw [hh]
  rcases in_is (v := w) (n := n) hn with ⟨c1, j, hj, rfl⟩ | ⟨c1, c2⟩
  · exact Or.inl ⟨c1, nI_pos (by omega), nI_lt hj (by omega), j, hj, rfl⟩
  · refine Or.inr ⟨c1, ?_⟩
    by_cases c : w < 0
    · exact Or.inl c
    · refine Or.inr ⟨c, ?_⟩
      have c3 := c2.resolve_left c
      rw [Int32.le_iff_toInt_le] at c3
      rw [Int32.lt_iff_toInt_lt]
      omega
theorem guestNumber_eq {PN : PV} {f : Nat → Int32} {G T x : Nat} {L : List Nat} (hR : REL PN f 0 G T L) (hx : x < G) : ∀ w : Nat, w < 7 → fX6_guestNumber PN (nI x) (nI w) = fX7_ofGuest f x w := fun w hw => by
  have hG := hR.wf.G16
  unfold fX6_guestNumber fX7_ofGuest
  have hw' : w = 0 ∨ w = 1 ∨ w = 2 ∨ w = 3 ∨ w = 4 ∨ w = 5 ∨ w = 6 := by omega
  rcases hw' with rfl | rfl | rfl | rfl | rfl | rfl | rfl
  · rw [if_pos (by decide), if_neg (by decide), hR.rat (by decide) (by omega)]
  · rw [if_neg (by decide), if_pos (by decide), if_neg (by decide), hR.rat (by decide) (by omega)]
  · rw [if_neg (by decide), if_neg (by decide), if_pos (by decide), if_neg (by decide), hR.rat (by decide) (by omega)]
  · rw [if_neg (by decide), if_neg (by decide), if_neg (by decide), if_pos (by decide), if_neg (by decide), hR.rat (by decide) (by omega)]
  · rw [if_neg (by decide), if_neg (by decide), if_neg (by decide), if_neg (by decide), if_pos (by decide), if_neg (by decide), hR.rat (by decide) (by omega)]
  · rw [if_neg (by decide), if_neg (by decide), if_neg (by decide), if_neg (by decide), if_neg (by decide), if_pos (by decide), if_pos (by decide), if_pos (by decide), level_eq hR hx]
  · rw [if_neg (by decide), if_neg (by decide), if_neg (by decide), if_neg (by decide), if_neg (by decide), if_neg (by decide), if_pos (by decide), if_neg (by decide), ofGuest_eq hR hx]
/-- guestOf: refused by 2 (place 1), by 0 (place 2), or answered -/
theorem guestOf_LK {PN : PV} {f M : Nat → Int32} {G T : Nat} {L : List Nat} (hR : REL PN f 0 G T L) (g w : Int32) : LK 2 1 (fX6_guestOf PN g w) (fX7_guestOf f M g w) M ∨ LK 0 2 (fX6_guestOf PN g w) (fX7_guestOf f M g w) M := by
  have hG := hR.wf.G16
  have h10 : ¬ (1 : Int32) = 0 := by decide
  unfold fX6_guestOf fX7_guestOf fX6_needGuest
  rcases guest_is hR g with ⟨c1, c2, x, hx, rfl⟩ | ⟨c1, c2⟩
  · rw [c1, c2, if_neg h10, if_neg h10, if_pos rfl]
    rcases what_is (w := w) (hi := 6) (n := 7) (by decide) (by decide) with ⟨d1, d2, d3, j, hj, rfl⟩ | ⟨d1, d2⟩
    · rw [d1, if_neg h10, bd_eq, bd2_eq, holds_0, if_neg d2, if_pos (show nI j < 7 from d3), guestNumber_eq hR hx j hj, nI_clamp (show x < 2 ^ 31 by omega), nI_clamp (show j < 2 ^ 31 by omega)]
      exact Or.inl (Or.inr ⟨_, rfl, rfl⟩)
    · rw [d1, if_pos rfl, bd_eq, bd2_eq, holds_p (by decide) (by decide)]
      refine Or.inr (Or.inl ⟨?_, rfl⟩)
      rcases d2 with d2 | ⟨d2, d3⟩
      · rw [if_pos d2]
      · rw [if_neg d2, if_neg (show ¬ w < 7 from d3)]
  · rw [c1, c2, if_pos rfl, if_pos rfl, if_neg h10, bd_eq, bd2_eq, holds_p (by decide) (by decide)]
    exact Or.inl (Or.inl ⟨rfl, rfl⟩)



