/-- a look: both refuse alike, or both answer alike -/
def LK (c p : Nat) (X : Nat ⊕ (Int32 × Unit)) (Y : Int32 × (Nat → Int32)) (M : Nat → Int32) : Prop := (X = Sum.inl c ∧ Y = (0, upd M 0 (nI p))) ∨ ∃ r : Int32, X = Sum.inr (r, ()) ∧ Y = (r, upd M 0 0)
/-- whyNot -/
theorem whyNot_LK {PN : PV} {f M : Nat → Int32} {G T : Nat} {L : List Nat} (hR : REL PN f 0 G T L) (g tb z : Int32) : LK 2 1 (fX6_whyNot PN g tb z) (fX7_whyNot f M g tb z) M := by
  have hG := hR.wf.G16
  have h10 : ¬ (1 : Int32) = 0 := by decide
  unfold fX6_whyNot fX7_whyNot fX6_needGuestAndSeat fX6_needGuest fX6_needSeat
  rcases guest_is hR g with ⟨c1, c2, x, hx, rfl⟩ | ⟨c1, c2⟩
  · rcases seat_is hR tb z with ⟨d1, d2, t, y, n, k1, k2, k3, k4, rfl, rfl⟩ | ⟨d1, d2⟩
    · refine Or.inr ⟨fX7_reason f 0 x (nI t) (nI y), ?_, ?_⟩
      · rw [c1, d1, if_neg h10, if_pos rfl, if_pos rfl, if_pos rfl, reason_eq hR hx k1 (by omega)]
      · rw [c2, d2, if_neg h10, if_neg h10, bd_eq, bd2_eq, holds_0, nI_clamp (by omega)]
        rfl
    · refine Or.inl ⟨?_, ?_⟩
      · rw [c1, d1, if_neg h10, if_pos rfl, if_pos rfl, if_neg h10, if_neg h10]
      · rw [c2, d2, if_neg h10, if_pos rfl, bd_eq, bd2_eq, holds_p (by decide) (by decide)]
        rfl
  · refine Or.inl ⟨?_, ?_⟩
    · rw [c1, if_pos rfl, if_neg h10, if_neg h10]
    · rw [c2, if_pos rfl, bd_eq, bd2_eq, holds_p (by decide) (by decide)]
      rfl
/-- ifSat -/
theorem ifSat_LK {PN : PV} {f M : Nat → Int32} {G T : Nat} {L : List Nat} (hR : REL PN f 0 G T L) (g tb z : Int32) : LK 2 1 (fX6_ifSat PN g tb z) (fX7_ifSat f M g tb z) M := by
  have hG := hR.wf.G16
  have hT := hR.wf.hT
  have h10 : ¬ (1 : Int32) = 0 := by decide
  unfold fX6_ifSat fX7_ifSat fX6_needGuestAndSeat fX6_needGuest fX6_needSeat
  rcases guest_is hR g with ⟨c1, c2, x, hx, rfl⟩ | ⟨c1, c2⟩
  · rcases seat_is hR tb z with ⟨d1, d2, t, y, n, k1, k2, k3, k4, rfl, rfl⟩ | ⟨d1, d2⟩
    · have hr05 : fX7_reason f 0 x (nI t) (nI y) = 0 ↔ fX7_reason f 0 x (nI t) (nI y) ≤ 0 := by
        rcases reason_05 f 0 x (nI t) (nI y) with e | e | e | e | e | e <;> rw [e] <;> decide
      by_cases c : fX7_reason f 0 x (nI t) (nI y) = 0
      · refine Or.inr ⟨fX7_pointsIf f 0 x t (nI y) + 1000, ?_, ?_⟩
        · rw [c1, d1, if_neg h10, if_pos rfl, if_pos rfl, if_pos rfl, reason_eq hR hx k1 (by omega), if_pos c, afterMove_eq hR hx k1 k4 k2 k3]
        · rw [c2, d2, if_neg h10, if_neg h10, bd_eq, bd2_eq, holds_0, nI_clamp (show x < 2 ^ 31 by omega), nI_clamp (show t < 2 ^ 31 by omega), if_pos (hr05.mp c)]
          rfl
      · refine Or.inr ⟨-1, ?_, ?_⟩
        · rw [c1, d1, if_neg h10, if_pos rfl, if_pos rfl, if_pos rfl, reason_eq hR hx k1 (by omega), if_neg c]
        · rw [c2, d2, if_neg h10, if_neg h10, bd_eq, bd2_eq, holds_0, nI_clamp (show x < 2 ^ 31 by omega), if_neg (fun e => c (hr05.mpr e))]
          rfl
    · refine Or.inl ⟨?_, ?_⟩
      · rw [c1, d1, if_neg h10, if_pos rfl, if_pos rfl, if_neg h10, if_neg h10]
      · rw [c2, d2, if_neg h10, if_pos rfl, bd_eq, bd2_eq, holds_p (by decide) (by decide)]
        rfl
  · refine Or.inl ⟨?_, ?_⟩
    · rw [c1, if_pos rfl, if_neg h10, if_neg h10]
    · rw [c2, if_pos rfl, bd_eq, bd2_eq, holds_p (by decide) (by decide)]
      rfl
/-- bestSeat -/
theorem bestSeat_LK {PN : PV} {f M : Nat → Int32} {G T : Nat} {L : List Nat} (hR : REL PN f 0 G T L) (g : Int32) : LK 2 1 (fX6_bestSeat PN g) (fX7_bestSeat f M g) M := by
  have hG := hR.wf.G16
  have h10 : ¬ (1 : Int32) = 0 := by decide
  unfold fX6_bestSeat fX7_bestSeat fX6_needGuest
  rcases guest_is hR g with ⟨c1, c2, x, hx, rfl⟩ | ⟨c1, c2⟩
  · refine Or.inr ⟨fX7_best f 0 x, ?_, ?_⟩
    · rw [c1, if_neg h10, if_pos rfl, best_eq hR hx]
    · rw [c2, if_neg h10, bd_eq, bd2_eq, holds_0, nI_clamp (by omega)]
      rfl
  · refine Or.inl ⟨?_, ?_⟩
    · rw [c1, if_pos rfl, if_neg h10]
    · rw [c2, if_pos rfl, bd_eq, bd2_eq, holds_p (by decide) (by decide)]
      rfl
/-- who -/
theorem who_LK {PN : PV} {f M : Nat → Int32} {G T : Nat} {L : List Nat} (hR : REL PN f 0 G T L) (tb z : Int32) : LK 2 1 (fX6_who PN tb z) (fX7_who f M tb z) M := by
  have h10 : ¬ (1 : Int32) = 0 := by decide
  unfold fX6_who fX7_who fX6_needSeat
  rcases seat_is hR tb z with ⟨d1, d2, t, y, n, k1, k2, k3, k4, rfl, rfl⟩ | ⟨d1, d2⟩
  · refine Or.inr ⟨fX7_whoSits f 0 (nI t) (nI y), ?_, ?_⟩
    · rw [d1, if_neg h10, if_pos rfl, hR.hold k1 (by omega)]
    · rw [d2, if_neg h10, bd_eq, bd2_eq, holds_0]
      rfl
  · refine Or.inl ⟨?_, ?_⟩
    · rw [d1, if_pos rfl, if_neg h10]
    · rw [d2, if_pos rfl, bd_eq, bd2_eq, holds_p (by decide) (by decide)]
      rfl
theorem fam_is (v : Int32) : (fX6_isFamily v = 1 ∧ fX7_isFamily v = 1 ∧ ∃ a : Nat, a < 6 ∧ v = nI a) ∨ (fX6_isFamily v = 0 ∧ fX7_isFamily v = 0) := by
  unfold fX6_isFamily fX7_isFamily
  rcases in_is (v := v) (n := 6) (by decide) with ⟨c1, a, ha, rfl⟩ | ⟨c1, c2⟩
  · exact Or.inl ⟨by rw [if_neg (nI_pos (by omega)), if_neg (show ¬ (6 : Int32) ≤ nI a from nI_ge ha (by decide))], c1, a, ha, rfl⟩
  · refine Or.inr ⟨?_, c1⟩
    rcases c2 with c2 | c2
    · exact if_pos c2
    · rw [if_pos (show (6 : Int32) ≤ v from c2)]; by_cases c3 : v < 0 <;> simp [c3]
theorem pair_is (v w : Int32) : (fX6_needTwoFamilies v w = 0 ∧ fX7_arePair v w = 1 ∧ ∃ a c : Nat, a < 6 ∧ c < 6 ∧ a ≠ c ∧ v = nI a ∧ w = nI c) ∨ (fX6_needTwoFamilies v w = 1 ∧ fX7_arePair v w = 0) := by
  have h10 : ¬ (1 : Int32) = 0 := by decide
  unfold fX6_needTwoFamilies fX7_arePair
  rcases fam_is v with ⟨c1, c2, a, ha, rfl⟩ | ⟨c1, c2⟩
  · rcases fam_is w with ⟨d1, d2, c, hc, rfl⟩ | ⟨d1, d2⟩
    · rw [c1, c2, d1, d2, if_neg h10, if_neg h10, if_neg h10, if_neg h10]
      by_cases e : a = c
      · rw [if_pos (by rw [e]), if_pos (by rw [e])]
        exact Or.inr ⟨rfl, rfl⟩
      · have e2 : ¬ nI a = nI c := fun x => e ((nI_eq (by omega) (by omega)).mp x)
        rw [if_neg e2, if_neg e2]
        exact Or.inl ⟨rfl, rfl, a, c, ha, hc, e, rfl, rfl⟩
    · rw [c1, c2, d1, d2, if_neg h10, if_neg h10, if_pos rfl, if_pos rfl]
      exact Or.inr ⟨rfl, rfl⟩
  · rw [c1, c2, if_pos rfl, if_pos rfl]
    exact Or.inr ⟨rfl, rfl⟩
/-- ifFeud -/
theorem ifFeud_LK {PN : PV} {f M : Nat → Int32} {G T : Nat} {L : List Nat} (hR : REL PN f 0 G T L) (v w : Int32) : LK 0 1 (fX6_ifFeud PN v w) (fX7_ifFeud f M v w) M := by
  have h10 : ¬ (1 : Int32) = 0 := by decide
  unfold fX6_ifFeud fX7_ifFeud
  rcases pair_is v w with ⟨c1, c2, a, c, ha, hc, hac, rfl, rfl⟩ | ⟨c1, c2⟩
  · refine Or.inr ⟨fX7_standing f (nI a) (nI c), ?_, ?_⟩
    · rw [c1, if_pos rfl, standing_eq hR ha hc hac]
    · rw [c2, if_neg h10, bd_eq, bd2_eq, holds_0]
      rfl
  · refine Or.inl ⟨?_, ?_⟩
    · rw [c1, if_neg h10]
    · rw [c2, if_pos rfl, bd_eq, bd2_eq, holds_p (by decide) (by decide)]
      rfl



