theorem countNumber_eq {PN : PV} {Ps : Nat → PV} {o v : Nat} {f M : Nat → Int32} {G T : Nat} {L : List Nat} (hR : REL PN f 0 G T L) (hM : M 1 = nI v) : ∀ w : Nat, w < 14 → fX6_countNumber PN Ps o v (nI w) = fX7_counted f M w := fun w hw => by
  have e0 : f 0 = PN 10 0 := (hR.wf.g0).trans hR.pg.symm
  have e1 : f 1 = PN 10 1 := by have := hR.wf.ht; rw [Nat.zero_add] at this; exact this.trans hR.pt.symm
  have e2 : f 2 = PN 10 4 := by have := hR.p4; rw [Nat.zero_add] at this; exact this.symm
  have e3 : f 3 = PN 10 5 := by have := hR.p5; rw [Nat.zero_add] at this; exact this.symm
  have e4 : f 4 = PN 10 2 := by have := hR.p2; rw [Nat.zero_add] at this; exact this.symm
  have e5 : f 5 = PN 10 3 := by have := hR.p3; rw [Nat.zero_add] at this; exact this.symm
  have e6 : ∀ k : Nat, k < 4 → ∀ x : Int32, x = nI k → fX3_at 4 (PN 7) x = f (6 + k) := fun k hk x hx => by rw [hR.sat hk hx, Nat.zero_add]
  have hw' : w = 0 ∨ w = 1 ∨ w = 2 ∨ w = 3 ∨ w = 4 ∨ w = 5 ∨ w = 6 ∨ w = 7 ∨ w = 8 ∨ w = 9 ∨ w = 10 ∨ w = 11 ∨ w = 12 ∨ w = 13 := by omega
  rcases hw' with rfl | rfl | rfl | rfl | rfl | rfl | rfl | rfl | rfl | rfl | rfl | rfl | rfl | rfl
  · exact e0.symm
  · exact e1.symm
  · exact e2.symm
  · exact e3.symm
  · exact byGuests_eq hR
  · exact byTables_eq hR
  · exact wishesMet_eq hR
  · exact e4.symm
  · exact e5.symm
  · exact e6 0 (by decide) (nI 9 - 9) rfl
  · exact e6 1 (by decide) (nI 10 - 9) rfl
  · exact e6 2 (by decide) (nI 11 - 9) rfl
  · exact e6 3 (by decide) (nI 12 - 9) rfl
  · exact hM.symm
/-- count -/
theorem count_LK {PN : PV} {Ps : Nat → PV} {o v : Nat} {f M : Nat → Int32} {G T : Nat} {L : List Nat} (hR : REL PN f 0 G T L) (hM : M 1 = nI v) (w : Int32) : LK 0 1 (fX6_count PN Ps o v w) (fX7_count f M w) M := by
  have h10 : ¬ (1 : Int32) = 0 := by decide
  unfold fX6_count fX7_count
  rcases what_is (w := w) (hi := 13) (n := 14) (by decide) (by decide) with ⟨d1, d2, d3, j, hj, rfl⟩ | ⟨d1, d2⟩
  · rw [d1, if_neg h10, bd_eq, bd2_eq, holds_0, if_neg d2, if_pos (show nI j < 14 from d3), countNumber_eq hR (M := upd M 0 0) ((upd_ne (by decide)).trans hM) j hj, nI_clamp (show j < 2 ^ 31 by omega)]
    exact Or.inr ⟨_, rfl, rfl⟩
  · rw [d1, if_pos rfl, bd_eq, bd2_eq, holds_p (by decide) (by decide)]
    refine Or.inl ⟨?_, rfl⟩
    rcases d2 with d2 | ⟨d2, d3⟩
    · rw [if_pos d2]
    · rw [if_neg d2, if_neg (show ¬ w < 14 from d3)]


