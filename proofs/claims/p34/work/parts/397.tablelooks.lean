/-- ifSeated: refused by 0 (place 1), or answered; the trial plan and row 8 alone change -/
theorem ifSeated_LK {PN PT : PV} {f M : Nat → Int32} {G T : Nat} {L : List Nat} (hR : REL PN f 0 G T L) (w : Int32) : (fX6_ifSeated PN PT w = Sum.inl 0 ∧ fX7_ifSeated f M w = (0, (f, upd M 0 (nI 1)))) ∨ ∃ (r : Int32) (PT' : PV) (F : Nat → Int32), fX6_ifSeated PN PT w = Sum.inr (r, PT') ∧ fX7_ifSeated f M w = (r, (F, upd M 0 0)) ∧ ∀ i : Nat, i < 944 → F i = f i := by
  have h10 : ¬ (1 : Int32) = 0 := by decide
  unfold fX6_ifSeated fX7_ifSeated
  rcases what_is (w := w) (hi := 1) (n := 2) (by decide) (by decide) with ⟨d1, d2, d3, j, hj, rfl⟩ | ⟨d1, d2⟩
  · have hU : REL (fX2_copyFrom PT PN) (fX7_copies f 0 8) 944 G T L := copy_REL (copies_there f) (by decide) hR
    obtain ⟨a1, ⟨L', a2⟩, a3⟩ := seatAll_REL hU
    have hc : ∀ i : Nat, i < 944 → (fX7_seatsAll (fX7_copies f 0 8) 944).2 i = f i := fun i hi => (a3 i (Or.inl hi)).trans ((copies_at f (show 0 ≠ 8 by decide)).2 i (Or.inl hi))
    rw [d1, if_neg h10, bd_eq, bd2_eq, holds_0, if_neg d2, if_pos (show nI j < 2 from d3)]
    unfold fX6_seatedNumber fX7_seatedIf
    rw [bd_eq, bd_eq, bd2_eq, bd2_eq, bd2_eq, a1, byGuests_eq a2]
    refine Or.inr ⟨if nI j = 0 then (fX7_seatsAll (fX7_copies f 0 8) 944).1 else fX7_points (fX7_seatsAll (fX7_copies f 0 8) 944).2 944 (-1) + 1000, (fX2_seatStanding (fX2_copyFrom PT PN)).2, (fX7_seatsAll (fX7_copies f 0 8) 944).2, ?_, ?_, hc⟩
    · by_cases c : nI j = 0
      · rw [if_pos c, if_pos c]
      · rw [if_neg c, if_neg c]
    · refine (if_neg h10).trans ?_
      rw [bd2_eq]
      by_cases c : nI j = 0
      · rw [if_pos c, if_pos c]
      · rw [if_neg c, if_neg c]
  · rw [d1, if_pos rfl, bd_eq, bd2_eq, holds_p (by decide) (by decide)]
    refine Or.inl ⟨?_, rfl⟩
    rcases d2 with d2 | ⟨d2, d3⟩
    · rw [if_pos d2]
    · rw [if_neg d2, if_neg (show ¬ w < 2 from d3)]
/-- a loop that carries one value on by a rule -/
def fo (g : Nat → Int32 → Int32) : Nat → Nat → Int32 → Int32
  | 0, _, x => x
  | n + 1, k, x => fo g n (k + 1) (g k x)
theorem lq1_fo {ρ : Type} {b : Nat → Int32 → (Int32 → ρ) → ρ} {r : Int32 → ρ} {N : Nat} (g : Nat → Int32 → Int32) (hb : ∀ (k : Nat) (x : Int32) (nx : Int32 → ρ), k < N → b k x nx = nx (g k x)) : ∀ (n k : Nat) (x : Int32), k + n = N → lq1 b r n k x = r (fo g n k x)
  | 0, k, x, h => lq1_z b r k x
  | n + 1, k, x, h => by
    rw [lq1_s, hb k x _ (by omega)]
    exact lq1_fo g hb n (k + 1) _ (by omega)
theorem lq3_fo {ρ : Type} {b : Nat → Int32 → Int32 → Int32 → (Int32 → Int32 → Int32 → ρ) → ρ} {r : Int32 → Int32 → Int32 → ρ} {N : Nat} (g1 g2 g3 : Nat → Int32 → Int32) (hb : ∀ (k : Nat) (x y z : Int32) (nx : Int32 → Int32 → Int32 → ρ), k < N → b k x y z nx = nx (g1 k x) (g2 k y) (g3 k z)) : ∀ (n k : Nat) (x y z : Int32), k + n = N → lq3 b r n k x y z = r (fo g1 n k x) (fo g2 n k y) (fo g3 n k z)
  | 0, k, x, y, z, h => lq3_z b r k x y z
  | n + 1, k, x, y, z, h => by
    rw [lq3_s, hb k x y z _ (by omega)]
    exact lq3_fo g1 g2 g3 hb n (k + 1) _ _ _ (by omega)
theorem tableNumber_eq {PN : PV} {f : Nat → Int32} {G T t : Nat} {L : List Nat} (hR : REL PN f 0 G T L) (ht : t < T) (w : Int32) : fX6_tableNumber PN (nI t) w = fX7_ofTable f t w := by
  have hG := hR.wf.G16
  have hT := hR.wf.hT
  obtain ⟨n, n3, n8, hn⟩ := hR.wf.sts t ht
  have hn' : f (18 + t) = nI n := by rw [Nat.zero_add] at hn; exact hn
  have fat : ∀ z : Nat, z < n → ¬ fX7_whoSits f 0 (nI t) (nI z) = -1 → fX3_at 16 (PN 0) (fX7_whoSits f 0 (nI t) (nI z)) = fX7_of f 0 (fX7_whoSits f 0 (nI t) (nI z)).toNatClampNeg 0 := fun z hz c => by
    rcases who_is hR.wf (nI t) (nI z) with ⟨i, k1, k2, k3, k4⟩ | ⟨k1, k2⟩
    · rw [k4, hR.rat (by decide) (by omega), nI_clamp (by omega)]
    · exact absurd k2 c
  have e1 : fX2_sittingAt PN (nI t) = fo (fun z x => x + nI (if fX7_whoSits f 0 (nI t) (nI z) = -1 then 0 else 1)) n 0 0 := by
    unfold fX2_sittingAt
    rw [hR.seats (by omega), hn, nI_clamp (by omega)]
    refine lq1_fo (r := fX2_sittingAt_r4) (N := n) _ (fun z x nx hz => ?_) n 0 0 (Nat.zero_add n)
    unfold fX2_sittingAt_b4
    rw [bd_eq, hR.hold ht (by omega)]
    by_cases c : fX7_whoSits f 0 (nI t) (nI z) = -1
    · rw [if_pos c, if_pos c, i0, Int32.add_zero]
    · rw [if_neg c, if_neg c]; rfl
  have e2 : fX2_familyMask PN (nI t) = fo (fun z x => x ||| (if fX7_whoSits f 0 (nI t) (nI z) = -1 then 0 else ((1 : Int32) <<< ((fX7_of f 0 ((fX7_whoSits f 0 (nI t) (nI z)).toNatClampNeg) 0) &&& 31)))) n 0 0 := by
    unfold fX2_familyMask
    rw [hR.seats (by omega), hn, nI_clamp (by omega)]
    refine lq1_fo (r := fX2_familyMask_r4) (N := n) _ (fun z x nx hz => ?_) n 0 0 (Nat.zero_add n)
    unfold fX2_familyMask_b4
    rw [bd_eq, hR.hold ht (by omega)]
    by_cases c : fX7_whoSits f 0 (nI t) (nI z) = -1
    · rw [if_pos c, if_pos c, Int32.or_zero]
    · rw [if_neg c, if_neg c, fat z hz c]
  have e3 : fX2_easySeatsFree PN (nI t) = fo (fun z x => x + nI (if fX7_whoSits f 0 (nI t) (nI z) = -1 then (if fX7_isAtLeg (nI z) = 0 then 1 else 0) else 0)) n 0 0 := by
    unfold fX2_easySeatsFree
    rw [hR.seats (by omega), hn, nI_clamp (by omega)]
    refine lq1_fo (r := fX2_easySeatsFree_r4) (N := n) _ (fun z x nx hz => ?_) n 0 0 (Nat.zero_add n)
    unfold fX2_easySeatsFree_b4
    rw [bd_eq, hR.hold ht (by omega), show fX2_isAtLeg (nI z) = fX7_isAtLeg (nI z) from rfl]
    by_cases c : fX7_whoSits f 0 (nI t) (nI z) = -1
    · rw [if_pos c, if_pos c]
      by_cases c2 : fX7_isAtLeg (nI z) = 0
      · rw [if_pos c2, if_pos c2]; rfl
      · rw [if_neg c2, if_neg c2, i0, Int32.add_zero]
    · rw [if_neg c, if_neg c, i0, Int32.add_zero]
  unfold fX6_tableNumber fX7_ofTable
  rw [hR.seats (by omega), e1, e2, e3, ofTable_eq hR ht, hn', nI_clamp (show n < 2 ^ 31 by omega), lq3_fo (b := fX7_ofTable_b11 f t) (r := fX7_ofTable_r11 f t w) (N := n) (fun z x => x + nI (if fX7_whoSits f 0 (nI t) (nI z) = -1 then (if fX7_isAtLeg (nI z) = 0 then 1 else 0) else 0)) (fun z x => x ||| (if fX7_whoSits f 0 (nI t) (nI z) = -1 then 0 else ((1 : Int32) <<< ((fX7_of f 0 ((fX7_whoSits f 0 (nI t) (nI z)).toNatClampNeg) 0) &&& 31)))) (fun z x => x + nI (if fX7_whoSits f 0 (nI t) (nI z) = -1 then 0 else 1)) (fun k x y z nx hk => rfl) n 0 0 0 0 (Nat.zero_add n)]
  unfold fX7_ofTable_r11
  rw [hn']
/-- tableOf -/
theorem tableOf_LK {PN : PV} {f M : Nat → Int32} {G T : Nat} {L : List Nat} (hR : REL PN f 0 G T L) (g w : Int32) : LK 2 1 (fX6_tableOf PN g w) (fX7_tableOf f M g w) M ∨ LK 0 2 (fX6_tableOf PN g w) (fX7_tableOf f M g w) M := by
  have hT := hR.wf.hT
  have h10 : ¬ (1 : Int32) = 0 := by decide
  unfold fX6_tableOf fX7_tableOf fX6_needTable
  rcases table_is hR g with ⟨c1, c2, x, hx, rfl⟩ | ⟨c1, c2⟩
  · rw [c1, c2, if_neg h10, if_neg h10, if_pos rfl]
    rcases what_is (w := w) (hi := 4) (n := 5) (by decide) (by decide) with ⟨d1, d2, d3, j, hj, rfl⟩ | ⟨d1, d2⟩
    · rw [d1, if_neg h10, bd_eq, bd2_eq, holds_0, if_neg d2, if_pos (show nI j < 5 from d3), tableNumber_eq hR hx, nI_clamp (show x < 2 ^ 31 by omega)]
      exact Or.inl (Or.inr ⟨_, rfl, rfl⟩)
    · rw [d1, if_pos rfl, bd_eq, bd2_eq, holds_p (by decide) (by decide)]
      refine Or.inr (Or.inl ⟨?_, rfl⟩)
      rcases d2 with d2 | ⟨d2, d3⟩
      · rw [if_pos d2]
      · rw [if_neg d2, if_neg (show ¬ w < 5 from d3)]
  · rw [c1, c2, if_pos rfl, if_pos rfl, if_neg h10, bd_eq, bd2_eq, holds_p (by decide) (by decide)]
    exact Or.inl (Or.inl ⟨rfl, rfl⟩)



