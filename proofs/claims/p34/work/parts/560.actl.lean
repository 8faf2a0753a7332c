/-! what the law's deeds are, by what it draws. Mine. -/
theorem code_is : ∀ a : Nat, a < 6 → ∀ c : Nat, c < 6 → a ≠ c → (if nI c ≤ nI a then 6 * nI c + nI a else 6 * nI a + nI c) = nI (fc a c) := by decide
section AL
variable {PN PS : PV} {Ps : Nat → PV} {o v : Nat} {f : Nat → Int32} {G T : Nat} {L : List Nat}
theorem hasF_0 (hR : REL PN f 0 G T L) {a c : Nat} (ha : a < 6) (hc : c < 6) : fX2_hasFeud PN (nI a) (nI c) = 0 ↔ ¬ FD f 0 (nI (fc a c)) := by
  rw [hasFeud_eq hR ha hc, fc_ref a ha c hc, ← feudPlace_m1 hR.wf.f8]
  by_cases e : fX7_feudPlace f 0 (nI (fc a c)) = -1
  · rw [if_pos e]; exact ⟨fun _ => e, fun _ => rfl⟩
  · rw [if_neg e]; exact ⟨fun z => absurd z h10, fun z => absurd z e⟩
theorem isFeud_0 (hR : REL PN f 0 G T L) {a c : Nat} (ha : a < 6) (hc : c < 6) (hac : a ≠ c) : fL_isFeud PN (nI a) (nI c) = 0 ↔ ¬ FD f 0 (nI (fc a c)) := by
  obtain ⟨n, n8, hn, -, -⟩ := hR.wf.fds
  have hN : (PN 10 4).toNatClampNeg = n := by rw [hR.p4, hn, nI_clamp (by omega)]
  unfold fL_isFeud
  rw [hN]
  refine lq1_ind (N := n) (fun k x => (x = 0 ∨ x = 1) ∧ (x = 0 ↔ ∀ j : Nat, j < k → f (0 + 10 + j) ≠ nI (fc a c))) (fun r => (r = 0 ↔ ¬ FD f 0 (nI (fc a c)))) (fun k x nx hk hI hnx => ?_) (fun x hI => ?_) n 0 0 (Nat.zero_add n) ⟨Or.inl rfl, fun _ j hj => absurd hj (Nat.not_lt_zero j), fun _ => rfl⟩
  · obtain ⟨i1, i2⟩ := hI
    unfold fL_isFeud_b5
    rw [bd_eq, bd_eq, code_is a ha c hc hac, hR.fitem (k := k) (by rw [hn, nI_clamp (by omega)]; exact hk)]
    have step : ∀ x' : Nat, (x' = 0 ∨ x' = 1) → (x' = 0 ↔ x = 0 ∧ f (0 + 10 + k) ≠ nI (fc a c)) → (x' = 0 ∨ x' = 1) ∧ (x' = 0 ↔ ∀ j : Nat, j < k + 1 → f (0 + 10 + j) ≠ nI (fc a c)) := fun x' h1 h2 => ⟨h1, by
      rw [h2, i2]
      constructor
      · rintro ⟨k1, k2⟩ j hj
        by_cases cj : j = k
        · rw [cj]; exact k2
        · exact k1 j (by omega)
      · intro h
        exact ⟨fun j hj => h j (by omega), h k (Nat.lt_succ_self k)⟩⟩
    by_cases cx : x = 0
    · subst cx
      rw [if_pos (show nI 0 = 0 from rfl)]
      by_cases ce : f (0 + 10 + k) = nI (fc a c)
      · rw [if_pos ce]
        exact hnx 1 (step 1 (Or.inr rfl) ⟨fun z => absurd z (by decide), fun z => absurd ce z.2⟩)
      · rw [if_neg ce]
        exact hnx 0 (step 0 (Or.inl rfl) ⟨fun _ => ⟨rfl, ce⟩, fun _ => rfl⟩)
    · obtain rfl : x = 1 := i1.resolve_left cx
      rw [if_neg (show ¬ nI 1 = 0 by decide)]
      exact hnx 1 (step 1 (Or.inr rfl) ⟨fun z => absurd z (by decide), fun z => absurd z.1 (by decide)⟩)
  · obtain ⟨i1, i2⟩ := hI
    show (nI x : Int32) = 0 ↔ _
    have h0 : (nI x : Int32) = 0 ↔ x = 0 := by
      rcases i1 with rfl | rfl
      · exact ⟨fun _ => rfl, fun _ => rfl⟩
      · exact ⟨fun z => absurd z (by decide), fun z => absurd z (by decide)⟩
    rw [h0, i2]
    constructor
    · rintro h ⟨k, hk, e⟩
      rw [hn, nI_clamp (by omega)] at hk
      exact h k hk e
    · intro h j hj e
      exact h ⟨j, by rw [hn, nI_clamp (by omega)]; exact hj, e⟩
theorem A_peace (hR : REL PN f 0 G T L) (hX : XI f G L) {a b : Int32} (h : PAIR a b) (hF : ¬ fL_isFeud PN a b = 0) : DD (fX6_peace PN Ps o v a b) PN Ps o v (dPeace PN a b) := by
  obtain ⟨p, q, hp, hq, hpq, rfl, rfl⟩ := h
  exact (D_peace hR hX hp hq hpq (fun z => hF ((isFeud_0 hR hp hq hpq).mpr ((hasF_0 hR hp hq).mp z)))).1
theorem A_feud (hR : REL PN f 0 G T L) (hX : XI f G L) {a b : Int32} (h : PAIR a b) (hF : fL_isFeud PN a b = 0) (h8 : ¬ 8 ≤ PN 10 4) : DD (fX6_feud PN Ps o v a b) PN Ps o v (fX2_beginFeud PN a b) := by
  obtain ⟨p, q, hp, hq, hpq, rfl, rfl⟩ := h
  exact D_feud hR hX hp hq hpq ((hasF_0 hR hp hq).mpr ((isFeud_0 hR hp hq hpq).mp hF)) h8
theorem A_wish (hR : REL PN f 0 G T L) (hX : XI f G L) {g b w : Int32} (hg : ∃ x : Nat, x < G ∧ g = nI x) (ho : ∃ x : Nat, x < G ∧ b = nI x) (hw : w = if b = g then -1 else b) : fX6_wish PN Ps o v g w = Sum.inr (SV PN Ps o v (dWish PN g w)) ∧ 0 ≤ 1001 + (dWish PN g w).1 ∧ NW (dWish PN g w).2 := by
  have hG := hR.wf.G16
  refine D_wish hR hX hg ?_ ?_
  · by_cases c : b = g
    · rw [if_pos c] at hw; exact Or.inl hw
    · rw [if_neg c] at hw
      obtain ⟨x, hx, e⟩ := ho
      exact Or.inr ⟨x, hx, hw.trans e⟩
  · by_cases c : b = g
    · rw [if_pos c] at hw
      obtain ⟨x, hx, e⟩ := hg
      rw [hw, e]
      exact fun z => nI_m1 (n := x) (by omega) z.symm
    · rw [if_neg c] at hw
      rw [hw]; exact c
theorem gnum3 (hR : REL PN f 0 G T L) {g : Nat} (hg : g < G) : fX6_guestNumber PN (nI g) 3 = fX7_of f 0 g 3 := by
  have hG := hR.wf.G16
  show fX3_at 16 (PN 3) (nI g) = _
  exact hR.rat (by decide) (by omega)
theorem A_rise (hR : REL PN f 0 G T L) (hX : XI f G L) {g : Int32} (hg : ∃ x : Nat, x < G ∧ g = nI x) (hs : ¬ fX6_guestNumber PN g 3 = -1) : DD (fX6_rise PN Ps o v g) PN Ps o v (dRise PN g) := by
  obtain ⟨x, hx, rfl⟩ := hg
  rw [gnum3 hR hx] at hs
  exact D_rise hR hX hx hs
theorem A_restore (hS : NW PS) {k : Int32} (hk : k = 1) : DD (fX6_restore PN PS Ps o v k) PN Ps o v (dRestore PN PS) := by
  exact D_restore hS (by rw [hk]; exact h10)
theorem A_sit (hR : REL PN f 0 G T L) (hX : XI f G L) {x t z n : Nat} (hg : x < G) (ht : t < T) (hn : f (0 + 18 + t) = nI n) (hz : z < n) (hn8 : n ≤ 8) {g tb y : Int32} (eg : g = nI x) (et : tb = nI t) (ey : y = nI z) (h0 : fX2_reasonAgainst PN g tb y = 0) : DD (fX6_sit PN Ps o v g tb y) PN Ps o v (dSit PN g tb y) := by
  subst eg et ey
  exact D_sit hR hX hg ht hn hz hn8 h0
end AL
section AW
variable {PN : PV} {f : Nat → Int32} {G T : Nat} {L : List Nat}
theorem A_why (hR : REL PN f 0 G T L) {x t z n : Nat} (hg : x < G) (ht : t < T) (hn : f (0 + 18 + t) = nI n) (hz : z < n) (hn8 : n ≤ 8) {g tb y : Int32} (eg : g = nI x) (et : tb = nI t) (ey : y = nI z) : fX6_whyNot PN g tb y = Sum.inr (fX2_reasonAgainst PN g tb y, ()) := by
  subst eg et ey
  exact whyNot_in hR hg ht hn hz hn8
theorem pg_n (hR : REL PN f 0 G T L) : (PN 10 0).toNatClampNeg = G := by
  have hG := hR.wf.G16
  rw [hR.pg, nI_clamp (by omega)]
theorem pt_n (hR : REL PN f 0 G T L) : (PN 10 1).toNatClampNeg = T := by
  have hT := hR.wf.hT
  rw [hR.pt, nI_clamp (by omega)]
theorem in16 (hR : REL PN f 0 G T L) : IN (PN 10 0) 16 := ⟨G, hR.wf.G16, hR.pg⟩
theorem gnum (hR : REL PN f 0 G T L) {g w : Nat} (hg : g < G) (hw : w < 5) : fX6_guestNumber PN (nI g) (nI w) = fX7_of f 0 g w := by
  have hG := hR.wf.G16
  have e := hR.rat (w := w) (g := g) hw (by omega)
  have hw' : w = 0 ∨ w = 1 ∨ w = 2 ∨ w = 3 ∨ w = 4 := by omega
  rcases hw' with rfl | rfl | rfl | rfl | rfl <;> exact e
theorem who_sit (hR : REL PN f 0 G T L) {g : Nat} (hg : g < G) (h : ¬ fX6_guestNumber PN (nI g) 3 = -1) : fX6_who PN (fX6_guestNumber PN (nI g) 3) (fX6_guestNumber PN (nI g) 4) = Sum.inr (fX2_holderAt PN (fX6_guestNumber PN (nI g) 3) (fX6_guestNumber PN (nI g) 4), ()) := by
  have e3 := gnum (w := 3) hR hg (by decide)
  have e4 := gnum (w := 4) hR hg (by decide)
  rcases hR.wf.sit g hg with e | ⟨t, z, n, k1, k2, k3, k4, k5, k6⟩
  · exact absurd (e3.trans e) h
  · rw [show fX6_guestNumber PN (nI g) 3 = nI t from e3.trans k5, show fX6_guestNumber PN (nI g) 4 = nI z from e4.trans k6]
    exact who_in hR k1 k4 k3 k2
theorem wish_in (hR : REL PN f 0 G T L) {g : Nat} (hg : g < G) (h : ¬ fX6_guestNumber PN (nI g) 2 = -1) : fX6_guestOf PN (fX6_guestNumber PN (nI g) 2) 3 = Sum.inr (fX6_guestNumber PN (fX6_guestNumber PN (nI g) 2) 3, ()) := by
  have e2 := gnum (w := 2) hR hg (by decide)
  rcases hR.wf.wsh g hg with e | ⟨j, hj, _, e⟩
  · exact absurd (e2.trans e) h
  · rw [show fX6_guestNumber PN (nI g) 2 = nI j from e2.trans e]
    exact guestOf_in (w := 3) hR hj (by decide)
end AW
