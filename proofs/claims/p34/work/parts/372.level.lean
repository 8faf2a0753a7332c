/-- how near two seats of one table are -/
def lvN (y z n : Nat) : Int32 := if y + 1 = z ∨ z + 1 = y ∨ y + (n - 1) = z ∨ z + (n - 1) = y then 2 else 1
theorem lvN_sym (y z n : Nat) : lvN y z n = lvN z y n := by
  unfold lvN
  by_cases c : y + 1 = z ∨ z + 1 = y ∨ y + (n - 1) = z ∨ z + (n - 1) = y
  · rw [if_pos c, if_pos (by omega)]
  · rw [if_neg c, if_neg (by omega)]
theorem lv_cls : ∀ n : Nat, n < 9 → 0 < n → ∀ y : Nat, y < n → ∀ z : Nat, z < n → (if (if 0 ≤ nI y - nI z then nI y - nI z else 0 - (nI y - nI z)) = 1 then (2 : Int32) else (if (if 0 ≤ nI y - nI z then nI y - nI z else 0 - (nI y - nI z)) = nI n - 1 then 2 else 1)) = lvN y z n := by decide +kernel
theorem lv_ref : ∀ n : Nat, n < 9 → 0 < n → ∀ y : Nat, y < n → ∀ z : Nat, z < n → (if nI z - nI y = 1 then (2 : Int32) else (if nI z - nI y = -1 then 2 else (if nI z - nI y = nI n - 1 then 2 else (if nI z - nI y = -(nI n - 1) then 2 else 1)))) = lvN y z n := by decide +kernel
/-- the level between a guest and a seat -/
def LB (f : Nat → Int32) (b j t z : Nat) : Int32 := if fX7_of f b j 3 = nI t then lvN (fX7_of f b j 4).toNatClampNeg z (f (b + 18 + t)).toNatClampNeg else 0
/-- a guest's points from the seat alone -/
def OS (f : Nat → Int32) (b g : Nat) (z : Int32) : Int32 := 1 - (if fX7_isAtLeg z = 0 then 0 else (if fX7_of f b g 1 = 2 then f (b + 6 + 3) else 0))
/-- the points of a level -/
def OL (f : Nat → Int32) (b : Nat) (v : Int32) : Int32 := (if v ≤ 0 then 0 else f (b + 6 + 1)) + (if v ≤ 1 then 0 else f (b + 6 + 2))
theorem lvN_01 (y z n : Nat) : lvN y z n = 2 ∨ lvN y z n = 1 := by
  unfold lvN
  by_cases c : y + 1 = z ∨ z + 1 = y ∨ y + (n - 1) = z ∨ z + (n - 1) = y
  · exact Or.inl (if_pos c)
  · exact Or.inr (if_neg c)
theorem LB_012 (f : Nat → Int32) (b j t z : Nat) : LB f b j t z = 0 ∨ LB f b j t z = 1 ∨ LB f b j t z = 2 := by
  unfold LB
  by_cases c : fX7_of f b j 3 = nI t
  · rw [if_pos c]
    rcases lvN_01 (fX7_of f b j 4).toNatClampNeg z (f (b + 18 + t)).toNatClampNeg with e | e
    · exact Or.inr (Or.inr e)
    · exact Or.inr (Or.inl e)
  · exact Or.inl (if_neg c)
theorem WF.at_ {f : Nat → Int32} {b G T : Nat} {L : List Nat} (h : WF f b G T L) {g t : Nat} (hg : g < G) (ht : t < 4) (hs : fX7_of f b g 3 = nI t) : ∃ z n : Nat, t < T ∧ n ≤ 8 ∧ z < n ∧ f (b + 18 + t) = nI n ∧ fX7_of f b g 4 = nI z := by
  have hT := h.hT
  rcases h.sit g hg with c2 | ⟨t', z, n, h1, h2, h3, h4, h5, h6⟩
  · exact absurd (hs.symm.trans c2) (nI_m1 (by omega))
  · obtain rfl : t' = t := (nI_eq (by omega) (by omega)).mp (h5.symm.trans hs)
    exact ⟨z, n, h1, h2, h3, h4, h6⟩
theorem LB_cls {P : PV} {f : Nat → Int32} {b G T : Nat} {L : List Nat} (h : REL P f b G T L) {j t z n : Nat} (hj : j < G) (ht : t < T) (hn : f (b + 18 + t) = nI n) (hz : z < n) (hn8 : n ≤ 8) : fX4_levelBetween P (nI j) (nI t) (nI z) = LB f b j t z := by
  have hG := h.wf.G16
  have hT := h.wf.hT
  unfold fX4_levelBetween LB fX2_isGuest
  rw [h.pg, if_neg (nI_pos (by omega)), if_neg (nI_ge hj (by omega)), if_neg (by decide), h.rat (by decide) (by omega), h.rat (by decide) (by omega), h.seats (by omega)]
  by_cases c : fX7_of f b j 3 = nI t
  · obtain ⟨y, n', h1, h2, h3, h4, h5⟩ := h.wf.at_ hj (by omega) c
    obtain rfl : n' = n := (nI_eq (by omega) (by omega)).mp (h4.symm.trans hn)
    rw [if_pos c, if_pos c, h5, hn, nI_clamp (by omega), nI_clamp (by omega)]
    exact lv_cls n' (by omega) (by omega) y h3 z hz
  · rw [if_neg c, if_neg c]
theorem LB_m1 {P : PV} (tb z : Int32) : fX4_levelBetween P (-1) tb z = 0 := by
  unfold fX4_levelBetween fX2_isGuest
  rw [if_pos (show (if (-1 : Int32) < 0 then (0 : Int32) else if P 10 0 ≤ -1 then 0 else 1) = 0 from if_pos (by decide))]
/-- how far a wish is met, as the reference says it -/
theorem met_ref {f : Nat → Int32} {b G T : Nat} {L : List Nat} (h : WF f b G T L) {g j t z : Nat} (hg : g < G) (hj : j < G) (ht : t < 4) (hz : z < 8) (e2 : fX7_of f b g 2 = nI j) (e3 : fX7_of f b g 3 = nI t) (e4 : fX7_of f b g 4 = nI z) : fX7_metBy f b g = LB f b j t z := by
  have hG := h.G16
  have hT := h.hT
  unfold fX7_metBy LB
  rw [e2, e3, e4, if_neg (nI_m1 (by omega)), if_neg (nI_m1 (by omega)), nI_clamp (show j < 2 ^ 31 by omega), nI_clamp (show t < 2 ^ 31 by omega)]
  by_cases c : fX7_of f b j 3 = nI t
  · obtain ⟨y, n', h1, h2, h3, h4, h5⟩ := h.at_ hj ht c
    obtain ⟨z', n, k1, k2, k3, k4, k5⟩ := h.at_ hg ht e3
    obtain rfl : n' = n := (nI_eq (by omega) (by omega)).mp (h4.symm.trans k4)
    obtain rfl : z' = z := (nI_eq (by omega) (by omega)).mp (k5.symm.trans e4)
    rw [if_pos c, if_pos c, h5, h4, nI_clamp (by omega), nI_clamp (by omega)]
    exact lv_ref n' (by omega) (by omega) y h3 z' k3
  · rw [if_neg c, if_neg c]

