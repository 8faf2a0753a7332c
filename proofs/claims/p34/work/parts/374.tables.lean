theorem OL_0 (f : Nat → Int32) (b : Nat) : OL f b 0 = 0 := by
  unfold OL
  rw [if_pos (by decide), if_pos (by decide)]; rfl
theorem met_raw {f : Nat → Int32} {b g j t z n : Nat} (hj : j < 16) (ht : t < 4) (hz : z < n) (hn8 : n ≤ 8) (hn : f (b + 18 + t) = nI n) (hy : fX7_of f b j 3 = nI t → ∃ y : Nat, y < n ∧ fX7_of f b j 4 = nI y) (e2 : fX7_of f b g 2 = nI j) (e3 : fX7_of f b g 3 = nI t) (e4 : fX7_of f b g 4 = nI z) : fX7_metBy f b g = LB f b j t z := by
  unfold fX7_metBy LB
  rw [e2, e3, e4, if_neg (nI_m1 (by omega)), if_neg (nI_m1 (by omega)), nI_clamp (show j < 2 ^ 31 by omega), nI_clamp (show t < 2 ^ 31 by omega)]
  by_cases c : fX7_of f b j 3 = nI t
  · obtain ⟨y, h3, h5⟩ := hy c
    rw [if_pos c, if_pos c, h5, hn, nI_clamp (by omega), nI_clamp (by omega)]
    exact lv_ref n (by omega) (by omega) y h3 z hz
  · rw [if_neg c, if_neg c]
/-- the level between a guest's friend and a seat -/
def LW (f : Nat → Int32) (b g t z : Nat) : Int32 := if fX7_of f b g 2 = -1 then 0 else LB f b (fX7_of f b g 2).toNatClampNeg t z
theorem LW_012 (f : Nat → Int32) (b g t z : Nat) : LW f b g t z = 0 ∨ LW f b g t z = 1 ∨ LW f b g t z = 2 := by
  unfold LW
  by_cases c : fX7_of f b g 2 = -1
  · exact Or.inl (if_pos c)
  · rw [if_neg c]; exact LB_012 f b _ t z
theorem met_LW {f : Nat → Int32} {b G T : Nat} {L : List Nat} (h : WF f b G T L) {g t z : Nat} (hg : g < G) (ht : t < 4) (hz : z < 8) (e3 : fX7_of f b g 3 = nI t) (e4 : fX7_of f b g 4 = nI z) : fX7_metBy f b g = LW f b g t z := by
  have hG := h.G16
  unfold LW
  rcases h.wsh g hg with e | ⟨j, h7, h8, h9⟩
  · rw [if_pos e, met_0 (Or.inl e)]
  · rw [h9, if_neg (nI_m1 (by omega)), nI_clamp (by omega)]
    exact met_ref h hg h7 ht hz h9 e3 e4
theorem LW_cls {P : PV} {f : Nat → Int32} {b G T : Nat} {L : List Nat} (h : REL P f b G T L) {g t z n : Nat} (hg : g < G) (ht : t < T) (hn : f (b + 18 + t) = nI n) (hz : z < n) (hn8 : n ≤ 8) : fX4_levelBetween P (fX7_of f b g 2) (nI t) (nI z) = LW f b g t z := by
  have hG := h.wf.G16
  unfold LW
  rcases h.wf.wsh g hg with e | ⟨j, h7, h8, h9⟩
  · rw [if_pos e, e, LB_m1]
  · rw [h9, if_neg (nI_m1 (by omega)), nI_clamp (by omega)]
    exact LB_cls h h7 ht hn hz hn8
theorem friend_sum {f : Nat → Int32} {b G T : Nat} {L : List Nat} (h : WF f b G T L) {g t n : Nat} (z : Nat) (hg : g < G) (ht : t < T) (hn : f (b + 18 + t) = nI n) (hn8 : n ≤ 8) : sm n (fun y => if fX7_whoSits f b (nI t) (nI y) = -1 then 0 else (if fX7_of f b g 2 = nI (fX7_whoSits f b (nI t) (nI y)).toNatClampNeg then OL f b (LB f b (fX7_whoSits f b (nI t) (nI y)).toNatClampNeg t z) else 0)) = OL f b (LW f b g t z) := by
  have hG := h.G16
  rw [seat_guest h ht hn hn8 (fun j _ => if fX7_of f b g 2 = nI j then OL f b (LB f b j t z) else 0)]
  unfold LW
  rcases h.wsh g hg with e | ⟨j, h7, h8, h9⟩
  · rw [if_pos e, OL_0]
    refine sm_none (fun i hi => ?_)
    rw [e, if_neg (show ¬ (-1 : Int32) = nI i from fun c => nI_m1 (by omega) c.symm)]
    by_cases c : fX7_of f b i 3 = nI t
    · exact if_pos c
    · exact if_neg c
  · rw [h9, if_neg (nI_m1 (by omega)), nI_clamp (by omega), sm_one h7 (fun i hi hne => by
      rw [if_neg (fun c => hne ((nI_eq (by omega) (by omega)).mp c).symm)]
      by_cases c : fX7_of f b i 3 = nI t
      · exact if_pos c
      · exact if_neg c), if_pos rfl]
    by_cases c : fX7_of f b j 3 = nI t
    · exact if_pos c
    · rw [if_neg c]
      unfold LB
      rw [if_neg c, OL_0]
theorem ofTable_eq {P : PV} {f : Nat → Int32} {b G T : Nat} {L : List Nat} (h : REL P f b G T L) {t : Nat} (ht : t < T) : fX4_ofTable P (nI t) = fX7_points f b (nI t) := by
  have hG := h.wf.G16
  have hT := h.wf.hT
  obtain ⟨n, hn3, hn8, hn⟩ := h.wf.sts t ht
  rw [pointsT_sum f b t (by omega) h.wf.gN]
  refine Eq.trans ?_ ((seat_guest h.wf ht hn hn8 (fun g z => OS f b g z + OL f b (LW f b g t z.toNatClampNeg))).trans (sm_congr (fun g hg => ?_)))
  · unfold fX4_ofTable
    rw [h.seats (by omega), hn, nI_clamp (by omega)]
    refine lq1_sum0 (r := fX4_ofTable_r4) _ (fun z x nx hz => ?_)
    unfold fX4_ofTable_b4
    rw [h.hold ht (by omega)]
    rcases who_is h.wf (nI t) (nI z) with ⟨g, h1, h2, h3, h4⟩ | ⟨h1, h2⟩
    · rw [h4, if_neg (nI_m1 (by omega)), if_neg (nI_m1 (by omega)), h.seats (by omega), hn, nI_clamp (show n < 2 ^ 31 by omega), nI_clamp (show g < 2 ^ 31 by omega), nI_clamp (show z < 2 ^ 31 by omega), OS_cls h h1, ← friend_sum h.wf z h1 ht hn hn8, ← Int32.add_assoc]
      refine lq1_sum (r := fX4_ofTable_r43 nx) _ _ (fun y x' nx' hy => ?_)
      unfold fX4_ofTable_b43
      rw [bd_eq, h.hold ht (by omega), h.hold ht (by omega), h4, h.rat (by decide) (by omega)]
      rcases who_is h.wf (nI t) (nI y) with ⟨j, k1, k2, k3, k4⟩ | ⟨k1, k2⟩
      · rw [k4, if_neg (nI_m1 (by omega)), if_neg (nI_m1 (by omega)), nI_clamp (show j < 2 ^ 31 by omega), LB_cls h k1 ht hn hz hn8, OL_cls h (LB_012 f b j t z)]
        by_cases c : fX7_of f b g 2 = nI j
        · rw [if_pos c, if_pos c]
        · rw [if_neg c, if_neg c, Int32.add_zero]
      · rw [k2, if_pos rfl, if_pos rfl, Int32.add_zero]
    · rw [h2, if_pos rfl, if_pos rfl, Int32.add_zero]
  · by_cases c : fX7_of f b g 3 = nI t
    · obtain ⟨z, n', k1, k2, k3, k4, k5⟩ := h.wf.at_ hg (by omega) c
      rw [if_pos c, if_pos c, points_ref, c, if_neg (nI_m1 (by omega)), k5, nI_clamp (by omega), met_LW h.wf hg (by omega) (by omega) c k5]
    · rw [if_neg c, if_neg c]
theorem byTables_eq {P : PV} {f : Nat → Int32} {b G T : Nat} {L : List Nat} (h : REL P f b G T L) : fX4_byTables P = fX7_points f b (-1) := by
  have hG := h.wf.G16
  have hT := h.wf.hT
  rw [points_sum f b h.wf.gN]
  unfold fX4_byTables
  rw [h.pt, nI_clamp (by omega)]
  refine (lq1_sum0 (r := fX4_byTables_r4) (fun t => sm G (fun g => if fX7_of f b g 3 = nI t then fX7_pointsOf f b g else 0)) (fun t x nx ht => ?_)).trans ?_
  · unfold fX4_byTables_b4
    rw [ofTable_eq h ht, pointsT_sum f b t (by omega) h.wf.gN]
  · show sm T _ = _
    rw [sm_swap]
    refine sm_congr (fun g hg => ?_)
    rcases h.wf.sit g hg with c | ⟨t, z, n, h1, h2, h3, h4, h5, h6⟩
    · rw [points_ref, if_pos c]
      refine sm_none (fun i hi => ?_)
      by_cases c2 : fX7_of f b g 3 = nI i
      · exact absurd (c2.symm.trans c) (nI_m1 (by omega))
      · exact if_neg c2
    · rw [sm_one h1 (fun i hi hne => if_neg (fun c => hne ((nI_eq (by omega) (by omega)).mp (c.symm.trans h5)))), if_pos h5]

