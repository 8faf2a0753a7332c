theorem met_0 {f : Nat → Int32} {b g : Nat} (h : fX7_of f b g 2 = -1 ∨ fX7_of f b g 3 = -1) : fX7_metBy f b g = 0 := by
  unfold fX7_metBy
  by_cases c : fX7_of f b g 2 = -1
  · exact if_pos c
  · rw [if_neg c, if_pos (h.resolve_left c)]
theorem level_eq {P : PV} {f : Nat → Int32} {b G T : Nat} {L : List Nat} (h : REL P f b G T L) {g : Nat} (hg : g < G) : fX4_levelOfGuest P (nI g) = fX7_metBy f b g := by
  have hG := h.wf.G16
  have hT := h.wf.hT
  unfold fX4_levelOfGuest fX2_isSitting
  rw [h.rat (by decide) (by omega), h.rat (by decide) (by omega), h.rat (by decide) (by omega)]
  rcases h.wf.sit g hg with c | ⟨t, z, n, h1, h2, h3, h4, h5, h6⟩
  · rw [if_pos c, if_pos rfl, met_0 (Or.inr c)]
  · rw [h5, h6, if_neg (nI_m1 (by omega)), if_neg (by decide)]
    rcases h.wf.wsh g hg with e | ⟨j, h7, h8, h9⟩
    · rw [e, LB_m1, met_0 (Or.inl e)]
    · rw [h9, LB_cls h h7 h1 h4 h3 h2, met_ref h.wf hg h7 (by omega) (by omega) h9 h5 h6]
theorem met_012 {f : Nat → Int32} {b G T : Nat} {L : List Nat} (h : WF f b G T L) {g : Nat} (hg : g < G) : fX7_metBy f b g = 0 ∨ fX7_metBy f b g = 1 ∨ fX7_metBy f b g = 2 := by
  have hT := h.hT
  rcases h.wsh g hg with e | ⟨j, h7, h8, h9⟩
  · exact Or.inl (met_0 (Or.inl e))
  · rcases h.sit g hg with c | ⟨t, z, n, h1, h2, h3, h4, h5, h6⟩
    · exact Or.inl (met_0 (Or.inr c))
    · rw [met_ref h hg h7 (by omega) (by omega) h9 h5 h6]
      exact LB_012 f b j t z
theorem OL_cls {P : PV} {f : Nat → Int32} {b G T : Nat} {L : List Nat} (h : REL P f b G T L) {v : Int32} (hv : v = 0 ∨ v = 1 ∨ v = 2) : fX4_ofLevel P v = OL f b v := by
  unfold fX4_ofLevel OL
  rw [bd_eq, bd_eq, h.sat (k := 1) (x := 1) (by decide) rfl, h.sat (k := 2) (x := 2) (by decide) rfl]
  rcases hv with rfl | rfl | rfl
  · rw [if_pos (by decide), if_pos (by decide), if_pos (by decide), if_pos (by decide)]; rfl
  · rw [if_pos (by decide), if_neg (by decide), if_neg (by decide), if_pos (by decide), Int32.zero_add, Int32.add_zero]
  · rw [if_neg (by decide), if_neg (by decide), if_neg (by decide), if_neg (by decide), Int32.zero_add]
theorem OS_cls {P : PV} {f : Nat → Int32} {b G T : Nat} {L : List Nat} (h : REL P f b G T L) {g : Nat} (hg : g < G) (z : Int32) : fX4_ofSitting P (nI g) z = OS f b g z := by
  have hG := h.wf.G16
  unfold fX4_ofSitting OS
  rw [bd_eq, h.sat (k := 3) (x := 3) (by decide) rfl, h.rat (by decide) (by omega), show fX2_isAtLeg z = fX7_isAtLeg z from rfl]
  by_cases c : fX7_isAtLeg z = 0
  · rw [if_pos c, if_pos c, if_pos rfl]; rfl
  · rw [if_neg c, if_neg c]
    by_cases c2 : fX7_of f b g 1 = 2
    · rw [if_pos c2, if_pos c2, if_neg (by decide)]
    · rw [if_neg c2, if_neg c2, if_pos rfl]; rfl
theorem points_ref (f : Nat → Int32) (b g : Nat) : fX7_pointsOf f b g = if fX7_of f b g 3 = -1 then 0 else OS f b g (fX7_of f b g 4) + OL f b (fX7_metBy f b g) := by
  unfold fX7_pointsOf OS OL
  by_cases c : fX7_of f b g 3 = -1
  · rw [if_pos c, if_pos c]
  · rw [if_neg c, if_neg c, bd_eq, bd_eq, bd_eq, Int32.add_assoc]
theorem ofGuest_eq {P : PV} {f : Nat → Int32} {b G T : Nat} {L : List Nat} (h : REL P f b G T L) {g : Nat} (hg : g < G) : fX4_ofGuest P (nI g) = fX7_pointsOf f b g := by
  have hG := h.wf.G16
  unfold fX4_ofGuest fX2_isSitting
  rw [points_ref, level_eq h hg, h.rat (by decide) (by omega), h.rat (by decide) (by omega), OS_cls h hg, OL_cls h (met_012 h.wf hg)]
  by_cases c : fX7_of f b g 3 = -1
  · rw [if_pos c, if_pos c, if_pos rfl]
  · rw [if_neg c, if_neg c, if_neg (by decide)]
theorem points_sum (f : Nat → Int32) (b : Nat) {G : Nat} (hG : (f (b + 0)).toNatClampNeg = G) : fX7_points f b (-1) = sm G (fX7_pointsOf f b) := by
  unfold fX7_points
  rw [hG]
  exact lq1_sum0 (r := fX7_points_r5) _ (fun k x nx _ => by unfold fX7_points_b5; rw [if_pos rfl, bd_eq])
theorem pointsT_sum (f : Nat → Int32) (b t : Nat) {G : Nat} (ht : t < 4) (hG : (f (b + 0)).toNatClampNeg = G) : fX7_points f b (nI t) = sm G (fun g => if fX7_of f b g 3 = nI t then fX7_pointsOf f b g else 0) := by
  unfold fX7_points
  rw [hG]
  exact lq1_sum0 (r := fX7_points_r5) _ (fun k x nx _ => by unfold fX7_points_b5; rw [if_neg (nI_m1 (by omega)), bd_eq])
theorem byGuests_eq {P : PV} {f : Nat → Int32} {b G T : Nat} {L : List Nat} (h : REL P f b G T L) : fX4_byGuests P = fX7_points f b (-1) := by
  have hG := h.wf.G16
  rw [points_sum f b h.wf.gN]
  unfold fX4_byGuests
  rw [h.pg, nI_clamp (by omega)]
  exact lq1_sum0 (r := fX4_byGuests_r4) _ (fun k x nx hk => by unfold fX4_byGuests_b4; rw [ofGuest_eq h hk])
theorem wishesMet_eq {P : PV} {f : Nat → Int32} {G T : Nat} {L : List Nat} (h : REL P f 0 G T L) : fX4_wishesMet P = fX7_wishes f 1 := by
  have hG := h.wf.G16
  have hN : (f 0).toNatClampNeg = G := h.wf.gN
  unfold fX4_wishesMet fX7_wishes
  rw [h.pg, nI_clamp (by omega), hN]
  refine (lq1_sum0 (r := fX4_wishesMet_r4) (fun g => if fX7_metBy f 0 g ≤ 0 then 0 else 1) (fun k x nx hk => ?_)).trans (lq1_sum0 (r := fX7_wishes_r4) (fun g => if fX7_metBy f 0 g ≤ 0 then 0 else 1) (fun k x nx hk => ?_)).symm
  · unfold fX4_wishesMet_b4
    rw [level_eq h hk, bd_eq]
    by_cases c : fX7_metBy f 0 k ≤ 0
    · rw [if_pos c, if_pos c, Int32.add_zero]
    · rw [if_neg c, if_neg c]
  · unfold fX7_wishes_b4
    rw [if_neg (by decide), bd_eq, bd_eq]
    by_cases c : fX7_metBy f 0 k ≤ 0
    · rw [if_pos c, if_pos c, if_pos (show nI 0 = 0 from rfl)]; rfl
    · rw [if_neg c, if_neg c, if_neg (show ¬ nI 1 = 0 by decide)]; rfl
theorem share_eq {P : PV} {f : Nat → Int32} {G T : Nat} {L : List Nat} (h : REL P f 0 G T L) : fX4_shareMet P = fX7_share f := by
  have hG := h.wf.G16
  have hN : (f 0).toNatClampNeg = G := h.wf.gN
  have e0 : fX7_wishes f 0 = sm G (fun g => if fX7_of f 0 g 2 = -1 then 0 else 1) := by
    unfold fX7_wishes
    rw [hN]
    refine lq1_sum0 (r := fX7_wishes_r4) _ (fun k x nx hk => ?_)
    unfold fX7_wishes_b4
    rw [if_pos rfl, bd_eq, bd_eq]
    by_cases c : fX7_of f 0 k 2 = -1
    · rw [if_pos c, if_pos c, if_pos (show nI 0 = 0 from rfl)]; rfl
    · rw [if_neg c, if_neg c, if_neg (show ¬ nI 1 = 0 by decide)]; rfl
  unfold fX4_shareMet fX7_share
  rw [h.pg, nI_clamp (by omega), ← wishesMet_eq h, e0]
  exact lq1_sum0 (r := fX4_shareMet_r4 P) _ (fun k x nx hk => by
    unfold fX4_shareMet_b4
    rw [h.rat (by decide) (by omega), bd_eq]
    by_cases c : fX7_of f 0 k 2 = -1
    · rw [if_pos c, if_pos c, Int32.add_zero]
    · rw [if_neg c, if_neg c])

