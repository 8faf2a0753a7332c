/-- what a guest's sitting on a seat is worth to guest x -/
def CG (f : Nat → Int32) (b g t z x : Nat) : Int32 := if x = g then OS f b g (nI z) + OL f b (LW f b g t z) else (if fX7_of f b x 2 = nI g then OL f b (LB f b x t z) else 0)
theorem gain_eq {P : PV} {f : Nat → Int32} {b G T : Nat} {L : List Nat} (h : REL P f b G T L) {g t z n : Nat} (hg : g < G) (ht : t < T) (hn : f (b + 18 + t) = nI n) (hz : z < n) (hn8 : n ≤ 8) : fX4_gain P (nI g) (nI t) (nI z) = sm G (CG f b g t z) := by
  have hG := h.wf.G16
  have hT := h.wf.hT
  have e1 : sm G (CG f b g t z) = (OS f b g (nI z) + OL f b (LW f b g t z)) + sm G (fun x => if fX7_of f b x 2 = nI g then OL f b (LB f b x t z) else 0) := by
    rw [show OS f b g (nI z) + OL f b (LW f b g t z) = sm G (fun x => if x = g then OS f b g (nI z) + OL f b (LW f b g t z) else 0) from by
      rw [sm_one hg (fun i hi hne => if_neg hne), if_pos rfl], ← sm_add]
    refine sm_congr (fun x hx => ?_)
    unfold CG
    by_cases c : x = g
    · subst c
      rw [if_pos rfl, if_pos rfl, if_neg, Int32.add_zero]
      rcases h.wf.wsh x hg with e | ⟨j, h7, h8, h9⟩
      · rw [e]; exact fun c => nI_m1 (show x < 2 ^ 31 by omega) c.symm
      · rw [h9]; exact fun c => h8 ((nI_eq (by omega) (by omega)).mp c)
    · rw [if_neg c, if_neg c, Int32.zero_add]
  rw [e1]
  unfold fX4_gain
  rw [h.pg, nI_clamp (by omega), OS_cls h hg, h.rat (by decide) (by omega), LW_cls h hg ht hn hz hn8, OL_cls h (LW_012 f b g t z)]
  refine lq1_sum (r := fX4_gain_r38) _ _ (fun x v nx hx => ?_)
  unfold fX4_gain_b38
  rw [bd_eq, h.rat (by decide) (by omega), LB_cls h hx ht hn hz hn8, OL_cls h (LB_012 f b x t z)]
  by_cases c : fX7_of f b x 2 = nI g
  · rw [if_pos c, if_pos c]
  · rw [if_neg c, if_neg c, Int32.add_zero]
/-- the row with a guest laid on another seat -/
def MV (f : Nat → Int32) (b g t : Nat) (z : Int32) : Nat → Int32 := fX7_lay (fX7_lay f b g 3 (nI t)) b g 4 z
theorem MV_low (f : Nat → Int32) (b g t : Nat) (z : Int32) {k : Nat} (hk : k < b + 38) : MV f b g t z k = f k := by
  unfold MV
  rw [lay_eq, lay_eq, upd_ne (by omega), upd_ne (by omega)]
theorem MV_of (f : Nat → Int32) (b g t : Nat) (z : Int32) (x w : Nat) (hw : w < 5) : fX7_of (MV f b g t z) b x w = if x = g then (if w = 3 then nI t else (if w = 4 then z else fX7_of f b x w)) else fX7_of f b x w := by
  unfold fX7_of MV
  rw [lay_eq, lay_eq]
  by_cases c : x = g
  · subst c
    rw [if_pos rfl]
    by_cases c3 : w = 3
    · subst c3
      rw [if_pos rfl, upd_ne (by omega), upd_eq]
    · rw [if_neg c3]
      by_cases c4 : w = 4
      · subst c4
        rw [if_pos rfl, upd_eq]
      · rw [if_neg c4, upd_ne (by omega), upd_ne (by omega)]
  · rw [if_neg c, upd_ne (by omega), upd_ne (by omega)]
theorem MV_ne {f : Nat → Int32} {b g t : Nat} {z : Int32} {x w : Nat} (hw : w < 5) (hx : x ≠ g) : fX7_of (MV f b g t z) b x w = fX7_of f b x w := by rw [MV_of f b g t z x w hw, if_neg hx]
theorem MV_3 (f : Nat → Int32) (b g t : Nat) (z : Int32) : fX7_of (MV f b g t z) b g 3 = nI t := by rw [MV_of f b g t z g 3 (by decide), if_pos rfl, if_pos rfl]
theorem MV_4 (f : Nat → Int32) (b g t : Nat) (z : Int32) : fX7_of (MV f b g t z) b g 4 = z := by rw [MV_of f b g t z g 4 (by decide), if_pos rfl, if_neg (by decide), if_pos rfl]
theorem MV_w {f : Nat → Int32} {b g t : Nat} {z : Int32} {x w : Nat} (hw : w < 3) : fX7_of (MV f b g t z) b x w = fX7_of f b x w := by
  rw [MV_of f b g t z x w (by omega)]
  by_cases c : x = g
  · rw [if_pos c, if_neg (by omega), if_neg (by omega)]
  · rw [if_neg c]
theorem MV_OS (f : Nat → Int32) (b g t : Nat) (z : Int32) (x : Nat) (y : Int32) : OS (MV f b g t z) b x y = OS f b x y := by
  unfold OS
  rw [MV_w (by decide), MV_low f b g t z (by omega)]
theorem MV_OL (f : Nat → Int32) (b g t : Nat) (z : Int32) (v : Int32) : OL (MV f b g t z) b v = OL f b v := by
  unfold OL
  rw [MV_low f b g t z (by omega), MV_low f b g t z (by omega)]
theorem MV_LBne {f : Nat → Int32} {b g t : Nat} {z : Int32} {j t' z' : Nat} (ht : t' < 4) (hj : j ≠ g) : LB (MV f b g t z) b j t' z' = LB f b j t' z' := by
  unfold LB
  rw [MV_ne (by decide) hj, MV_ne (by decide) hj, MV_low f b g t z (by omega)]
/-- what each guest has then -/
theorem MV_points {f : Nat → Int32} {b G T : Nat} {L : List Nat} (h : WF f b G T L) {g t z n x : Nat} (hg : g < G) (hx : x < G) (ht : t < T) (hn : f (b + 18 + t) = nI n) (hz : z < n) (hn8 : n ≤ 8) :
    fX7_pointsOf (MV f b g t (nI z)) b x + (if fX7_of f b g 3 = -1 then 0 else CG f b g (fX7_of f b g 3).toNatClampNeg (fX7_of f b g 4).toNatClampNeg x) = fX7_pointsOf f b x + CG f b g t z x := by
  have hG := h.G16
  have hT := h.hT
  have hnM : MV f b g t (nI z) (b + 18 + t) = nI n := (MV_low f b g t (nI z) (by omega)).trans hn
  by_cases c : x = g
  · subst c
    have eM : fX7_pointsOf (MV f b x t (nI z)) b x = OS f b x (nI z) + OL f b (LW f b x t z) := by
      rw [points_ref, MV_3, if_neg (nI_m1 (by omega)), MV_4, MV_OS, MV_OL]
      congr 2
      unfold LW
      rcases h.wsh x hx with e | ⟨j, h7, h8, h9⟩
      · rw [if_pos e, met_0 (Or.inl (by rw [MV_w (by decide)]; exact e))]
      · rw [h9, if_neg (nI_m1 (by omega)), nI_clamp (by omega), ← MV_LBne (z := nI z) (g := x) (t := t) (by omega) h8]
        refine met_raw (by omega) (by omega) hz hn8 hnM (fun c3 => ?_) (by rw [MV_w (by decide)]; exact h9) (MV_3 f b x t (nI z)) (MV_4 f b x t (nI z))
        rw [MV_ne (by decide) h8] at c3 ⊢
        obtain ⟨y, n', h1, h2, h3, h4, h5⟩ := h.at_ h7 (by omega) c3
        obtain rfl : n' = n := (nI_eq (by omega) (by omega)).mp (h4.symm.trans hn)
        exact ⟨y, h3, h5⟩
    have eC : ∀ t z : Nat, CG f b x t z x = OS f b x (nI z) + OL f b (LW f b x t z) := fun t z => if_pos rfl
    rw [eM, eC t z, Int32.add_comm]
    congr 1
    rw [points_ref]
    rcases h.sit x hx with e | ⟨t', z', n', h1, h2, h3, h4, h5, h6⟩
    · rw [if_pos e, if_pos e]
    · rw [h5, h6, if_neg (nI_m1 (by omega)), if_neg (nI_m1 (by omega)), nI_clamp (by omega), nI_clamp (by omega), eC, met_LW h hx (by omega) (by omega) h5 h6]
  · have eC : ∀ t z : Nat, CG f b g t z x = (if fX7_of f b x 2 = nI g then OL f b (LB f b x t z) else 0) := fun t z => if_neg c
    rw [eC, eC]
    by_cases cw : fX7_of f b x 2 = nI g
    · rw [if_pos cw, if_pos cw, points_ref, points_ref, MV_ne (by decide) c, MV_ne (by decide) c, MV_OS, MV_OL]
      rcases h.sit x hx with e | ⟨tx, zx, nx, h1, h2, h3, h4, h5, h6⟩
      · have e0 : ∀ t z : Nat, t < 4 → LB f b x t z = 0 := fun t z ht => by
          unfold LB
          exact if_neg (fun c3 => nI_m1 (by omega) (c3.symm.trans e))
        rw [if_pos e, if_pos e, e0 t z (by omega), OL_0]
        by_cases c3 : fX7_of f b g 3 = -1
        · rw [if_pos c3]
        · rw [if_neg c3]
          rcases h.sit g hg with e3 | ⟨tg, zg, ng, k1, k2, k3, k4, k5, k6⟩
          · exact absurd e3 c3
          · rw [k5, nI_clamp (by omega), e0 tg _ (by omega), OL_0]
      · have hM : fX7_metBy (MV f b g t (nI z)) b x = LB f b x t z := by
          have hnx : MV f b g t (nI z) (b + 18 + tx) = nI nx := (MV_low f b g t (nI z) (by omega)).trans h4
          have hsame : nI t = nI tx → z < nx := fun e => by
            obtain rfl : t = tx := (nI_eq (by omega) (by omega)).mp e
            obtain rfl : n = nx := (nI_eq (by omega) (by omega)).mp (hn.symm.trans h4)
            exact hz
          rw [met_raw (by omega) (show tx < 4 by omega) h3 h2 hnx (fun c3 => ⟨z, hsame ((MV_3 f b g t (nI z)).symm.trans c3), MV_4 f b g t (nI z)⟩) ((MV_w (by decide)).trans cw) ((MV_ne (by decide) c).trans h5) ((MV_ne (by decide) c).trans h6)]
          unfold LB
          rw [MV_3, MV_4, hnx, h5, h6, hn, nI_clamp (show z < 2 ^ 31 by omega), nI_clamp (show zx < 2 ^ 31 by omega), nI_clamp (show n < 2 ^ 31 by omega), nI_clamp (show nx < 2 ^ 31 by omega)]
          by_cases c4 : t = tx
          · subst c4
            obtain rfl : n = nx := (nI_eq (by omega) (by omega)).mp (hn.symm.trans h4)
            rw [if_pos rfl, if_pos rfl, lvN_sym]
          · rw [if_neg (fun e => c4 ((nI_eq (by omega) (by omega)).mp e)), if_neg (fun e => c4 ((nI_eq (by omega) (by omega)).mp e).symm)]
        have hO : OL f b (fX7_metBy f b x) = (if fX7_of f b g 3 = -1 then 0 else OL f b (LB f b x (fX7_of f b g 3).toNatClampNeg (fX7_of f b g 4).toNatClampNeg)) := by
          rw [met_ref h hx hg (show tx < 4 by omega) (show zx < 8 by omega) cw h5 h6]
          rcases h.sit g hg with e3 | ⟨tg, zg, ng, k1, k2, k3, k4, k5, k6⟩
          · rw [if_pos e3]
            unfold LB
            rw [if_neg (fun c3 => nI_m1 (show tx < 2 ^ 31 by omega) (c3.symm.trans e3)), OL_0]
          · rw [k5, if_neg (nI_m1 (by omega)), k6, nI_clamp (by omega), nI_clamp (by omega)]
            unfold LB
            rw [k5, k6, h5, h6, h4, k4, nI_clamp (show zg < 2 ^ 31 by omega), nI_clamp (show zx < 2 ^ 31 by omega), nI_clamp (show ng < 2 ^ 31 by omega), nI_clamp (show nx < 2 ^ 31 by omega)]
            by_cases c4 : tg = tx
            · subst c4
              obtain rfl : ng = nx := (nI_eq (by omega) (by omega)).mp (k4.symm.trans h4)
              rw [if_pos rfl, if_pos rfl, lvN_sym]
            · rw [if_neg (fun e => c4 ((nI_eq (by omega) (by omega)).mp e)), if_neg (fun e => c4 ((nI_eq (by omega) (by omega)).mp e).symm)]
        rw [hM, hO, h5, if_neg (nI_m1 (by omega)), if_neg (nI_m1 (by omega))]
        rw [Int32.add_assoc, Int32.add_assoc, Int32.add_comm (OL f b (LB f b x t z))]
    · have e0 : ∀ v : Int32, fX7_of f b x 2 = v → (v = -1 ∨ ∃ j : Nat, j < G ∧ j ≠ g ∧ v = nI j) := fun v e => by
        subst e
        rcases h.wsh x hx with e | ⟨j, h7, h8, h9⟩
        · exact Or.inl e
        · exact Or.inr ⟨j, h7, fun e => cw (by rw [h9, e]), h9⟩
      rw [if_neg cw, if_neg cw, Int32.add_zero, show (if fX7_of f b g 3 = -1 then (0 : Int32) else 0) = 0 from by by_cases c3 : fX7_of f b g 3 = -1 <;> simp [c3], Int32.add_zero, points_ref, points_ref, MV_ne (by decide) c, MV_ne (by decide) c, MV_OS, MV_OL]
      rcases h.sit x hx with e | ⟨tx, zx, nx, h1, h2, h3, h4, h5, h6⟩
      · rw [if_pos e, if_pos e]
      · rw [h5, if_neg (nI_m1 (by omega)), if_neg (nI_m1 (by omega))]
        congr 2
        rcases e0 _ rfl with e | ⟨j, h7, h8, h9⟩
        · rw [met_0 (Or.inl e), met_0 (Or.inl ((MV_w (by decide)).trans e))]
        · rw [met_ref h hx h7 (show tx < 4 by omega) (show zx < 8 by omega) h9 h5 h6, ← MV_LBne (z := nI z) (g := g) (t := t) (by omega) h8]
          refine met_raw (by omega) (show tx < 4 by omega) h3 h2 ((MV_low f b g t (nI z) (by omega)).trans h4) (fun c3 => ?_) ((MV_w (by decide)).trans h9) ((MV_ne (by decide) c).trans h5) ((MV_ne (by decide) c).trans h6)
          rw [MV_ne (by decide) h8] at c3 ⊢
          obtain ⟨y, n', k1, k2, k3, k4, k5⟩ := h.at_ h7 (by omega) c3
          obtain rfl : n' = nx := (nI_eq (by omega) (by omega)).mp (k4.symm.trans h4)
          exact ⟨y, k3, k5⟩

