theorem pIf_MV (f : Nat → Int32) (b g t : Nat) (z : Int32) : fX7_pointsIf f b g t z = fX7_points (MV f b g t z) b (-1) := rfl
/-- what a guest's present seat is worth to all -/
def OW (f : Nat → Int32) (b G g : Nat) : Int32 := if fX7_of f b g 3 = -1 then 0 else sm G (CG f b g (fX7_of f b g 3).toNatClampNeg (fX7_of f b g 4).toNatClampNeg)
theorem pIf_sum {f : Nat → Int32} {b G T : Nat} {L : List Nat} (h : WF f b G T L) {g t z n : Nat} (hg : g < G) (ht : t < T) (hn : f (b + 18 + t) = nI n) (hz : z < n) (hn8 : n ≤ 8) : fX7_pointsIf f b g t (nI z) + OW f b G g = fX7_points f b (-1) + sm G (CG f b g t z) := by
  have e0 : (MV f b g t (nI z) (b + 0)).toNatClampNeg = G := by rw [MV_low f b g t (nI z) (by omega)]; exact h.gN
  have eO : OW f b G g = sm G (fun x => if fX7_of f b g 3 = -1 then 0 else CG f b g (fX7_of f b g 3).toNatClampNeg (fX7_of f b g 4).toNatClampNeg x) := by
    unfold OW
    by_cases c : fX7_of f b g 3 = -1
    · rw [if_pos c]
      exact (sm_none (fun i _ => if_pos c)).symm
    · rw [if_neg c]
      exact sm_congr (fun i _ => (if_neg c).symm)
  rw [pIf_MV, points_sum _ b e0, points_sum f b h.gN, eO, ← sm_add, ← sm_add]
  exact sm_congr (fun x hx => MV_points h hg hx ht hn hz hn8)
theorem sub_of_add {a b c : Int32} (h : a + b = c) : a = c - b := by rw [← h, Int32.add_sub_cancel]
theorem afterMove_eq {P : PV} {f : Nat → Int32} {b G T : Nat} {L : List Nat} (h : REL P f b G T L) {g t z n : Nat} (hg : g < G) (ht : t < T) (hn : f (b + 18 + t) = nI n) (hz : z < n) (hn8 : n ≤ 8) : fX4_afterMove P (nI g) (nI t) (nI z) = fX7_pointsIf f b g t (nI z) := by
  have hG := h.wf.G16
  have hT := h.wf.hT
  rw [sub_of_add (pIf_sum h.wf hg ht hn hz hn8)]
  unfold fX4_afterMove fX2_isSitting OW
  rw [bd_eq, byGuests_eq h, gain_eq h hg ht hn hz hn8, h.rat (by decide) (by omega), h.rat (by decide) (by omega)]
  rcases h.wf.sit g hg with e | ⟨tg, zg, ng, k1, k2, k3, k4, k5, k6⟩
  · rw [if_pos e, if_pos e, if_pos rfl]
    exact (sub_of_add (Int32.add_zero _))
  · rw [k5, k6, if_neg (nI_m1 (by omega)), if_neg (nI_m1 (by omega)), if_neg (by decide), nI_clamp (by omega), nI_clamp (by omega), gain_eq h hg k1 k4 k3 k2]
theorem i32_add {a b : Int32} (h1 : -2147483648 ≤ a.toInt + b.toInt) (h2 : a.toInt + b.toInt < 2147483648) : (a + b).toInt = a.toInt + b.toInt := by
  rw [Int32.toInt_add]
  exact Int.bmod_eq_of_le (by omega) (by omega)
theorem sm_bd {u : Nat → Int32} : ∀ {n : Nat}, n ≤ 16 → (∀ i : Nat, i < n → -50 ≤ (u i).toInt ∧ (u i).toInt ≤ 50) → -50 * (n : Int) ≤ (sm n u).toInt ∧ (sm n u).toInt ≤ 50 * (n : Int)
  | 0, _, _ => by show -50 * ((0 : Nat) : Int) ≤ (0 : Int32).toInt ∧ (0 : Int32).toInt ≤ 50 * ((0 : Nat) : Int); decide
  | n + 1, hn, h => by
    obtain ⟨h1, h2⟩ := sm_bd (n := n) (by omega) (fun i hi => h i (Nat.lt_succ_of_lt hi))
    obtain ⟨h3, h4⟩ := h n (Nat.lt_succ_self n)
    have e : (sm (n + 1) u).toInt = (sm n u).toInt + (u n).toInt := i32_add (a := sm n u) (b := u n) (by omega) (by omega)
    rw [e]
    omega
theorem OS_bd {f : Nat → Int32} {b G T : Nat} {L : List Nat} (h : WF f b G T L) (g : Nat) (z : Int32) : -8 ≤ (OS f b g z).toInt ∧ (OS f b g z).toInt ≤ 1 := by
  obtain ⟨a, p, q, r, h1, h2, h3, h4, h5, h6, h7, h8, h9⟩ := h.stg
  have hd : ∀ r : Nat, r < 10 → -8 ≤ (1 - nI r).toInt ∧ (1 - nI r).toInt ≤ 1 := by decide
  unfold OS
  rw [h9]
  by_cases c : fX7_isAtLeg z = 0
  · rw [if_pos c]; decide
  · rw [if_neg c]
    by_cases c2 : fX7_of f b g 1 = 2
    · rw [if_pos c2]; exact hd r (by omega)
    · rw [if_neg c2]; decide
theorem OL_bd {f : Nat → Int32} {b G T : Nat} {L : List Nat} (h : WF f b G T L) (v : Int32) : 0 ≤ (OL f b v).toInt ∧ (OL f b v).toInt ≤ 40 := by
  obtain ⟨a, p, q, r, h1, h2, h3, h4, h5, h6, h7, h8, h9⟩ := h.stg
  unfold OL
  rw [h7, h8]
  by_cases c : v ≤ 0
  · rw [if_pos c]
    by_cases c2 : v ≤ 1
    · rw [if_pos c2]; decide
    · rw [if_neg c2, Int32.zero_add, nI_toInt (by omega)]; omega
  · rw [if_neg c]
    by_cases c2 : v ≤ 1
    · rw [if_pos c2, Int32.add_zero, nI_toInt (by omega)]; omega
    · rw [if_neg c2, nI_add, nI_toInt (by omega)]; omega
theorem OSL_bd {f : Nat → Int32} {b G T : Nat} {L : List Nat} (h : WF f b G T L) (g : Nat) (z v : Int32) : -50 ≤ (OS f b g z + OL f b v).toInt ∧ (OS f b g z + OL f b v).toInt ≤ 50 := by
  have h1 := OS_bd h g z
  have h2 := OL_bd h v
  rw [i32_add (by omega) (by omega)]
  omega
theorem CG_bd {f : Nat → Int32} {b G T : Nat} {L : List Nat} (h : WF f b G T L) (g t z x : Nat) : -50 ≤ (CG f b g t z x).toInt ∧ (CG f b g t z x).toInt ≤ 50 := by
  unfold CG
  by_cases c : x = g
  · rw [if_pos c]; exact OSL_bd h g _ _
  · rw [if_neg c]
    by_cases c2 : fX7_of f b x 2 = nI g
    · rw [if_pos c2]
      have h2 := OL_bd h (LB f b x t z)
      omega
    · rw [if_neg c2]; decide
theorem pts_bd {f : Nat → Int32} {b G T : Nat} {L : List Nat} (h : WF f b G T L) (g : Nat) : -50 ≤ (fX7_pointsOf f b g).toInt ∧ (fX7_pointsOf f b g).toInt ≤ 50 := by
  rw [points_ref]
  by_cases c : fX7_of f b g 3 = -1
  · rw [if_pos c]; decide
  · rw [if_neg c]; exact OSL_bd h g _ _
theorem points_bd {f : Nat → Int32} {b G T : Nat} {L : List Nat} (h : WF f b G T L) : -800 ≤ (fX7_points f b (-1)).toInt ∧ (fX7_points f b (-1)).toInt ≤ 800 := by
  have hG := h.G16
  have h1 := sm_bd h.G16 (fun i (_ : i < G) => pts_bd h i)
  rw [points_sum f b h.gN]
  omega
theorem CGs_bd {f : Nat → Int32} {b G T : Nat} {L : List Nat} (h : WF f b G T L) (g t z : Nat) : -800 ≤ (sm G (CG f b g t z)).toInt ∧ (sm G (CG f b g t z)).toInt ≤ 800 := by
  have hG := h.G16
  have h1 := sm_bd h.G16 (fun i (_ : i < G) => CG_bd h g t z i)
  omega
theorem OW_bd {f : Nat → Int32} {b G T : Nat} {L : List Nat} (h : WF f b G T L) (g : Nat) : -800 ≤ (OW f b G g).toInt ∧ (OW f b G g).toInt ≤ 800 := by
  unfold OW
  by_cases c : fX7_of f b g 3 = -1
  · rw [if_pos c]; decide
  · rw [if_neg c]; exact CGs_bd h g _ _
/-- points as a whole number: the points without the guest, and what the seat is worth -/
theorem pIf_int {f : Nat → Int32} {b G T : Nat} {L : List Nat} (h : WF f b G T L) {g t z n : Nat} (hg : g < G) (ht : t < T) (hn : f (b + 18 + t) = nI n) (hz : z < n) (hn8 : n ≤ 8) : (fX7_pointsIf f b g t (nI z)).toInt = (fX7_points f b (-1)).toInt - (OW f b G g).toInt + (sm G (CG f b g t z)).toInt := by
  have h1 := points_bd h
  have h2 := CGs_bd h g t z
  have h3 := OW_bd h g
  have h4 : -800 ≤ (fX7_pointsIf f b g t (nI z)).toInt ∧ (fX7_pointsIf f b g t (nI z)).toInt ≤ 800 := by
    have e0 : (MV f b g t (nI z) (b + 0)).toNatClampNeg = G := by rw [MV_low f b g t (nI z) (by omega)]; exact h.gN
    have hG := h.G16
    have h5 : ∀ x : Nat, x < G → -50 ≤ (fX7_pointsOf (MV f b g t (nI z)) b x).toInt ∧ (fX7_pointsOf (MV f b g t (nI z)) b x).toInt ≤ 50 := fun x hx => by
      rw [points_ref]
      by_cases c : fX7_of (MV f b g t (nI z)) b x 3 = -1
      · rw [if_pos c]; decide
      · rw [if_neg c, MV_OS, MV_OL]; exact OSL_bd h x _ _
    have h6 := sm_bd h.G16 h5
    rw [pIf_MV, points_sum _ b e0]
    omega
  have e := congrArg Int32.toInt (pIf_sum h hg ht hn hz hn8)
  rw [i32_add (by omega) (by omega), i32_add (by omega) (by omega)] at e
  omega

