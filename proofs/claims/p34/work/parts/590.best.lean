/-! the best seat: what it is; what a seat brings. Mine. -/
section BS
variable {PN : PV} {f : Nat → Int32} {G T : Nat} {L : List Nat}
/-- of the places before K: the best one so far -/
def SP (PN : PV) (f : Nat → Int32) (T g K : Nat) (m b : Int32) : Prop :=
  (b = -1 ∧ ∀ t z n : Nat, t < T → f (0 + 18 + t) = nI n → n ≤ 8 → z < n → 8 * t + z < K → fX2_reasonAgainst PN (nI g) (nI t) (nI z) ≠ 0) ∨
  ∃ t z n : Nat, t < T ∧ f (0 + 18 + t) = nI n ∧ n ≤ 8 ∧ z < n ∧ 8 * t + z < K ∧ b = nI (8 * t + z) ∧ fX2_reasonAgainst PN (nI g) (nI t) (nI z) = 0 ∧ m = fX4_gain PN (nI g) (nI t) (nI z) ∧
    ∀ t' z' n' : Nat, t' < T → f (0 + 18 + t') = nI n' → n' ≤ 8 → z' < n' → 8 * t' + z' < K → fX2_reasonAgainst PN (nI g) (nI t') (nI z') = 0 → (fX4_gain PN (nI g) (nI t') (nI z')).toInt ≤ (fX4_gain PN (nI g) (nI t) (nI z)).toInt ∧ ((fX4_gain PN (nI g) (nI t') (nI z')).toInt = (fX4_gain PN (nI g) (nI t) (nI z)).toInt → 8 * t + z ≤ 8 * t' + z')
theorem SP_up {g K J : Nat} {m b : Int32} (h : SP PN f T g K m b) (hKJ : K ≤ J) (hno : ∀ t z n : Nat, t < T → f (0 + 18 + t) = nI n → n ≤ 8 → z < n → 8 * t + z < J → ¬ 8 * t + z < K → fX2_reasonAgainst PN (nI g) (nI t) (nI z) ≠ 0) : SP PN f T g J m b := by
  rcases h with ⟨h1, h2⟩ | ⟨t, z, n, h1, h2, h3, h4, h5, h6, h7, h8, h9⟩
  · refine Or.inl ⟨h1, fun t z n k1 k2 k3 k4 k5 => ?_⟩
    by_cases c : 8 * t + z < K
    · exact h2 t z n k1 k2 k3 k4 c
    · exact hno t z n k1 k2 k3 k4 k5 c
  · refine Or.inr ⟨t, z, n, h1, h2, h3, h4, by omega, h6, h7, h8, fun t' z' n' k1 k2 k3 k4 k5 k6 => ?_⟩
    by_cases c : 8 * t' + z' < K
    · exact h9 t' z' n' k1 k2 k3 k4 c k6
    · exact absurd k6 (hno t' z' n' k1 k2 k3 k4 k5 c)
theorem best_spec (hR : REL PN f 0 G T L) {g : Nat} (hg : g < G) : ∃ m : Int32, SP PN f T g 32 m (fX2_bestPlace PN (nI g)) := by
  have hG := hR.wf.G16
  have hT := hR.wf.hT
  unfold fX2_bestPlace
  rw [hR.pt, nI_clamp (by omega)]
  refine lq2_ind (N := T) (fun k m b => SP PN f T g (8 * k) m b) (fun r => ∃ m : Int32, SP PN f T g 32 m r) (fun k m b nx hk hI hnx => ?_) (fun m b hI => ⟨m, SP_up hI (by omega) (fun t z n k1 k2 k3 k4 k5 k6 => absurd k6 (by omega))⟩) T 0 0 (-1) (Nat.zero_add T) (Or.inl ⟨rfl, fun t z n _ _ _ _ h => absurd h (by omega)⟩)
  obtain ⟨n, n3, n8, hn⟩ := hR.wf.sts k hk
  have un : ∀ n' : Nat, n' ≤ 8 → f (0 + 18 + k) = nI n' → n' = n := fun n' h1 h2 => (nI_eq (by omega) (by omega)).mp (h2.symm.trans hn)
  unfold fX2_bestPlace_b7
  rw [hR.seats (by omega), hn, nI_clamp (by omega)]
  refine lq2_ind (N := n) (fun z m b => SP PN f T g (8 * k + z) m b) (fun r => ∃ m : Int32, SP PN f T g 32 m r) (fun z m b nx' hz hI' hnx' => ?_) (fun m b hI' => ?_) n 0 m b (Nat.zero_add n) hI
  · unfold fX2_bestPlace_b19
    rw [bd2_eq, show (8 : Int32) = nI 8 from rfl, pk_mul, nI_add, show k * 8 + z = 8 * k + z by omega]
    have only : ∀ t' z' n' : Nat, f (0 + 18 + t') = nI n' → n' ≤ 8 → z' < n' → 8 * t' + z' < 8 * k + (z + 1) → ¬ 8 * t' + z' < 8 * k + z → t' = k ∧ z' = z := fun t' z' n' h1 h2 h3 h4 h5 => by omega
    by_cases c : fX2_reasonAgainst PN (nI g) (nI k) (nI z) = 0
    · rw [if_pos c]
      rcases hI' with ⟨h1, h2⟩ | ⟨t0, z0, n0, h1, h2, h3, h4, h5, h6, h7, h8, h9⟩
      · rw [if_pos h1]
        refine hnx' _ _ (Or.inr ⟨k, z, n, hk, hn, n8, hz, by omega, rfl, c, rfl, fun t' z' n' k1 k2 k3 k4 k5 k6 => ?_⟩)
        by_cases cc : 8 * t' + z' < 8 * k + z
        · exact absurd k6 (h2 t' z' n' k1 k2 k3 k4 cc)
        · obtain ⟨rfl, rfl⟩ := only t' z' n' k2 k3 k4 k5 cc
          exact ⟨Int.le_refl _, fun _ => Nat.le_refl _⟩
      · rw [if_neg (show ¬ b = -1 from by rw [h6]; exact nI_m1 (by omega))]
        by_cases cg : fX4_gain PN (nI g) (nI k) (nI z) ≤ m
        · rw [if_pos cg]
          refine hnx' _ _ (Or.inr ⟨t0, z0, n0, h1, h2, h3, h4, by omega, h6, h7, h8, fun t' z' n' k1 k2 k3 k4 k5 k6 => ?_⟩)
          by_cases cc : 8 * t' + z' < 8 * k + z
          · exact h9 t' z' n' k1 k2 k3 k4 cc k6
          · obtain ⟨rfl, rfl⟩ := only t' z' n' k2 k3 k4 k5 cc
            rw [h8, Int32.le_iff_toInt_le] at cg
            exact ⟨cg, fun _ => by omega⟩
        · rw [if_neg cg]
          rw [h8, Int32.le_iff_toInt_le] at cg
          refine hnx' _ _ (Or.inr ⟨k, z, n, hk, hn, n8, hz, by omega, rfl, c, rfl, fun t' z' n' k1 k2 k3 k4 k5 k6 => ?_⟩)
          by_cases cc : 8 * t' + z' < 8 * k + z
          · have := (h9 t' z' n' k1 k2 k3 k4 cc k6).1
            exact ⟨by omega, fun e => by omega⟩
          · obtain ⟨rfl, rfl⟩ := only t' z' n' k2 k3 k4 k5 cc
            exact ⟨Int.le_refl _, fun _ => Nat.le_refl _⟩
    · rw [if_neg c]
      refine hnx' _ _ (SP_up hI' (by omega) (fun t' z' n' k1 k2 k3 k4 k5 k6 => ?_))
      obtain ⟨rfl, rfl⟩ := only t' z' n' k2 k3 k4 k5 k6
      exact c
  · show ∃ m' : Int32, SP PN f T g 32 m' (nx m b)
    refine hnx m b (SP_up hI' (by omega) (fun t' z' n' k1 k2 k3 k4 k5 k6 => ?_))
    exfalso
    by_cases ct : t' = k
    · subst ct
      have := un n' k3 k2
      omega
    · omega
/-- what a seat brings, as a number: but for a constant, the gain -/
theorem after_int (hR : REL PN f 0 G T L) {g : Nat} (hg : g < G) : ∃ C : Int, -1600 ≤ C ∧ C ≤ 1600 ∧ ∀ t z n : Nat, t < T → f (0 + 18 + t) = nI n → n ≤ 8 → z < n → (fX4_afterMove PN (nI g) (nI t) (nI z)).toInt = C + (fX4_gain PN (nI g) (nI t) (nI z)).toInt ∧ -800 ≤ (fX4_gain PN (nI g) (nI t) (nI z)).toInt ∧ (fX4_gain PN (nI g) (nI t) (nI z)).toInt ≤ 800 := by
  have h1 := points_bd hR.wf
  have h2 := OW_bd hR.wf g
  refine ⟨(fX7_points f 0 (-1)).toInt - (OW f 0 G g).toInt, by omega, by omega, fun t z n ht hn hn8 hz => ?_⟩
  rw [afterMove_eq hR hg ht hn hz hn8, pIf_int hR.wf hg ht hn hz hn8, gain_eq hR hg ht hn hz hn8]
  have h3 := CGs_bd hR.wf g t z
  exact ⟨rfl, by omega, by omega⟩
theorem a1000 {x : Int32} (h1 : -2400 ≤ x.toInt) (h2 : x.toInt ≤ 2400) : (x + 1000).toInt = x.toInt + 1000 := by
  have e0 : (1000 : Int32).toInt = 1000 := rfl
  rw [i32_add (by rw [e0]; omega) (by rw [e0]; omega), e0]
/-- two seats that can be taken: which one brings more -/
theorem best_cmp (hR : REL PN f 0 G T L) {g : Nat} (hg : g < G) {t z n t' z' n' : Nat} (ht : t < T) (hn : f (0 + 18 + t) = nI n) (hn8 : n ≤ 8) (hz : z < n) (ht' : t' < T) (hn' : f (0 + 18 + t') = nI n') (hn8' : n' ≤ 8) (hz' : z' < n')
    (h : (fX4_gain PN (nI g) (nI t') (nI z')).toInt ≤ (fX4_gain PN (nI g) (nI t) (nI z)).toInt ∧ ((fX4_gain PN (nI g) (nI t') (nI z')).toInt = (fX4_gain PN (nI g) (nI t) (nI z)).toInt → 8 * t + z ≤ 8 * t' + z')) :
    ¬ fX4_afterMove PN (nI g) (nI t) (nI z) + 1000 < fX4_afterMove PN (nI g) (nI t') (nI z') + 1000 ∧ (fX4_afterMove PN (nI g) (nI t) (nI z) + 1000 ≤ fX4_afterMove PN (nI g) (nI t') (nI z') + 1000 → 8 * t + z ≤ 8 * t' + z') := by
  obtain ⟨C, c1, c2, hC⟩ := after_int hR hg
  obtain ⟨e1, l1, u1⟩ := hC t z n ht hn hn8 hz
  obtain ⟨e2, l2, u2⟩ := hC t' z' n' ht' hn' hn8' hz'
  rw [Int32.lt_iff_toInt_lt, Int32.le_iff_toInt_le, a1000 (by omega) (by omega), a1000 (by omega) (by omega), e1, e2]
  exact ⟨by omega, fun h3 => h.2 (by omega)⟩
theorem pts_congr {f F : Nat → Int32} {G T g : Nat} {L : List Nat} (hW : WF f 0 G T L) (hg : g < G) (he : ∀ x w : Nat, x < 16 → w < 5 → fX7_of F 0 x w = fX7_of f 0 x w) (hl : ∀ k : Nat, 6 ≤ k → k < 22 → F k = f k) : fX7_pointsOf F 0 g = fX7_pointsOf f 0 g := by
  have hG := hW.G16
  have hT := hW.hT
  have hm : fX7_metBy F 0 g = fX7_metBy f 0 g := by
    unfold fX7_metBy
    rw [he g 2 (by omega) (by decide), he g 3 (by omega) (by decide), he g 4 (by omega) (by decide)]
    rcases hW.wsh g hg with e | ⟨j, hj, _, e⟩
    · rw [if_pos e, if_pos e]
    · rw [e, nI_clamp (by omega), he j 3 (by omega) (by decide), he j 4 (by omega) (by decide)]
      rcases hW.sit g hg with e3 | ⟨t, z, n, k1, k2, k3, k4, k5, k6⟩
      · rw [e3, if_neg (nI_m1 (by omega)), if_neg (nI_m1 (by omega)), if_pos rfl, if_pos rfl]
      · rw [k5, nI_clamp (by omega), hl (0 + 18 + t) (by omega) (by omega)]
  unfold fX7_pointsOf
  rw [hm, he g 3 (by omega) (by decide), he g 4 (by omega) (by decide), he g 1 (by omega) (by decide), hl (0 + 6 + 3) (by decide) (by decide), hl (0 + 6 + 1) (by decide) (by decide), hl (0 + 6 + 2) (by decide) (by decide)]
/-- what a change of the seat leaves as it was -/
theorem sits_fr (hR : REL PN f 0 G T L) {g : Nat} (hg : g < G) (tb z : Int32) : (∀ k : Nat, (k < 3 ∨ (6 ≤ k ∧ k < 22)) → fX7_sitsDown f 0 g tb z k = f k) ∧ (∀ x w : Nat, x < 16 → w < 5 → (x ≠ g ∨ w < 3) → fX7_of (fX7_sitsDown f 0 g tb z) 0 x w = fX7_of f 0 x w) ∧ fX7_of (fX7_sitsDown f 0 g tb z) 0 g 3 = tb ∧ fX7_of (fX7_sitsDown f 0 g tb z) 0 g 4 = z := by
  have hG := hR.wf.G16
  by_cases hs : fX7_of f 0 g 3 = -1
  · obtain ⟨s1, s2, s3, s4, s5, s6⟩ := sit_fr hR.wf.ro hg hs tb z
    exact ⟨fun k hk => by have := s1 k (by omega); rw [Nat.zero_add] at this; exact this, s2, s3, s4⟩
  · obtain ⟨u1, u2, u3, u4, u5, u6⟩ := stand_fr hR.wf.ro (show g < 16 by omega)
    obtain ⟨s1, s2, s3, s4, s5, s6⟩ := sit_fr (stand_WF hR.wf hg).ro hg u3 tb z
    rw [sits_split hs u3]
    exact ⟨fun k hk => by have h1 := s1 k (by omega); have h2 := u1 k (by omega); rw [Nat.zero_add] at h1 h2; exact h1.trans h2, fun x w hx hw h => (s2 x w hx hw h).trans (u2 x w hx hw h), s3, s4⟩
/-- the points when the guest has sat down are those that were told -/
theorem sit_after (hR : REL PN f 0 G T L) {g t z n : Nat} (hg : g < G) (ht : t < T) (hn : f (0 + 18 + t) = nI n) (hz : z < n) (hn8 : n ≤ 8) (h0 : fX2_reasonAgainst PN (nI g) (nI t) (nI z) = 0) : fX4_byGuests (fX2_takeSeat PN (nI g) (nI t) (nI z)) = fX4_afterMove PN (nI g) (nI t) (nI z) := by
  have hG := hR.wf.G16
  have h2 := take_REL hR hg ht hn hz hn8 (reason0 hR hg ht hz hn8 h0).1
  obtain ⟨s1, s2, s3, s4⟩ := sits_fr hR hg (nI t) (nI z)
  have e0 : (MV f 0 g t (nI z) (0 + 0)).toNatClampNeg = G := by rw [MV_low f 0 g t (nI z) (show 0 + 0 < 0 + 38 by decide)]; exact hR.wf.gN
  rw [afterMove_eq hR hg ht hn hz hn8, pIf_MV, byGuests_eq h2, points_sum _ 0 h2.wf.gN, points_sum _ 0 e0]
  refine sm_congr (fun x hx => (pts_congr h2.wf hx (fun y w hy hw => ?_) (fun k h6 h22 => ?_)).symm)
  · rw [MV_of f 0 g t (nI z) y w hw]
    by_cases c : y = g
    · subst c
      rw [if_pos rfl]
      have hw' : w < 3 ∨ w = 3 ∨ w = 4 := by omega
      rcases hw' with h | rfl | rfl
      · rw [if_neg (by omega), if_neg (by omega)]
        exact (s2 y w hy hw (Or.inr h)).symm
      · rw [if_pos rfl]; exact s3.symm
      · rw [if_neg (by decide), if_pos rfl]; exact s4.symm
    · rw [if_neg c]
      exact (s2 y w hy hw (Or.inl c)).symm
  · rw [MV_low f 0 g t (nI z) (show k < 0 + 38 by omega)]
    exact (s1 k (Or.inr ⟨h6, h22⟩)).symm
theorem after_ne (hR : REL PN f 0 G T L) {g t z n : Nat} (hg : g < G) (ht : t < T) (hn : f (0 + 18 + t) = nI n) (hz : z < n) (hn8 : n ≤ 8) (h0 : fX2_reasonAgainst PN (nI g) (nI t) (nI z) = 0) : ¬ fX4_afterMove PN (nI g) (nI t) (nI z) + 1000 = -1 := by
  have h2 := take_REL hR hg ht hn hz hn8 (reason0 hR hg ht hz hn8 h0).1
  have h3 := points_bd h2.wf
  rw [← sit_after hR hg ht hn hz hn8 h0, byGuests_eq h2]
  intro e
  have h4 := congrArg Int32.toInt e
  rw [a1000 (by omega) (by omega), show (-1 : Int32).toInt = -1 from rfl] at h4
  omega
end BS
