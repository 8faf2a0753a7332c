/-! what the law looks for in every state holds: loops, guests. Mine. -/
section LQS
theorem lq4_s3 {ρ : Type} {b : Nat → Nat → Int32 → Int32 → Int32 → (Nat → Int32 → Int32 → Int32 → ρ) → ρ} {r : Nat → Int32 → Int32 → Int32 → ρ} {N : Nat} (u v t : Nat → Int32) (hb : ∀ (k : Nat) (y z w : Int32) (nx : Nat → Int32 → Int32 → Int32 → ρ), k < N → b k 1 y z w nx = nx 1 (y + u k) (z + v k) (w + t k)) : ∀ (n k : Nat) (y z w : Int32), k + n = N → y = sm k u → z = sm k v → w = sm k t → lq4 b r n k 1 y z w = r 1 (sm N u) (sm N v) (sm N t)
  | 0, k, y, z, w, e, hy, hz, hw => by
    obtain rfl : k = N := by omega
    rw [lq4_z, hy, hz, hw]
  | n + 1, k, y, z, w, e, hy, hz, hw => by
    rw [lq4_s, hb k y z w _ (by omega)]
    exact lq4_s3 u v t hb n (k + 1) _ _ _ (by omega) (by rw [hy]; rfl) (by rw [hz]; rfl) (by rw [hw]; rfl)
theorem lq2_s1 {ρ : Type} {b : Nat → Nat → Int32 → (Nat → Int32 → ρ) → ρ} {r : Nat → Int32 → ρ} {N : Nat} (u : Nat → Int32) (hb : ∀ (k : Nat) (y : Int32) (nx : Nat → Int32 → ρ), k < N → b k 1 y nx = nx 1 (y + u k)) : ∀ (n k : Nat) (y : Int32), k + n = N → y = sm k u → lq2 b r n k 1 y = r 1 (sm N u)
  | 0, k, y, e, hy => by
    obtain rfl : k = N := by omega
    rw [lq2_z, hy]
  | n + 1, k, y, e, hy => by
    rw [lq2_s, hb k y _ (by omega)]
    exact lq2_s1 u hb n (k + 1) _ (by omega) (by rw [hy]; rfl)
theorem lq1_c {ρ : Type} {b : Nat → Nat → (Nat → ρ) → ρ} {r : Nat → ρ} {N : Nat} (hb : ∀ (k : Nat) (nx : Nat → ρ), k < N → b k 1 nx = nx 1) : ∀ (n k : Nat), k + n = N → lq1 b r n k 1 = r 1
  | 0, k, e => rfl
  | n + 1, k, e => by
    rw [lq1_s, hb k _ (by omega)]
    exact lq1_c hb n (k + 1) (by omega)
theorem sm_ones : ∀ n : Nat, sm n (fun _ => 1) = nI n
  | 0 => rfl
  | n + 1 => by
    show sm n (fun _ => 1) + 1 = _
    rw [sm_ones n, nI_1]
theorem sm_le01 {u v : Nat → Int32} : ∀ {n : Nat}, n ≤ 16 → (∀ i : Nat, i < n → (u i = 0 ∧ (v i = 0 ∨ v i = 1)) ∨ (u i = 1 ∧ v i = 1)) → ∃ a b : Nat, a ≤ b ∧ b ≤ n ∧ sm n u = nI a ∧ sm n v = nI b
  | 0, _, _ => ⟨0, 0, Nat.le_refl _, Nat.le_refl _, rfl, rfl⟩
  | n + 1, hn, h => by
    obtain ⟨a, b, h1, h2, h3, h4⟩ := sm_le01 (n := n) (by omega) (fun i hi => h i (by omega))
    have e1 : sm (n + 1) u = sm n u + u n := rfl
    have e2 : sm (n + 1) v = sm n v + v n := rfl
    rcases h n (Nat.lt_succ_self n) with ⟨e, e' | e'⟩ | ⟨e, e'⟩
    · exact ⟨a, b, h1, by omega, by rw [e1, e, Int32.add_zero, h3], by rw [e2, e', Int32.add_zero, h4]⟩
    · exact ⟨a, b + 1, by omega, by omega, by rw [e1, e, Int32.add_zero, h3], by rw [e2, e', h4, nI_1]⟩
    · exact ⟨a + 1, b + 1, by omega, by omega, by rw [e1, e, h3, nI_1], by rw [e2, e', h4, nI_1]⟩
end LQS
section HG
variable {PN : PV} {f : Nat → Int32} {G T : Nat} {L : List Nat}
/-- a met wish: the friend is a guest who sits at the same table -/
theorem level_ne (hR : REL PN f 0 G T L) {g : Nat} (hg : g < G) (h : ¬ fX4_levelOfGuest PN (nI g) = 0) : ∃ j : Nat, j < G ∧ fX7_of f 0 g 2 = nI j ∧ fX7_of f 0 j 3 = fX7_of f 0 g 3 := by
  have hG := hR.wf.G16
  unfold fX4_levelOfGuest at h
  by_cases c : fX2_isSitting PN (nI g) = 0
  · rw [if_pos c] at h; exact absurd rfl h
  · rw [if_neg c, hR.rat (by decide) (by omega), hR.rat (by decide) (by omega), hR.rat (by decide) (by omega)] at h
    rcases hR.wf.wsh g hg with e | ⟨j, hj, _, e⟩
    · rw [e, LB_m1] at h; exact absurd rfl h
    · refine ⟨j, hj, e, ?_⟩
      rw [e] at h
      unfold fX4_levelBetween at h
      rw [isGuest_in hR hj, if_neg h10, hR.rat (by decide) (by omega)] at h
      by_cases c2 : fX7_of f 0 j 3 = fX7_of f 0 g 3
      · exact c2
      · rw [if_neg c2] at h; exact absurd rfl h
theorem level_012 (hR : REL PN f 0 G T L) {g : Nat} (hg : g < G) : fX4_levelOfGuest PN (nI g) = 0 ∨ fX4_levelOfGuest PN (nI g) = 1 ∨ fX4_levelOfGuest PN (nI g) = 2 := by
  rw [level_eq hR hg]
  exact met_012 hR.wf hg
theorem hold_g (hR : REL PN f 0 G T L) {g t z n : Nat} (hg : g < G) (ht : t < T) (hz : z < n) (hn8 : n ≤ 8) (e3 : fX7_of f 0 g 3 = nI t) (e4 : fX7_of f 0 g 4 = nI z) : fX2_holderAt PN (nI t) (nI z) = nI g := by
  have hT := hR.wf.hT
  have h := who_of hR.wf hg (by rw [e3]; exact nI_m1 (by omega))
  rw [e3, e4] at h
  exact (hR.hold ht (by omega)).trans h
theorem holds_b53 (hR : REL PN f 0 G T L) (hX : XI f G L) {k : Nat} (hk : k < G) (s m p : Int32) (nx : Nat → Int32 → Int32 → Int32 → Int32) : fL_holds_b53 PN k 1 s m p nx = nx 1 (s + nI (if fX6_guestNumber PN (nI k) 3 = -1 then 0 else 1)) (m + nI (if fX6_guestNumber PN (nI k) 5 ≤ 0 then 0 else 1)) (p + fX4_ofGuest PN (nI k)) := by
  have hG := hR.wf.G16
  have hT := hR.wf.hT
  obtain ⟨x1, x2, x3, x4⟩ := hX
  unfold fL_holds_b53
  simp only [bd_eq]
  refine congrArg (fun z => nx z (s + nI (if fX6_guestNumber PN (nI k) 3 = -1 then 0 else 1)) (m + nI (if fX6_guestNumber PN (nI k) 5 ≤ 0 then 0 else 1)) (p + fX4_ofGuest PN (nI k))) ?_
  have g3 : fX6_guestNumber PN (nI k) 3 = fX7_of f 0 k 3 := gnum (w := 3) hR hk (by decide)
  have g4 : fX6_guestNumber PN (nI k) 4 = fX7_of f 0 k 4 := gnum (w := 4) hR hk (by decide)
  have g1 : fX6_guestNumber PN (nI k) 1 = fX7_of f 0 k 1 := gnum (w := 1) hR hk (by decide)
  have g2 : fX6_guestNumber PN (nI k) 2 = fX7_of f 0 k 2 := gnum (w := 2) hR hk (by decide)
  have g5 : fX6_guestNumber PN (nI k) 5 = fX4_levelOfGuest PN (nI k) := rfl
  have g6 : fX6_guestNumber PN (nI k) 6 = fX4_ofGuest PN (nI k) := rfl
  have hA : (if fX6_guestNumber PN (nI k) 5 = 0 then 1 else (if fX6_guestNumber PN (nI k) 2 = -1 then 0 else (if fX6_guestNumber PN (nI k) 3 = fX6_guestNumber PN (fX6_guestNumber PN (nI k) 2) 3 then 1 else 0)) : Nat) = 1 := by
    by_cases c : fX6_guestNumber PN (nI k) 5 = 0
    · rw [if_pos c]
    · rw [if_neg c]
      obtain ⟨j, hj, j2, j3⟩ := level_ne hR hk c
      rw [g2, j2, if_neg (nI_m1 (by omega)), if_pos]
      rw [g3]
      exact j3.symm.trans (gnum (w := 3) hR hj (by decide)).symm
  rw [if_neg (show ¬ (nI 1 : Int32) = 0 by decide)]
  simp only [hA]
  rcases hR.wf.sit k hk with e3 | ⟨t, z, n, k1, k2, k3, k4, k5, k6⟩
  · have e4 := x4 k hk e3
    have hs : fX2_isSitting PN (nI k) = 0 := by rw [isSit_eq hR hk, if_pos e3]
    have e5 : fX4_levelOfGuest PN (nI k) = 0 := by unfold fX4_levelOfGuest; rw [if_pos hs]
    have e6 : fX4_ofGuest PN (nI k) = 0 := by unfold fX4_ofGuest; rw [if_pos hs]
    rw [g3, g4, g5, g6, e3, e4, e5, e6]
    simp only [if_true, ite_self]
  · have m3 : ¬ (nI t : Int32) = -1 := nI_m1 (by omega)
    have m4 : ¬ (nI z : Int32) = -1 := nI_m1 (by omega)
    have eh := hold_g hR hk k1 k3 k2 k5 k6
    rw [g3, g4, k5, k6, eh]
    simp only [if_neg m3, if_neg m4, if_true]
    by_cases c : fX6_guestNumber PN (nI k) 1 < 3
    · rw [if_pos c]
    · rw [if_neg c, if_neg]
      obtain ⟨w, w1, w3, ew⟩ := hR.wf.siz k hk
      rw [g1, ew, show (3 : Int32) = nI 3 from rfl, nI_ltI (by omega) (by decide)] at c
      have h9 := x1 k z hk (by omega) (by rw [k5]; exact m3) (by rw [ew, show w = 3 by omega]; rfl) k6
      rw [show (3 : Int32) = nI 3 from rfl, pk_rem (by omega) (by decide) (by decide), show (0 : Int32) = nI 0 from rfl, nI_leI (by omega) (by decide)]
      omega
end HG
