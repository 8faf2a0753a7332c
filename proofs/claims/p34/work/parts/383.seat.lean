theorem WF.not_mem {f : Nat → Int32} {b G T g : Nat} {L : List Nat} (h : WF f b G T L) (hs : fX7_of f b g 3 = -1) : g ∉ L := fun hm => ((h.ro.2.2.2.2.2.2 g).mp hm).2 hs
theorem filter_out {g : Nat} {L : List Nat} (h : g ∉ L) : L.filter (fun x => decide (x ≠ g)) = L := by
  refine List.filter_eq_self.mpr (fun x hx => ?_)
  simp only [ne_eq, decide_not, Bool.not_eq_eq_eq_not, Bool.not_true, decide_eq_false_iff_not]
  intro e
  subst e
  exact h hx
/-- what sitting down leaves, of one who stands -/
theorem sit_fr {f : Nat → Int32} {b G g : Nat} {L : List Nat} (h : RO f b G L) (hg : g < G) (hs : fX7_of f b g 3 = -1) (tb z : Int32) : (∀ k : Nat, (k < 3 ∨ k = 5 ∨ (6 ≤ k ∧ k < 22)) → fX7_sitsDown f b g tb z (b + k) = f (b + k)) ∧ (∀ x w : Nat, x < 16 → w < 5 → (x ≠ g ∨ w < 3) → fX7_of (fX7_sitsDown f b g tb z) b x w = fX7_of f b x w) ∧ fX7_of (fX7_sitsDown f b g tb z) b g 3 = tb ∧ fX7_of (fX7_sitsDown f b g tb z) b g 4 = z ∧ fX7_sitsDown f b g tb z (b + 4) = f (b + 4) + 1 ∧ (∀ i : Nat, (i < b ∨ b + 118 ≤ i) → fX7_sitsDown f b g tb z i = f i) := by
  have hG := h.2.2.1
  have hB := h.1.1
  have hl := h.len15 hg hs
  rw [sits_at hB (by omega) hl (by rw [sitMid_stands hs]; exact h.2.2.2.2.1), sitMid_stands hs]
  unfold fX7_of
  refine ⟨fun k hk => ?_, fun x w hx hw hc => ?_, ?_, ?_, ?_, fun i hi => ?_⟩
  · rw [upd_ne (by omega), upd_ne (by omega), upd_ne (by omega), upd_ne (by omega), upd_ne (by omega)]
  · rw [upd_ne (by omega), upd_ne (by omega), upd_ne (by omega), upd_ne (by omega), upd_ne (by omega)]
  · rw [upd_ne (by omega), upd_ne (by omega), upd_ne (by omega), upd_ne (by omega), upd_eq]
  · rw [upd_ne (by omega), upd_ne (by omega), upd_ne (by omega), upd_eq]
  · rw [upd_eq]
  · rw [upd_ne (by omega), upd_ne (by omega), upd_ne (by omega), upd_ne (by omega), upd_ne (by omega)]
theorem seat_WF {f : Nat → Int32} {b G T g t z n : Nat} {L : List Nat} (h : WF f b G T L) (hg : g < G) (hs : fX7_of f b g 3 = -1) (ht : t < T) (hn : f (b + 18 + t) = nI n) (hz : z < n) (hn8 : n ≤ 8) (hw : fX7_whoSits f b (nI t) (nI z) = -1) : WF (fX7_sitsDown f b g (nI t) (nI z)) b G T (L ++ [g]) := by
  have hG := h.G16
  have hT := h.hT
  obtain ⟨s1, s2, s3, s4, s5, s6⟩ := sit_fr h.ro hg hs (nI t) (nI z)
  have hro := RO_sits h.ro hg (tb := nI t) (z := nI z) (Or.inr ⟨t, by omega, rfl⟩) (nI_m1 (by omega))
  rw [filter_out (h.not_mem hs)] at hro
  exact WF_mv h hro hg (fun k hk => s1 k (by omega)) s2 (Or.inr ⟨t, z, n, ht, hn8, hz, hn, s3, s4, hw⟩)
theorem seat_REL {P : PV} {f : Nat → Int32} {b G T g t z n : Nat} {L : List Nat} (h : REL P f b G T L) (hg : g < G) (hs : fX7_of f b g 3 = -1) (ht : t < T) (hn : f (b + 18 + t) = nI n) (hz : z < n) (hn8 : n ≤ 8) (hw : fX7_whoSits f b (nI t) (nI z) = -1) : REL (fX2_takeSeat P (nI g) (nI t) (nI z)) (fX7_sitsDown f b g (nI t) (nI z)) b G T (L ++ [g]) := by
  have hG := h.wf.G16
  have hT := h.wf.hT
  have hl := h.wf.ro.len15 hg hs
  have hF := seat_WF h.wf hg hs ht hn hz hn8 hw
  obtain ⟨s1, s2, s3, s4, s5, s6⟩ := sit_fr h.wf.ro hg hs (nI t) (nI z)
  have e : fX2_takeSeat P (nI g) (nI t) (nI z) = sset (sset (rset (rset (rset (rset P 3 (upd (P 3) g (nI t))) 4 (upd (P 4) g (nI z))) 6 (upd (P 6) (8 * t + z) (nI g))) 9 (upd (P 9) L.length (nI g))) 5 (nI (L.length + 1))) 2 (P 10 2 + 1) := by
    unfold fX2_takeSeat fX2_isSitting
    rw [h.rat (by decide) (by omega), if_pos hs, if_pos rfl, bd_eq, bd_eq, bd_eq, bd_eq, m8z, put_in (by omega) (by decide), put_in (by omega) (by decide), put_in (by omega) (by decide), bd_eq]
    have e2 : fX1_addLast 16 (P 9) (P 10 5) (nI g) = (upd (P 9) L.length (nI g), nI (L.length + 1)) := by
      unfold fX1_addLast fX1_isFull
      rw [h.p5, h.wf.ro.2.2.2.2.1, if_pos (show nI L.length < nI 16 from nI_lt (by omega) (by decide)), if_pos rfl, bd_eq, put_in (by omega) (by decide), nI_1]
    rw [e2]
  rw [e]
  have e18 : ∀ t' : Nat, t' < 4 → fX7_sitsDown f b g (nI t) (nI z) (b + 18 + t') = f (b + 18 + t') := fun t ht => by
    rw [Nat.add_assoc]; exact s1 (18 + t) (by omega)
  refine ⟨hF, ?_, ?_, ?_, ?_, ?_, ?_, fun w x hw hx => ?_, fun t ht => ?_, fun k hk => ?_, fun t' z' ht hz => ?_, fun k hk => ?_, ord_od hF (fun j y hj => ?_)⟩
  · simp [sset, rset, upd]; exact h.pg
  · simp [sset, rset, upd]; exact h.pt
  · simp [sset, rset, upd]; rw [s5, h.p2]
  · simp [sset, rset, upd]; rw [h.p3, s1 5 (by omega)]
  · simp [sset, rset, upd]; rw [h.p4, s1 2 (by omega)]
  · rw [hF.ro.2.2.2.2.1, List.length_append]; simp [sset, rset, upd]
  · have hw' : w = 0 ∨ w = 1 ∨ w = 2 ∨ w = 3 ∨ w = 4 := by omega
    by_cases c : x = g
    · subst c
      rcases hw' with rfl | rfl | rfl | rfl | rfl
      · rw [s2 x 0 hx hw (Or.inr (by decide))]; simp [sset, rset]; exact h.row 0 x hw hx
      · rw [s2 x 1 hx hw (Or.inr (by decide))]; simp [sset, rset]; exact h.row 1 x hw hx
      · rw [s2 x 2 hx hw (Or.inr (by decide))]; simp [sset, rset]; exact h.row 2 x hw hx
      · rw [s3]; simp [sset, rset, upd]
      · rw [s4]; simp [sset, rset, upd]
    · rw [s2 x w hx hw (Or.inl c)]
      rcases hw' with rfl | rfl | rfl | rfl | rfl
      · simp [sset, rset]; exact h.row 0 x hw hx
      · simp [sset, rset]; exact h.row 1 x hw hx
      · simp [sset, rset]; exact h.row 2 x hw hx
      · simp [sset, rset, upd, c]; exact h.row 3 x hw hx
      · simp [sset, rset, upd, c]; exact h.row 4 x hw hx
  · rw [e18 t ht]; simp [sset, rset]; exact h.ts t ht
  · rw [Nat.add_assoc, s1 (6 + k) (by omega), ← Nat.add_assoc]; simp [sset, rset]; exact h.sg k hk
  · simp only [sset, rset]
    show upd (P 6) (8 * t + z) (nI g) (8 * t' + z') = _
    by_cases c : t' = t ∧ z' = z
    · obtain ⟨rfl, rfl⟩ := c
      rw [upd_eq]
      have := who_of hF hg (by rw [s3]; exact nI_m1 (by omega))
      rw [s3, s4] at this
      exact this.symm
    · rw [upd_ne (by omega), h.hd t' z' ht hz]
      refine (who_mv h.wf hF s2 (by omega) (fun e => ?_) (fun e => c ?_)).symm
      · exact nI_m1 (by omega) (e.1.symm.trans hs)
      · exact ⟨((nI_eq (by omega) (by omega)).mp (e.1.symm.trans s3)), ((nI_eq (by omega) (by omega)).mp (e.2.symm.trans s4))⟩
  · rw [s1 2 (by omega)] at hk
    rw [Nat.add_assoc, s1 (10 + k) (by have := h.wf.f8; omega), ← Nat.add_assoc]
    simp [sset, rset]; exact h.fd k hk
  · show upd (P 9) L.length (nI g) j = nI y
    by_cases c : j = L.length
    · subst c
      rw [List.getElem?_append_right (Nat.le_refl _), Nat.sub_self] at hj
      rw [upd_eq, Option.some.inj hj]
    · have hjl := (List.getElem?_eq_some_iff.mp hj).1
      rw [List.length_append, List.length_singleton] at hjl
      rw [List.getElem?_append_left (by omega)] at hj
      rw [upd_ne c]
      exact h.ord hj
theorem take_split {P : PV} {g tb z : Int32} (h : fX2_isSitting P g ≠ 0) (h2 : fX2_isSitting (fX2_standUp P g) g = 0) : fX2_takeSeat P g tb z = fX2_takeSeat (fX2_standUp P g) g tb z := by
  unfold fX2_takeSeat
  rw [if_neg h, if_pos h2]
  rfl
theorem sits_split {f : Nat → Int32} {b g : Nat} {tb z : Int32} (h : fX7_of f b g 3 ≠ -1) (h2 : fX7_of (fX7_standsUp f b g) b g 3 = -1) : fX7_sitsDown f b g tb z = fX7_sitsDown (fX7_standsUp f b g) b g tb z := by
  unfold fX7_sitsDown
  rw [if_neg h, if_pos h2]
  rfl
theorem isSit_eq {P : PV} {f : Nat → Int32} {b G T g : Nat} {L : List Nat} (h : REL P f b G T L) (hg : g < G) : fX2_isSitting P (nI g) = if fX7_of f b g 3 = -1 then 0 else 1 := by
  have hG := h.wf.G16
  unfold fX2_isSitting
  rw [h.rat (by decide) (by omega)]
/-- taking a seat that is free -/
theorem take_REL {P : PV} {f : Nat → Int32} {b G T g t z n : Nat} {L : List Nat} (h : REL P f b G T L) (hg : g < G) (ht : t < T) (hn : f (b + 18 + t) = nI n) (hz : z < n) (hn8 : n ≤ 8) (hw : fX7_whoSits f b (nI t) (nI z) = -1) : REL (fX2_takeSeat P (nI g) (nI t) (nI z)) (fX7_sitsDown f b g (nI t) (nI z)) b G T (L.filter (fun x => decide (x ≠ g)) ++ [g]) := by
  have hG := h.wf.G16
  have hT := h.wf.hT
  by_cases c : fX7_of f b g 3 = -1
  · rw [filter_out (h.wf.not_mem c)]
    exact seat_REL h hg c ht hn hz hn8 hw
  · have h2 := stand_REL h hg c
    obtain ⟨s1, s2, s3, s4, s5, s6⟩ := stand_fr h.wf.ro (show g < 16 by omega)
    rw [sits_split c s3, take_split (by rw [isSit_eq h hg, if_neg c]; decide) (by rw [isSit_eq h2 hg, if_pos s3])]
    refine seat_REL h2 hg s3 ht ?_ hz hn8 ?_
    · rw [Nat.add_assoc, s1 (18 + t) (by omega), ← Nat.add_assoc]; exact hn
    · rcases who_is h2.wf (nI t) (nI z) with ⟨i, k1, k2, k3, k4⟩ | ⟨k1, k2⟩
      · exfalso
        by_cases ci : i = g
        · subst ci
          exact nI_m1 (by omega) (k2.symm.trans s3)
        · rw [s2 i 3 (by omega) (by decide) (Or.inl ci)] at k2
          rw [s2 i 4 (by omega) (by decide) (Or.inl ci)] at k3
          have := who_of h.wf k1 (by rw [k2]; exact nI_m1 (by omega))
          rw [k2, k3, hw] at this
          exact nI_m1 (by omega) this.symm
      · exact k2


