theorem WF_mv {f F : Nat → Int32} {b G T g : Nat} {L L' : List Nat} (h : WF f b G T L) (hro : RO F b G L') (hg : g < G) (h1 : ∀ k : Nat, (k < 3 ∨ (6 ≤ k ∧ k < 22)) → F (b + k) = f (b + k)) (h2 : ∀ x w : Nat, x < 16 → w < 5 → (x ≠ g ∨ w < 3) → fX7_of F b x w = fX7_of f b x w)
    (h3 : fX7_of F b g 3 = -1 ∨ ∃ t z n : Nat, t < T ∧ n ≤ 8 ∧ z < n ∧ f (b + 18 + t) = nI n ∧ fX7_of F b g 3 = nI t ∧ fX7_of F b g 4 = nI z ∧ fX7_whoSits f b (nI t) (nI z) = -1) : WF F b G T L' := by
  have hG := h.G16
  have hT := h.hT
  have e18 : ∀ t : Nat, t < 4 → F (b + 18 + t) = f (b + 18 + t) := fun t ht => by
    rw [Nat.add_assoc]; exact h1 (18 + t) (by omega)
  have e10 : ∀ t : Nat, t < 8 → F (b + 10 + t) = f (b + 10 + t) := fun t ht => by
    rw [Nat.add_assoc]; exact h1 (10 + t) (by omega)
  have free : ∀ x t z : Nat, x < G → x ≠ g → t < T → fX7_whoSits f b (nI t) (nI z) = -1 → fX7_of F b x 3 = nI t → fX7_of F b x 4 = nI z → False := fun x t z hx hne ht hw e3 e4 => by
    rw [h2 x 3 (by omega) (by decide) (Or.inl hne)] at e3
    rw [h2 x 4 (by omega) (by decide) (Or.inl hne)] at e4
    have := who_of h hx (by rw [e3]; exact nI_m1 (by omega))
    rw [e3, e4, hw] at this
    exact nI_m1 (by omega) this.symm
  refine ⟨hro, (h1 1 (by omega)).trans h.ht, hT, fun x hx => ?_, fun x hx => ?_, fun x hx => ?_, fun t ht => ?_, fun x hx => ?_, fun x y hx hy k1 k2 k3 => ?_, ?_, ?_⟩
  · rw [h2 x 0 (by omega) (by decide) (Or.inr (by decide))]; exact h.fam x hx
  · rw [h2 x 1 (by omega) (by decide) (Or.inr (by decide))]; exact h.siz x hx
  · rw [h2 x 2 (by omega) (by decide) (Or.inr (by decide))]; exact h.wsh x hx
  · rw [e18 t (by omega)]; exact h.sts t ht
  · by_cases c : x = g
    · subst c
      rcases h3 with e | ⟨t, z, n, k1, k2, k3, k4, k5, k6, _⟩
      · exact Or.inl e
      · exact Or.inr ⟨t, z, n, k1, k2, k3, (e18 t (by omega)).trans k4, k5, k6⟩
    · rw [h2 x 3 (by omega) (by decide) (Or.inl c), h2 x 4 (by omega) (by decide) (Or.inl c)]
      rcases h.sit x hx with e | ⟨t, z, n, k1, k2, k3, k4, k5, k6⟩
      · exact Or.inl e
      · exact Or.inr ⟨t, z, n, k1, k2, k3, (e18 t (by omega)).trans k4, k5, k6⟩
  · by_cases cx : x = g
    · by_cases cy : y = g
      · rw [cx, cy]
      · exfalso
        subst cx
        rcases h3 with e | ⟨t, z, n, l1, l2, l3, l4, l5, l6, l7⟩
        · exact k1 e
        · exact free y t z hy cy l1 l7 (k2.symm.trans l5) (k3.symm.trans l6)
    · by_cases cy : y = g
      · exfalso
        subst cy
        rcases h3 with e | ⟨t, z, n, l1, l2, l3, l4, l5, l6, l7⟩
        · exact k1 (k2.trans e)
        · exact free x t z hx cx l1 l7 (k2.trans l5) (k3.trans l6)
      · rw [h2 x 3 (by omega) (by decide) (Or.inl cx)] at k1 k2
        rw [h2 x 4 (by omega) (by decide) (Or.inl cx)] at k3
        rw [h2 y 3 (by omega) (by decide) (Or.inl cy)] at k2
        rw [h2 y 4 (by omega) (by decide) (Or.inl cy)] at k3
        exact h.dis x y hx hy k1 k2 k3
  · obtain ⟨a, p, q, r, l1, l2, l3, l4, l5, l6, l7, l8, l9⟩ := h.stg
    exact ⟨a, p, q, r, l1, l2, l3, l4, l5, (h1 6 (by omega)).trans l6, (h1 7 (by omega)).trans l7, (h1 8 (by omega)).trans l8, (h1 9 (by omega)).trans l9⟩
  · obtain ⟨n, l1, l2, l3, l4⟩ := h.fds
    refine ⟨n, l1, (h1 2 (by omega)).trans l2, fun k hk => ?_, fun j k hj hk => ?_⟩
    · rw [e10 k (by omega)]; exact l3 k hk
    · rw [e10 k (by omega), e10 j (by omega)]; exact l4 j k hj hk
theorem who_mv {f F : Nat → Int32} {b G T g : Nat} {L L' : List Nat} (h : WF f b G T L) (hF : WF F b G T L') (h2 : ∀ x w : Nat, x < 16 → w < 5 → (x ≠ g ∨ w < 3) → fX7_of F b x w = fX7_of f b x w) {t z : Nat} (ht : t < 4)
    (c1 : ¬ (fX7_of f b g 3 = nI t ∧ fX7_of f b g 4 = nI z)) (c2 : ¬ (fX7_of F b g 3 = nI t ∧ fX7_of F b g 4 = nI z)) : fX7_whoSits F b (nI t) (nI z) = fX7_whoSits f b (nI t) (nI z) := by
  have hG := h.G16
  rcases who_is h (nI t) (nI z) with ⟨i, k1, k2, k3, k4⟩ | ⟨k1, k2⟩
  · have ci : i ≠ g := fun e => c1 (by rw [← e]; exact ⟨k2, k3⟩)
    have e3 := (h2 i 3 (by omega) (by decide) (Or.inl ci)).trans k2
    have e4 := (h2 i 4 (by omega) (by decide) (Or.inl ci)).trans k3
    have := who_of hF k1 (by rw [e3]; exact nI_m1 (by omega))
    rw [e3, e4] at this
    rw [this, k4]
  · rcases who_is hF (nI t) (nI z) with ⟨i, l1, l2, l3, l4⟩ | ⟨l1, l2⟩
    · have ci : i ≠ g := fun e => c2 (by rw [← e]; exact ⟨l2, l3⟩)
      exfalso
      refine k1 i l1 ⟨?_, ?_⟩
      · rw [← h2 i 3 (by omega) (by decide) (Or.inl ci)]; exact l2
      · rw [← h2 i 4 (by omega) (by decide) (Or.inl ci)]; exact l3
    · rw [l2, k2]
/-- what standing up leaves -/
theorem stand_fr {f : Nat → Int32} {b G g : Nat} {L : List Nat} (h : RO f b G L) (hg : g < 16) : (∀ k : Nat, (k < 3 ∨ k = 4 ∨ (6 ≤ k ∧ k < 22)) → fX7_standsUp f b g (b + k) = f (b + k)) ∧ (∀ x w : Nat, x < 16 → w < 5 → (x ≠ g ∨ w < 3) → fX7_of (fX7_standsUp f b g) b x w = fX7_of f b x w) ∧ fX7_of (fX7_standsUp f b g) b g 3 = -1 ∧ fX7_of (fX7_standsUp f b g) b g 4 = -1 ∧ fX7_standsUp f b g (b + 5) = f (b + 5) + 1 ∧ (∀ i : Nat, (i < b ∨ b + 118 ≤ i) → fX7_standsUp f b g i = f i) := by
  obtain ⟨U, h1, h2, e⟩ := standsUp_at h hg
  rw [e]
  unfold fX7_of
  refine ⟨fun k hk => ?_, fun x w hx hw hc => ?_, ?_, ?_, ?_, fun i hi => ?_⟩
  · rw [upd_ne (by omega), upd_ne (by omega), upd_ne (by omega), upd_ne (by omega), h1 _ (by omega)]
  · rw [upd_ne (by omega), upd_ne (by omega), upd_ne (by omega), upd_ne (by omega), h1 _ (by omega)]
  · rw [upd_ne (by omega), upd_ne (by omega), upd_eq]
  · rw [upd_ne (by omega), upd_eq]
  · rw [upd_eq]
  · rw [upd_ne (by omega), upd_ne (by omega), upd_ne (by omega), upd_ne (by omega), h1 _ (by omega)]
theorem stand_WF {f : Nat → Int32} {b G T g : Nat} {L : List Nat} (h : WF f b G T L) (hg : g < G) : WF (fX7_standsUp f b g) b G T (L.filter (fun x => decide (x ≠ g))) := by
  have hG := h.G16
  obtain ⟨s1, s2, s3, s4, s5, s6⟩ := stand_fr h.ro (show g < 16 by omega)
  exact WF_mv h (RO_stands h.ro (by omega)) hg (fun k hk => s1 k (by omega)) s2 (Or.inl s3)
theorem REL.ord {P : PV} {f : Nat → Int32} {b G T : Nat} {L : List Nat} (h : REL P f b G T L) {k x : Nat} (hx : L[k]? = some x) : P 9 k = nI x := (h.od k (List.getElem?_eq_some_iff.mp hx).1).trans (h.wf.ro.2.2.2.2.2.1 k x hx)
theorem WF.l16 {f : Nat → Int32} {b G T : Nat} {L : List Nat} (h : WF f b G T L) : L.length ≤ 16 := Nat.le_trans h.ro.len h.G16
theorem WF.lm {f : Nat → Int32} {b G T : Nat} {L : List Nat} (h : WF f b G T L) (x : Nat) (hx : x ∈ L) : x < 16 := Nat.lt_of_lt_of_le ((h.ro.2.2.2.2.2.2 x).mp hx).1 h.G16
theorem ord_od {P : PV} {F : Nat → Int32} {b G T : Nat} {L : List Nat} (h : WF F b G T L) (hR : ∀ (j y : Nat), L[j]? = some y → P 9 j = nI y) : ∀ k : Nat, k < L.length → P 9 k = F (b + 22 + k) := fun k hk => by
  obtain ⟨y, hy⟩ : ∃ y, L[k]? = some y := ⟨L[k], List.getElem?_eq_getElem hk⟩
  rw [hR k y hy, h.ro.2.2.2.2.2.1 k y hy]
theorem stand_REL {P : PV} {f : Nat → Int32} {b G T g : Nat} {L : List Nat} (h : REL P f b G T L) (hg : g < G) (hs : fX7_of f b g 3 ≠ -1) : REL (fX2_standUp P (nI g)) (fX7_standsUp f b g) b G T (L.filter (fun x => decide (x ≠ g))) := by
  have hG := h.wf.G16
  have hT := h.wf.hT
  have hF := stand_WF h.wf hg
  obtain ⟨s1, s2, s3, s4, s5, s6⟩ := stand_fr h.wf.ro (show g < 16 by omega)
  obtain ⟨t, z, n, k1, k2, k3, k4, k5, k6⟩ := (h.wf.sit g hg).resolve_left hs
  obtain ⟨R, d1, d2⟩ := drop_order (f := P 9) (g := g) (L := L) (by omega) h.wf.l16 h.wf.lm (fun k x hx => h.ord hx)
  have e : fX2_standUp P (nI g) = sset (sset (rset (rset (rset (rset P 6 (upd (P 6) (8 * t + z) (-1))) 3 (upd (P 3) g (-1))) 4 (upd (P 4) g (-1))) 9 R) 5 (nI (L.filter (fun x => decide (x ≠ g))).length)) 3 (P 10 3 + 1) := by
    unfold fX2_standUp
    rw [bd_eq, bd_eq, bd_eq, bd_eq, h.rat (by decide) (by omega), h.rat (by decide) (by omega), k5, k6, m8z, put_in (by omega) (by decide), put_in (by omega) (by decide), put_in (by omega) (by decide), h.p5, h.wf.ro.2.2.2.2.1, d1]
  rw [e]
  have e18 : ∀ t : Nat, t < 4 → fX7_standsUp f b g (b + 18 + t) = f (b + 18 + t) := fun t ht => by
    rw [Nat.add_assoc]; exact s1 (18 + t) (by omega)
  refine ⟨hF, ?_, ?_, ?_, ?_, ?_, ?_, fun w x hw hx => ?_, fun t ht => ?_, fun k hk => ?_, fun t' z' ht hz => ?_, fun k hk => ?_, ord_od hF (fun j y hj => ?_)⟩
  · simp [sset, rset, upd]; exact h.pg
  · simp [sset, rset, upd]; exact h.pt
  · simp [sset, rset, upd]; rw [h.p2, s1 4 (by omega)]
  · simp [sset, rset, upd]; rw [s5, h.p3]
  · simp [sset, rset, upd]; rw [h.p4, s1 2 (by omega)]
  · simp only [sset, rset, upd]; exact hF.ro.2.2.2.2.1.symm
  · have hw' : w = 0 ∨ w = 1 ∨ w = 2 ∨ w = 3 ∨ w = 4 := by omega
    by_cases c : x = g
    · subst c
      rcases hw' with rfl | rfl | rfl | rfl | rfl
      · rw [s2 x 0 hx hw (Or.inr (by decide))]; simp [sset, rset]; exact h.row 0 x hw hx
      · rw [s2 x 1 hx hw (Or.inr (by decide))]; simp [sset, rset]; exact h.row 1 x hw hx
      · rw [s2 x 2 hx hw (Or.inr (by decide))]; simp [sset, rset]; exact h.row 2 x hw hx
      · rw [s3]; simp [sset, rset, upd]
      · rw [s4]; simp [sset, rset, upd]
    · rw [s2 x w hx hw (Or.inl c)]
      rcases hw' with rfl | rfl | rfl | rfl | rfl
      · simp [sset, rset]; exact h.row 0 x hw hx
      · simp [sset, rset]; exact h.row 1 x hw hx
      · simp [sset, rset]; exact h.row 2 x hw hx
      · simp [sset, rset, upd, c]; exact h.row 3 x hw hx
      · simp [sset, rset, upd, c]; exact h.row 4 x hw hx
  · rw [e18 t ht]; simp [sset, rset]; exact h.ts t ht
  · rw [Nat.add_assoc, s1 (6 + k) (by omega), ← Nat.add_assoc]; simp [sset, rset]; exact h.sg k hk
  · simp only [sset, rset]
    show upd (P 6) (8 * t + z) (-1) (8 * t' + z') = _
    by_cases c : t' = t ∧ z' = z
    · obtain ⟨rfl, rfl⟩ := c
      rw [upd_eq]
      rcases who_is hF (nI t') (nI z') with ⟨i, l1, l2, l3, l4⟩ | ⟨l1, l2⟩
      · exfalso
        by_cases ci : i = g
        · subst ci
          exact nI_m1 (by omega) (l2.symm.trans s3)
        · rw [s2 i 3 (by omega) (by decide) (Or.inl ci)] at l2
          rw [s2 i 4 (by omega) (by decide) (Or.inl ci)] at l3
          exact ci (h.wf.dis i g l1 hg (by rw [l2]; exact nI_m1 (by omega)) (l2.trans k5.symm) (l3.trans k6.symm))
      · exact l2.symm
    · rw [upd_ne (by omega), h.hd t' z' ht hz]
      refine (who_mv h.wf hF s2 (by omega) (fun e => c ?_) (fun e => ?_)).symm
      · exact ⟨((nI_eq (by omega) (by omega)).mp (e.1.symm.trans k5)), ((nI_eq (by omega) (by omega)).mp (e.2.symm.trans k6))⟩
      · exact nI_m1 (by omega) (e.1.symm.trans s3)
  · rw [s1 2 (by omega)] at hk
    rw [Nat.add_assoc, s1 (10 + k) (by have := h.wf.f8; omega), ← Nat.add_assoc]
    simp [sset, rset]; exact h.fd k hk
  · simp only [sset, rset]; exact d2 j y hj

