theorem of_row {f F : Nat → Int32} {b c : Nat} (h : ∀ k : Nat, k < 118 → F (c + k) = f (b + k)) {x w : Nat} (hx : x < 16) (hw : w < 5) : fX7_of F c x w = fX7_of f b x w := by
  have e := h (38 + 5 * x + w) (by omega)
  unfold fX7_of
  rw [show c + 38 + 5 * x + w = c + (38 + 5 * x + w) by omega, show b + 38 + 5 * x + w = b + (38 + 5 * x + w) by omega]
  exact e
theorem WF_row {f F : Nat → Int32} {b c G T : Nat} {L : List Nat} (h : ∀ k : Nat, k < 118 → F (c + k) = f (b + k)) (hc : c ≤ 944) (hW : WF f b G T L) : WF F c G T L := by
  have hG := hW.G16
  have hT := hW.hT
  have e18 : ∀ t : Nat, t < 4 → F (c + 18 + t) = f (b + 18 + t) := fun t ht => by
    rw [Nat.add_assoc, Nat.add_assoc]; exact h (18 + t) (by omega)
  have e10 : ∀ t : Nat, t < 8 → F (c + 10 + t) = f (b + 10 + t) := fun t ht => by
    rw [Nat.add_assoc, Nat.add_assoc]; exact h (10 + t) (by omega)
  refine ⟨RO_row h hc hW.ro, (h 1 (by omega)).trans hW.ht, hT, fun x hx => ?_, fun x hx => ?_, fun x hx => ?_, fun t ht => ?_, fun x hx => ?_, fun x y hx hy => ?_, ?_, ?_⟩
  · rw [of_row h (by omega) (by decide)]; exact hW.fam x hx
  · rw [of_row h (by omega) (by decide)]; exact hW.siz x hx
  · rw [of_row h (by omega) (by decide)]; exact hW.wsh x hx
  · rw [e18 t (by omega)]; exact hW.sts t ht
  · rw [of_row h (by omega) (by decide), of_row h (by omega) (by decide)]
    rcases hW.sit x hx with e | ⟨t, z, n, k1, k2, k3, k4, k5, k6⟩
    · exact Or.inl e
    · exact Or.inr ⟨t, z, n, k1, k2, k3, (e18 t (by omega)).trans k4, k5, k6⟩
  · rw [of_row h (by omega) (by decide), of_row h (by omega) (by decide), of_row h (by omega) (by decide), of_row h (by omega) (by decide)]
    exact hW.dis x y hx hy
  · obtain ⟨a, p, q, r, l1, l2, l3, l4, l5, l6, l7, l8, l9⟩ := hW.stg
    exact ⟨a, p, q, r, l1, l2, l3, l4, l5, (h 6 (by omega)).trans l6, (h 7 (by omega)).trans l7, (h 8 (by omega)).trans l8, (h 9 (by omega)).trans l9⟩
  · obtain ⟨n, l1, l2, l3, l4⟩ := hW.fds
    refine ⟨n, l1, (h 2 (by omega)).trans l2, fun k hk => ?_, fun j k hj hk => ?_⟩
    · rw [e10 k (by omega)]; exact l3 k hk
    · rw [e10 k (by omega), e10 j (by omega)]; exact l4 j k hj hk
theorem who_row {f F : Nat → Int32} {b c G T : Nat} {L : List Nat} (h : ∀ k : Nat, k < 118 → F (c + k) = f (b + k)) (hc : c ≤ 944) (hW : WF f b G T L) (tb z : Int32) (htb : tb ≠ -1) : fX7_whoSits F c tb z = fX7_whoSits f b tb z := by
  have hG := hW.G16
  have hF := WF_row h hc hW
  rcases who_is hW tb z with ⟨i, k1, k2, k3, k4⟩ | ⟨k1, k2⟩
  · have e3 := (of_row h (show i < 16 by omega) (show 3 < 5 by decide)).trans k2
    have e4 := (of_row h (show i < 16 by omega) (show 4 < 5 by decide)).trans k3
    have := who_of hF k1 (by rw [e3]; exact htb)
    rw [e3, e4] at this
    rw [this, k4]
  · rcases who_is hF tb z with ⟨i, l1, l2, l3, l4⟩ | ⟨l1, l2⟩
    · rw [of_row h (by omega) (by decide)] at l2
      rw [of_row h (by omega) (by decide)] at l3
      exact absurd ⟨l2, l3⟩ (k1 i l1)
    · rw [l2, k2]
/-- plans that agree where a plan is read -/
def PE (P Q : PV) : Prop := (∀ w g : Nat, w < 5 → g < 16 → P w g = Q w g) ∧ (∀ t : Nat, t < 4 → P 5 t = Q 5 t) ∧ (∀ k : Nat, k < 32 → P 6 k = Q 6 k) ∧ (∀ k : Nat, k < 4 → P 7 k = Q 7 k) ∧ (∀ k : Nat, k < 8 → P 8 k = Q 8 k) ∧ (∀ k : Nat, k < 16 → P 9 k = Q 9 k) ∧ (∀ k : Nat, k < 6 → P 10 k = Q 10 k)
theorem REL_to {P Q : PV} {f F : Nat → Int32} {b c G T : Nat} {L : List Nat} (hE : PE Q P) (h : ∀ k : Nat, k < 118 → F (c + k) = f (b + k)) (hc : c ≤ 944) (hR : REL P f b G T L) : REL Q F c G T L := by
  have hG := hR.wf.G16
  have hT := hR.wf.hT
  have h8 := hR.wf.f8
  have hl := hR.wf.l16
  obtain ⟨q1, q2, q3, q4, q5, q6, q7⟩ := hE
  refine ⟨WF_row h hc hR.wf, (q7 0 (by decide)).trans hR.pg, (q7 1 (by decide)).trans hR.pt, ?_, ?_, ?_, ?_, fun w x hw hx => ?_, fun t ht => ?_, fun k hk => ?_, fun t z ht hz => ?_, fun k hk => ?_, fun k hk => ?_⟩
  · rw [q7 2 (by decide), hR.p2, h 4 (by decide)]
  · rw [q7 3 (by decide), hR.p3, h 5 (by decide)]
  · rw [q7 4 (by decide), hR.p4, h 2 (by decide)]
  · rw [q7 5 (by decide), hR.p5, h 3 (by decide)]
  · rw [q1 w x hw hx, hR.row w x hw hx, of_row h hx hw]
  · rw [q2 t ht, hR.ts t ht, Nat.add_assoc, Nat.add_assoc, h (18 + t) (by omega)]
  · rw [q4 k hk, hR.sg k hk, Nat.add_assoc, Nat.add_assoc, h (6 + k) (by omega)]
  · rw [q3 _ (by omega), hR.hd t z ht hz, who_row h hc hR.wf _ _ (nI_m1 (by omega))]
  · rw [h 2 (by decide)] at hk
    rw [q5 k (by omega), hR.fd k hk, Nat.add_assoc, Nat.add_assoc, h (10 + k) (by omega)]
  · rw [q6 k (by omega), hR.od k hk, Nat.add_assoc, Nat.add_assoc, h (22 + k) (by omega)]
theorem copy_loop {n : Nat} {f : Nat → Int32} (hn : n < 2 ^ 31) : ∀ (d k : Nat) (U : Nat → Int32), k + d = n → (∀ i : Nat, i < k → U i = f i) → ∀ i : Nat, i < n → lq1 (fX3_copy_b2 f n) fX3_copy_r2 d k U i = f i
  | 0, k, U, h, hU, i, hi => by rw [lq1_z]; exact hU i (by omega)
  | d + 1, k, U, h, hU, i, hi => by
    rw [lq1_s]
    unfold fX3_copy_b2
    rw [if_neg (nI_ge (show k < n by omega) hn), nI_clamp (by omega)]
    refine copy_loop hn d (k + 1) _ (by omega) (fun j hj => ?_) i hi
    by_cases c : j = k
    · subst c; rw [upd_eq]
    · rw [upd_ne c]; exact hU j (by omega)
theorem copy_in {n : Nat} {f f2 : Nat → Int32} (hn : n < 2 ^ 31) {i : Nat} (hi : i < n) : fX3_copy n f n f2 i = f i := by
  unfold fX3_copy
  rw [nI_clamp hn]
  exact copy_loop hn n 0 f2 (Nat.zero_add n) (fun j hj => absurd hj (Nat.not_lt_zero j)) i hi
/-- a copied plan -/
theorem copy_PE {P Q : PV} {n4 n5 : Nat} (h4 : n4 ≤ 8) (h5 : n5 ≤ 16) (e4 : Q 10 4 = nI n4) (e5 : Q 10 5 = nI n5) : PE (fX2_copyFrom P Q) Q := by
  unfold fX2_copyFrom fX1_copyFrom
  simp only [bd_eq]
  have m4 : (if nI 8 < Q 10 4 then nI 8 else Q 10 4) = Q 10 4 := by rw [e4]; exact if_neg (nI_nlt h4 (by omega))
  have m5 : (if nI 16 < Q 10 5 then nI 16 else Q 10 5) = Q 10 5 := by rw [e5]; exact if_neg (nI_nlt h5 (by omega))
  rw [m4, m5]
  refine ⟨fun w g hw hg => ?_, fun t ht => ?_, fun k hk => ?_, fun k hk => ?_, fun k hk => ?_, fun k hk => ?_, fun k hk => ?_⟩
  · have hw' : w = 0 ∨ w = 1 ∨ w = 2 ∨ w = 3 ∨ w = 4 := by omega
    rcases hw' with rfl | rfl | rfl | rfl | rfl <;> (simp [sset, rset]; exact copy_in (by decide) hg)
  · simp [sset, rset]; exact copy_in (by decide) ht
  · simp [sset, rset]; exact copy_in (by decide) hk
  · simp [sset, rset]; exact copy_in (by decide) hk
  · simp [sset, rset]; exact copy_in (by decide) hk
  · simp [sset, rset]; exact copy_in (by decide) hk
  · have hk' : k = 0 ∨ k = 1 ∨ k = 2 ∨ k = 3 ∨ k = 4 ∨ k = 5 := by omega
    rcases hk' with rfl | rfl | rfl | rfl | rfl | rfl <;> simp [sset, rset, upd]
theorem copy_REL {P Q : PV} {f F : Nat → Int32} {b c G T : Nat} {L : List Nat} (h : ∀ k : Nat, k < 118 → F (c + k) = f (b + k)) (hc : c ≤ 944) (hR : REL Q f b G T L) : REL (fX2_copyFrom P Q) F c G T L := by
  have h8 := hR.wf.f8
  have hl := hR.wf.l16
  exact REL_to (copy_PE h8 hl (hR.p4.trans hR.wf.fe) (hR.p5.trans hR.wf.ro.2.2.2.2.1)) h hc hR


