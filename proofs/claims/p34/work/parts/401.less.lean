/-- a row with one feud less -/
theorem less_WF {f F : Nat → Int32} {b G T n p : Nat} {L : List Nat} (h : WF f b G T L) (hn : f (b + 2) = nI n) (hn8 : n ≤ 8) (hp : p < n) (e0 : F (b + 2) = nI (n - 1)) (ec : ∀ j : Nat, j < n - 1 → F (b + 10 + j) = f (b + 10 + (if j < p then j else j + 1))) (e1 : ∀ i : Nat, i ≠ b + 2 → (i < b + 10 ∨ b + 18 ≤ i) → F i = f i) : WF F b G T L := by
  have hl := h.l16
  have hG := h.G16
  have hT := h.hT
  have e2 : ∀ x w : Nat, fX7_of F b x w = fX7_of f b x w := fun x w => by
    unfold fX7_of
    exact e1 _ (by omega) (by omega)
  refine ⟨?_, (e1 _ (by omega) (by omega)).trans h.ht, hT, fun y hy => ?_, fun y hy => ?_, fun y hy => ?_, fun t ht => ?_, fun y hy => ?_, fun y z hy hz => ?_, ?_, ?_⟩
  · obtain ⟨⟨rB, rG, rT, rF, rS, rTW, rWW⟩, hg, hG16, hnd, hS, hO, hM⟩ := h.ro
    refine ⟨⟨rB, ?_, ?_, ⟨n - 1, by omega, e0⟩, ?_, fun j hj => ?_, fun j hj => ?_⟩, (e1 _ (by omega) (by omega)).trans hg, hG16, hnd, (e1 _ (by omega) (by omega)).trans hS, fun k y hy => ?_, fun j => ?_⟩
    · rw [e1 _ (by omega) (by omega)]; exact rG
    · rw [e1 _ (by omega) (by omega)]; exact rT
    · rw [e1 _ (by omega) (by omega)]; exact rS
    · rw [e1 _ (by omega) (by omega)]; exact rTW j hj
    · rw [e1 _ (by omega) (by omega)]; exact rWW j hj
    · rw [e1 _ (by omega) (by omega)]; exact hO k y hy
    · rw [hM j, e1 _ (by omega) (by omega)]
  · rw [e2]; exact h.fam y hy
  · rw [e2]; exact h.siz y hy
  · rw [e2]; exact h.wsh y hy
  · rw [e1 _ (by omega) (by omega)]; exact h.sts t ht
  · rw [e2, e2]
    rcases h.sit y hy with e | ⟨t, z, m, k1, k2, k3, k4, k5, k6⟩
    · exact Or.inl e
    · exact Or.inr ⟨t, z, m, k1, k2, k3, (e1 _ (by omega) (by omega)).trans k4, k5, k6⟩
  · rw [e2, e2, e2, e2]
    exact h.dis y z hy hz
  · obtain ⟨a, p, q, r, l1, l2, l3, l4, l5, l6, l7, l8, l9⟩ := h.stg
    exact ⟨a, p, q, r, l1, l2, l3, l4, l5, (e1 _ (by omega) (by omega)).trans l6, (e1 _ (by omega) (by omega)).trans l7, (e1 _ (by omega) (by omega)).trans l8, (e1 _ (by omega) (by omega)).trans l9⟩
  · obtain ⟨m, l1, l2, l3, l4⟩ := h.fds
    obtain rfl : m = n := (nI_eq (by omega) (by omega)).mp (l2.symm.trans hn)
    refine ⟨m - 1, by omega, e0, fun k hk => ?_, fun j k hj hk e => ?_⟩
    · rw [ec k hk]
      exact l3 _ (by split <;> omega)
    · rw [ec j hj, ec k hk] at e
      have := l4 _ _ (by split <;> omega) (by split <;> omega) e
      split at this <;> split at this <;> omega
theorem less_REL {P : PV} {f F R : Nat → Int32} {b G T n p : Nat} {L : List Nat} (h : REL P f b G T L) (hn : f (b + 2) = nI n) (hn8 : n ≤ 8) (hp : p < n) (e0 : F (b + 2) = nI (n - 1)) (ec : ∀ j : Nat, j < n - 1 → F (b + 10 + j) = f (b + 10 + (if j < p then j else j + 1))) (e1 : ∀ i : Nat, i ≠ b + 2 → (i < b + 10 ∨ b + 18 ≤ i) → F i = f i) (hR : ∀ j : Nat, j < n - 1 → R j = P 8 (if j < p then j else j + 1)) : REL (sset (rset P 8 R) 4 (nI (n - 1))) F b G T L := by
  have hG := h.wf.G16
  have hT := h.wf.hT
  have hl := h.wf.l16
  have hF := less_WF h.wf hn hn8 hp e0 ec e1
  have e2 : ∀ x w : Nat, fX7_of F b x w = fX7_of f b x w := fun x w => by
    unfold fX7_of
    exact e1 _ (by omega) (by omega)
  refine ⟨hF, ?_, ?_, ?_, ?_, ?_, ?_, fun w y hw hy => ?_, fun t ht => ?_, fun k hk => ?_, fun t z ht hz => ?_, fun k hk => ?_, fun k hk => ?_⟩
  · simp [sset, rset, upd]; exact h.pg
  · simp [sset, rset, upd]; exact h.pt
  · rw [e1 _ (by omega) (by omega)]; simp [sset, rset, upd]; exact h.p2
  · rw [e1 _ (by omega) (by omega)]; simp [sset, rset, upd]; exact h.p3
  · rw [e0]; simp [sset, rset, upd]
  · rw [e1 _ (by omega) (by omega)]; simp [sset, rset, upd]; exact h.p5
  · show sset (rset P 8 R) 4 (nI (n - 1)) w y = _
    rw [e2, show sset (rset P 8 R) 4 (nI (n - 1)) w = P w from by
      have hw' : w = 0 ∨ w = 1 ∨ w = 2 ∨ w = 3 ∨ w = 4 := by omega
      rcases hw' with rfl | rfl | rfl | rfl | rfl <;> simp [sset, rset]]
    exact h.row w y hw hy
  · rw [e1 _ (by omega) (by omega)]; simp [sset, rset]; exact h.ts t ht
  · rw [e1 _ (by omega) (by omega)]; simp [sset, rset]; exact h.sg k hk
  · rw [who_same h.wf hF (fun y w hy hw => e2 y w) (by omega) (nI z)]
    simp [sset, rset]; exact h.hd t z ht hz
  · rw [e0, nI_clamp (by omega)] at hk
    show R k = _
    rw [hR k hk, ec k hk]
    refine h.fd _ ?_
    rw [hn, nI_clamp (by omega)]
    split <;> omega
  · rw [e1 _ (by omega) (by omega)]; simp [sset, rset]; exact h.od k hk


