/-- a line of different items, the one at place p dropped -/
theorem drop_one {N n p : Nat} {f : Nat → Int32} (hn : n ≤ N) (hN : N < 2 ^ 31) (hp : p < n) (hd : ∀ j k : Nat, j < n → k < n → f j = f k → j = k) : ∃ R : Nat → Int32, fX1_dropItem N f (nI n) (f p) = (R, nI (n - 1)) ∧ ∀ j : Nat, j < n - 1 → R j = f (if j < p then j else j + 1) := by
  unfold fX1_dropItem
  rw [nI_clamp (by omega)]
  refine lq2_ind (N := n) (fun k x U => x = nI (if k ≤ p then k else k - 1) ∧ (∀ j : Nat, k ≤ j → U j = f j) ∧ ∀ j : Nat, j < (if k ≤ p then k else k - 1) → U j = f (if j < p then j else j + 1)) (fun z => ∃ R : Nat → Int32, z = (R, nI (n - 1)) ∧ ∀ j : Nat, j < n - 1 → R j = f (if j < p then j else j + 1)) (fun k x U nx hk hI hnx => ?_) (fun x U hI => ?_) _ _ _ _ (Nat.zero_add n) ⟨rfl, fun _ _ => rfl, fun j hj => by rw [if_pos (Nat.zero_le p)] at hj; omega⟩
  · obtain ⟨hx, h1, h2⟩ := hI
    have hit : fX1_itemAt N U (nI n) (nI k) = f k := by
      unfold fX1_itemAt
      rw [if_neg (nI_pos (by omega)), if_neg (nI_ge hk (by omega)), if_neg (nI_ge (by omega) (by omega)), nI_clamp (by omega)]
      exact h1 k (Nat.le_refl k)
    unfold fX1_dropItem_b4
    rw [hit, bd2_eq]
    by_cases c : f k = f p
    · have ck := hd k p hk hp c
      subst ck
      rw [if_pos c]
      rw [if_pos (Nat.le_refl k)] at hx h2
      refine hnx _ _ ⟨?_, fun j hj => h1 j (by omega), fun j hj => ?_⟩
      · rw [if_neg (show ¬ k + 1 ≤ k by omega)]; exact hx
      · rw [if_neg (show ¬ k + 1 ≤ k by omega)] at hj; exact h2 j (by omega)
    · have ck : k ≠ p := fun e => c (by rw [e])
      rw [if_neg c, bd_eq, hx, put_in (by split <;> omega) hN, nI_1]
      by_cases cp : k < p
      · rw [if_pos (show k ≤ p by omega)] at h2 ⊢
        refine hnx _ _ ⟨?_, fun j hj => ?_, fun j hj => ?_⟩
        · rw [if_pos (show k + 1 ≤ p by omega)]
        · show upd U k (f k) j = f j
          rw [upd_ne (by omega)]; exact h1 j (by omega)
        · rw [if_pos (show k + 1 ≤ p by omega)] at hj
          show upd U k (f k) j = _
          by_cases cj : j = k
          · subst cj; rw [upd_eq, if_pos cp]
          · rw [upd_ne cj]; exact h2 j (by omega)
      · rw [if_neg (show ¬ k ≤ p by omega)] at h2 ⊢
        refine hnx _ _ ⟨?_, fun j hj => ?_, fun j hj => ?_⟩
        · rw [if_neg (show ¬ k + 1 ≤ p by omega)]
          show nI (k - 1 + 1) = nI (k + 1 - 1)
          congr 1; omega
        · show upd U (k - 1) (f k) j = f j
          rw [upd_ne (by omega)]; exact h1 j (by omega)
        · rw [if_neg (show ¬ k + 1 ≤ p by omega)] at hj
          show upd U (k - 1) (f k) j = _
          by_cases cj : j = k - 1
          · subst cj
            rw [upd_eq, if_neg (show ¬ k - 1 < p by omega)]
            congr 1; omega
          · rw [upd_ne cj]; exact h2 j (by omega)
  · obtain ⟨hx, h1, h2⟩ := hI
    rw [if_neg (show ¬ n ≤ p by omega)] at hx h2
    exact ⟨U, by rw [hx]; rfl, h2⟩
/-- the reference's shift -/
theorem shift_loop {r : (Nat → Int32) → Int32 × ((Nat → Int32) × (Nat → Int32))} {N : Nat} : ∀ (d k : Nat) (U : Nat → Int32), k + d = N → ∃ V : Nat → Int32, lq1 fX7_peace_b72 r d k U = r V ∧ (∀ j : Nat, k ≤ j → j < N → V (10 + j) = U (10 + j + 1)) ∧ ∀ i : Nat, (i < 10 + k ∨ 10 + N ≤ i) → V i = U i
  | 0, k, U, h => ⟨U, lq1_z _ _ _ _, fun j h1 h2 => by omega, fun _ _ => rfl⟩
  | d + 1, k, U, h => by
    obtain ⟨V, h1, h2, h3⟩ := shift_loop (r := r) (N := N) d (k + 1) (upd U (10 + k) (U (10 + k + 1))) (by omega)
    refine ⟨V, by rw [lq1_s]; exact h1, fun j j1 j2 => ?_, fun i hi => ?_⟩
    · by_cases c : j = k
      · subst c; rw [h3 (10 + j) (Or.inl (by omega)), upd_eq]
      · rw [h2 j (by omega) j2, upd_ne (by omega)]
    · rw [h3 i (by omega), upd_ne (by omega)]



