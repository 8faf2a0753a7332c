theorem lq0_ind {ρ : Type} {b : Nat → ρ → ρ} {r : ρ} {N : Nat} (Z : ρ → Prop) (hb : ∀ k nx, k < N → Z nx → Z (b k nx)) (hr : Z r) : ∀ n k, k + n = N → Z (lq0 b r n k)
  | 0, _, _ => hr
  | n + 1, k, e => hb k _ (by omega) (lq0_ind Z hb hr n (k + 1) (by omega))
theorem whoSits_ww {f : Nat → Int32} {b : Nat} (hR : RW f b) (tb z : Int32) : WW (fX7_whoSits f b tb z) := by
  obtain ⟨rB, rG0, -⟩ := hR
  have rG := rG0.c (by decide)
  unfold fX7_whoSits
  refine lq0_ind (N := (f (b + 0)).toNatClampNeg) WW (fun k nx hk h => ?_) (Or.inl rfl) _ _ (Nat.zero_add _)
  unfold fX7_whoSits_b3
  repeat' split
  all_goals first | exact h | exact Or.inr ⟨k, by omega, rfl⟩
theorem in_ok {v a c : Int32} (h : ¬ fX7_in v a c = 0) : ¬ v < a ∧ ¬ c < v := by
  unfold fX7_in at h
  split at h
  · exact absurd rfl h
  · rename_i h1
    split at h
    · exact absurd rfl h
    · rename_i h2
      exact ⟨h1, h2⟩
/-- behind a check of a number below n -/
theorem in_nat {v x : Int32} {n : Nat} (hx : IN x n) (hn : n < 2 ^ 30) (h : ¬ fX7_in v 0 (x - 1) = 0) : v = nI v.toNatClampNeg ∧ v.toNatClampNeg < x.toNatClampNeg ∧ v.toNatClampNeg < n := by
  obtain ⟨k, hk, rfl⟩ := hx
  obtain ⟨h1, h2⟩ := in_ok h
  obtain ⟨j, hj, rfl⟩ := nI_of h1
  rw [nI_clamp hj, nI_clamp (by omega)]
  have h3 : (nI k - 1).toInt = (k : Int) - 1 := by
    have := pk_sub_toInt (a := k) (b := 1) (by omega) (by decide)
    exact this
  rw [Int32.lt_iff_toInt_lt, h3, nI_toInt hj] at h2
  exact ⟨rfl, by omega, by omega⟩

