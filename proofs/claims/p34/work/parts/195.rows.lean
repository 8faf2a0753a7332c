/-! the reference's rows: what keeps every index in its row -/
def IN (x : Int32) (n : Nat) : Prop := ∃ k : Nat, k ≤ n ∧ x = nI k
theorem IN.c {x : Int32} {n : Nat} (h : IN x n) (hn : n < 2 ^ 31) : x.toNatClampNeg ≤ n := by
  obtain ⟨k, hk, rfl⟩ := h
  rw [nI_clamp (by omega)]
  exact hk
theorem IN.e {x : Int32} {n : Nat} (h : IN x n) (hn : n < 2 ^ 31) : x = nI x.toNatClampNeg := by
  obtain ⟨k, hk, rfl⟩ := h
  rw [nI_clamp (by omega)]
def TW (x : Int32) : Prop := x = -1 ∨ ∃ t : Nat, t < 4 ∧ x = nI t
def WW (x : Int32) : Prop := x = -1 ∨ ∃ t : Nat, t < 16 ∧ x = nI t
theorem WW_nat {x : Int32} (h : WW x) (c : ¬ x = -1) : x = nI x.toNatClampNeg ∧ x.toNatClampNeg < 16 := by
  obtain ⟨t, ht, rfl⟩ := h.resolve_left c
  rw [nI_clamp (by omega)]
  exact ⟨rfl, ht⟩
theorem TW_nat {x : Int32} (h : TW x) (c : ¬ x = -1) : x = nI x.toNatClampNeg ∧ x.toNatClampNeg < 4 := by
  obtain ⟨t, ht, rfl⟩ := h.resolve_left c
  rw [nI_clamp (by omega)]
  exact ⟨rfl, ht⟩
def RW (f : Nat → Int32) (b : Nat) : Prop := b ≤ 944 ∧ IN (f (b + 0)) 16 ∧ IN (f (b + 1)) 4 ∧ IN (f (b + 2)) 8 ∧ IN (f (b + 3)) 16 ∧ (∀ g : Nat, g < 16 → TW (f (b + 38 + 5 * g + 3))) ∧ (∀ g : Nat, g < 16 → WW (f (b + 38 + 5 * g + 2)))
theorem upd_ne {f : Nat → Int32} {k j : Nat} {x : Int32} (h : j ≠ k) : upd f k x j = f j := by simp [upd, h]
theorem upd_eq {f : Nat → Int32} {k : Nat} {x : Int32} : upd f k x k = x := by simp [upd]
theorem upd_upd {f : Nat → Int32} {k : Nat} {x y : Int32} : upd (upd f k x) k y = upd f k y := by
  funext j
  by_cases h : j = k <;> simp [upd, h]
theorem upd_self {f : Nat → Int32} {k : Nat} : upd f k (f k) = f := by
  funext j
  by_cases h : j = k <;> simp [upd, h]
theorem upd_comm {f : Nat → Int32} {k j : Nat} {x y : Int32} (h : k ≠ j) : upd (upd f k x) j y = upd (upd f j y) k x := by
  funext i
  by_cases h1 : i = k
  · subst h1
    simp [upd, h]
  · by_cases h2 : i = j
    · subst h2
      simp [upd, h1]
    · simp [upd, h1, h2]

