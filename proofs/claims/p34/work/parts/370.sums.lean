/-! Sums, searches, masks. The pure part. Mine. -/
theorem i32_4 (a b c d : Int32) : (a + b) + (c + d) = (a + c) + (b + d) := by
  rw [Int32.add_assoc, Int32.add_assoc, ← Int32.add_assoc b c d, Int32.add_comm b c, Int32.add_assoc]
def sm : Nat → (Nat → Int32) → Int32
  | 0, _ => 0
  | n + 1, u => sm n u + u n
theorem sm_congr {u v : Nat → Int32} : ∀ {n : Nat}, (∀ i : Nat, i < n → u i = v i) → sm n u = sm n v
  | 0, _ => rfl
  | n + 1, h => by
    show sm n u + u n = sm n v + v n
    rw [sm_congr (fun i hi => h i (Nat.lt_succ_of_lt hi)), h n (Nat.lt_succ_self n)]
theorem sm_0 : ∀ n : Nat, sm n (fun _ => 0) = 0
  | 0 => rfl
  | n + 1 => by
    show sm n (fun _ => 0) + 0 = 0
    rw [sm_0 n, Int32.add_zero]
theorem sm_none {u : Nat → Int32} {n : Nat} (h : ∀ i : Nat, i < n → u i = 0) : sm n u = 0 := (sm_congr h).trans (sm_0 n)
theorem sm_add (u v : Nat → Int32) : ∀ n : Nat, sm n (fun i => u i + v i) = sm n u + sm n v
  | 0 => by show (0 : Int32) = 0 + 0; rfl
  | n + 1 => by
    show sm n (fun i => u i + v i) + (u n + v n) = (sm n u + u n) + (sm n v + v n)
    rw [sm_add u v n]
    exact i32_4 _ _ _ _
theorem sm_swap (u : Nat → Nat → Int32) (m : Nat) : ∀ n : Nat, sm n (fun i => sm m (fun j => u i j)) = sm m (fun j => sm n (fun i => u i j))
  | 0 => (sm_0 m).symm
  | n + 1 => by
    show sm n (fun i => sm m (fun j => u i j)) + sm m (fun j => u n j) = sm m (fun j => sm n (fun i => u i j) + u n j)
    rw [sm_swap u m n, sm_add]
theorem sm_one {u : Nat → Int32} {i0 : Nat} : ∀ {n : Nat}, i0 < n → (∀ i : Nat, i < n → i ≠ i0 → u i = 0) → sm n u = u i0
  | 0, h0, _ => absurd h0 (Nat.not_lt_zero _)
  | n + 1, h0, h => by
    show sm n u + u n = u i0
    by_cases e : i0 = n
    · subst e
      rw [sm_none (fun i hi => h i (Nat.lt_succ_of_lt hi) (Nat.ne_of_lt hi)), Int32.zero_add]
    · rw [sm_one (n := n) (by omega) (fun i hi => h i (Nat.lt_succ_of_lt hi)), h n (Nat.lt_succ_self n) (fun z => e z.symm), Int32.add_zero]
theorem lq1_sm {ρ : Type} {b : Nat → Int32 → (Int32 → ρ) → ρ} {r : Int32 → ρ} {N : Nat} (u : Nat → Int32) (hb : ∀ (k : Nat) (x : Int32) (nx : Int32 → ρ), k < N → b k x nx = nx (x + u k)) : ∀ (n k : Nat) (x y : Int32), k + n = N → x = y + sm k u → lq1 b r n k x = r (y + sm N u)
  | 0, k, x, y, h, hx => by
    obtain rfl : k = N := by omega
    rw [lq1_z, hx]
  | n + 1, k, x, y, h, hx => by
    rw [lq1_s, hb k x _ (by omega)]
    exact lq1_sm u hb n (k + 1) _ y (by omega) (by rw [hx, Int32.add_assoc]; rfl)
theorem lq1_sum {ρ : Type} {b : Nat → Int32 → (Int32 → ρ) → ρ} {r : Int32 → ρ} {N : Nat} (u : Nat → Int32) (y : Int32) (hb : ∀ (k : Nat) (x : Int32) (nx : Int32 → ρ), k < N → b k x nx = nx (x + u k)) : lq1 b r N 0 y = r (y + sm N u) := lq1_sm u hb N 0 y y (Nat.zero_add N) (Int32.add_zero y).symm
theorem lq1_sum0 {ρ : Type} {b : Nat → Int32 → (Int32 → ρ) → ρ} {r : Int32 → ρ} {N : Nat} (u : Nat → Int32) (hb : ∀ (k : Nat) (x : Int32) (nx : Int32 → ρ), k < N → b k x nx = nx (x + u k)) : lq1 b r N 0 0 = r (sm N u) := by rw [lq1_sum u 0 hb, Int32.zero_add]
theorem lq0_find {ρ : Type} {b : Nat → ρ → ρ} {r : ρ} {N : Nat} (p : Nat → Prop) [DecidablePred p] (v : Nat → ρ) (hb : ∀ (k : Nat) (nx : ρ), k < N → b k nx = if p k then v k else nx) : ∀ (n k : Nat), k + n = N → (∃ j : Nat, k ≤ j ∧ j < N ∧ p j ∧ (∀ i : Nat, k ≤ i → i < j → ¬ p i) ∧ lq0 b r n k = v j) ∨ ((∀ i : Nat, k ≤ i → i < N → ¬ p i) ∧ lq0 b r n k = r)
  | 0, k, h => Or.inr ⟨fun i h1 h2 => by omega, lq0_z b r k⟩
  | n + 1, k, h => by
    rw [lq0_s, hb k _ (by omega)]
    by_cases c : p k
    · exact Or.inl ⟨k, Nat.le_refl k, by omega, c, fun i h1 h2 => by omega, if_pos c⟩
    · rw [if_neg c]
      have hi : ∀ i : Nat, k ≤ i → (i = k ∨ k + 1 ≤ i) := fun i h1 => by omega
      rcases lq0_find p v hb n (k + 1) (by omega) with ⟨j, h1, h2, h3, h4, h5⟩ | ⟨h4, h5⟩
      · refine Or.inl ⟨j, by omega, h2, h3, fun i h6 h7 => ?_, h5⟩
        rcases hi i h6 with rfl | h8
        · exact c
        · exact h4 i h8 h7
      · refine Or.inr ⟨fun i h6 h7 => ?_, h5⟩
        rcases hi i h6 with rfl | h8
        · exact c
        · exact h4 i h8 h7

