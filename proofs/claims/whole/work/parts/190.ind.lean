section LI2
variable {A B C D ρ : Type}
/-- a loop of N rounds: what holds at round k -/
theorem lq1_ind {b : Nat → A → (A → ρ) → ρ} {r : A → ρ} {N : Nat} (I : Nat → A → Prop) (Z : ρ → Prop) (hb : ∀ k x nx, k < N → I k x → (∀ x', I (k + 1) x' → Z (nx x')) → Z (b k x nx)) (hr : ∀ x, I N x → Z (r x)) : ∀ n k x, k + n = N → I k x → Z (lq1 b r n k x)
  | 0, k, x, e, h => hr x (by have : k = N := by omega
                              subst this; exact h)
  | n + 1, k, x, e, h => hb k x _ (by omega) h (fun x' h' => lq1_ind I Z hb hr n (k + 1) x' (by omega) h')
theorem lq2_ind {b : Nat → A → B → (A → B → ρ) → ρ} {r : A → B → ρ} {N : Nat} (I : Nat → A → B → Prop) (Z : ρ → Prop) (hb : ∀ k x y nx, k < N → I k x y → (∀ x' y', I (k + 1) x' y' → Z (nx x' y')) → Z (b k x y nx)) (hr : ∀ x y, I N x y → Z (r x y)) : ∀ n k x y, k + n = N → I k x y → Z (lq2 b r n k x y)
  | 0, k, x, y, e, h => hr x y (by have : k = N := by omega
                                   subst this; exact h)
  | n + 1, k, x, y, e, h => hb k x y _ (by omega) h (fun x' y' h' => lq2_ind I Z hb hr n (k + 1) x' y' (by omega) h')
theorem lq3_ind {b : Nat → A → B → C → (A → B → C → ρ) → ρ} {r : A → B → C → ρ} {N : Nat} (I : Nat → A → B → C → Prop) (Z : ρ → Prop) (hb : ∀ k x y z nx, k < N → I k x y z → (∀ x' y' z', I (k + 1) x' y' z' → Z (nx x' y' z')) → Z (b k x y z nx)) (hr : ∀ x y z, I N x y z → Z (r x y z)) : ∀ n k x y z, k + n = N → I k x y z → Z (lq3 b r n k x y z)
  | 0, k, x, y, z, e, h => hr x y z (by have : k = N := by omega
                                        subst this; exact h)
  | n + 1, k, x, y, z, e, h => hb k x y z _ (by omega) h (fun x' y' z' h' => lq3_ind I Z hb hr n (k + 1) x' y' z' (by omega) h')
end LI2
theorem nodup_le : ∀ (n : Nat) (L : List Nat), L.Nodup → (∀ x ∈ L, x < n) → L.length ≤ n
  | 0, L, _, h => by
    cases L with
    | nil => simp
    | cons a l => exact absurd (h a List.mem_cons_self) (by omega)
  | n + 1, L, hn, h => by
    by_cases hm : n ∈ L
    · have h1 := List.length_erase_of_mem hm
      have h2 := nodup_le n (L.erase n) (hn.erase n) (fun x hx => by
        have := (hn.mem_erase_iff).mp hx
        have := h x this.2
        omega)
      omega
    · exact Nat.le_succ_of_le (nodup_le n L hn (fun x hx => by
        have := h x hx
        have : x ≠ n := fun e => hm (e ▸ hx)
        omega))
