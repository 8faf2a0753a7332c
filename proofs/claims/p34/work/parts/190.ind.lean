section LI2
variable {A B C D ρ : Type}
/-- a loop of N rounds: what holds at round k -/
theorem lq1_ind {b : Nat → A → (A → ρ) → ρ} {r : A → ρ} {N : Nat} (I : Nat → A → Prop) (Z : ρ → Prop) (hb : ∀ k x nx, k < N → I k x → (∀ x', I (k + 1) x' → Z (nx x')) → Z (b k x nx)) (hr : ∀ x, I N x → Z (r x)) : ∀ n k x, k + n = N → I k x → Z (lq1 b r n k x)
  | 0, k, x, e, h => hr x (by have : k = N := by omega
                              subst this; exact h)
  | n + 1, k, x, e, h => hb k x _ (by omega) h (fun x' h' => lq1_ind I Z hb hr n (k + 1) x' (by omega) h')
theorem lq2_ind {b : Nat → A → B → (A → B → ρ) → ρ} {r : A → B → ρ} {N : Nat} (I : Nat → A → B → Prop) (Z : ρ → Prop) (hb : ∀ k x y nx, k < N → I k x y → (∀ x' y', I (k + 1) x' y' → Z (nx x' y')) → Z (b k x y nx)) (hr : ∀ x y, I N x y → Z (r x y)) : ∀ n k x y, k + n = N → I k x y → Z (lq2 b r n k x y)
  | 0, k, x, y, e, h => hr x y (by have : k = N := by omega
                                   subst this; exact h)
  | n + 1, k, x, y, e, h => hb k x y _ (by omega) h (fun x' y' h' => lq2_ind I Z hb hr n (k + 1) x' y' (by omega) h')
theorem lq3_ind {b : Nat → A → B → C → (A → B → C → ρ) → ρ} {r : A → B → C → ρ} {N : Nat} (I : Nat → A → B → C → Prop) (Z : ρ → Prop) (hb : ∀ k x y z nx, k < N → I k x y z → (∀ x' y' z', I (k + 1) x' y' z' → Z (nx x' y' z')) → Z (b k x y z nx)) (hr : ∀ x y z, I N x y z → Z (r x y z)) : ∀ n k x y z, k + n = N → I k x y z → Z (lq3 b r n k x y z)
  | 0, k, x, y, z, e, h => hr x y z (by have : k = N := by omega
                                        subst this; exact h)
  | n + 1, k, x, y, z, e, h => hb k x y z _ (by omega) h (fun x' y' z' h' => lq3_ind I Z hb hr n (k + 1) x' y' z' (by omega) h')
end LI2
theorem nodup_le : ∀ (n : Nat) (L : List Nat), L.Nodup → (∀ x ∈ L, x < n) → L.length ≤ n
  | 0, L, _, h => by
    cases L with
    | nil => simp
    | cons a l => exact absurd (h a List.mem_cons_self) (by omega)
  | n + 1, L, hn, h => by
    by_cases hm : n ∈ L
    · have h1 := List.length_erase_of_mem hm
      have h2 := nodup_le n (L.erase n) (hn.erase n) (fun x hx => by
        have := (hn.mem_erase_iff).mp hx
        have := h x this.2
        omega)
      omega
    · exact Nat.le_succ_of_le (nodup_le n L hn (fun x hx => by
        have := h x hx
        have : x ≠ n := fun e => hm (e ▸ hx)
        omega))
section KS
variable {p : Program} {l : Launch} {e : Env} {R : Room} {s : State} {m : MethodId} {args : Array Value} {below : List Frame} {meth : Method} {c : Code} {H : Heap} {locs : List Loc} {cells slots : Nat} {Q : State → Prop}
variable {pc : Nat} {ls : Array Slot} {rest st0 : List Value} {a : Array Value} {A : Nat → Prop} {H0 : Heap} {D : va_G} {ws wc : va_W}
/-- an int comes back, the callee's cells are as told -/
theorem k_same {S : Type} {v : Int32} {u0 : S} {Wd : S → va_W} (hr : va_Run p l e R s m args below meth c H locs cells slots 0 0 (F0 m pc ls st0) rest (va_Qi (fun r u => (r, u) = (v, u0)) (fun u t => va_P D vwCl (Wd u) t.heap) (adr wc) a) (adr wc))
    (hP : va_P D vwCl ws H) (hD : va_D A ws) (hS : va_S A H0 H locs) (is : List Nat) (hn : va_nd is = true) (hC : is.map (fun i => ws[i]?) = wc.map some) (hw : ∀ u, (Wd u).map (fun c => c.1) = wc.map (fun c => c.1))
    (kk : ∀ (H1 : Heap) (locs1 : List Loc), va_P D vwCl (plug ws is (Wd u0)) H1 → va_D A (plug ws is (Wd u0)) → va_S A H0 H1 locs1 → W p l e R s m args below meth c H1 locs1 cells slots Q (F0 m (pc + 3) ls (.int v :: rest))) : W p l e R s m args below meth c H locs cells slots Q (F0 m pc ls st0) :=
  k_muti hr hP hD hS is hn hC hw (fun r u H1 locs1 hp h1 h2 h3 => by cases hp; exact kk H1 locs1 h1 h2 h3)
end KS

