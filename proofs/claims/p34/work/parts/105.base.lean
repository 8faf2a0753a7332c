/-! more small things for the walks. Mine. -/
theorem neI {x c : Int32} {v : Int} (h : ¬ x = c) (e : c.toInt = v := by rfl) : x.toInt ≠ v := fun z => h (Int32.toInt_inj.mp (z.trans e.symm))
theorem cn_exit' {x : Int32} {k n : Nat} (h : k < 2 ^ 31 ∧ n = x.toNatClampNeg - k) (c : x ≤ nI k) : n = 0 := by
  have h0 := cn_clamp_lt x
  have : x.toNatClampNeg ≤ k := by
    rw [Int32.le_iff_toInt_le, nI_toInt h.1] at c
    rw [← Int32.toNat_toInt]
    omega
  omega
theorem cn_go' {x : Int32} {k n : Nat} (h : k < 2 ^ 31 ∧ n = x.toNatClampNeg - k) (c : ¬ x ≤ nI k) : ∃ j, n = j + 1 := by
  have h0 := cn_clamp_lt x
  have : k < x.toNatClampNeg := by
    rw [Int32.le_iff_toInt_le, nI_toInt h.1] at c
    rw [← Int32.toNat_toInt]
    omega
  exact ⟨n - 1, by omega⟩
theorem cn_next' {x : Int32} {k n : Nat} (h : k < 2 ^ 31 ∧ n + 1 = x.toNatClampNeg - k) : k + 1 < 2 ^ 31 ∧ n = x.toNatClampNeg - (k + 1) := by
  have h0 := cn_clamp_lt x
  omega
theorem cn_exitN {k n N : Nat} (h : k + n = N) (hN : N < 2 ^ 31) (c : nI N ≤ nI k) : n = 0 := by
  rw [nI_leI hN (by omega)] at c
  omega
theorem cn_goN {k n N : Nat} (h : k + n = N) (hN : N < 2 ^ 31) (c : ¬ nI N ≤ nI k) : ∃ j, n = j + 1 := by
  rw [nI_leI hN (by omega)] at c
  exact ⟨n - 1, by omega⟩
theorem at_nI {f : Nat → Int32} {k : Nat} (h : k < 2 ^ 31) : f (nI k).toNatClampNeg = f k := by rw [nI_clamp h]
theorem fb01 {x : Int32} (h : x = 0 ∨ x = 1) : fits .boolean (.int x) = true := by rcases h with rfl | rfl <;> rfl
/-- a bound that is taken in: u < k for u + 1 ≤ k -/
theorem gtle {u : Int32} {u0 k j N : Nat} (hu : u = nI u0) (hu2 : u0 ≤ 60) (hN : N ≤ 61) (hk : k + j = N) (c : u < nI k) : nI (u0 + 1) ≤ nI k := by
  rw [hu, nI_ltI (by omega) (by omega)] at c
  rw [nI_leI (by omega) (by omega)]
  omega
theorem ngtle {u : Int32} {u0 k j N : Nat} (hu : u = nI u0) (hu2 : u0 ≤ 60) (hN : N ≤ 61) (hk : k + j = N) (c : ¬ u < nI k) : ¬ nI (u0 + 1) ≤ nI k := by
  rw [hu, nI_ltI (by omega) (by omega)] at c
  rw [nI_leI (by omega) (by omega)]
  omega
section TP
variable {p : Program} {l : Launch} {e : Env} {R : Room} {s : State} {m : MethodId} {args : Array Value} {below : List Frame} {meth : Method} {c : Code} {H : Heap} {locs : List Loc} {cells slots : Nat} {Q : State → Prop} {pc : Nat} {ls : Array Slot} {rest : List Value}
theorem lv_tope {x y : Int32} (h : x = y) (k : W p l e R s m args below meth c H locs cells slots Q (F0 m pc ls (.int y :: rest))) : W p l e R s m args below meth c H locs cells slots Q (F0 m pc ls (.int x :: rest)) := by subst h; exact k
variable {st0 : List Value} {a : Array Value}
theorem k_calli {v : Int32} (hr : CallRun p l e R s m args below meth c H locs cells slots 0 0 (F0 m pc ls st0) rest (vp_Si (fun r => r = v) a) (fun _ => False)) (kk : W p l e R s m args below meth c H locs cells slots Q (F0 m (pc + 3) ls (.int v :: rest))) : W p l e R s m args below meth c H locs cells slots Q (F0 m pc ls st0) := vp_callSi hr (fun r h => by subst h; exact kk)
theorem k_callb {v : Int32} (hr : CallRun p l e R s m args below meth c H locs cells slots 0 0 (F0 m pc ls st0) rest (vp_Si (fun r => r = v ∧ (r = 0 ∨ r = 1)) a) (fun _ => False)) (kk : (v = 0 ∨ v = 1) → W p l e R s m args below meth c H locs cells slots Q (F0 m (pc + 3) ls (.int v :: rest))) : W p l e R s m args below meth c H locs cells slots Q (F0 m pc ls st0) := vp_callSi hr (fun r h => by obtain ⟨h1, h2⟩ := h; subst h1; exact kk h2)
theorem k_calll {v : Int64} (hr : CallRun p l e R s m args below meth c H locs cells slots 0 0 (F0 m pc ls st0) rest (vp_Sl (fun r => r = v) a) (fun _ => False)) (kk : W p l e R s m args below meth c H locs cells slots Q (F0 m (pc + 3) ls (.long v :: rest))) : W p l e R s m args below meth c H locs cells slots Q (F0 m pc ls st0) := vp_callSl hr (fun r h => by subst h; exact kk)
theorem k_calld {v : UInt64} (hr : CallRun p l e R s m args below meth c H locs cells slots 0 0 (F0 m pc ls st0) rest (vp_Sd (fun r => r = v) a) (fun _ => False)) (kk : W p l e R s m args below meth c H locs cells slots Q (F0 m (pc + 3) ls (.double v :: rest))) : W p l e R s m args below meth c H locs cells slots Q (F0 m pc ls st0) := vp_callSd hr (fun r h => by subst h; exact kk)
end TP
section LI
variable {A B C ρ : Type}
/-- what every round keeps, the end has -/
theorem lq1_inv {b : Nat → A → (A → ρ) → ρ} {r : A → ρ} (I : A → Prop) (Z : ρ → Prop) (hb : ∀ k x nx, I x → (∀ x', I x' → Z (nx x')) → Z (b k x nx)) (hr : ∀ x, I x → Z (r x)) : ∀ n k x, I x → Z (lq1 b r n k x)
  | 0, _, x, h => hr x h
  | n + 1, k, x, h => hb k x _ h (fun x' h' => lq1_inv I Z hb hr n (k + 1) x' h')
theorem lq2_inv {b : Nat → A → B → (A → B → ρ) → ρ} {r : A → B → ρ} (I : A → B → Prop) (Z : ρ → Prop) (hb : ∀ k x y nx, I x y → (∀ x' y', I x' y' → Z (nx x' y')) → Z (b k x y nx)) (hr : ∀ x y, I x y → Z (r x y)) : ∀ n k x y, I x y → Z (lq2 b r n k x y)
  | 0, _, x, y, h => hr x y h
  | n + 1, k, x, y, h => hb k x y _ h (fun x' y' h' => lq2_inv I Z hb hr n (k + 1) x' y' h')
end LI

