/-! what the reference's further methods rest on. Mine. -/
theorem copies_there (f : Nat → Int32) : ∀ k : Nat, k < 118 → fX7_copies f 0 8 (944 + k) = f (0 + k) := by
  intro k hk
  have h := copies_row f (a := 0) (c := 8) (r := 8) (by decide) hk
  rw [if_pos rfl] at h
  exact h
theorem RO_there {f : Nat → Int32} {G : Nat} {L : List Nat} (h : RO f 0 G L) : RO (fX7_copies f 0 8) 944 G L := RO_row (copies_there f) (by decide) h
/-- seatsAll keeps what is known of the row -/
theorem RO_seatsAll {f : Nat → Int32} {b G : Nat} {L : List Nat} (h : RO f b G L) : ∃ L', RO (fX7_seatsAll f b).2 b G L' := by
  have hN : (f (b + 0)).toNatClampNeg = G := by rw [h.2.1, nI_clamp (by have := h.2.2.1; omega)]
  unfold fX7_seatsAll
  refine lq2_ind (N := (f (b + 0)).toNatClampNeg) (fun _ _ U => ∃ L', RO U b G L') (fun z : Int32 × (Nat → Int32) => ∃ L', RO z.2 b G L') (fun k x U nx hk hI hn => ?_) (fun x U hI => hI) _ _ _ _ (Nat.zero_add _) ⟨L, h⟩
  obtain ⟨L1, h1⟩ := hI
  unfold fX7_seatsAll_b4 bd2
  refine hn _ _ ?_
  exact seatsAll_step (k := k) h1 (by omega) rfl
theorem RO_save {f M : Nat → Int32} {G m : Nat} {L : List Nat} (hm : m ≤ 6) (em : M 1 = nI m) (h : RO f 0 G L) : RO (fX7_save f M).1 0 G L := RO_row (b := 0) (b' := 0) (fun k hk => by rw [Nat.zero_add]; exact save_row0 hm em hk) (by decide) h
theorem save_M {f M : Nat → Int32} {m : Nat} (hm : m ≤ 6) (em : M 1 = nI m) : (fX7_save f M).2 = upd M 1 (nI (if m < 6 then m + 1 else 6)) := (save_at hm em).2
theorem holds_M {r : Int32} {U M : Nat → Int32} {v : Int32} (h : (r, U) = fX7_holds M v) {k : Nat} (hk : k ≠ 0) : U k = M k := by
  unfold fX7_holds at h
  split at h
  all_goals
    cases h
    exact upd_ne hk
theorem holds_U {r : Int32} {U M : Nat → Int32} {v : Int32} (h : (r, U) = fX7_holds M v) : U = upd M 0 v := by
  unfold fX7_holds at h
  split at h
  all_goals
    cases h
    rfl
theorem holds_ok {r : Int32} {U M : Nat → Int32} {v : Int32} (h : (r, U) = fX7_holds M v) (hr : ¬ r = 0) : v = 0 := by
  unfold fX7_holds at h
  split at h
  · assumption
  · cases h
    exact absurd rfl hr
theorem holds_nat {r : Int32} {U M : Nat → Int32} {v : Nat} (h : (r, U) = fX7_holds M (nI v)) (hr : ¬ r = 0) (hv : v < 2 ^ 31) : v = 0 := (nI_eq (b := 0) hv (by decide)).mp (holds_ok h hr)
/-! the text as it is read: length and place -/
def TX (M : Nat → Int32) : Prop := IN (M 3) 60 ∧ IN (M 4) 60 ∧ (M 4).toNatClampNeg ≤ (M 3).toNatClampNeg
theorem TX_upd {M : Nat → Int32} {k : Nat} {v : Int32} (h : TX M) (h3 : k ≠ 3) (h4 : k ≠ 4) : TX (upd M k v) := by
  unfold TX
  rw [upd_ne (Ne.symm h3), upd_ne (Ne.symm h4)]
  exact h
theorem TX_holds {r : Int32} {U M : Nat → Int32} {v : Int32} (h : (r, U) = fX7_holds M v) (hT : TX M) : TX U := by
  rw [holds_U h]
  exact TX_upd hT (by decide) (by decide)
theorem TX_lt {M : Nat → Int32} (h : TX M) (c : ¬ (nI (M 3).toNatClampNeg) ≤ (nI (M 4).toNatClampNeg)) : (M 4).toNatClampNeg < (M 3).toNatClampNeg := by
  obtain ⟨h3, h4, -⟩ := h
  have := h3.c (by decide)
  have := h4.c (by decide)
  rw [nI_leI (by omega) (by omega)] at c
  omega

