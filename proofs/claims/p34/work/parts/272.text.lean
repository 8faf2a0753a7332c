theorem TX_at0 {M : Nat → Int32} (h : IN (M 3) 60) : TX (upd M 4 0) := by
  refine ⟨?_, ?_, ?_⟩
  · rw [upd_ne (by decide)]; exact h
  · rw [upd_eq]; exact ⟨0, by decide, rfl⟩
  · rw [upd_eq]; exact Nat.zero_le _
theorem TX_next {M : Nat → Int32} (h : TX M) (c : (M 4).toNatClampNeg < (M 3).toNatClampNeg) : TX (upd M 4 (nI ((M 4).toNatClampNeg + 1))) := by
  obtain ⟨h3, h4, h34⟩ := h
  have b3 := h3.c (by decide)
  refine ⟨?_, ?_, ?_⟩
  · rw [upd_ne (by decide)]; exact h3
  · rw [upd_eq]; exact ⟨_, by omega, rfl⟩
  · rw [upd_eq, upd_ne (by decide), nI_clamp (by omega)]; omega
theorem TX_e4 {M : Nat → Int32} (h : TX M) : M 4 = nI (M 4).toNatClampNeg := h.2.1.e (by decide)
theorem sign_lt {x M : Nat → Int32} (hs : fX7_sign x M ≠ 0) (h : TX M) : (M 4).toNatClampNeg < (M 3).toNatClampNeg ∧ fX7_sign x M = x (M 4).toNatClampNeg := by
  unfold fX7_sign at hs ⊢
  split at hs
  · exact absurd rfl hs
  · rename_i c
    rw [if_neg c]
    exact ⟨TX_lt h c, rfl⟩
/-- a sign that is due is taken, another one is left -/
theorem takes_at {x M U : Nat → Int32} {v r : Int32} (hT : TX M) (hv : v ≠ 0) (h : (r, U) = fX7_takes x M v) :
    (fX7_sign x M = v ∧ r = 1 ∧ U = upd M 4 (nI ((M 4).toNatClampNeg + 1)) ∧ (M 4).toNatClampNeg < (M 3).toNatClampNeg) ∨ (fX7_sign x M ≠ v ∧ r = 0 ∧ U = M) := by
  unfold fX7_takes bd at h
  by_cases c : fX7_sign x M = v
  · left
    rw [if_pos c] at h
    have h1 : (r, U) = (nI 1, upd M 4 (M 4 + nI 1)) := h
    cases h1
    refine ⟨c, rfl, ?_, (sign_lt (by rw [c]; exact hv) hT).1⟩
    rw [← nI_add, ← TX_e4 hT]
  · right
    rw [if_neg c] at h
    have h1 : (r, U) = (nI 0, upd M 4 (M 4 + nI 0)) := h
    cases h1
    refine ⟨c, rfl, ?_⟩
    rw [show M 4 + nI 0 = M 4 from Int32.add_zero _, upd_self]
theorem takes_TX {x M U : Nat → Int32} {v r : Int32} (hT : TX M) (hv : v ≠ 0) (h : (r, U) = fX7_takes x M v) : TX U := by
  rcases takes_at hT hv h with ⟨-, -, rfl, hl⟩ | ⟨-, -, rfl⟩
  · exact TX_next hT hl
  · exact hT
theorem nI_m1 {n : Nat} (h : n < 2 ^ 31) : nI n ≠ -1 := fun e => nI_pos h (by rw [e]; decide)
/-- what lies between two numbers above 0 -/
theorem in_sub {v : Int32} {lo hi : Nat} (hlo : lo ≤ hi) (hhi : hi < 2 ^ 30) (h : ¬ fX7_in v (nI lo) (nI hi) = 0) : ∃ j : Nat, v = nI (lo + j) ∧ lo + j ≤ hi ∧ v - nI lo = nI j := by
  obtain ⟨h1, h2⟩ := in_ok h
  rw [Int32.lt_iff_toInt_lt, nI_toInt (by omega)] at h1 h2
  obtain ⟨a, ha, rfl⟩ := nI_of (x := v) (fun z => by
    rw [Int32.lt_iff_toInt_lt] at z
    have : (0 : Int32).toInt = 0 := rfl
    omega)
  rw [nI_toInt ha] at h1 h2
  refine ⟨a - lo, ?_, by omega, ?_⟩
  · rw [Nat.add_sub_cancel' (by omega)]
  · exact pk_sub (by omega)
theorem in_zero {lo hi : Nat} (hlo : 0 < lo) (hl : lo ≤ hi) (hhi : hi < 2 ^ 30) : fX7_in 0 (nI lo) (nI hi) = 0 := by
  unfold fX7_in
  rw [if_pos]
  rw [Int32.lt_iff_toInt_lt, nI_toInt (by omega)]
  have : (0 : Int32).toInt = 0 := rfl
  omega
/-- one sign from lo to hi is taken, another one is left -/
theorem readsOne_at {x M U : Nat → Int32} {r : Int32} {lo hi : Nat} (hT : TX M) (hlo : 0 < lo) (hl : lo ≤ hi) (hhi : hi < 2 ^ 30) (h : (r, U) = fX7_readsOne x M (nI lo) (nI hi)) :
    (∃ j : Nat, fX7_sign x M = nI (lo + j) ∧ lo + j ≤ hi ∧ r = nI j ∧ U = upd M 4 (nI ((M 4).toNatClampNeg + 1)) ∧ (M 4).toNatClampNeg < (M 3).toNatClampNeg) ∨ (fX7_in (fX7_sign x M) (nI lo) (nI hi) = 0 ∧ r = -1 ∧ U = M) := by
  unfold fX7_readsOne bd at h
  by_cases c : fX7_in (fX7_sign x M) (nI lo) (nI hi) = 0
  · right
    rw [if_pos c] at h
    have h1 : (r, U) = (-1, upd M 4 (M 4 + nI 0)) := h
    cases h1
    refine ⟨c, rfl, ?_⟩
    rw [show M 4 + nI 0 = M 4 from Int32.add_zero _, upd_self]
  · left
    obtain ⟨j, e1, e2, e3⟩ := in_sub hl hhi c
    rw [if_neg c, e3] at h
    dsimp only at h
    rw [if_neg (nI_m1 (n := j) (by omega))] at h
    have h1 : (r, U) = (nI j, upd M 4 (M 4 + nI 1)) := h
    cases h1
    refine ⟨j, e1, e2, rfl, ?_, (sign_lt (fun z => c (by rw [z]; exact in_zero hlo hl hhi)) hT).1⟩
    rw [← nI_add, ← TX_e4 hT]
theorem readsOne_TXn {x M U : Nat → Int32} {r : Int32} {lo hi : Nat} (hT : TX M) (hlo : 0 < lo) (hl : lo ≤ hi) (hhi : hi < 2 ^ 30) (h : (r, U) = fX7_readsOne x M (nI lo) (nI hi)) : TX U := by
  rcases readsOne_at hT hlo hl hhi h with ⟨j, -, -, -, rfl, hl⟩ | ⟨-, -, rfl⟩
  · exact TX_next hT hl
  · exact hT
theorem readsOne_TX {x M U : Nat → Int32} {r : Int32} (hT : TX M) (h : (r, U) = fX7_readsOne x M 48 57) : TX U := readsOne_TXn (lo := 48) (hi := 57) hT (by decide) (by decide) (by decide) h
theorem second_TX {x U U' : Nat → Int32} {r v : Int32} (hT : TX U) (h : (v, U') = (if r = 0 then ((-1 : Int32), U) else (bd2 (fX7_readsOne x U 48 51) (fun r60 U60 => (r60, U60))))) : TX U' := by
  by_cases c : r = 0
  · rw [if_pos c] at h
    cases h
    exact hT
  · rw [if_neg c] at h
    exact readsOne_TXn (lo := 48) (hi := 51) hT (by decide) (by decide) (by decide) h
/-- no sign is given back -/
theorem step_at {M : Nat → Int32} (hT : TX M) (hl : (M 4).toNatClampNeg < (M 3).toNatClampNeg) : ((upd M 4 (nI ((M 4).toNatClampNeg + 1))) 4).toNatClampNeg = (M 4).toNatClampNeg + 1 := by
  have := hT.1.c (by decide)
  rw [upd_eq, nI_clamp (by omega)]
theorem readsOne_le {x M U : Nat → Int32} {r : Int32} {lo hi : Nat} (hT : TX M) (hlo : 0 < lo) (hl : lo ≤ hi) (hhi : hi < 2 ^ 30) (h : (r, U) = fX7_readsOne x M (nI lo) (nI hi)) : (M 4).toNatClampNeg ≤ (U 4).toNatClampNeg ∧ (r ≠ -1 → (M 4).toNatClampNeg < (U 4).toNatClampNeg) := by
  rcases readsOne_at hT hlo hl hhi h with ⟨j, -, -, -, rfl, hl⟩ | ⟨-, rfl, rfl⟩
  · rw [step_at hT hl]
    exact ⟨by omega, fun _ => by omega⟩
  · exact ⟨Nat.le_refl _, fun z => absurd rfl z⟩
theorem takes_le {x M U : Nat → Int32} {v r : Int32} (hT : TX M) (hv : v ≠ 0) (h : (r, U) = fX7_takes x M v) : (M 4).toNatClampNeg ≤ (U 4).toNatClampNeg ∧ (¬ r = 0 → (M 4).toNatClampNeg < (U 4).toNatClampNeg) := by
  rcases takes_at hT hv h with ⟨-, -, rfl, hl⟩ | ⟨-, rfl, rfl⟩
  · rw [step_at hT hl]
    exact ⟨by omega, fun _ => by omega⟩
  · exact ⟨Nat.le_refl _, fun z => absurd rfl z⟩

