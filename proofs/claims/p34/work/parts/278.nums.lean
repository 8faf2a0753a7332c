theorem in_le {v : Int32} {hi : Nat} (hhi : hi < 2 ^ 31) (h : ¬ fX7_in v 0 (nI hi) = 0) : v = nI v.toNatClampNeg ∧ v.toNatClampNeg ≤ hi := by
  obtain ⟨h1, h2⟩ := in_ok h
  obtain ⟨j, hj, rfl⟩ := nI_of h1
  rw [Int32.lt_iff_toInt_lt, nI_toInt hhi, nI_toInt hj] at h2
  rw [nI_clamp hj]
  exact ⟨rfl, by omega⟩
theorem in_lt {x : Int32} {n : Nat} (h : IN x n) (hn : n < 2 ^ 31) (c : ¬ x = nI n) : x.toNatClampNeg < n := by
  obtain ⟨k, hk, rfl⟩ := h
  rw [nI_clamp (by omega)]
  have : k ≠ n := fun e => c (by rw [e])
  omega
theorem nn_e {v : Int32} (h : 0 ≤ v) : v = nI v.toNatClampNeg := by
  obtain ⟨j, hj, rfl⟩ := nI_of (x := v) (fun z => by
    rw [Int32.lt_iff_toInt_lt] at z
    rw [Int32.le_iff_toInt_le] at h
    omega)
  rw [nI_clamp hj]
theorem lt_of_nle {x : Int32} {k n : Nat} (hx : IN x n) (hn : n < 2 ^ 31) (hk : k < 2 ^ 31) (c : ¬ x ≤ nI k) : k < n := by
  obtain ⟨j, hj, rfl⟩ := hx
  rw [nI_leI (by omega) hk] at c
  omega
theorem isSeat_t {f : Nat → Int32} {tb z : Int32} (hT : IN (f 1) 4) (h : ¬ fX7_isSeat f tb z = 0) : tb = nI tb.toNatClampNeg ∧ tb.toNatClampNeg < 4 ∧ tb.toNatClampNeg < (f 1).toNatClampNeg := by
  have k : ¬ fX7_isTable f tb = 0 := fun e => h (by unfold fX7_isSeat; rw [if_pos e])
  obtain ⟨a, b, c⟩ := in_nat (v := tb) (x := f 1) (n := 4) hT (by decide) k
  exact ⟨a, c, b⟩
theorem isSeat_tw {f : Nat → Int32} {tb z : Int32} (hT : IN (f 1) 4) (h : ¬ fX7_isSeat f tb z = 0) : TW tb ∧ tb ≠ -1 := by
  obtain ⟨a, b, -⟩ := isSeat_t hT h
  exact ⟨Or.inr ⟨_, b, a⟩, by rw [a]; exact nI_m1 (by omega)⟩
theorem RO_lt {f : Nat → Int32} {G v : Nat} {L : List Nat} (h : RO f 0 G L) (hv : v < (f 0).toNatClampNeg) : v < G := by
  rw [show f 0 = nI G from h.2.1, nI_clamp (by have := h.2.2.1; omega)] at hv
  exact hv
theorem nn_if {v : Int32} (h : nI (if 0 ≤ v then 0 else 1) = 0) : 0 ≤ v := by
  by_cases z : 0 ≤ v
  · exact z
  · rw [if_neg z] at h
    exact absurd h (by decide)
theorem RW_save {f M : Nat → Int32} {m : Nat} (hm : m ≤ 6) (em : M 1 = nI m) (h : RW f 0) : RW (fX7_save f M).1 0 := RW_row (b := 0) (b' := 0) (fun k hk => by rw [Nat.zero_add]; exact save_row0 hm em hk) (by decide) h

