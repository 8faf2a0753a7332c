/-- the buffer of both sides -/
def XT (tf : Nat → Int32) (tu : Int32) (x M : Nat → Int32) : Prop := ∃ n : Nat, n ≤ 60 ∧ tu = nI n ∧ M 3 = nI n ∧ ∀ k : Nat, k < n → x k = tf k ∧ ∃ c : Nat, 33 ≤ c ∧ c ≤ 126 ∧ tf k = nI c
theorem XT_M {tf : Nat → Int32} {tu : Int32} {x M M' : Nat → Int32} (h : XT tf tu x M) (e : M' 3 = M 3) : XT tf tu x M' := by
  obtain ⟨n, h1, h2, h3, h4⟩ := h
  exact ⟨n, h1, h2, e.trans h3, h4⟩
/-- append -/
theorem append_XT {tf : Nat → Int32} {tu : Int32} {x M : Nat → Int32} (h : XT tf tu x M) (v : Int32) :
    (fX6_append tf tu v = Sum.inl 0 ∧ fX7_append x M v = (0, (x, upd M 0 (nI 1)))) ∨ (fX6_append tf tu v = Sum.inl 1 ∧ fX7_append x M v = (0, (x, upd M 0 (nI 2)))) ∨ ∃ (r : Int32) (tf' : Nat → Int32) (tu' : Int32) (x' M' : Nat → Int32), fX6_append tf tu v = Sum.inr (r, (tf', tu')) ∧ fX7_append x M v = (r, (x', M')) ∧ M' 0 = 0 ∧ (∀ k : Nat, k ≠ 0 → k ≠ 3 → M' k = M k) ∧ XT tf' tu' x' M' := by
  obtain ⟨n, hn, e1, e2, e3⟩ := h
  have h10 : ¬ (1 : Int32) = 0 := by decide
  have t1 : (33 : Int32).toInt = 33 := rfl
  have t3 : (126 : Int32).toInt = 126 := rfl
  unfold fX6_append fX7_append fX7_in fX1_isFull
  by_cases k1 : v < 33
  · rw [if_pos k1, if_pos k1, if_pos rfl, bd_eq, bd2_eq, holds_p (by decide) (by decide)]
    exact Or.inl ⟨rfl, rfl⟩
  · by_cases k2 : v ≤ 126
    · have k3 : ¬ (126 : Int32) < v := by
        rw [Int32.lt_iff_toInt_lt]; rw [Int32.le_iff_toInt_le] at k2; omega
      obtain ⟨j, hj, rfl⟩ := nI_of2 (n := 126) (x := v) (M := 126) rfl (fun e => k1 (by
        rw [Int32.lt_iff_toInt_lt] at e ⊢
        have : (0 : Int32).toInt = 0 := rfl
        omega)) k2
      have hj2 : 33 ≤ j := Nat.le_of_not_lt (fun e => k1 (show nI j < nI 33 from nI_lt e (by decide)))
      rw [if_neg k1, if_neg k1, if_pos k2, if_neg k3, if_neg h10, e2, bd_eq, bd_eq, bd2_eq, e1]
      by_cases c : n = 60
      · subst c
        rw [if_neg (show ¬ nI 60 < nI 60 by decide), if_neg h10, if_pos (show nI 60 = 60 from rfl), holds_p (by decide) (by decide)]
        exact Or.inr (Or.inl ⟨rfl, rfl⟩)
      · have hl : fX1_addLast 60 tf (nI n) (nI j) = (upd tf n (nI j), nI (n + 1)) := by
          unfold fX1_addLast fX1_isFull
          rw [if_pos (show nI n < nI 60 from nI_lt (by omega) (by decide)), if_pos rfl, bd_eq, put_in (by omega) (by decide), nI_1]
        rw [if_pos (show nI n < nI 60 from nI_lt (by omega) (by decide)), if_pos rfl, if_neg (show ¬ nI n = 60 from fun e => c ((nI_eq (b := 60) (by omega) (by decide)).mp e)), holds_0, hl]
        have e4 : (upd M 0 0) 3 = nI n := (upd_ne (by decide)).trans e2
        refine Or.inr (Or.inr ⟨nI (n + 1), upd tf n (nI j), nI (n + 1), upd x n (nI j), upd (upd M 0 0) 3 (nI (n + 1)), rfl, ?_, ?_, fun k h1 h2 => by rw [upd_ne h2, upd_ne h1], n + 1, by omega, rfl, upd_eq, fun k hk => ?_⟩)
        · refine (if_neg h10).trans ?_
          show ((upd M 0 0) 3 + 1, upd x ((upd M 0 0) 3).toNatClampNeg (nI j), upd (upd M 0 0) 3 ((upd M 0 0) 3 + 1)) = _
          rw [e4, nI_clamp (by omega), nI_1]
        · rw [upd_ne (by decide), upd_eq]
        · by_cases ck : k = n
          · subst ck
            rw [upd_eq, upd_eq]
            exact ⟨rfl, j, hj2, hj, rfl⟩
          · rw [upd_ne ck, upd_ne ck]
            exact e3 k (by omega)
    · have k3 : (126 : Int32) < v := by
        rw [Int32.lt_iff_toInt_lt]; rw [Int32.le_iff_toInt_le] at k2; omega
      rw [if_neg k1, if_neg k1, if_neg k2, if_pos k3, if_pos rfl, bd_eq, bd2_eq, holds_p (by decide) (by decide)]
      exact Or.inl ⟨rfl, rfl⟩
/-- clearBuffer -/
theorem clear_XT {tf : Nat → Int32} {tu : Int32} {x M : Nat → Int32} (h : XT tf tu x M) : ∃ (r : Int32) (tf' : Nat → Int32) (tu' : Int32) (M' : Nat → Int32), fX6_clearBuffer tf tu = (r, (tf', tu')) ∧ fX7_clearBuffer M = (r, M') ∧ M' 0 = 0 ∧ (∀ k : Nat, k ≠ 0 → k ≠ 3 → M' k = M k) ∧ XT tf' tu' x M' := by
  obtain ⟨n, hn, e1, e2, e3⟩ := h
  refine ⟨nI n, tf, 0, upd (upd M 0 0) 3 0, ?_, ?_, ?_, fun k h1 h2 => by rw [upd_ne h2, upd_ne h1], 0, by omega, rfl, upd_eq, fun k hk => absurd hk (Nat.not_lt_zero k)⟩
  · rw [e1]; rfl
  · unfold fX7_clearBuffer
    rw [e2]
  · rw [upd_ne (by decide), upd_eq]


