theorem copies_at (f : Nat → Int32) {a c : Nat} (h : a ≠ c) : (∀ k : Nat, k < 118 → fX7_copies f a c (118 * c + k) = f (118 * a + k)) ∧ (∀ i : Nat, (i < 118 * c ∨ 118 * c + 118 ≤ i) → fX7_copies f a c i = f i) := by
  unfold fX7_copies
  refine lq1_ind (N := 118) (fun k U => (∀ j : Nat, j < k → U (118 * c + j) = f (118 * a + j)) ∧ (∀ i : Nat, (i < 118 * c ∨ 118 * c + k ≤ i) → U i = f i)) (fun R : Nat → Int32 => (∀ k : Nat, k < 118 → R (118 * c + k) = f (118 * a + k)) ∧ (∀ i : Nat, (i < 118 * c ∨ 118 * c + 118 ≤ i) → R i = f i)) (fun k U nx hk hI hn => ?_) (fun U hI => hI) _ _ _ (Nat.zero_add _) ⟨fun j hj => absurd hj (Nat.not_lt_zero _), fun i _ => rfl⟩
  unfold fX7_copies_b2
  refine hn _ ⟨fun j hj => ?_, fun i hi => ?_⟩
  · by_cases hjk : j = k
    · subst hjk
      rw [upd_eq]
      exact hI.2 _ (by omega)
    · rw [upd_ne (by omega)]
      exact hI.1 j (by omega)
  · rw [upd_ne (by omega)]
    exact hI.2 i (by omega)
/-- a row copied is the row: r and r' any of the nine -/
theorem copies_row (f : Nat → Int32) {a c r k : Nat} (h : a ≠ c) (hk : k < 118) : fX7_copies f a c (118 * r + k) = f (118 * (if r = c then a else r) + k) := by
  obtain ⟨h1, h2⟩ := copies_at f h
  split
  · rename_i e
    subst e
    exact h1 k hk
  · exact h2 _ (by omega)
/-- where the row r comes from when a state is saved, m saved before -/
def savSrc (m r : Nat) : Nat := if m < 6 then (if r = m + 1 then 0 else r) else (if r = 6 then 0 else if 1 ≤ r ∧ r < 6 then r + 1 else r)
theorem save_at {f M : Nat → Int32} {m : Nat} (hm : m ≤ 6) (em : M 1 = nI m) : (∀ r k : Nat, k < 118 → (fX7_save f M).1 (118 * r + k) = f (118 * savSrc m r + k)) ∧ (fX7_save f M).2 = upd M 1 (nI (if m < 6 then m + 1 else 6)) := by
  by_cases h6 : m = 6
  · subst h6
    have e : fX7_save f M = (fX7_copies (fX7_copies (fX7_copies (fX7_copies (fX7_copies (fX7_copies f 2 1) 3 2) 4 3) 5 4) 6 5) 0 6, upd M 1 (nI 6)) := by
      unfold fX7_save
      rw [show ((6 : Int32).toNatClampNeg) - 1 = 5 from by decide]
      have e6 : M 1 = 6 := em
      simp only [lq1_s, lq1_z, fX7_save_b2, fX7_save_r2, bd, e6, if_true, Int32.le_refl, show (6 : Int32) + nI 0 = nI 6 from by decide, show (nI 6).toNatClampNeg = 6 from by decide]
    rw [e]
    refine ⟨fun r k hk => ?_, rfl⟩
    dsimp only
    rw [copies_row _ (by decide) hk, copies_row _ (by decide) hk, copies_row _ (by decide) hk, copies_row _ (by decide) hk, copies_row _ (by decide) hk, copies_row _ (by decide) hk]
    congr 3
    unfold savSrc
    by_cases h : r < 9
    · have : r = 0 ∨ r = 1 ∨ r = 2 ∨ r = 3 ∨ r = 4 ∨ r = 5 ∨ r = 6 ∨ r = 7 ∨ r = 8 := by omega
      rcases this with rfl | rfl | rfl | rfl | rfl | rfl | rfl | rfl | rfl <;> first | decide | simp
    · simp [show ¬ (6 : Nat) < 6 by decide, show r ≠ 6 by omega, show r ≠ 5 by omega, show r ≠ 4 by omega, show r ≠ 3 by omega, show r ≠ 2 by omega, show r ≠ 1 by omega, show ¬ r < 6 by omega]
  · have hm6 : m < 6 := by omega
    have hne : ¬ M 1 = 6 := fun z => h6 ((nI_eq (b := 6) (by omega) (by decide)).mp (em.symm.trans z))
    have hle : ¬ (6 : Int32) ≤ M 1 := fun z => by
      rw [em] at z
      exact absurd ((nI_leI (a := 6) (by decide) (by omega)).mp z) (by omega)
    have e : fX7_save f M = (fX7_copies f 0 (m + 1), upd M 1 (nI (m + 1))) := by
      unfold fX7_save
      rw [show ((6 : Int32).toNatClampNeg) - 1 = 4 + 1 from by decide, lq1_s]
      unfold fX7_save_b2
      rw [if_neg hne, if_neg hle]
      unfold bd
      dsimp only
      rw [em, nI_add, nI_clamp (by omega)]
    rw [e]
    refine ⟨fun r k hk => ?_, by rw [if_pos hm6]⟩
    dsimp only
    rw [copies_row _ (by omega) hk]
    unfold savSrc
    rw [if_pos hm6]
theorem save_row0 {f M : Nat → Int32} {m : Nat} (hm : m ≤ 6) (em : M 1 = nI m) {k : Nat} (hk : k < 118) : (fX7_save f M).1 k = f k := by
  have h := (save_at (f := f) hm em).1 0 k hk
  have e : savSrc m 0 = 0 := by unfold savSrc; split <;> simp
  rw [e] at h
  simpa using h
theorem RW_row {f f' : Nat → Int32} {b b' : Nat} (h : ∀ k : Nat, k < 118 → f' (b' + k) = f (b + k)) (hb : b' ≤ 944) (hR : RW f b) : RW f' b' := by
  obtain ⟨rB, rG, rT, rF, rS, rTW, rWW⟩ := hR
  refine ⟨hb, ?_, ?_, ?_, ?_, fun g hg => ?_, fun g hg => ?_⟩
  · rw [h 0 (by decide)]; exact rG
  · rw [h 1 (by decide)]; exact rT
  · rw [h 2 (by decide)]; exact rF
  · rw [h 3 (by decide)]; exact rS
  · rw [show b' + 38 + 5 * g + 3 = b' + (38 + 5 * g + 3) by omega, h _ (by omega), show b + (38 + 5 * g + 3) = b + 38 + 5 * g + 3 by omega]; exact rTW g hg
  · rw [show b' + 38 + 5 * g + 2 = b' + (38 + 5 * g + 2) by omega, h _ (by omega), show b + (38 + 5 * g + 2) = b + 38 + 5 * g + 2 by omega]; exact rWW g hg
theorem RO_row {f f' : Nat → Int32} {b b' G : Nat} {L : List Nat} (h : ∀ k : Nat, k < 118 → f' (b' + k) = f (b + k)) (hb : b' ≤ 944) (hR : RO f b G L) : RO f' b' G L := by
  have hlen := hR.len
  obtain ⟨hW, hG, hG16, hnd, hS, hO, hM⟩ := hR
  refine ⟨RW_row h hb hW, ?_, hG16, hnd, ?_, fun k x hx => ?_, fun g => ?_⟩
  · rw [h 0 (by decide)]; exact hG
  · rw [h 3 (by decide)]; exact hS
  · have hk : k < L.length := (List.getElem?_eq_some_iff.mp hx).1
    rw [show b' + 22 + k = b' + (22 + k) by omega, h _ (by omega), show b + (22 + k) = b + 22 + k by omega]; exact hO k x hx
  · rw [hM g]
    by_cases hg : g < G
    · rw [show b' + 38 + 5 * g + 3 = b' + (38 + 5 * g + 3) by omega, h _ (by omega), show b + (38 + 5 * g + 3) = b + 38 + 5 * g + 3 by omega]
    · simp [hg]

