theorem pr_eta {A B : Type} (x : A × B) : x = (x.1, x.2) := rfl
/-- the state that the class's reader comes to, no character refused -/
def PH (tf : Nat → Int32) : Nat → Nat → Int32 → Int32 → Prop
  | 0, _, s, t => s = t
  | d + 1, i, s, t => fX5_next s (tf i) ≠ -1 ∧ PH tf d (i + 1) (fX5_next s (tf i)) t
theorem PH_1 {tf : Nat → Int32} {i : Nat} {s t : Int32} (h : fX5_next s (tf i) = t) (ht : t ≠ -1) : PH tf 1 i s t := ⟨by rw [h]; exact ht, h⟩
theorem PH_add {tf : Nat → Int32} : ∀ {a b i : Nat} {s t u : Int32}, PH tf a i s t → PH tf b (i + a) t u → PH tf (a + b) i s u
  | 0, b, i, s, t, u, h1, h2 => by
    have h1 : s = t := h1
    subst h1
    rw [Nat.zero_add]; exact h2
  | a + 1, b, i, s, t, u, h1, h2 => by
    rw [show a + 1 + b = (a + b) + 1 by omega]
    exact ⟨h1.1, PH_add h1.2 (by rw [show i + 1 + a = i + (a + 1) by omega]; exact h2)⟩
theorem PH_s {tf : Nat → Int32} {a i j : Nat} {s t u : Int32} (h1 : PH tf a i s t) (hj : j = i + a) (h2 : fX5_next t (tf j) = u) (hu : u ≠ -1) : PH tf (a + 1) i s u := PH_add h1 (by rw [← hj]; exact PH_1 h2 hu)
theorem item_in {tf : Nat → Int32} {n k : Nat} (hn : n ≤ 60) (hk : k < n) : fX1_itemAt 60 tf (nI n) (nI k) = tf k := by
  unfold fX1_itemAt
  rw [if_neg (nI_pos (by omega)), if_neg (nI_ge hk (by omega)), if_neg (nI_ge (by omega) (by decide)), nI_clamp (by omega)]
theorem fb_path {tf : Nat → Int32} {n m : Nat} (hn : n ≤ 60) : ∀ {d i : Nat} {s t : Int32}, PH tf d i s t → i + d + m = n → lq1 (fX5_firstBroken_b4 tf (nI n)) (fX5_firstBroken_r4 tf (nI n)) (d + m) i s = lq1 (fX5_firstBroken_b4 tf (nI n)) (fX5_firstBroken_r4 tf (nI n)) m (i + d) t
  | 0, i, s, t, h, hm => by
    have h : s = t := h
    subst h
    rw [Nat.zero_add, Nat.add_zero]
  | d + 1, i, s, t, h, hm => by
    rw [show d + 1 + m = (d + m) + 1 by omega, lq1_s]
    unfold fX5_firstBroken_b4
    rw [item_in hn (by omega), if_neg h.1]
    have := fb_path (m := m) hn h.2 (by omega)
    unfold fX5_firstBroken_b4 at this
    rw [this, show i + 1 + d = i + (d + 1) by omega]
theorem ic_path {tf : Nat → Int32} {n m : Nat} (hn : n ≤ 60) : ∀ {d i : Nat} {s t : Int32}, PH tf d i s t → i + d + m = n → lq1 (fX5_isComplete_b4 tf (nI n)) fX5_isComplete_r4 (d + m) i s = lq1 (fX5_isComplete_b4 tf (nI n)) fX5_isComplete_r4 m (i + d) t
  | 0, i, s, t, h, hm => by
    have h : s = t := h
    subst h
    rw [Nat.zero_add, Nat.add_zero]
  | d + 1, i, s, t, h, hm => by
    rw [show d + 1 + m = (d + m) + 1 by omega, lq1_s]
    unfold fX5_isComplete_b4
    rw [item_in hn (by omega)]
    have := ic_path (m := m) hn h.2 (by omega)
    unfold fX5_isComplete_b4 at this
    rw [this, show i + 1 + d = i + (d + 1) by omega]
theorem next_m1 (a : Int32) : fX5_next (-1) a = -1 := by
  unfold fX5_next
  rw [if_neg (by decide), if_neg (by decide), if_neg (by decide), if_neg (by decide), if_neg (by decide), if_neg (by decide), if_neg (by decide), if_neg (by decide), if_neg (by decide)]
theorem ic_broken {tf : Nat → Int32} {u : Int32} : ∀ (m k : Nat), lq1 (fX5_isComplete_b4 tf u) fX5_isComplete_r4 m k (-1) = 0
  | 0, k => by rw [lq1_z]; decide
  | m + 1, k => by
    rw [lq1_s]
    unfold fX5_isComplete_b4
    rw [next_m1]
    have := ic_broken (tf := tf) (u := u) m (k + 1)
    unfold fX5_isComplete_b4 at this
    exact this
/-- what one character does -/
theorem n0_d : ∀ j : Nat, j < 10 → fX5_next 0 (nI (48 + j)) = if j = 1 then 1 else 2 := by decide +kernel
theorem n1_d : ∀ j : Nat, j < 6 → fX5_next 1 (nI (48 + j)) = 2 := by decide +kernel
theorem n3_d : ∀ j : Nat, j < 4 → fX5_next 3 (nI (48 + j)) = 4 := by decide +kernel
theorem n4_d : ∀ j : Nat, j < 8 → fX5_next 4 (nI (97 + j)) = 5 := by decide +kernel
theorem n6_d : ∀ j : Nat, j < 10 → fX5_next 6 (nI (48 + j)) = if j = 1 then 7 else 8 := by decide +kernel
theorem n7_d : ∀ j : Nat, j < 6 → fX5_next 7 (nI (48 + j)) = 8 := by decide +kernel
theorem n0_f {a : Int32} (h : a ≠ 45) (h2 : fX7_in a 48 57 = 0) : fX5_next 0 a = -1 := by
  unfold fX5_next fX5_firstDigit
  rw [if_pos rfl, if_neg h, if_pos (show fX5_isIn a 48 57 = 0 from h2)]
theorem n1_f {a : Int32} (h2 : fX7_in a 48 53 = 0) (h : a ≠ 64) : fX5_next 1 a = -1 := by
  unfold fX5_next fX5_only
  rw [if_neg (by decide), if_pos rfl, if_pos (show fX5_isIn a 48 53 = 0 from h2), if_neg h]
theorem n2_f {a : Int32} (h : a ≠ 64) : fX5_next 2 a = -1 := by
  unfold fX5_next fX5_only
  rw [if_neg (by decide), if_neg (by decide), if_pos rfl, if_neg h]
theorem n3_f {a : Int32} (h : fX7_in a 48 51 = 0) : fX5_next 3 a = -1 := by
  unfold fX5_next
  rw [if_neg (by decide), if_neg (by decide), if_neg (by decide), if_pos rfl, if_pos (show fX5_isIn a 48 51 = 0 from h)]
theorem n4_f {a : Int32} (h : fX7_in a 97 104 = 0) : fX5_next 4 a = -1 := by
  unfold fX5_next
  rw [if_neg (by decide), if_neg (by decide), if_neg (by decide), if_neg (by decide), if_pos rfl, if_pos (show fX5_isIn a 97 104 = 0 from h)]
theorem n5_f {a : Int32} (h : a ≠ 59) : fX5_next 5 a = -1 := by
  unfold fX5_next fX5_only
  rw [if_neg (by decide), if_neg (by decide), if_neg (by decide), if_neg (by decide), if_neg (by decide), if_pos rfl, if_neg h]
theorem n6_f {a : Int32} (h : fX7_in a 48 57 = 0) : fX5_next 6 a = -1 := by
  unfold fX5_next fX5_firstDigit
  rw [if_neg (by decide), if_neg (by decide), if_neg (by decide), if_neg (by decide), if_neg (by decide), if_neg (by decide), if_pos rfl, if_pos (show fX5_isIn a 48 57 = 0 from h)]
theorem n7_f {a : Int32} (h2 : fX7_in a 48 53 = 0) (h : a ≠ 59) : fX5_next 7 a = -1 := by
  unfold fX5_next fX5_only
  rw [if_neg (by decide), if_neg (by decide), if_neg (by decide), if_neg (by decide), if_neg (by decide), if_neg (by decide), if_neg (by decide), if_pos rfl, if_pos (show fX5_isIn a 48 53 = 0 from h2), if_neg h]
theorem n8_f {a : Int32} (h : a ≠ 59) : fX5_next 8 a = -1 := by
  unfold fX5_next fX5_only
  rw [if_neg (by decide), if_neg (by decide), if_neg (by decide), if_neg (by decide), if_neg (by decide), if_neg (by decide), if_neg (by decide), if_neg (by decide), if_pos rfl, if_neg h]
/-- the sign at a place; 0 behind the end -/
def SG (x : Nat → Int32) (n i : Nat) : Int32 := if i < n then x i else 0
theorem sign_SG {x M : Nat → Int32} {n i : Nat} (h3 : M 3 = nI n) (h4 : M 4 = nI i) (hn : n ≤ 60) (hi : i ≤ n) : fX7_sign x M = SG x n i := by
  unfold fX7_sign SG
  rw [h3, h4, nI_clamp (by omega), nI_clamp (by omega)]
  by_cases c : i < n
  · rw [if_neg (nI_ge c (by omega)), if_pos c]
  · rw [if_pos (nI_le (by omega) (by omega)), if_neg c]
/-- the reader's place -/
def AT (M : Nat → Int32) (n i : Nat) : Prop := n ≤ 60 ∧ i ≤ n ∧ M 3 = nI n ∧ M 4 = nI i
theorem AT.tx {M : Nat → Int32} {n i : Nat} (h : AT M n i) : TX M := by
  obtain ⟨h1, h2, h3, h4⟩ := h
  refine ⟨⟨n, h1, h3⟩, ⟨i, by omega, h4⟩, ?_⟩
  rw [h3, h4, nI_clamp (by omega), nI_clamp (by omega)]
  exact h2
theorem AT.c4 {M : Nat → Int32} {n i : Nat} (h : AT M n i) : (M 4).toNatClampNeg = i := by rw [h.2.2.2, nI_clamp (by have := h.1; have := h.2.1; omega)]
theorem AT.c3 {M : Nat → Int32} {n i : Nat} (h : AT M n i) : (M 3).toNatClampNeg = n := by rw [h.2.2.1, nI_clamp (by have := h.1; omega)]
theorem AT.sg {x M : Nat → Int32} {n i : Nat} (h : AT M n i) : fX7_sign x M = SG x n i := sign_SG h.2.2.1 h.2.2.2 h.1 h.2.1
theorem AT.step {M : Nat → Int32} {n i : Nat} (h : AT M n i) (hi : i < n) : AT (upd M 4 (nI ((M 4).toNatClampNeg + 1))) n (i + 1) := by
  refine ⟨h.1, hi, ?_, ?_⟩
  · rw [upd_ne (by decide)]; exact h.2.2.1
  · rw [upd_eq, h.c4]
theorem AT.keep {M : Nat → Int32} {n i k : Nat} {v : Int32} (h : AT M n i) (h3 : k ≠ 3) (h4 : k ≠ 4) : AT (upd M k v) n i := by
  refine ⟨h.1, h.2.1, ?_, ?_⟩
  · rw [upd_ne (Ne.symm h3)]; exact h.2.2.1
  · rw [upd_ne (Ne.symm h4)]; exact h.2.2.2
theorem takes_is {x M U : Nat → Int32} {n i : Nat} {v r : Int32} (hA : AT M n i) (hv : v ≠ 0) (h : (r, U) = fX7_takes x M v) :
    (i < n ∧ x i = v ∧ r = 1 ∧ AT U n (i + 1) ∧ ∀ k : Nat, k ≠ 4 → U k = M k) ∨ (SG x n i ≠ v ∧ r = 0 ∧ AT U n i ∧ ∀ k : Nat, U k = M k) := by
  rcases takes_at hA.tx hv h with ⟨h1, h2, rfl, h4⟩ | ⟨h1, h2, rfl⟩
  · rw [hA.c4, hA.c3] at h4
    rw [hA.sg] at h1
    unfold SG at h1
    rw [if_pos h4] at h1
    exact Or.inl ⟨h4, h1, h2, hA.step h4, fun k hk => upd_ne hk⟩
  · rw [hA.sg] at h1
    exact Or.inr ⟨h1, h2, hA, fun _ => rfl⟩
theorem reads_is {x M U : Nat → Int32} {n i : Nat} {r : Int32} {lo hi : Nat} (hA : AT M n i) (hlo : 0 < lo) (hl : lo ≤ hi) (hhi : hi < 2 ^ 30) (h : (r, U) = fX7_readsOne x M (nI lo) (nI hi)) :
    (∃ j : Nat, i < n ∧ x i = nI (lo + j) ∧ lo + j ≤ hi ∧ r = nI j ∧ AT U n (i + 1) ∧ ∀ k : Nat, k ≠ 4 → U k = M k) ∨ (fX7_in (SG x n i) (nI lo) (nI hi) = 0 ∧ r = -1 ∧ AT U n i ∧ ∀ k : Nat, U k = M k) := by
  rcases readsOne_at hA.tx hlo hl hhi h with ⟨j, h1, h2, h3, rfl, h4⟩ | ⟨h1, h2, rfl⟩
  · rw [hA.c4, hA.c3] at h4
    rw [hA.sg] at h1
    unfold SG at h1
    rw [if_pos h4] at h1
    exact Or.inl ⟨j, h4, h1, h2, h3, hA.step h4, fun k hk => upd_ne hk⟩
  · rw [hA.sg] at h1
    exact Or.inr ⟨h1, h2, hA, fun _ => rfl⟩
/-- a guest's number is read -/
theorem guest_at {x M U : Nat → Int32} {n i : Nat} {r : Int32} (hA : AT M n i) (h : (r, U) = fX7_readsGuest x M) :
    (fX7_in (SG x n i) 48 57 = 0 ∧ r = 0 ∧ AT U n i ∧ U 6 = -1 ∧ ∀ k : Nat, k ≠ 4 → k ≠ 6 → U k = M k) ∨
    (∃ j : Nat, j < 10 ∧ i < n ∧ x i = nI (48 + j) ∧ (j = 1 → fX7_in (SG x n (i + 1)) 48 53 = 0) ∧ r = 1 ∧ AT U n (i + 1) ∧ U 6 = nI j ∧ ∀ k : Nat, k ≠ 4 → k ≠ 6 → U k = M k) ∨
    (∃ j : Nat, j < 6 ∧ i + 1 < n ∧ x i = nI (48 + 1) ∧ x (i + 1) = nI (48 + j) ∧ r = 1 ∧ AT U n (i + 2) ∧ U 6 = nI (10 + j) ∧ ∀ k : Nat, k ≠ 4 → k ≠ 6 → U k = M k) := by
  unfold fX7_readsGuest at h
  obtain ⟨r6, U6, e6⟩ : ∃ (r6 : Int32) (U6 : Nat → Int32), fX7_readsOne x M 48 57 = (r6, U6) := ⟨_, _, pr_eta _⟩
  rw [e6, bd2_eq] at h
  dsimp only at h
  rcases reads_is (lo := 48) (hi := 57) hA (by decide) (by decide) (by decide) e6.symm with ⟨j, h1, h2, h3, rfl, h5, h6⟩ | ⟨h1, rfl, h5, h6⟩
  · have hA6 : AT (upd U6 6 (nI j)) n (i + 1) := h5.keep (by decide) (by decide)
    have k6 : (upd U6 6 (nI j)) 6 = nI j := upd_eq
    have ko : ∀ k : Nat, k ≠ 4 → k ≠ 6 → (upd U6 6 (nI j)) k = M k := fun k a b => (upd_ne b).trans (h6 k a)
    by_cases c : j = 1
    · subst c
      rw [if_pos (show nI 1 = 1 from rfl), hA6.sg] at h
      by_cases c2 : fX7_in (SG x n (i + 1)) 48 53 = 0
      · rw [if_pos c2, bd_eq, k6, if_neg (nI_m1 (by decide))] at h
        cases h
        exact Or.inr (Or.inl ⟨1, by decide, h1, h2, fun _ => c2, rfl, hA6, k6, ko⟩)
      · rw [if_neg c2] at h
        obtain ⟨r4, U4, e4⟩ : ∃ (r4 : Int32) (U4 : Nat → Int32), fX7_readsOne x (upd U6 6 (nI 1)) 48 53 = (r4, U4) := ⟨_, _, pr_eta _⟩
        rw [e4, bd2_eq, bd_eq] at h
        rcases reads_is (lo := 48) (hi := 53) hA6 (by decide) (by decide) (by decide) e4.symm with ⟨j, g1, g2, g3, rfl, g5, g6⟩ | ⟨g1, _⟩
        · rw [show (upd U4 6 (10 + nI j)) 6 = nI (10 + j) from upd_eq.trans (nI_add 10 j), if_neg (nI_m1 (by omega))] at h
          cases h
          exact Or.inr (Or.inr ⟨j, by omega, g1, h2, g2, rfl, g5.keep (by decide) (by decide), upd_eq.trans (nI_add 10 j), fun k a b => (upd_ne b).trans ((g6 k a).trans (ko k a b))⟩)
        · exact absurd g1 c2
    · rw [if_neg (show ¬ nI j = 1 from fun e => c ((nI_eq (b := 1) (by omega) (by decide)).mp e)), bd_eq, k6, if_neg (nI_m1 (by omega))] at h
      cases h
      exact Or.inr (Or.inl ⟨j, by omega, h1, h2, fun e => absurd e c, rfl, hA6, k6, ko⟩)
  · rw [if_neg (by decide), bd_eq, show (upd U6 6 (-1)) 6 = -1 from upd_eq, if_pos rfl] at h
    cases h
    exact Or.inl ⟨h1, rfl, h5.keep (by decide) (by decide), upd_eq, fun k a b => (upd_ne b).trans (h6 k)⟩
/-- a number of the class -/
theorem num_1 {tf : Nat → Int32} {n i j : Nat} (hn : n ≤ 60) (hi : i < n) (h : tf i = nI (48 + j)) (hj : j < 10) : fX5_numberIn tf (nI n) i (nI (i + 1)) = nI j := by
  have e : ∀ j : Nat, j < 10 → ((10 * (0 : Int32)) + nI (48 + j)) - 48 = nI j := by decide +kernel
  unfold fX5_numberIn
  have st : ∀ (k : Nat) (y : Int32) (nx : Int32 → Int32), fX5_numberIn_b5 tf (nI n) k y nx = nx (((10 * y) + (fX1_itemAt 60 tf (nI n) (nI k))) - 48) := fun _ _ _ => rfl
  rw [nI_clamp (by omega), show i + 1 - i = 1 by omega, lq1_s, st, lq1_z]
  unfold fX5_numberIn_r5
  rw [item_in hn hi, h]
  exact e j hj
theorem num_2 {tf : Nat → Int32} {n i j : Nat} (hn : n ≤ 60) (hi : i + 1 < n) (h1 : tf i = nI (48 + 1)) (h : tf (i + 1) = nI (48 + j)) (hj : j < 6) : fX5_numberIn tf (nI n) i (nI (i + 2)) = nI (10 + j) := by
  have e : ∀ j : Nat, j < 6 → ((10 * (((10 * (0 : Int32)) + nI (48 + 1)) - 48)) + nI (48 + j)) - 48 = nI (10 + j) := by decide +kernel
  unfold fX5_numberIn
  have st : ∀ (k : Nat) (y : Int32) (nx : Int32 → Int32), fX5_numberIn_b5 tf (nI n) k y nx = nx (((10 * y) + (fX1_itemAt 60 tf (nI n) (nI k))) - 48) := fun _ _ _ => rfl
  rw [nI_clamp (by omega), show i + 2 - i = 2 by omega, lq1_s, st, lq1_s, st, lq1_z]
  unfold fX5_numberIn_r5
  rw [item_in hn (by omega), item_in hn hi, h1, h]
  exact e j hj
