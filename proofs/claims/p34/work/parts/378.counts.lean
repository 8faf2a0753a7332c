theorem i1 : (nI 1 : Int32) = 1 := rfl
theorem i0 : (nI 0 : Int32) = 0 := rfl
theorem familyAt_sum {P : PV} {f : Nat → Int32} {b G T : Nat} {L : List Nat} (h : REL P f b G T L) {t : Nat} (ht : t < T) (v : Int32) : fX2_familyAt P (nI t) v = sm G (fun g => if fX7_of f b g 3 = nI t then (if fX7_of f b g 0 = v then 1 else 0) else 0) := by
  have hG := h.wf.G16
  have hT := h.wf.hT
  obtain ⟨n, hn3, hn8, hn⟩ := h.wf.sts t ht
  refine Eq.trans ?_ (seat_guest h.wf ht hn hn8 (fun g _ => if fX7_of f b g 0 = v then 1 else 0))
  unfold fX2_familyAt
  rw [h.seats (by omega), hn, nI_clamp (by omega)]
  refine lq1_sum0 (r := fX2_familyAt_r5) _ (fun z x nx hz => ?_)
  unfold fX2_familyAt_b5
  rw [bd_eq, h.hold ht (by omega)]
  rcases who_is h.wf (nI t) (nI z) with ⟨g, h1, h2, h3, h4⟩ | ⟨h1, h2⟩
  · rw [h4, if_neg (nI_m1 (by omega)), if_neg (nI_m1 (by omega)), h.rat (by decide) (by omega), nI_clamp (by omega)]
    by_cases c : fX7_of f b g 0 = v
    · rw [if_pos c, if_pos c]
    · rw [if_neg c, if_neg c, Int32.add_zero]
  · rw [h2, if_pos rfl, if_pos rfl, Int32.add_zero]
theorem sitting_sum {f : Nat → Int32} {G : Nat} (hG : (f 0).toNatClampNeg = G) (tb v : Int32) : fX7_sitting f tb v = sm G (fun g => if fX7_of f 0 g 3 = tb then (if fX7_of f 0 g 0 = v then 1 else 0) else 0) := by
  unfold fX7_sitting
  rw [hG]
  refine lq1_sum0 (r := fX7_sitting_r5) _ (fun k x nx _ => ?_)
  unfold fX7_sitting_b5
  rw [bd_eq]
  by_cases c : fX7_of f 0 k 3 = tb
  · rw [if_pos c, if_pos c]
    by_cases c2 : fX7_of f 0 k 0 = v
    · rw [if_pos c2, if_pos c2]; rfl
    · rw [if_neg c2, if_neg c2]; rfl
  · rw [if_neg c, if_neg c]; rfl
theorem familyAt_eq {P : PV} {f : Nat → Int32} {G T : Nat} {L : List Nat} (h : REL P f 0 G T L) {t : Nat} (ht : t < T) (v : Int32) : fX2_familyAt P (nI t) v = fX7_sitting f (nI t) v := (familyAt_sum h ht v).trans (sitting_sum (h.wf.gN) (nI t) v).symm
/-- counts are small -/
theorem sm_01 {u : Nat → Int32} : ∀ {n : Nat}, n ≤ 16 → (∀ i : Nat, i < n → u i = 0 ∨ u i = 1) → ∃ k : Nat, k ≤ n ∧ sm n u = nI k
  | 0, _, _ => ⟨0, Nat.le_refl 0, rfl⟩
  | n + 1, hn, h => by
    obtain ⟨k, h1, h2⟩ := sm_01 (n := n) (by omega) (fun i hi => h i (Nat.lt_succ_of_lt hi))
    rcases h n (Nat.lt_succ_self n) with e | e
    · exact ⟨k, by omega, by show sm n u + u n = nI k; rw [h2, e, Int32.add_zero]⟩
    · exact ⟨k + 1, by omega, by show sm n u + u n = nI (k + 1); rw [h2, e, ← nI_1]⟩
theorem sitting_nat {f : Nat → Int32} {G T : Nat} {L : List Nat} (h : WF f 0 G T L) (tb v : Int32) : ∃ k : Nat, k ≤ 16 ∧ fX7_sitting f tb v = nI k := by
  have hG := h.G16
  obtain ⟨k, h1, h2⟩ := sm_01 (u := fun g => if fX7_of f 0 g 3 = tb then (if fX7_of f 0 g 0 = v then 1 else 0) else 0) h.G16 (fun i _ => by
    by_cases c : fX7_of f 0 i 3 = tb
    · by_cases c2 : fX7_of f 0 i 0 = v
      · exact Or.inr (by show (if _ then _ else _) = _; rw [if_pos c, if_pos c2])
      · exact Or.inl (by show (if _ then _ else _) = _; rw [if_pos c, if_neg c2])
    · exact Or.inl (if_neg c))
  exact ⟨k, by omega, (sitting_sum h.gN tb v).trans h2⟩
theorem rises_eq {P : PV} {f : Nat → Int32} {G T : Nat} {L : List Nat} (h : REL P f 0 G T L) {t : Nat} (ht : t < T) {a c : Nat} (ha : a < 6) (hc : c < 6) (hac : a ≠ c) : fX2_familyThatRises P (nI t) (nI a) (nI c) = fX7_leaving f (nI t) (nI a) (nI c) := by
  unfold fX2_familyThatRises fX7_leaving
  rw [familyAt_eq h ht, familyAt_eq h ht, bd_eq]
  obtain ⟨k, hk, ek⟩ := sitting_nat h.wf (nI t) (nI a)
  obtain ⟨j, hj, ej⟩ := sitting_nat h.wf (nI t) (nI c)
  rw [ek, ej]
  have d : ∀ k : Nat, k < 17 → ∀ j : Nat, j < 17 → ∀ x y : Int32, (if nI k = nI j then x else (if nI j ≤ nI k then y else x)) = (if nI k = nI j then x else (if nI j ≤ nI k then y else x)) := fun _ _ _ _ _ _ => rfl
  have e1 : (if nI a < nI c then nI c else nI a) = (if nI a ≤ nI c then nI c else nI a) := by
    by_cases c1 : a ≤ c
    · rw [if_pos (nI_lt (by omega) (by omega)), if_pos (nI_le c1 (by omega))]
    · rw [if_neg (nI_nlt (by omega) (by omega)), if_neg (nI_ge (by omega) (by omega))]
  rw [e1]
  by_cases c1 : nI k = 0
  · rw [if_pos c1, if_pos c1]
  · rw [if_neg c1, if_neg c1]
    by_cases c2 : nI j = 0
    · rw [if_pos c2, if_pos c2]
    · rw [if_neg c2, if_neg c2]
      rcases Nat.lt_trichotomy k j with c3 | c3 | c3
      · rw [if_neg (fun e => by have := (nI_eq (by omega) (by omega)).mp e; omega), if_neg (nI_ge c3 (by omega)), if_neg (nI_ge c3 (by omega))]
      · subst c3
        rw [if_pos rfl, if_pos (nI_le (Nat.le_refl k) (by omega)), if_pos (nI_le (Nat.le_refl k) (by omega))]
      · rw [if_neg (fun e => by have := (nI_eq (by omega) (by omega)).mp e; omega), if_pos (nI_le (by omega) (by omega)), if_pos (nI_le (by omega) (by omega)), if_neg (nI_ge c3 (by omega))]
theorem standing_eq {P : PV} {f : Nat → Int32} {G T : Nat} {L : List Nat} (h : REL P f 0 G T L) {a c : Nat} (ha : a < 6) (hc : c < 6) (hac : a ≠ c) : fX2_risersOfFeud P (nI a) (nI c) = fX7_standing f (nI a) (nI c) := by
  have hT := h.wf.hT
  have eT : (f 1).toNatClampNeg = T := by
    have := h.wf.tN
    rw [Nat.zero_add] at this
    exact this
  unfold fX2_risersOfFeud fX7_standing
  rw [hasFeud_eq h ha hc]
  by_cases c1 : fX7_feudPlace f 0 (fX7_feudOf (nI a) (nI c)) = -1
  · rw [if_pos c1, if_pos c1, if_pos rfl]
    unfold fX7_leavers
    rw [h.pt, nI_clamp (by omega), eT]
    refine (lq1_sum0 (r := fX2_risersOfFeud_r16) (fun t => if fX7_leaving f (nI t) (nI a) (nI c) = -1 then 0 else fX7_sitting f (nI t) (fX7_leaving f (nI t) (nI a) (nI c))) (fun k x nx hk => ?_)).trans (lq1_sum0 (r := fX7_leavers_r5) _ (fun k x nx hk => ?_)).symm
    · unfold fX2_risersOfFeud_b16
      rw [bd_eq, rises_eq h hk ha hc hac, familyAt_eq h hk]
      by_cases c2 : fX7_leaving f (nI k) (nI a) (nI c) = -1
      · rw [if_pos c2, if_pos c2, Int32.add_zero]
      · rw [if_neg c2, if_neg c2]
    · unfold fX7_leavers_b5
      rw [bd_eq]
  · rw [if_neg c1, if_neg c1, if_neg (by decide)]

