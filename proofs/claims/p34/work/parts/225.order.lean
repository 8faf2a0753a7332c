/-! the reference's rows whole: the order of those who sit is a list -/
def RO (f : Nat → Int32) (b G : Nat) (L : List Nat) : Prop := RW f b ∧ f (b + 0) = nI G ∧ G ≤ 16 ∧ L.Nodup ∧ f (b + 3) = nI L.length ∧ (∀ (k x : Nat), L[k]? = some x → f (b + 22 + k) = nI x) ∧ (∀ g : Nat, g ∈ L ↔ g < G ∧ f (b + 38 + 5 * g + 3) ≠ -1)
theorem RO.len {f : Nat → Int32} {b G : Nat} {L : List Nat} (h : RO f b G L) : L.length ≤ G := nodup_le G L h.2.2.2.1 (fun x hx => ((h.2.2.2.2.2.2 x).mp hx).1)
/-- who stands leaves a place in the order -/
theorem RO.len15 {f : Nat → Int32} {b G g : Nat} {L : List Nat} (h : RO f b G L) (hg : g < G) (hs : f (b + 38 + 5 * g + 3) = -1) : L.length ≤ 15 := by
  obtain ⟨hW, hG, hG16, hnd, hS, hO, hM⟩ := h
  have hn : g ∉ L := fun hm => ((hM g).mp hm).2 hs
  have h2 : (g :: L).length ≤ G := nodup_le G (g :: L) (List.nodup_cons.mpr ⟨hn, hnd⟩) (fun x hx => by
    rcases List.mem_cons.mp hx with rfl | hx
    · exact hg
    · exact ((hM x).mp hx).1)
  simp only [List.length_cons] at h2
  omega
theorem take_filter_snoc {L : List Nat} {k x : Nat} (p : Nat → Bool) (h : L[k]? = some x) : (L.take (k + 1)).filter p = (L.take k).filter p ++ (if p x then [x] else []) := by
  rw [List.take_succ, h, List.filter_append]
  congr 1
  simp [List.filter_cons]
theorem standsUp_loop {f : Nat → Int32} {b g : Nat} {L : List Nat} (hb : b ≤ 944) (hL16 : L.length ≤ 16) (hO : ∀ (k x : Nat), L[k]? = some x → f (b + 22 + k) = nI x) (hlt : ∀ x ∈ L, x < 16) (hg : g < 16) (r : Nat → (Nat → Int32) → (Nat → Int32)) (Z : (Nat → Int32) → Prop)
    (hr : ∀ U : Nat → Int32, (∀ i, (i < b + 22 ∨ b + 22 + 16 ≤ i) → U i = f i) → (∀ (j y : Nat), (L.filter (fun x => decide (x ≠ g)))[j]? = some y → U (b + 22 + j) = nI y) → Z (r (L.filter (fun x => decide (x ≠ g))).length U)) : Z (lq2 (fX7_standsUp_b5 b g) r L.length 0 0 f) := by
  refine lq2_ind (N := L.length) (fun k x U => x = ((L.take k).filter (fun x => decide (x ≠ g))).length ∧ (∀ i, (i < b + 22 ∨ b + 22 + k ≤ i) → U i = f i) ∧ (∀ (j y : Nat), ((L.take k).filter (fun x => decide (x ≠ g)))[j]? = some y → U (b + 22 + j) = nI y)) Z (fun k x U nx hk hI hn => ?_) (fun x U hI => ?_) _ _ _ _ (Nat.zero_add _) ⟨by simp, fun i _ => rfl, fun j y h => by simp at h⟩
  · obtain ⟨hx, h1, h2⟩ := hI
    obtain ⟨a, ha⟩ : ∃ a, L[k]? = some a := ⟨L[k], List.getElem?_eq_getElem hk⟩
    have hxk : x ≤ k := by
      rw [hx]
      refine Nat.le_trans (List.length_filter_le _ _) ?_
      rw [List.length_take]
      exact Nat.min_le_left _ _
    have hUk : U (b + 22 + k) = nI a := by rw [h1 _ (Or.inr (Nat.le_refl _))]; exact hO k a ha
    have ha16 := hlt a (List.mem_of_getElem? ha)
    unfold fX7_standsUp_b5 bd
    refine hn _ _ ?_
    rw [take_filter_snoc _ ha, hUk]
    by_cases hag : a = g
    · rw [if_pos (by rw [hag])]
      have e1 : (if (fun x => decide (x ≠ g)) a then [a] else []) = ([] : List Nat) := by simp [hag]
      rw [e1, List.append_nil]
      refine ⟨hx, fun i hi => ?_, fun j y hj => ?_⟩
      · rw [upd_ne (by omega)]
        exact h1 i (by omega)
      · have hjx : j < x := by rw [hx]; exact (List.getElem?_eq_some_iff.mp hj).1
        rw [upd_ne (by omega)]
        exact h2 j y hj
    · rw [if_neg (fun e => hag ((nI_eq (by omega) (by omega)).mp e))]
      have e1 : (if (fun x => decide (x ≠ g)) a then [a] else []) = [a] := by simp [hag]
      rw [e1]
      refine ⟨by rw [List.length_append, ← hx]; rfl, fun i hi => ?_, fun j y hj => ?_⟩
      · rw [upd_ne (by omega)]
        exact h1 i (by omega)
      · by_cases hjx : j < x
        · rw [List.getElem?_append_left (by rw [← hx]; exact hjx)] at hj
          rw [upd_ne (by omega)]
          exact h2 j y hj
        · rw [List.getElem?_append_right (by rw [← hx]; omega), ← hx] at hj
          have hj0 : j = x := by
            have := (List.getElem?_eq_some_iff.mp hj).1
            simp at this
            omega
          subst hj0
          simp at hj
          rw [upd_eq, hj]
  · obtain ⟨hx, h1, h2⟩ := hI
    rw [List.take_length] at hx h2
    rw [hx]
    exact hr U (fun i hi => h1 i (by omega)) h2
/-- standsUp: g leaves the order, the table and the seat; one more stood up; all else of the row stays, and all outside it -/
theorem standsUp_at {f : Nat → Int32} {b G g : Nat} {L : List Nat} (h : RO f b G L) (hg : g < 16) : ∃ U : Nat → Int32, (∀ i, (i < b + 22 ∨ b + 22 + 16 ≤ i) → U i = f i) ∧ (∀ (j y : Nat), (L.filter (fun x => decide (x ≠ g)))[j]? = some y → U (b + 22 + j) = nI y) ∧
    fX7_standsUp f b g = upd (upd (upd (upd U (b + 3) (nI (L.filter (fun x => decide (x ≠ g))).length)) (b + 38 + 5 * g + 3) (-1)) (b + 38 + 5 * g + 4) (-1)) (b + 5) (f (b + 5) + 1) := by
  have hl := h.len
  obtain ⟨⟨hB, -⟩, hG, hG16, hnd, hS, hO, hM⟩ := h
  unfold fX7_standsUp
  rw [hS, nI_clamp (by omega)]
  refine standsUp_loop (Z := fun R => ∃ U : Nat → Int32, (∀ i, (i < b + 22 ∨ b + 22 + 16 ≤ i) → U i = f i) ∧ (∀ (j y : Nat), (L.filter (fun x => decide (x ≠ g)))[j]? = some y → U (b + 22 + j) = nI y) ∧ R = upd (upd (upd (upd U (b + 3) (nI (L.filter (fun x => decide (x ≠ g))).length)) (b + 38 + 5 * g + 3) (-1)) (b + 38 + 5 * g + 4) (-1)) (b + 5) (f (b + 5) + 1)) hB (by omega) hO (fun x hx => by have := ((hM x).mp hx).1; omega) hg _ (fun U h1 h2 => ⟨U, h1, h2, ?_⟩)
  unfold fX7_standsUp_r5 bd
  simp only [lay_eq]
  rw [upd_ne (by omega), upd_ne (by omega), upd_ne (by omega), h1 _ (by omega)]
theorem RO_stands {f : Nat → Int32} {b G g : Nat} {L : List Nat} (h : RO f b G L) (hg : g < 16) : RO (fX7_standsUp f b g) b G (L.filter (fun x => decide (x ≠ g))) := by
  obtain ⟨U, h1, h2, e⟩ := standsUp_at h hg
  have hl := h.len
  obtain ⟨⟨rB, rG, rT, rF, rS, rTW, rWW⟩, hG, hG16, hnd, hS, hO, hM⟩ := h
  have hlf : (L.filter (fun x => decide (x ≠ g))).length ≤ L.length := List.length_filter_le _ _
  rw [e]
  refine ⟨⟨rB, ?_, ?_, ?_, ?_, fun j hj => ?_, fun j hj => ?_⟩, ?_, hG16, List.Pairwise.filter _ hnd, ?_, fun k x hx => ?_, fun j => ?_⟩
  · rw [upd_ne (by omega), upd_ne (by omega), upd_ne (by omega), upd_ne (by omega), h1 _ (by omega)]; exact rG
  · rw [upd_ne (by omega), upd_ne (by omega), upd_ne (by omega), upd_ne (by omega), h1 _ (by omega)]; exact rT
  · rw [upd_ne (by omega), upd_ne (by omega), upd_ne (by omega), upd_ne (by omega), h1 _ (by omega)]; exact rF
  · rw [upd_ne (by omega), upd_ne (by omega), upd_ne (by omega), upd_eq]; exact ⟨_, by omega, rfl⟩
  · rw [upd_ne (by omega), upd_ne (by omega)]
    by_cases hjg : j = g
    · subst hjg; rw [upd_eq]; exact Or.inl rfl
    · rw [upd_ne (by omega), upd_ne (by omega), h1 _ (by omega)]; exact rTW j hj
  · rw [upd_ne (by omega), upd_ne (by omega), upd_ne (by omega), upd_ne (by omega), h1 _ (by omega)]; exact rWW j hj
  · rw [upd_ne (by omega), upd_ne (by omega), upd_ne (by omega), upd_ne (by omega), h1 _ (by omega)]; exact hG
  · rw [upd_ne (by omega), upd_ne (by omega), upd_ne (by omega), upd_eq]
  · have hk : k < (L.filter (fun x => decide (x ≠ g))).length := (List.getElem?_eq_some_iff.mp hx).1
    rw [upd_ne (by omega), upd_ne (by omega), upd_ne (by omega), upd_ne (by omega)]
    exact h2 k x hx
  · rw [List.mem_filter, hM j]
    by_cases hjg : j = g
    · subst hjg
      rw [upd_ne (by omega), upd_ne (by omega), upd_eq]
      simp
    · by_cases hjG : j < G
      · rw [upd_ne (by omega), upd_ne (by omega), upd_ne (by omega), upd_ne (by omega), h1 _ (by omega)]
        simp [hjg]
      · simp [hjG]
def sitMid (f : Nat → Int32) (b g : Nat) : Nat → Int32 := (if (fX7_of f b g 3) = (-1) then f else (bd (fX7_standsUp f b g) (fun U14 => U14)))
theorem sitMid_stands {f : Nat → Int32} {b g : Nat} (h : f (b + 38 + 5 * g + 3) = -1) : sitMid f b g = f := if_pos h
theorem sitMid_sits {f : Nat → Int32} {b g : Nat} (h : f (b + 38 + 5 * g + 3) ≠ -1) : sitMid f b g = fX7_standsUp f b g := if_neg h
/-- behind standing up, if need be: g stands, and there is room in the order -/
theorem RO_mid {f : Nat → Int32} {b G g : Nat} {L : List Nat} (h : RO f b G L) (hg : g < G) : ∃ L', RO (sitMid f b g) b G L' ∧ L' = L.filter (fun x => decide (x ≠ g)) ∧ sitMid f b g (b + 38 + 5 * g + 3) = -1 := by
  have hG16 := h.2.2.1
  by_cases hs : f (b + 38 + 5 * g + 3) = -1
  · rw [sitMid_stands hs]
    refine ⟨L, h, ?_, hs⟩
    have hn : ∀ x ∈ L, decide (x ≠ g) = true := fun x hx => by
      have := ((h.2.2.2.2.2.2 x).mp hx).2
      simp only [ne_eq, decide_not, Bool.not_eq_eq_eq_not, Bool.not_true, decide_eq_false_iff_not]
      intro e
      subst e
      exact this hs
    exact (List.filter_eq_self.mpr hn).symm
  · rw [sitMid_sits hs]
    refine ⟨_, RO_stands h (by omega), rfl, ?_⟩
    obtain ⟨U, h1, h2, e⟩ := standsUp_at h (show g < 16 by omega)
    obtain ⟨⟨rB, -⟩, -⟩ := h
    rw [e, upd_ne (by omega), upd_ne (by omega), upd_eq]
theorem RO_midS {f : Nat → Int32} {b G g : Nat} {L : List Nat} (h : RO f b G L) (hg : g < G) : ∃ S0 : Nat, S0 ≤ 15 ∧ sitMid f b g (b + 3) = nI S0 := by
  obtain ⟨L', h', -, hs⟩ := RO_mid h hg
  exact ⟨_, h'.len15 hg hs, h'.2.2.2.2.1⟩

