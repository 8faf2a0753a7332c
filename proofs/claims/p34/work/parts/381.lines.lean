theorem tf_snoc {α : Type} {L : List α} {k : Nat} {x : α} (p : α → Bool) (h : L[k]? = some x) : (L.take (k + 1)).filter p = (L.take k).filter p ++ (if p x then [x] else []) := by
  rw [List.take_add_one, h, List.filter_append]
  congr 1
  simp [List.filter_cons]
theorem put_in {n k : Nat} {f : Nat → Int32} {v : Int32} (h : k < n) (hn : n < 2 ^ 31) : fX3_put n f (nI k) v = upd f k v := by
  unfold fX3_put
  rw [if_neg (nI_pos (by omega)), if_neg (nI_ge h hn), nI_clamp (by omega)]
/-- what is left of a line when an item goes -/
theorem drop_loop {n N : Nat} {v : Int32} {f : Nat → Int32} (Lx : List Int32) (hN : N = Lx.length) (hn : N ≤ n) (hn2 : n < 2 ^ 31) (hf : ∀ (k : Nat) (x : Int32), Lx[k]? = some x → f k = x) : ∀ (d k : Nat) (x : Int32) (U : Nat → Int32), k + d = N → x = nI ((Lx.take k).filter (fun x => decide (x ≠ v))).length → (∀ i : Nat, k ≤ i → U i = f i) → (∀ (j : Nat) (y : Int32), ((Lx.take k).filter (fun x => decide (x ≠ v)))[j]? = some y → U j = y) → ∃ R : Nat → Int32, lq2 (fX1_dropItem_b4 n (nI N) v) fX1_dropItem_r4 d k x U = (R, nI (Lx.filter (fun x => decide (x ≠ v))).length) ∧ ∀ (j : Nat) (y : Int32), (Lx.filter (fun x => decide (x ≠ v)))[j]? = some y → R j = y
  | 0, k, x, U, h, hx, h1, h2 => by
    obtain rfl : k = N := by omega
    rw [hN, List.take_length] at hx h2
    exact ⟨U, by rw [lq2_z, hx]; rfl, h2⟩
  | d + 1, k, x, U, h, hx, h1, h2 => by
    have hk : k < Lx.length := by omega
    obtain ⟨a, ha⟩ : ∃ a, Lx[k]? = some a := ⟨Lx[k], List.getElem?_eq_getElem hk⟩
    have hle : ((Lx.take k).filter (fun x => decide (x ≠ v))).length ≤ k := by
      refine Nat.le_trans (List.length_filter_le _ _) ?_
      rw [List.length_take]
      exact Nat.min_le_left _ _
    have hit : fX1_itemAt n U (nI N) (nI k) = a := by
      unfold fX1_itemAt
      rw [if_neg (nI_pos (by omega)), if_neg (nI_ge (by omega) (by omega)), if_neg (nI_ge (by omega) (by omega)), nI_clamp (by omega), h1 k (Nat.le_refl k)]
      exact hf k a ha
    rw [lq2_s]
    unfold fX1_dropItem_b4
    rw [hit, bd2_eq]
    by_cases c : a = v
    · rw [if_pos c]
      have e : (Lx.take (k + 1)).filter (fun x => decide (x ≠ v)) = (Lx.take k).filter (fun x => decide (x ≠ v)) := by
        rw [tf_snoc _ ha, if_neg (by simp [c]), List.append_nil]
      exact drop_loop Lx hN hn hn2 hf d (k + 1) x U (by omega) (by rw [e]; exact hx) (fun i hi => h1 i (by omega)) (by rw [e]; exact h2)
    · rw [if_neg c, bd_eq, hx, put_in (by omega) hn2, nI_1]
      have e : (Lx.take (k + 1)).filter (fun x => decide (x ≠ v)) = (Lx.take k).filter (fun x => decide (x ≠ v)) ++ [a] := by
        rw [tf_snoc _ ha, if_pos (by simp [c])]
      refine drop_loop Lx hN hn hn2 hf d (k + 1) _ _ (by omega) (by rw [e, List.length_append]; rfl) (fun i hi => ?_) (fun j y hj => ?_)
      · show upd U _ a i = f i
        rw [upd_ne (by omega)]; exact h1 i (by omega)
      · show upd U _ a j = y
        rw [e] at hj
        by_cases cj : j = ((Lx.take k).filter (fun x => decide (x ≠ v))).length
        · subst cj
          rw [List.getElem?_append_right (Nat.le_refl _), Nat.sub_self] at hj
          rw [upd_eq]
          exact Option.some.inj hj
        · rw [upd_ne cj]
          have hjl := (List.getElem?_eq_some_iff.mp hj).1
          rw [List.length_append, List.length_singleton] at hjl
          rw [List.getElem?_append_left (by omega)] at hj
          exact h2 j y hj
theorem drop_at {n : Nat} {v : Int32} {f : Nat → Int32} (Lx : List Int32) (hn : Lx.length ≤ n) (hn2 : n < 2 ^ 31) (hf : ∀ (k : Nat) (x : Int32), Lx[k]? = some x → f k = x) : ∃ R : Nat → Int32, fX1_dropItem n f (nI Lx.length) v = (R, nI (Lx.filter (fun x => decide (x ≠ v))).length) ∧ ∀ (j : Nat) (y : Int32), (Lx.filter (fun x => decide (x ≠ v)))[j]? = some y → R j = y := by
  unfold fX1_dropItem
  rw [nI_clamp (by omega)]
  exact drop_loop Lx rfl hn hn2 hf Lx.length 0 0 f (Nat.zero_add _) rfl (fun _ _ => rfl) (fun j y h => by simp at h)
theorem filter_nI {g : Nat} (hg : g < 16) : ∀ (L : List Nat), (∀ x : Nat, x ∈ L → x < 16) → (L.map nI).filter (fun x => decide (x ≠ nI g)) = (L.filter (fun x => decide (x ≠ g))).map nI
  | [], _ => rfl
  | a :: L, h => by
    have ih := filter_nI hg L (fun x hx => h x (List.mem_cons_of_mem _ hx))
    have ha := h a List.mem_cons_self
    rw [List.map_cons, List.filter_cons, List.filter_cons, ih]
    by_cases c : a = g
    · subst c; simp
    · have c2 : ¬ nI a = nI g := fun e => c ((nI_eq (by omega) (by omega)).mp e)
      simp [c, c2]
/-- the order's line when a guest goes -/
theorem drop_order {f : Nat → Int32} {g : Nat} {L : List Nat} (hg : g < 16) (hl : L.length ≤ 16) (hm : ∀ x : Nat, x ∈ L → x < 16) (hf : ∀ (k x : Nat), L[k]? = some x → f k = nI x) : ∃ R : Nat → Int32, fX1_dropItem 16 f (nI L.length) (nI g) = (R, nI (L.filter (fun x => decide (x ≠ g))).length) ∧ ∀ (j y : Nat), (L.filter (fun x => decide (x ≠ g)))[j]? = some y → R j = nI y := by
  obtain ⟨R, h1, h2⟩ := drop_at (n := 16) (v := nI g) (f := f) (L.map nI) (by rw [List.length_map]; exact hl) (by decide) (fun k x hx => by
    rw [List.getElem?_map] at hx
    cases e : L[k]? with
    | none => rw [e] at hx; exact absurd hx (by simp)
    | some y =>
      rw [e] at hx
      rw [hf k y e]
      exact Option.some.inj hx)
  rw [List.length_map, filter_nI hg L hm, List.length_map] at h1
  refine ⟨R, h1, fun j y hj => h2 j (nI y) ?_⟩
  rw [filter_nI hg L hm, List.getElem?_map, hj]
  rfl

