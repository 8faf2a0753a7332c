/-- swap -/
theorem swap_ST {PN PT PS : PV} {Ps : Nat → PV} {o v : Nat} {kp : Int32} {f M : Nat → Int32} (h : ST PN PS Ps o v kp f M) (g k : Int32) :
    (∃ (c p : Nat) (F : Nat → Int32), ((c = 2 ∧ p = 1) ∨ (c = 0 ∧ p = 2) ∨ (c = 1 ∧ p = 3)) ∧ fX6_swap PN PT Ps o v g k = Sum.inl c ∧ fX7_swap f M g k = (0, (F, upd M 0 (nI p))) ∧ ST PN PS Ps o v kp F (upd M 0 (nI p))) ∨ ∃ (r : Int32) (PN' PT' : PV) (Ps' : Nat → PV) (o' v' : Nat) (F M' : Nat → Int32), fX6_swap PN PT Ps o v g k = Sum.inr (r, (PN', PT', Ps', o', v')) ∧ fX7_swap f M g k = (r, (F, M')) ∧ TZ M' M ∧ ST PN' PS Ps' o' v' kp F M' := by
  obtain ⟨G, T, L, hR⟩ := h.1
  have hG := hR.wf.G16
  have h10 : ¬ (1 : Int32) = 0 := by decide
  have h1n : ¬ nI 1 = 0 := by decide
  have h0n : nI 0 = 0 := rfl
  rcases guest_is hR g with ⟨c1, c2, x, hx, rfl⟩ | ⟨c1, c2⟩
  · rcases guest_is hR k with ⟨d1, d2, y, hy, rfl⟩ | ⟨d1, d2⟩
    · by_cases ce : x = y
      · subst ce
        refine Or.inl ⟨0, 2, f, Or.inr (Or.inl ⟨rfl, rfl⟩), ?_, ?_, ST_M h _⟩
        · unfold fX6_swap fX6_needGuest
          rw [c1, if_neg h10, if_pos rfl, if_pos rfl, if_pos rfl]
        · unfold fX7_swap
          rw [c2, if_neg h10, if_neg h10, bd_eq, if_neg h1n, if_pos rfl, bd2_eq, bd_eq, if_neg h1n, if_pos rfl, bd2_eq, holds_p (by decide) (by decide)]
          rfl
      · have hne : ¬ nI x = nI y := fun e => ce ((nI_eq (by omega) (by omega)).mp e)
        have hU : REL (fX2_copyFrom PT PN) f 0 G T L := copy_REL (fun _ _ => rfl) (by decide) hR
        have eX : fX6_swap PN PT Ps o v (nI x) (nI y) = bd2 (fX2_exchange (fX2_copyFrom PT PN) (nI x) (nI y)) (fun r42 U42 => (if r42 = 0 then (Sum.inl 1) else (bd (fX0_save Ps o v PN) (fun U66 => (bd (fX2_copyFrom PN U42) (fun U77 => (Sum.inr ((fX4_byGuests U77), (U77, U42, U66.1, U66.2.1, U66.2.2))))))))) := by
          unfold fX6_swap fX6_needGuest
          rw [c1, d1, if_neg h10, if_pos rfl, if_pos rfl, if_neg hne, bd_eq]
        by_cases cs : fX7_of f 0 x 3 = -1 ∨ fX7_of f 0 y 3 = -1
        · refine Or.inl ⟨1, 3, f, Or.inr (Or.inr ⟨rfl, rfl⟩), ?_, ?_, ST_M h _⟩
          · have e0 : (fX2_exchange (fX2_copyFrom PT PN) (nI x) (nI y)).1 = 0 := by
              unfold fX2_exchange
              rw [isSit_eq hU hx, isSit_eq hU hy]
              by_cases cx : fX7_of f 0 x 3 = -1
              · rw [if_pos cx, if_pos rfl]
              · rw [if_neg cx, if_neg h10, if_pos (cs.resolve_left cx), if_pos rfl]
            rw [eX, bd2_eq, if_pos e0]
          · unfold fX7_swap
            rw [c2, d2, if_neg h10, if_neg h10, bd_eq, if_neg h1n, if_neg hne, nI_clamp (show x < 2 ^ 31 by omega), nI_clamp (show y < 2 ^ 31 by omega)]
            have e1 : (if fX7_of f 0 x 3 = -1 then ((0 : Nat), f) else (if fX7_of f 0 y 3 = -1 then (0, f) else (bd2 (fX7_canSwap f x y) (fun r56 U56 => (if r56 = 0 then (0, U56) else (1, U56)))))) = (0, f) := by
              by_cases cx : fX7_of f 0 x 3 = -1
              · rw [if_pos cx]
              · rw [if_neg cx, if_pos (cs.resolve_left cx)]
            rw [e1, bd2_eq, bd_eq, if_neg h1n, if_neg hne, if_pos h0n, bd2_eq, holds_p (by decide) (by decide)]
            rfl
        · have cx : fX7_of f 0 x 3 ≠ -1 := fun e => cs (Or.inl e)
          have cy : fX7_of f 0 y 3 ≠ -1 := fun e => cs (Or.inr e)
          obtain ⟨w1, w2, w3, w4⟩ := swap_REL hU hx hy ce cx cy
          have hF : ST PN PS Ps o v kp (fX7_canSwap f x y).2 M := ST_fr h w4
          have eY : fX7_swap f M (nI x) (nI y) = bd2 (if (fX7_canSwap f x y).1 = 0 then ((0 : Nat), (fX7_canSwap f x y).2) else (1, (fX7_canSwap f x y).2)) (fun v23_0 U23_1 => bd2 (fX7_holds M (nI (if nI v23_0 = 0 then 3 else 0))) (fun r97 U97 => (if r97 = 0 then (0, (U23_1, U97)) else (bd (fX7_save U23_1 U97) (fun U106 => (bd (fX7_copies U106.1 8 0) (fun U113 => ((fX7_points U113 0 (-1)), (U113, U106.2))))))))) := by
            unfold fX7_swap
            rw [c2, d2, if_neg h10, if_neg h10, bd_eq, if_neg h1n, if_neg hne, nI_clamp (show x < 2 ^ 31 by omega), nI_clamp (show y < 2 ^ 31 by omega), if_neg cx, if_neg cy, bd2_eq, bd2_eq, bd2_eq, bd_eq, if_neg h1n, if_neg hne]
          rw [eX, eY, bd2_eq, bd2_eq, w1]
          rcases w3 with w3 | w3
          · refine Or.inl ⟨1, 3, (fX7_canSwap f x y).2, Or.inr (Or.inr ⟨rfl, rfl⟩), ?_, ?_, ST_M hF _⟩
            · rw [if_pos w3]
            · rw [if_pos w3, if_pos h0n, bd2_eq, holds_p (by decide) (by decide)]
              rfl
          · have w5 : ¬ (fX7_canSwap f x y).1 = 0 := by rw [w3]; exact h10
            obtain ⟨L', w6⟩ := w2.resolve_left w5
            obtain ⟨G1, T1, L1, hR1⟩ := hF.1
            obtain ⟨s1, s2, s3⟩ := ST_save hF hR1
            obtain ⟨c1', c2'⟩ := copies_at (fX7_save (fX7_canSwap f x y).2 (upd M 0 0)).1 (show 8 ≠ 0 by decide)
            have hS : REL (fX2_copyFrom PN (fX2_exchange (fX2_copyFrom PT PN) (nI x) (nI y)).2) (fX7_copies (fX7_save (fX7_canSwap f x y).2 (upd M 0 0)).1 8 0) 0 G T L' := copy_REL (b := 944) (fun j hj => by
              have := c1' j hj
              rw [Nat.mul_zero] at this
              rw [this]
              exact save_row8 h.2.1.2.1 ((upd_ne (by decide)).trans h.2.2.1) hj) (by decide) w6
            refine Or.inr ⟨fX4_byGuests (fX2_copyFrom PN (fX2_exchange (fX2_copyFrom PT PN) (nI x) (nI y)).2), _, (fX2_exchange (fX2_copyFrom PT PN) (nI x) (nI y)).2, _, _, _, _, _, ?_, ?_, s2, s3 _ (fX7_copies (fX7_save (fX7_canSwap f x y).2 (upd M 0 0)).1 8 0) _ _ _ (fun i hi _ => c2' i (Or.inr (by omega))) hS⟩
            · rw [if_neg w5]
              rfl
            · rw [if_neg w5, if_neg h1n, bd2_eq, holds_0, byGuests_eq hS]
              rfl
    · refine Or.inl ⟨2, 1, f, Or.inl ⟨rfl, rfl⟩, ?_, ?_, ST_M h _⟩
      · unfold fX6_swap fX6_needGuest
        rw [c1, d1, if_neg h10, if_pos rfl, if_pos rfl, if_neg h10]
      · unfold fX7_swap
        rw [c2, d2, if_neg h10, if_pos rfl, bd_eq, if_pos h0n, bd2_eq, bd_eq, if_pos h0n, bd2_eq, holds_p (by decide) (by decide)]
        rfl
  · refine Or.inl ⟨2, 1, f, Or.inl ⟨rfl, rfl⟩, ?_, ?_, ST_M h _⟩
    · unfold fX6_swap fX6_needGuest
      rw [c1, if_pos rfl, if_neg h10]
    · unfold fX7_swap
      rw [c2, if_pos rfl, bd_eq, if_pos h0n, bd2_eq, bd_eq, if_pos h0n, bd2_eq, holds_p (by decide) (by decide)]
      rfl

