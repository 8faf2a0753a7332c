theorem ST_fr {PN PS : PV} {Ps : Nat → PV} {o v : Nat} {kp : Int32} {f F M : Nat → Int32} (h : ST PN PS Ps o v kp f M) (hF : ∀ i : Nat, i < 944 → F i = f i) : ST PN PS Ps o v kp F M := by
  obtain ⟨⟨G, T, L, h1⟩, h2, h3, h4, h5⟩ := h
  refine ⟨⟨G, T, L, REL_to (PE_refl _) (fun k hk => hF _ (by omega)) (by decide) h1⟩, HI_fr h2 (fun i hi h9 => hF i (by omega)), h3, h4, ?_⟩
  rcases h5 with h5 | ⟨G2, T2, L2, h6⟩
  · exact Or.inl h5
  · exact Or.inr ⟨G2, T2, L2, REL_to (PE_refl _) (fun k hk => hF _ (by omega)) (by decide) h6⟩
/-- undo -/
theorem undo_ST {PN PS : PV} {Ps : Nat → PV} {o v : Nat} {kp : Int32} {f M : Nat → Int32} (h : ST PN PS Ps o v kp f M) :
    (fX6_undo PN Ps o v = Sum.inl 1 ∧ fX7_undo f M = (0, (f, upd M 0 (nI 1)))) ∨ ∃ (r : Int32) (PN' : PV) (v' : Nat) (F M' : Nat → Int32), fX6_undo PN Ps o v = Sum.inr (r, (PN', v')) ∧ fX7_undo f M = (r, (F, M')) ∧ TZ M' M ∧ ST PN' PS Ps o v' kp F M' := by
  obtain ⟨-, h2, h3, h4, h5⟩ := h
  have hv := h2.2.1
  unfold fX6_undo fX7_undo fX0_length
  rw [h3, bd_eq, bd_eq]
  rcases Nat.eq_zero_or_pos v with rfl | hv0
  · rw [if_pos (show nI 0 = 0 from rfl), if_pos (show nI 0 ≤ 0 by decide), bd2_eq, holds_p (by decide) (by decide)]
    exact Or.inl ⟨rfl, rfl⟩
  · rw [if_neg (nI_ne0 hv0 (by omega)), if_neg (nI_nle hv0 (by omega)), bd2_eq, holds_0]
    obtain ⟨⟨G, T, L, t1⟩, t2, t3, t4⟩ := take_HI (PN := PN) h2 hv0
    have e1 : (upd M 0 0) 1 = nI v := (upd_ne (by decide)).trans h3
    have ev : nI v - 1 = nI (v - 1) := by
      obtain ⟨k, rfl⟩ : ∃ k, v = k + 1 := ⟨v - 1, by omega⟩
      exact nI_pred k
    refine Or.inr ⟨nI (v - 1), (fX0_takeLatest Ps o v PN).1, v - 1, fX7_copies f v 0, upd (upd M 0 0) 1 (nI (v - 1)), ?_, ?_, ?_, ⟨⟨G, T, L, t1⟩, t3, upd_eq, ?_, ?_⟩⟩
    · rw [t2]
    · show (if (1 : Int32) = 0 then (0, (f, upd M 0 0)) else bd (fX7_copies f ((upd M 0 0) 1).toNatClampNeg 0) (fun U27 => (((upd M 0 0) 1 - 1), (U27, (upd (upd M 0 0) 1 ((upd M 0 0) 1 - 1)))))) = _
      rw [if_neg (by decide), bd_eq, e1, nI_clamp (by omega), ev]
    · exact ⟨by rw [upd_ne (by decide), upd_eq], by rw [upd_ne (by decide), upd_ne (by decide)]⟩
    · rw [upd_ne (by decide), upd_ne (by decide)]; exact h4
    · rcases h5 with h5 | ⟨G2, T2, L2, h6⟩
      · exact Or.inl h5
      · exact Or.inr ⟨G2, T2, L2, REL_to (PE_refl _) (fun k hk => t4 _ (by omega)) (by decide) h6⟩
theorem sitting_len {P : PV} {f : Nat → Int32} {G T : Nat} {L : List Nat} (h : REL P f 0 G T L) : fX1_length 16 (P 9) (P 10 5) = f 3 := by
  unfold fX1_length
  rw [h.p5]
/-- keep -/
theorem keep_ST {PN PS : PV} {Ps : Nat → PV} {o v : Nat} {kp : Int32} {f M : Nat → Int32} (h : ST PN PS Ps o v kp f M) : ∃ (r : Int32) (PS' : PV) (F M' : Nat → Int32), fX6_keep PN PS = (r, (PS', 1)) ∧ fX7_keep f M = (r, (F, M')) ∧ TZ M' M ∧ ST PN PS' Ps o v 1 F M' := by
  obtain ⟨⟨G, T, L, h1⟩, h2, h3, h4, h5⟩ := h
  obtain ⟨c1, c2⟩ := copies_at f (show 0 ≠ 7 by decide)
  have hlow : ∀ i : Nat, i < 826 → fX7_copies f 0 7 i = f i := fun i hi => c2 i (Or.inl (by omega))
  refine ⟨f 3, fX2_copyFrom PS PN, fX7_copies f 0 7, upd (upd M 0 0) 2 1, ?_, ?_, ?_, ⟨⟨G, T, L, REL_to (PE_refl _) (fun k hk => hlow _ (by omega)) (by decide) h1⟩, HI_fr h2 (fun i hi h9 => hlow i (by omega)), ?_, upd_eq, Or.inr ⟨G, T, L, copy_REL (b := 0) (fun k hk => c1 k hk) (by decide) h1⟩⟩⟩
  · unfold fX6_keep
    rw [bd_eq, sitting_len h1]
  · unfold fX7_keep
    rw [bd_eq, hlow 3 (by decide)]
  · exact ⟨by rw [upd_ne (by decide), upd_eq], by rw [upd_ne (by decide), upd_ne (by decide)]⟩
  · rw [upd_ne (by decide), upd_ne (by decide)]; exact h3
/-- restore -/
theorem restore_ST {PN PS : PV} {Ps : Nat → PV} {o v : Nat} {kp : Int32} {f M : Nat → Int32} (h : ST PN PS Ps o v kp f M) :
    (fX6_restore PN PS Ps o v kp = Sum.inl 1 ∧ fX7_restore f M = (0, (f, upd M 0 (nI 1)))) ∨ ∃ (r : Int32) (PN' : PV) (Ps' : Nat → PV) (o' v' : Nat) (F M' : Nat → Int32), fX6_restore PN PS Ps o v kp = Sum.inr (r, (PN', Ps', o', v')) ∧ fX7_restore f M = (r, (F, M')) ∧ TZ M' M ∧ ST PN' PS Ps' o' v' kp F M' := by
  obtain ⟨G, T, L, hR⟩ := h.1
  obtain ⟨s1, s2, s3⟩ := ST_save h hR
  unfold fX6_restore fX7_restore
  rw [h.2.2.2.1, bd_eq, bd_eq, bd_eq]
  by_cases c : kp = 0
  · rw [if_pos c, if_pos c, bd2_eq, holds_p (by decide) (by decide)]
    exact Or.inl ⟨rfl, rfl⟩
  · obtain ⟨G2, T2, L2, h6⟩ := h.2.2.2.2.resolve_left c
    obtain ⟨c1, c2⟩ := copies_at (fX7_save f (upd M 0 0)).1 (show 7 ≠ 0 by decide)
    have e7 : ∀ k : Nat, k < 118 → (fX7_save f (upd M 0 0)).1 (826 + k) = f (826 + k) := (save_HI (M := upd M 0 0) hR h.2.1 ((upd_ne (by decide)).trans h.2.2.1)).2.2.2.1
    have hS : REL (fX2_copyFrom PN PS) (fX7_copies (fX7_save f (upd M 0 0)).1 7 0) 0 G2 T2 L2 := copy_REL (b := 826) (fun k hk => by
      have := c1 k hk
      rw [Nat.mul_zero] at this
      rw [this]
      exact e7 k hk) (by decide) h6
    rw [if_neg c, if_neg c, bd2_eq, holds_0]
    refine Or.inr ⟨_, _, _, _, _, _, _, rfl, ?_, s2, s3 _ (fX7_copies (fX7_save f (upd M 0 0)).1 7 0) _ _ _ (fun i hi _ => c2 i (Or.inr (by omega))) hS⟩
    rw [sitting_len hS]
    rfl


