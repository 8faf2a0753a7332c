set_option maxHeartbeats 4000000 in
/-- reading on from a part's begin: the reader's answer and place, the class's two answers -/
theorem seats_read {x : Nat → Int32} {n : Nat} : ∀ (m k i : Nat) (M : Nat → Int32), n < i + m → AT M n i → ∃ (r : Int32) (U : Nat → Int32) (e : Nat), lq1 (fX7_areSeats_b5 x) fX7_areSeats_r5 m k M = (r, U) ∧ AT U n e ∧ (∀ j : Nat, (j < 4 ∨ 8 < j) → U j = M j) ∧ lq1 (fX5_firstBroken_b4 x (nI n)) (fX5_firstBroken_r4 x (nI n)) (n - i) i 0 = nI e ∧ lq1 (fX5_isComplete_b4 x (nI n)) fX5_isComplete_r4 (n - i) i 0 = r ∧ (r = 0 ∨ r = 1) := by
  intro m
  induction m with
  | zero => exact fun k i M hm hA => absurd hA.2.1 (by omega)
  | succ m ih =>
    intro k i M hm hA
    have hn := hA.1
    have h10 : ¬ (1 : Int32) = 0 := by decide
    rw [lq1_s]
    unfold fX7_areSeats_b5
    obtain ⟨r6, U6, e6⟩ : ∃ (r6 : Int32) (U6 : Nat → Int32), fX7_readsPart x M = (r6, U6) := ⟨_, _, pr_eta _⟩
    rw [e6, bd2_mk]
    obtain ⟨ko, hc⟩ := part_at hA e6.symm
    have good : ∀ e : Nat, AT U6 n e → PG x n i e → r6 = 1 → ∃ (r : Int32) (U : Nat → Int32) (e : Nat), (if r6 = 0 then (0, U6) else (if (U6 4) = (U6 3) then (1, U6) else (bd2 (fX7_takes x U6 59) (fun r28 U28 => (if r28 = 0 then (0, U28) else (lq1 (fX7_areSeats_b5 x) fX7_areSeats_r5 m (k + 1) U28)))))) = (r, U) ∧ AT U n e ∧ (∀ j : Nat, (j < 4 ∨ 8 < j) → U j = M j) ∧ lq1 (fX5_firstBroken_b4 x (nI n)) (fX5_firstBroken_r4 x (nI n)) (n - i) i 0 = nI e ∧ lq1 (fX5_isComplete_b4 x (nI n)) fX5_isComplete_r4 (n - i) i 0 = r ∧ (r = 0 ∨ r = 1) := by
      intro e hAe ⟨d, s, hd1, hde, hph, hs, hnx, _⟩ h1
      have hen := hAe.2.1
      have fb := fb_path (m := n - e) hn hph (by omega)
      have ic := ic_path (m := n - e) hn hph (by omega)
      rw [show d + (n - e) = n - i by omega, hde] at fb ic
      rw [h1, if_neg h10, hAe.2.2.1, hAe.2.2.2]
      by_cases c : e = n
      · subst c
        rw [if_pos rfl]
        refine ⟨1, U6, e, rfl, hAe, ko, ?_, ?_, Or.inr rfl⟩
        · rw [fb, show e - e = 0 by omega, lq1_z]; rfl
        · rw [ic, show e - e = 0 by omega, lq1_z]
          rcases hs with rfl | rfl | rfl <;> rfl
      · have hlt : e < n := by omega
        rw [if_neg (fun z => c ((nI_eq (by omega) (by omega)).mp z))]
        obtain ⟨r28, U28, e28⟩ : ∃ (r28 : Int32) (U28 : Nat → Int32), fX7_takes x U6 59 = (r28, U28) := ⟨_, _, pr_eta _⟩
        rw [e28, bd2_mk]
        rcases takes_is hAe (v := 59) (by decide) e28.symm with ⟨a1, a2, rfl, a4, a5⟩ | ⟨a1, rfl, a4, a5⟩
        · rw [if_neg h10]
          obtain ⟨r, U, e', q1, q2, q3, q4, q5, q6⟩ := ih (k + 1) (e + 1) U28 (by omega) a4
          have hs0 : fX5_next s (x e) = 0 := by
            rw [a2]
            rcases hs with rfl | rfl | rfl <;> decide
          have ph1 : PH x 1 e s 0 := PH_1 hs0 (by decide)
          have fb2 := fb_path (m := n - (e + 1)) hn ph1 (by omega)
          have ic2 := ic_path (m := n - (e + 1)) hn ph1 (by omega)
          rw [show 1 + (n - (e + 1)) = n - e by omega] at fb2 ic2
          exact ⟨r, U, e', q1, q2, fun j hj => (q3 j hj).trans ((a5 j (by omega)).trans (ko j hj)), fb.trans (fb2.trans q4), ic.trans (ic2.trans q5), q6⟩
        · have hbr := hnx hlt (sg_lt a1 hlt)
          rw [if_pos rfl]
          refine ⟨0, U28, e, rfl, a4, fun j hj => (a5 j).trans (ko j hj), ?_, ?_, Or.inl rfl⟩
          · rw [fb, show n - e = (n - e - 1) + 1 by omega, lq1_s]
            unfold fX5_firstBroken_b4
            rw [item_in hn hlt, if_pos hbr]
          · rw [ic, show n - e = (n - e - 1) + 1 by omega, lq1_s]
            show lq1 _ _ _ _ (fX5_next s (fX1_itemAt 60 x (nI n) (nI e))) = 0
            rw [item_in hn hlt, hbr]
            exact ic_broken _ _
    rcases hc with ⟨h0, e, hAe, d, s, hde, hph, s5, s7, s8, hnx⟩ | ⟨h1, e, g, hAe, hpg, _⟩ | ⟨h1, e, g, t, z, hAe, hpg, _⟩
    · have hen := hAe.2.1
      have fb := fb_path (m := n - e) hn hph (by omega)
      have ic := ic_path (m := n - e) hn hph (by omega)
      rw [show d + (n - e) = n - i by omega, hde] at fb ic
      rw [h0, if_pos rfl]
      refine ⟨0, U6, e, rfl, hAe, ko, ?_, ?_, Or.inl rfl⟩
      · rw [fb]
        by_cases c : e = n
        · subst c
          rw [show e - e = 0 by omega, lq1_z]; rfl
        · rw [show n - e = (n - e - 1) + 1 by omega, lq1_s]
          unfold fX5_firstBroken_b4
          rw [item_in hn (by omega), if_pos (hnx (by omega))]
      · rw [ic]
        by_cases c : e = n
        · subst c
          rw [show e - e = 0 by omega, lq1_z]
          unfold fX5_isComplete_r4
          rw [if_neg s5, if_neg s7, if_neg s8]
        · rw [show n - e = (n - e - 1) + 1 by omega, lq1_s]
          show lq1 _ _ _ _ (fX5_next s (fX1_itemAt 60 x (nI n) (nI e))) = 0
          rw [item_in hn (by omega), hnx (by omega)]
          exact ic_broken _ _
    · exact good e hAe hpg h1
    · exact good e hAe hpg h1
theorem item_cg {tf x : Nat → Int32} {n : Nat} (hn : n ≤ 60) (h : ∀ k : Nat, k < n → x k = tf k) : fX1_itemAt 60 tf (nI n) = fX1_itemAt 60 x (nI n) := by
  funext i
  unfold fX1_itemAt
  by_cases c1 : i < 0
  · rw [if_pos c1, if_pos c1]
  · rw [if_neg c1, if_neg c1]
    by_cases c2 : nI n ≤ i
    · rw [if_pos c2, if_pos c2]
    · rw [if_neg c2, if_neg c2]
      rcases pk_ix i (show n < 2 ^ 31 by omega) with d | d | ⟨j, hj, rfl⟩
      · exact absurd d c1
      · exact absurd d c2
      · rw [nI_clamp (by omega), h j hj]
theorem fb_cg {tf x : Nat → Int32} {u : Int32} (h : fX1_itemAt 60 tf u = fX1_itemAt 60 x u) : fX5_firstBroken tf u = fX5_firstBroken x u := by
  have e1 : fX5_firstBroken_b4 tf u = fX5_firstBroken_b4 x u := by
    funext a b c
    unfold fX5_firstBroken_b4
    rw [h]
  unfold fX5_firstBroken
  rw [e1]
  rfl
theorem ic_cg {tf x : Nat → Int32} {u : Int32} (h : fX1_itemAt 60 tf u = fX1_itemAt 60 x u) : fX5_isComplete tf u = fX5_isComplete x u := by
  have e1 : fX5_isComplete_b4 tf u = fX5_isComplete_b4 x u := by
    funext a b c
    unfold fX5_isComplete_b4
    rw [h]
  unfold fX5_isComplete
  rw [e1]
  rfl
theorem ni_cg {tf x : Nat → Int32} {u : Int32} (h : fX1_itemAt 60 tf u = fX1_itemAt 60 x u) : fX5_numberIn tf u = fX5_numberIn x u := by
  have e1 : fX5_numberIn_b5 tf u = fX5_numberIn_b5 x u := by
    funext a b c
    unfold fX5_numberIn_b5
    rw [h]
  funext a b
  unfold fX5_numberIn
  rw [e1]
theorem dp_cg {tf x : Nat → Int32} {u : Int32} (h : fX1_itemAt 60 tf u = fX1_itemAt 60 x u) (P : PV) : fX5_doParts tf u P = fX5_doParts x u P := by
  have e1 : fX5_doRise tf u = fX5_doRise x u := by
    funext P a b
    unfold fX5_doRise
    rw [ni_cg h]
  have e2 : fX5_doSit tf u = fX5_doSit x u := by
    funext P a b
    unfold fX5_doSit
    rw [ni_cg h, h]
  have e3 : fX5_doParts_b7 tf u = fX5_doParts_b7 x u := by
    funext a b c d e
    unfold fX5_doParts_b7
    rw [e1, e2, h]
    rfl
  unfold fX5_doParts
  rw [e3]
/-- firstError -/
theorem firstError_XT {tf : Nat → Int32} {tu : Int32} {x M : Nat → Int32} (h : XT tf tu x M) : ∃ (r : Int32) (M' : Nat → Int32), fX6_firstError tf tu = r ∧ fX7_firstError x M = (r, M') ∧ M' 0 = 0 ∧ (∀ k : Nat, k ≠ 0 → (k < 4 ∨ 8 < k) → M' k = M k) ∧ XT tf tu x M' := by
  have hh := h
  obtain ⟨n, hn, rfl, e2, e3⟩ := h
  have hA : AT (upd (upd M 0 0) 4 0) n 0 := ⟨hn, Nat.zero_le n, by rw [upd_ne (by decide), upd_ne (by decide)]; exact e2, upd_eq⟩
  obtain ⟨r, U, e, q1, q2, q3, q4, q5, q6⟩ := seats_read (x := x) (n := n) 61 0 0 _ (by omega) hA
  have ko : ∀ k : Nat, k ≠ 0 → (k < 4 ∨ 8 < k) → U k = M k := fun k k0 hk => (q3 k hk).trans ((upd_ne (by omega)).trans (upd_ne k0))
  refine ⟨nI e, U, ?_, ?_, (q3 0 (by decide)).trans ((upd_ne (by decide)).trans upd_eq), ko, XT_M hh (ko 3 (by decide) (by decide))⟩
  · unfold fX6_firstError
    rw [fb_cg (item_cg hn (fun k hk => (e3 k hk).1))]
    unfold fX5_firstBroken fX1_length
    rw [nI_clamp (by omega)]
    rw [Nat.sub_zero] at q4
    exact q4
  · unfold fX7_firstError fX7_areSeats
    rw [q1, bd2_eq]
    dsimp only
    rw [q2.2.2.2]
