theorem fc_lt : ∀ a : Nat, a < 6 → ∀ c : Nat, c < 6 → a ≠ c → ∃ p q : Nat, p < q ∧ q < 6 ∧ fc a c = 6 * p + q := fun a ha c hc hac => by
  unfold fc
  by_cases h : a ≤ c
  · rw [if_pos h]; exact ⟨a, c, by omega, hc, rfl⟩
  · rw [if_neg h]; exact ⟨c, a, by omega, ha, rfl⟩
/-- feud -/
theorem feud_ST {PN PS : PV} {Ps : Nat → PV} {o v : Nat} {kp : Int32} {f M : Nat → Int32} (h : ST PN PS Ps o v kp f M) (x y : Int32) :
    (fX6_feud PN Ps o v x y = Sum.inl 0 ∧ fX7_feud f M x y = (0, (f, upd M 0 (nI 1)))) ∨ (fX6_feud PN Ps o v x y = Sum.inl 1 ∧ fX7_feud f M x y = (0, (f, upd M 0 (nI 2)))) ∨ ∃ (r : Int32) (PN' : PV) (Ps' : Nat → PV) (o' v' : Nat) (F M' : Nat → Int32), fX6_feud PN Ps o v x y = Sum.inr (r, (PN', Ps', o', v')) ∧ fX7_feud f M x y = (r, (F, M')) ∧ TZ M' M ∧ ST PN' PS Ps' o' v' kp F M' := by
  obtain ⟨G, T, L, hR⟩ := h.1
  have h10 : ¬ (1 : Int32) = 0 := by decide
  have hT := hR.wf.hT
  obtain ⟨s1, s2, s3⟩ := ST_save h hR
  rcases pair_is x y with ⟨c1, c2, a, c, ha, hc, hac, rfl, rfl⟩ | ⟨c1, c2⟩
  · obtain ⟨n, n8, hn, hcodes, hdist⟩ := hR.wf.fds
    have hn2 : f 2 = nI n := by have := hn; rw [Nat.zero_add] at this; exact this
    have eY : fX7_feud f M (nI a) (nI c) = bd2 (fX7_holds M (nI (if (nI (if fX7_feudPlace f 0 (fX7_feudOf (nI a) (nI c)) = -1 then 0 else 1)) = 0 then (if f 2 = 8 then 2 else 0) else 2))) (fun r61 U61 => (if r61 = 0 then (0, (f, U61)) else (bd (fX7_save f U61) (fun U70 => (lq2 (fX7_feud_b79 f (nI a) (nI c)) (fX7_feud_r79 (nI a) (nI c) U70) ((U70.1 1).toNatClampNeg) 0 0 U70.1))))) := by
      unfold fX7_feud
      rw [c2, if_neg h10, bd_eq, if_neg h10, bd_eq]
    have eX : fX6_feud PN Ps o v (nI a) (nI c) = if fX2_hasFeud PN (nI a) (nI c) = 0 then (if fX1_isFull 8 (PN 8) (PN 10 4) = 0 then Sum.inr ((fX2_beginFeud PN (nI a) (nI c)).1, ((fX2_beginFeud PN (nI a) (nI c)).2, (fX0_save Ps o v PN).1, (fX0_save Ps o v PN).2.1, (fX0_save Ps o v PN).2.2)) else Sum.inl 1) else Sum.inl 1 := by
      unfold fX6_feud
      rw [c1, if_pos rfl]
      rfl
    rw [eX, eY, hasFeud_eq hR ha hc]
    rcases feudPlace_is f 0 (fX7_feudOf (nI a) (nI c)) with ⟨p, hp, ep, _, eF⟩ | ⟨hnF, eF⟩
    · rw [hn, nI_clamp (by omega)] at hp
      rw [eF, if_neg (show ¬ nI p = -1 from nI_m1 (by omega)), if_neg (show ¬ nI p = -1 from nI_m1 (by omega)), if_neg h10, if_neg (show ¬ nI 1 = 0 by decide), bd2_eq, holds_p (by decide) (by decide)]
      exact Or.inr (Or.inl ⟨rfl, rfl⟩)
    · have eF1 : fX1_isFull 8 (PN 8) (PN 10 4) = if n = 8 then 1 else 0 := by
        unfold fX1_isFull
        rw [hR.p4, hn]
        by_cases c : n = 8
        · subst c; rfl
        · rw [if_pos (nI_lt (by omega) (by decide)), if_neg c]
      rw [eF, if_pos rfl, if_pos rfl, if_pos rfl, if_pos (show nI 0 = 0 from rfl), eF1, hn2]
      by_cases c8 : n = 8
      · subst c8
        rw [if_pos rfl, if_neg h10, if_pos (show nI 8 = 8 from rfl), bd2_eq, holds_p (by decide) (by decide)]
        exact Or.inr (Or.inl ⟨rfl, rfl⟩)
      · rw [if_neg c8, if_pos rfl, if_neg (show ¬ nI n = 8 from fun e => c8 ((nI_eq (b := 8) (by omega) (by decide)).mp e)), bd2_eq, holds_0]
        obtain ⟨p, q, hpq, hq6, efc⟩ := fc_lt a ha c hc hac
        have e22 : (fX7_save f (upd M 0 0)).1 (0 + 2) = nI n := by rw [← s1.p4, hR.p4, hn]
        have e22' : (fX7_save f (upd M 0 0)).1 2 = nI n := by rw [Nat.zero_add] at e22; exact e22
        have hP8 : ∀ j : Nat, j < n → PN 8 j = f (0 + 10 + j) := fun j hj => hR.fd j (by rw [hn, nI_clamp (by omega)]; exact hj)
        have hP8' : ∀ j : Nat, j < n → PN 8 j = (fX7_save f (upd M 0 0)).1 (0 + 10 + j) := fun j hj => s1.fd j (by rw [e22, nI_clamp (by omega)]; exact hj)
        have hnew : ∀ k : Nat, k < n → (fX7_save f (upd M 0 0)).1 (0 + 10 + k) ≠ nI (6 * p + q) := fun k hk e => by
          refine hnF ⟨k, by rw [hn, nI_clamp (by omega)]; exact hk, ?_⟩
          rw [← hP8 k hk, hP8' k hk, e, fc_ref a ha c hc, efc]
        have up2 : ∀ (U : Nat → Int32), (upd (upd U (10 + n) (nI (6 * p + q))) 2 (nI (n + 1))) (0 + 2) = nI (n + 1) := fun U => by rw [Nat.zero_add]; exact upd_eq
        have upc : ∀ (U : Nat → Int32), (upd (upd U (10 + n) (nI (6 * p + q))) 2 (nI (n + 1))) (0 + 10 + n) = nI (6 * p + q) := fun U => by rw [Nat.zero_add, upd_ne (by omega)]; exact upd_eq
        have upo : ∀ (U : Nat → Int32) (i : Nat), i ≠ 0 + 2 → i ≠ 0 + 10 + n → (upd (upd U (10 + n) (nI (6 * p + q))) 2 (nI (n + 1))) i = U i := fun U i h1 h2 => by rw [upd_ne (by omega), upd_ne (by omega)]
        have hn8 : n < 8 := by omega
        have hW0 := more_WF s1.wf e22 hn8 hpq hq6 hnew (up2 _) (upc _) (upo _)
        have hR0 := more_REL s1 hW0 e22 hn8 (up2 _) (upc _) (upo _)
        have hO0 : ON n (fX7_save f (upd M 0 0)).1 (upd (upd (fX7_save f (upd M 0 0)).1 (10 + n) (nI (6 * p + q))) 2 (nI (n + 1))) := ⟨fun k hk k2 k10 => upo _ k (by omega) (by omega), fun y w hy hw => upo _ _ (by omega) (by omega)⟩
        obtain ⟨P', F', U', L', x', q1, q2, q3, q4, q5, q6, q7⟩ := feud_loop (f := f) ha hc hac hR.wf.gN (fX7_feud_r79 (nI a) (nI c) (fX7_save f (upd M 0 0))) T 0 _ _ (fX7_save f (upd M 0 0)).1 L 0 (Nat.zero_add T) hR0 s1.wf hO0
        have eB : fX2_beginFeud PN (nI a) (nI c) = (x', P') := by
          unfold fX2_beginFeud
          rw [bd_eq, fc_cls a ha c hc, efc, hR.p4, hn, hR.pt, nI_clamp (show T < 2 ^ 31 by omega)]
          unfold fX1_addLast fX1_isFull
          rw [if_pos (show nI n < nI 8 from nI_lt (by omega) (by decide)), if_pos rfl, bd_eq, put_in (by omega) (by decide), nI_1]
          exact q1
        have u2 : U' 2 = nI n := ((q6 2 (by decide) (by decide) (by decide)).1).trans e22'
        have eR : fX7_feud_r79 (nI a) (nI c) (fX7_save f (upd M 0 0)) x' U' = (x', (upd (upd U' (10 + n) (nI (6 * p + q))) 2 (nI (n + 1)), (fX7_save f (upd M 0 0)).2)) := by
          unfold fX7_feud_r79
          rw [u2, nI_clamp (by omega), upd_ne (show 2 ≠ 10 + n by omega), u2, nI_1, fc_ref a ha c hc, efc]
        have u2' : U' (0 + 2) = nI n := by rw [Nat.zero_add]; exact u2
        have hW' := more_WF q4 u2' hn8 hpq hq6 (fun k hk => by
          have := (q6 (10 + k) (by omega) (by omega) (by omega)).1
          rw [Nat.zero_add, this]
          have := hnew k hk
          rw [Nat.zero_add] at this
          exact this) (up2 U') (upc U') (upo U')
        have hR' := REL_oc q3 hW' ⟨fun k hk => by
          by_cases k2 : k = 2
          · subst k2
            rw [upd_eq, (q6 2 (by decide) (by decide) (by decide)).2, upd_eq]
          · by_cases k10 : k = 10 + n
            · subst k10
              rw [upd_ne (by omega), upd_eq, (q6 (10 + n) (by omega) (by omega) (by omega)).2, upd_ne (by omega), upd_eq]
            · rw [upd_ne k2, upd_ne k10, q5.1 k hk k2 k10], fun y w hy hw => by
          rw [q5.2 y w hy hw]
          exact upo U' _ (by omega) (by omega)⟩
        rw [eB]
        have e1 : ((fX7_save f (upd M 0 0)).1 1).toNatClampNeg = T := by have := s1.wf.tN; rw [Nat.zero_add] at this; exact this
        refine Or.inr (Or.inr ⟨x', P', _, _, _, _, _, rfl, ?_, s2, s3 P' (upd (upd U' (10 + n) (nI (6 * p + q))) 2 (nI (n + 1))) G T L' (fun i hi _ => ?_) hR'⟩)
        · refine (if_neg h10).trans ?_
          rw [bd_eq, e1, q2, eR]
        · rw [upd_ne (by omega), upd_ne (by omega)]
          exact q7 i hi
  · refine Or.inl ⟨?_, ?_⟩
    · unfold fX6_feud
      rw [c1, if_neg h10]
    · unfold fX7_feud
      rw [c2, if_pos rfl, bd_eq, if_pos rfl, bd_eq, bd2_eq, holds_p (by decide) (by decide)]
      rfl

