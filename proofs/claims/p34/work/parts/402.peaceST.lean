/-- peace -/
theorem peace_ST {PN PS : PV} {Ps : Nat → PV} {o v : Nat} {kp : Int32} {f M : Nat → Int32} (h : ST PN PS Ps o v kp f M) (x y : Int32) :
    (fX6_peace PN Ps o v x y = Sum.inl 0 ∧ fX7_peace f M x y = (0, (f, upd M 0 (nI 1)))) ∨ (fX6_peace PN Ps o v x y = Sum.inl 1 ∧ fX7_peace f M x y = (0, (f, upd M 0 (nI 2)))) ∨ ∃ (r : Int32) (PN' : PV) (Ps' : Nat → PV) (o' v' : Nat) (F M' : Nat → Int32), fX6_peace PN Ps o v x y = Sum.inr (r, (PN', Ps', o', v')) ∧ fX7_peace f M x y = (r, (F, M')) ∧ TZ M' M ∧ ST PN' PS Ps' o' v' kp F M' := by
  obtain ⟨G, T, L, hR⟩ := h.1
  have h10 : ¬ (1 : Int32) = 0 := by decide
  obtain ⟨s1, s2, s3⟩ := ST_save h hR
  rcases pair_is x y with ⟨c1, c2, a, c, ha, hc, hac, rfl, rfl⟩ | ⟨c1, c2⟩
  · have eX : fX6_peace PN Ps o v (nI a) (nI c) = if fX2_hasFeud PN (nI a) (nI c) = 0 then Sum.inl 1 else Sum.inr ((fX1_dropItem 8 (PN 8) (PN 10 4) (fX2_feudCode (nI a) (nI c))).2, (sset (rset PN 8 (fX1_dropItem 8 (PN 8) (PN 10 4) (fX2_feudCode (nI a) (nI c))).1) 4 (fX1_dropItem 8 (PN 8) (PN 10 4) (fX2_feudCode (nI a) (nI c))).2, (fX0_save Ps o v PN).1, (fX0_save Ps o v PN).2.1, (fX0_save Ps o v PN).2.2)) := by
      unfold fX6_peace
      rw [c1, if_pos rfl]
      rfl
    rw [eX, hasFeud_eq hR ha hc]
    unfold fX7_peace
    rw [c2, if_neg h10, bd_eq, if_neg h10, bd_eq, bd2_eq]
    rcases feudPlace_is f 0 (fX7_feudOf (nI a) (nI c)) with ⟨p, hp, ep, _, eF⟩ | ⟨_, eF⟩
    · obtain ⟨n, n8, hn, hcodes, hdist⟩ := hR.wf.fds
      rw [hn, nI_clamp (by omega)] at hp
      obtain ⟨n1, n18, hn1, _, hdist1⟩ := s1.wf.fds
      have e22 : (fX7_save f (upd M 0 0)).1 (0 + 2) = nI n := by rw [← s1.p4, hR.p4, hn]
      have e22' : (fX7_save f (upd M 0 0)).1 2 = nI n := by rw [Nat.zero_add] at e22; exact e22
      have hP8 : ∀ j : Nat, j < n → PN 8 j = f (0 + 10 + j) := fun j hj => hR.fd j (by rw [hn, nI_clamp (by omega)]; exact hj)
      have hP8' : ∀ j : Nat, j < n → PN 8 j = (fX7_save f (upd M 0 0)).1 (0 + 10 + j) := fun j hj => s1.fd j (by rw [e22, nI_clamp (by omega)]; exact hj)
      obtain ⟨R, d1, d2⟩ := drop_one (N := 8) (f := PN 8) n8 (by decide) hp (fun j k hj hk e => hdist j k hj hk (by rw [← hP8 j hj, ← hP8 k hk]; exact e))
      have eC : fX2_feudCode (nI a) (nI c) = PN 8 p := by rw [hP8 p hp, ep, fc_cls a ha c hc, fc_ref a ha c hc]
      obtain ⟨q, rfl⟩ : ∃ q, n = q + 1 := ⟨n - 1, by omega⟩
      obtain ⟨V, v1, v2, v3⟩ := shift_loop (r := fX7_peace_r72 (fX7_save f (upd M 0 0))) (N := q) (q - p) p (upd (fX7_save f (upd M 0 0)).1 2 (nI q)) (by omega)
      have hS := less_REL s1 e22 n8 hp (F := V) (R := R) (by
        rw [Nat.zero_add, v3 2 (Or.inl (by omega)), upd_eq]; rfl) (fun j hj => by
        have hj : j < q := hj
        rw [Nat.zero_add]
        by_cases cj : j < p
        · rw [if_pos cj, v3 (10 + j) (Or.inl (by omega)), upd_ne (by omega)]
        · rw [if_neg cj, v2 j (by omega) hj, upd_ne (by omega)]; rfl) (fun i hi hi2 => by
        rw [v3 i (by omega), upd_ne (by omega)]) d2
      rw [eF, if_neg (show ¬ nI p = -1 from nI_m1 (by omega)), if_neg (show ¬ nI p = -1 from nI_m1 (by omega)), if_neg h10, holds_0, hR.p4, hn, eC, d1]
      refine Or.inr (Or.inr ⟨nI (q + 1 - 1), sset (rset PN 8 R) 4 (nI (q + 1 - 1)), _, _, _, V, _, rfl, ?_, s2, s3 _ V _ _ _ (fun i hi _ => ?_) hS⟩)
      · refine (if_neg h10).trans ?_
        rw [bd_eq, e22', nI_pred, upd_eq, nI_clamp (by omega), nI_clamp (by omega), v1]
        unfold fX7_peace_r72
        rw [v3 2 (Or.inl (by omega)), upd_eq]
        rfl
      · rw [v3 i (Or.inr (by omega)), upd_ne (by omega)]
    · rw [eF, if_pos rfl, if_pos rfl, if_pos rfl, holds_p (by decide) (by decide)]
      exact Or.inr (Or.inl ⟨rfl, rfl⟩)
  · refine Or.inl ⟨?_, ?_⟩
    · unfold fX6_peace
      rw [c1, if_neg h10]
    · unfold fX7_peace
      rw [c2, if_pos rfl, bd_eq, if_pos rfl, bd_eq, bd2_eq, holds_p (by decide) (by decide)]
      rfl


