theorem add_WF {f F : Nat → Int32} {b G T v s : Nat} {L : List Nat} (h : WF f b G T L) (hG : G < 16) (hv : v < 6) (hs1 : 1 ≤ s) (hs3 : s ≤ 3) (e0 : F (b + 0) = nI (G + 1)) (e1 : ∀ k : Nat, 1 ≤ k → k < 38 → F (b + k) = f (b + k)) (e2 : ∀ x w : Nat, x < 16 → w < 5 → x ≠ G → fX7_of F b x w = fX7_of f b x w) (n0 : fX7_of F b G 0 = nI v) (n1 : fX7_of F b G 1 = nI s) (n2 : fX7_of F b G 2 = -1) (n3 : fX7_of F b G 3 = -1) : WF F b (G + 1) T L := by
  have hT := h.hT
  have hl := h.l16
  have e18 : ∀ t : Nat, t < 4 → F (b + 18 + t) = f (b + 18 + t) := fun t ht => by
    rw [Nat.add_assoc]; exact e1 (18 + t) (by omega) (by omega)
  have e10 : ∀ t : Nat, t < 8 → F (b + 10 + t) = f (b + 10 + t) := fun t ht => by
    rw [Nat.add_assoc]; exact e1 (10 + t) (by omega) (by omega)
  have e22 : ∀ t : Nat, t < 16 → F (b + 22 + t) = f (b + 22 + t) := fun t ht => by
    rw [Nat.add_assoc]; exact e1 (22 + t) (by omega) (by omega)
  refine ⟨?_, (e1 1 (by omega) (by omega)).trans h.ht, hT, fun y hy => ?_, fun y hy => ?_, fun y hy => ?_, fun t ht => ?_, fun y hy => ?_, fun y z hy hz k1 k2 k3 => ?_, ?_, ?_⟩
  · obtain ⟨⟨rB, rG, rT, rF, rS, rTW, rWW⟩, hg, hG16, hnd, hS, hO, hM⟩ := h.ro
    refine ⟨⟨rB, ⟨G + 1, by omega, e0⟩, ?_, ?_, ?_, fun j hj => ?_, fun j hj => ?_⟩, e0, by omega, hnd, (e1 3 (by omega) (by omega)).trans hS, fun k y hy => ?_, fun j => ?_⟩
    · rw [e1 1 (by omega) (by omega)]; exact rT
    · rw [e1 2 (by omega) (by omega)]; exact rF
    · rw [e1 3 (by omega) (by omega)]; exact rS
    · show TW (fX7_of F b j 3)
      by_cases c : j = G
      · subst c; rw [n3]; exact Or.inl rfl
      · rw [e2 j 3 hj (by decide) c]; exact rTW j hj
    · show WW (fX7_of F b j 2)
      by_cases c : j = G
      · subst c; rw [n2]; exact Or.inl rfl
      · rw [e2 j 2 hj (by decide) c]; exact rWW j hj
    · have hk := (List.getElem?_eq_some_iff.mp hy).1
      rw [e22 k (by omega)]; exact hO k y hy
    · show j ∈ L ↔ j < G + 1 ∧ fX7_of F b j 3 ≠ -1
      rw [hM j]
      by_cases c : j = G
      · subst c
        rw [n3]
        exact ⟨fun e => absurd e.1 (Nat.lt_irrefl j), fun e => absurd rfl e.2⟩
      · by_cases cj : j < G
        · rw [e2 j 3 (by omega) (by decide) c]
          exact ⟨fun e => ⟨by omega, e.2⟩, fun e => ⟨cj, e.2⟩⟩
        · exact ⟨fun e => absurd e.1 cj, fun e => absurd e.1 (by omega)⟩
  · by_cases c : y = G
    · subst c; exact ⟨v, hv, n0⟩
    · rw [e2 y 0 (by omega) (by decide) c]; exact h.fam y (by omega)
  · by_cases c : y = G
    · subst c; exact ⟨s, hs1, hs3, n1⟩
    · rw [e2 y 1 (by omega) (by decide) c]; exact h.siz y (by omega)
  · by_cases c : y = G
    · subst c; exact Or.inl n2
    · rw [e2 y 2 (by omega) (by decide) c]
      rcases h.wsh y (by omega) with e | ⟨j, k1, k2, k3⟩
      · exact Or.inl e
      · exact Or.inr ⟨j, by omega, k2, k3⟩
  · rw [e18 t (by omega)]; exact h.sts t ht
  · by_cases c : y = G
    · subst c; exact Or.inl n3
    · rw [e2 y 3 (by omega) (by decide) c, e2 y 4 (by omega) (by decide) c]
      rcases h.sit y (by omega) with e | ⟨t, z, n, k1, k2, k3, k4, k5, k6⟩
      · exact Or.inl e
      · exact Or.inr ⟨t, z, n, k1, k2, k3, (e18 t (by omega)).trans k4, k5, k6⟩
  · have cy : y ≠ G := fun e => k1 (by rw [e]; exact n3)
    have cz : z ≠ G := fun e => k1 (k2.trans (by rw [e]; exact n3))
    rw [e2 y 3 (by omega) (by decide) cy] at k1 k2
    rw [e2 y 4 (by omega) (by decide) cy] at k3
    rw [e2 z 3 (by omega) (by decide) cz] at k2
    rw [e2 z 4 (by omega) (by decide) cz] at k3
    exact h.dis y z (by omega) (by omega) k1 k2 k3
  · obtain ⟨a, p, q, r, l1, l2, l3, l4, l5, l6, l7, l8, l9⟩ := h.stg
    exact ⟨a, p, q, r, l1, l2, l3, l4, l5, (e1 6 (by omega) (by omega)).trans l6, (e1 7 (by omega) (by omega)).trans l7, (e1 8 (by omega) (by omega)).trans l8, (e1 9 (by omega) (by omega)).trans l9⟩
  · obtain ⟨n, l1, l2, l3, l4⟩ := h.fds
    refine ⟨n, l1, (e1 2 (by omega) (by omega)).trans l2, fun k hk => ?_, fun j k hj hk => ?_⟩
    · rw [e10 k (by omega)]; exact l3 k hk
    · rw [e10 k (by omega), e10 j (by omega)]; exact l4 j k hj hk
/-- the row with a guest more -/
def AG (f : Nat → Int32) (b G : Nat) (v s : Int32) : Nat → Int32 := upd (upd (upd (upd (upd (upd f (b + 0) (nI (G + 1))) (b + 38 + 5 * G + 0) v) (b + 38 + 5 * G + 1) s) (b + 38 + 5 * G + 2) (-1)) (b + 38 + 5 * G + 3) (-1)) (b + 38 + 5 * G + 4) (-1)
theorem AG_at (f : Nat → Int32) (b G : Nat) (v s : Int32) : AG f b G v s (b + 0) = nI (G + 1) ∧ (∀ k : Nat, 1 ≤ k → k < 38 → AG f b G v s (b + k) = f (b + k)) ∧ (∀ x w : Nat, w < 5 → x ≠ G → fX7_of (AG f b G v s) b x w = fX7_of f b x w) ∧ fX7_of (AG f b G v s) b G 0 = v ∧ fX7_of (AG f b G v s) b G 1 = s ∧ fX7_of (AG f b G v s) b G 2 = -1 ∧ fX7_of (AG f b G v s) b G 3 = -1 ∧ fX7_of (AG f b G v s) b G 4 = -1 ∧ ∀ i : Nat, b + 118 ≤ i → G < 16 → AG f b G v s i = f i := by
  unfold AG fX7_of
  refine ⟨?_, fun k h1 h2 => ?_, fun x w hw hx => ?_, ?_, ?_, ?_, ?_, ?_, fun i hi hG => ?_⟩
  · rw [upd_ne (by omega), upd_ne (by omega), upd_ne (by omega), upd_ne (by omega), upd_ne (by omega), upd_eq]
  · rw [upd_ne (by omega), upd_ne (by omega), upd_ne (by omega), upd_ne (by omega), upd_ne (by omega), upd_ne (by omega)]
  · rw [upd_ne (by omega), upd_ne (by omega), upd_ne (by omega), upd_ne (by omega), upd_ne (by omega), upd_ne (by omega)]
  · rw [upd_ne (by omega), upd_ne (by omega), upd_ne (by omega), upd_ne (by omega), upd_eq]
  · rw [upd_ne (by omega), upd_ne (by omega), upd_ne (by omega), upd_eq]
  · rw [upd_ne (by omega), upd_ne (by omega), upd_eq]
  · rw [upd_ne (by omega), upd_eq]
  · rw [upd_eq]
  · rw [upd_ne (by omega), upd_ne (by omega), upd_ne (by omega), upd_ne (by omega), upd_ne (by omega), upd_ne (by omega)]
theorem add_REL {P : PV} {f : Nat → Int32} {b G T v s : Nat} {L : List Nat} (h : REL P f b G T L) (hG : G < 16) (hv : v < 6) (hs1 : 1 ≤ s) (hs3 : s ≤ 3) : (fX2_addGuest P (nI v) (nI s)).1 = nI G ∧ REL (fX2_addGuest P (nI v) (nI s)).2 (AG f b G (nI v) (nI s)) b (G + 1) T L := by
  have hT := h.wf.hT
  have h8 := h.wf.f8
  have hl := h.wf.l16
  obtain ⟨e0, e1, e2, n0, n1, n2, n3, n4, e9⟩ := AG_at f b G (nI v) (nI s)
  have hF := add_WF h.wf hG hv hs1 hs3 e0 e1 (fun x w _ hw hx => e2 x w hw hx) n0 n1 n2 n3
  have eP : fX2_addGuest P (nI v) (nI s) = (nI G, sset (rset (rset (rset (rset (rset P 0 (upd (P 0) G (nI v))) 1 (upd (P 1) G (nI s))) 2 (upd (P 2) G (-1))) 3 (upd (P 3) G (-1))) 4 (upd (P 4) G (-1))) 0 (nI (G + 1))) := by
    unfold fX2_addGuest
    rw [h.pg, bd_eq, bd_eq, bd_eq, bd_eq, bd_eq, put_in hG (by decide), put_in hG (by decide), put_in hG (by decide), put_in hG (by decide), put_in hG (by decide), nI_1]
  rw [eP]
  have e18 : ∀ t : Nat, t < 4 → AG f b G (nI v) (nI s) (b + 18 + t) = f (b + 18 + t) := fun t ht => by
    rw [Nat.add_assoc]; exact e1 (18 + t) (by omega) (by omega)
  refine ⟨rfl, hF, ?_, ?_, ?_, ?_, ?_, ?_, fun w x hw hx => ?_, fun t ht => ?_, fun k hk => ?_, fun t z ht hz => ?_, fun k hk => ?_, fun k hk => ?_⟩
  · simp [sset, rset, upd]
  · simp [sset, rset, upd]; exact h.pt
  · rw [e1 4 (by omega) (by omega)]; simp [sset, rset, upd]; exact h.p2
  · rw [e1 5 (by omega) (by omega)]; simp [sset, rset, upd]; exact h.p3
  · rw [e1 2 (by omega) (by omega)]; simp [sset, rset, upd]; exact h.p4
  · rw [e1 3 (by omega) (by omega)]; simp [sset, rset, upd]; exact h.p5
  · have hw' : w = 0 ∨ w = 1 ∨ w = 2 ∨ w = 3 ∨ w = 4 := by omega
    by_cases c : x = G
    · subst c
      rcases hw' with rfl | rfl | rfl | rfl | rfl
      · rw [n0]; simp [sset, rset, upd]
      · rw [n1]; simp [sset, rset, upd]
      · rw [n2]; simp [sset, rset, upd]
      · rw [n3]; simp [sset, rset, upd]
      · rw [n4]; simp [sset, rset, upd]
    · rw [e2 x w hw c]
      rcases hw' with rfl | rfl | rfl | rfl | rfl
      · simp [sset, rset, upd, c]; exact h.row 0 x hw hx
      · simp [sset, rset, upd, c]; exact h.row 1 x hw hx
      · simp [sset, rset, upd, c]; exact h.row 2 x hw hx
      · simp [sset, rset, upd, c]; exact h.row 3 x hw hx
      · simp [sset, rset, upd, c]; exact h.row 4 x hw hx
  · rw [e18 t ht]; simp [sset, rset]; exact h.ts t ht
  · rw [Nat.add_assoc, e1 (6 + k) (by omega) (by omega), ← Nat.add_assoc]; simp [sset, rset]; exact h.sg k hk
  · have ew : fX7_whoSits (AG f b G (nI v) (nI s)) b (nI t) (nI z) = fX7_whoSits f b (nI t) (nI z) := by
      rcases who_is h.wf (nI t) (nI z) with ⟨i, k1, k2, k3, k4⟩ | ⟨k1, k2⟩
      · have e3 := (e2 i 3 (by decide) (by omega)).trans k2
        have e4 := (e2 i 4 (by decide) (by omega)).trans k3
        have := who_of hF (show i < G + 1 by omega) (by rw [e3]; exact nI_m1 (by omega))
        rw [e3, e4] at this
        rw [this, k4]
      · rcases who_is hF (nI t) (nI z) with ⟨i, l1, l2, l3, l4⟩ | ⟨l1, l2⟩
        · exfalso
          have ci : i ≠ G := fun e => nI_m1 (show t < 2 ^ 31 by omega) (l2.symm.trans (by rw [e]; exact n3))
          rw [e2 i 3 (by decide) ci] at l2
          rw [e2 i 4 (by decide) ci] at l3
          exact k1 i (by omega) ⟨l2, l3⟩
        · rw [l2, k2]
    rw [ew]
    simp [sset, rset]; exact h.hd t z ht hz
  · rw [e1 2 (by omega) (by omega)] at hk
    rw [Nat.add_assoc, e1 (10 + k) (by omega) (by omega), ← Nat.add_assoc]
    simp [sset, rset]; exact h.fd k hk
  · rw [Nat.add_assoc, e1 (22 + k) (by omega) (by omega), ← Nat.add_assoc]
    simp [sset, rset]; exact h.od k hk
/-- guest -/
theorem guest_ST {PN PS : PV} {Ps : Nat → PV} {o v : Nat} {kp : Int32} {f M : Nat → Int32} (h : ST PN PS Ps o v kp f M) (a s : Int32) :
    (fX6_guest PN Ps o v a s = Sum.inl 0 ∧ fX7_guest f M a s = (0, (f, upd M 0 (nI 1)))) ∨ (fX6_guest PN Ps o v a s = Sum.inl 1 ∧ fX7_guest f M a s = (0, (f, upd M 0 (nI 2)))) ∨ ∃ (r : Int32) (PN' : PV) (Ps' : Nat → PV) (o' v' : Nat) (F M' : Nat → Int32), fX6_guest PN Ps o v a s = Sum.inr (r, (PN', Ps', o', v')) ∧ fX7_guest f M a s = (r, (F, M')) ∧ TZ M' M ∧ ST PN' PS Ps' o' v' kp F M' := by
  obtain ⟨G, T, L, hR⟩ := h.1
  have hG := hR.wf.G16
  have h10 : ¬ (1 : Int32) = 0 := by decide
  obtain ⟨s1, s2, s3⟩ := ST_save h hR
  have e0 : f 0 = nI G := hR.wf.g0
  rcases fam_is a with ⟨c1, c2, w, hw, rfl⟩ | ⟨c1, c2⟩
  · have hs : (fX7_in s 1 3 = 1 ∧ ¬ s < 1 ∧ s ≤ 3 ∧ ∃ j : Nat, 1 ≤ j ∧ j ≤ 3 ∧ s = nI j) ∨ (fX7_in s 1 3 = 0 ∧ (s < 1 ∨ (¬ s < 1 ∧ ¬ s ≤ 3))) := by
      unfold fX7_in
      have t1 : (1 : Int32).toInt = 1 := rfl
      have t3 : (3 : Int32).toInt = 3 := rfl
      by_cases k1 : s < 1
      · exact Or.inr ⟨if_pos k1, Or.inl k1⟩
      · rw [if_neg k1]
        by_cases k2 : s ≤ 3
        · have k3 : ¬ (3 : Int32) < s := by
            rw [Int32.lt_iff_toInt_lt]; rw [Int32.le_iff_toInt_le] at k2; omega
          obtain ⟨j, hj, rfl⟩ := nI_of2 (n := 3) (x := s) (M := 3) rfl (fun e => k1 (by
            rw [Int32.lt_iff_toInt_lt] at e ⊢
            have : (0 : Int32).toInt = 0 := rfl
            omega)) k2
          refine Or.inl ⟨if_neg k3, k1, k2, j, ?_, hj, rfl⟩
          rcases Nat.eq_zero_or_pos j with rfl | e
          · exact absurd (show nI 0 < 1 by decide) k1
          · exact e
        · have k3 : (3 : Int32) < s := by
            rw [Int32.lt_iff_toInt_lt]; rw [Int32.le_iff_toInt_le] at k2; omega
          exact Or.inr ⟨if_pos k3, Or.inr ⟨k1, k2⟩⟩
    rcases hs with ⟨d1, d2, d3, j, j1, j3, rfl⟩ | ⟨d1, d2⟩
    · have eX : fX6_guest PN Ps o v (nI w) (nI j) = if nI G < 16 then Sum.inr ((fX2_addGuest PN (nI w) (nI j)).1, ((fX2_addGuest PN (nI w) (nI j)).2, (fX0_save Ps o v PN).1, (fX0_save Ps o v PN).2.1, (fX0_save Ps o v PN).2.2)) else Sum.inl 1 := by
        unfold fX6_guest
        rw [c1, if_neg h10, if_neg d2, if_pos d3, hR.pg]
        rfl
      rw [eX]
      unfold fX7_guest
      rw [c2, if_neg h10, d1, if_neg h10, e0, bd_eq, bd2_eq]
      by_cases c : G = 16
      · subst c
        rw [if_neg (by decide), if_pos (show nI 16 = 16 from rfl), holds_p (by decide) (by decide)]
        exact Or.inr (Or.inl ⟨rfl, rfl⟩)
      · obtain ⟨a1, a2⟩ := add_REL s1 (show G < 16 by omega) hw j1 j3
        obtain ⟨b1, b2⟩ := add_REL hR (show G < 16 by omega) hw j1 j3
        rw [if_pos (show nI G < 16 from nI_lt (a := G) (b := 16) (by omega) (by decide)), if_neg (show ¬ nI G = 16 from fun e => c ((nI_eq (b := 16) (by omega) (by decide)).mp e)), holds_0]
        obtain ⟨q0, q1, q2, q3, q4, q5, q6, q7, q9⟩ := AG_at (fX7_save f (upd M 0 0)).1 0 G (nI w) (nI j)
        refine Or.inr (Or.inr ⟨nI G, _, _, _, _, _, _, by rw [b1], ?_, s2, s3 _ (AG (fX7_save f (upd M 0 0)).1 0 G (nI w) (nI j)) _ _ _ (fun i hi _ => q9 i (by omega) (by omega)) a2⟩)
        have eG : (fX7_save f (upd M 0 0)).1 0 = nI G := s1.wf.g0
        show (if (1 : Int32) = 0 then (0, (f, upd M 0 0)) else _) = _
        rw [if_neg h10, bd_eq, bd_eq, bd_eq, bd_eq, bd_eq, bd_eq, eG, nI_1, nI_clamp (show G < 2 ^ 31 by omega)]
        rfl
    · refine Or.inl ⟨?_, ?_⟩
      · unfold fX6_guest
        rw [c1, if_neg h10]
        rcases d2 with d2 | ⟨d2, d3⟩
        · rw [if_pos d2]
        · rw [if_neg d2, if_neg d3]
      · unfold fX7_guest
        rw [c2, if_neg h10, d1, if_pos rfl, bd_eq, bd2_eq, holds_p (by decide) (by decide)]
        rfl
  · refine Or.inl ⟨?_, ?_⟩
    · unfold fX6_guest
      rw [c1, if_pos rfl]
    · unfold fX7_guest
      rw [c2, if_pos rfl, bd_eq, bd2_eq, holds_p (by decide) (by decide)]
      rfl


