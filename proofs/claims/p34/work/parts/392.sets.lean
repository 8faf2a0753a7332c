/-- the bounds of a setting -/
theorem set_bds : ∀ s : Nat, s < 4 → ∃ lo hi : Nat, lo ≤ 1 ∧ hi ≤ 20 ∧ fLV s = nI lo ∧ fGV s = nI hi ∧ nI (if nI s = 0 then 1 else 0) = nI lo ∧ fX7_mostOf (nI s) = nI hi ∧ (s = 0 → lo = 1 ∧ hi = 8) ∧ (s = 3 → hi = 9) := fun s hs => by
  have hs' : s = 0 ∨ s = 1 ∨ s = 2 ∨ s = 3 := by omega
  rcases hs' with rfl | rfl | rfl | rfl
  · exact ⟨1, 8, by decide, by decide, rfl, rfl, by decide, by decide, fun _ => ⟨rfl, rfl⟩, fun e => absurd e (by decide)⟩
  · exact ⟨0, 20, by decide, by decide, rfl, rfl, by decide, by decide, fun e => absurd e (by decide), fun e => absurd e (by decide)⟩
  · exact ⟨0, 20, by decide, by decide, rfl, rfl, by decide, by decide, fun e => absurd e (by decide), fun e => absurd e (by decide)⟩
  · exact ⟨0, 9, by decide, by decide, rfl, rfl, by decide, by decide, fun e => absurd e (by decide), fun _ => rfl⟩
theorem set_WF {f : Nat → Int32} {b G T s a lo hi : Nat} {L : List Nat} (h : WF f b G T L) (hs : s < 4) (hlo : lo ≤ a) (hhi : a ≤ hi) (h20 : hi ≤ 20) (h0 : s = 0 → lo = 1 ∧ hi = 8) (h3 : s = 3 → hi = 9) : WF (upd f (b + 6 + s) (nI a)) b G T L := by
  have hG := h.G16
  have hT := h.hT
  have e1 : ∀ k : Nat, (k < 6 ∨ 10 ≤ k) → upd f (b + 6 + s) (nI a) (b + k) = f (b + k) := fun k hk => upd_ne (by omega)
  have e2 : ∀ y w : Nat, fX7_of (upd f (b + 6 + s) (nI a)) b y w = fX7_of f b y w := fun y w => by
    unfold fX7_of
    exact upd_ne (by omega)
  have e18 : ∀ t : Nat, upd f (b + 6 + s) (nI a) (b + 18 + t) = f (b + 18 + t) := fun t => upd_ne (by omega)
  have e10 : ∀ t : Nat, upd f (b + 6 + s) (nI a) (b + 10 + t) = f (b + 10 + t) := fun t => upd_ne (by omega)
  refine ⟨?_, (e1 1 (by omega)).trans h.ht, hT, fun y hy => ?_, fun y hy => ?_, fun y hy => ?_, fun t ht => ?_, fun y hy => ?_, fun y z hy hz => ?_, ?_, ?_⟩
  · obtain ⟨⟨rB, rG, rT, rF, rS, rTW, rWW⟩, hg, hG16, hnd, hS, hO, hM⟩ := h.ro
    refine ⟨⟨rB, ?_, ?_, ?_, ?_, fun j hj => ?_, fun j hj => ?_⟩, (e1 0 (by omega)).trans hg, hG16, hnd, (e1 3 (by omega)).trans hS, fun k y hy => ?_, fun j => ?_⟩
    · rw [e1 0 (by omega)]; exact rG
    · rw [e1 1 (by omega)]; exact rT
    · rw [e1 2 (by omega)]; exact rF
    · rw [e1 3 (by omega)]; exact rS
    · rw [upd_ne (by omega)]; exact rTW j hj
    · rw [upd_ne (by omega)]; exact rWW j hj
    · rw [upd_ne (by omega)]; exact hO k y hy
    · rw [hM j, upd_ne (by omega)]
  · rw [e2]; exact h.fam y hy
  · rw [e2]; exact h.siz y hy
  · rw [e2]; exact h.wsh y hy
  · rw [e18]; exact h.sts t ht
  · rw [e2, e2]
    rcases h.sit y hy with e | ⟨t, z, n, k1, k2, k3, k4, k5, k6⟩
    · exact Or.inl e
    · exact Or.inr ⟨t, z, n, k1, k2, k3, (e18 t).trans k4, k5, k6⟩
  · rw [e2, e2, e2, e2]
    exact h.dis y z hy hz
  · obtain ⟨x, p, q, r, l1, l2, l3, l4, l5, l6, l7, l8, l9⟩ := h.stg
    have hs' : s = 0 ∨ s = 1 ∨ s = 2 ∨ s = 3 := by omega
    rcases hs' with rfl | rfl | rfl | rfl
    · have := h0 rfl
      exact ⟨a, p, q, r, by omega, by omega, l3, l4, l5, upd_eq, (upd_ne (by omega)).trans l7, (upd_ne (by omega)).trans l8, (upd_ne (by omega)).trans l9⟩
    · exact ⟨x, a, q, r, l1, l2, by omega, l4, l5, (upd_ne (by omega)).trans l6, upd_eq, (upd_ne (by omega)).trans l8, (upd_ne (by omega)).trans l9⟩
    · exact ⟨x, p, a, r, l1, l2, l3, by omega, l5, (upd_ne (by omega)).trans l6, (upd_ne (by omega)).trans l7, upd_eq, (upd_ne (by omega)).trans l9⟩
    · have := h3 rfl
      exact ⟨x, p, q, a, l1, l2, l3, l4, by omega, (upd_ne (by omega)).trans l6, (upd_ne (by omega)).trans l7, (upd_ne (by omega)).trans l8, upd_eq⟩
  · obtain ⟨n, l1, l2, l3, l4⟩ := h.fds
    refine ⟨n, l1, (e1 2 (by omega)).trans l2, fun k hk => ?_, fun j k hj hk => ?_⟩
    · rw [e10 k]; exact l3 k hk
    · rw [e10 k, e10 j]; exact l4 j k hj hk
theorem set_REL {P : PV} {f : Nat → Int32} {b G T s a lo hi : Nat} {L : List Nat} (h : REL P f b G T L) (hs : s < 4) (hlo : lo ≤ a) (hhi : a ≤ hi) (h20 : hi ≤ 20) (h0 : s = 0 → lo = 1 ∧ hi = 8) (h3 : s = 3 → hi = 9) : REL (rset P 7 (upd (P 7) s (nI a))) (upd f (b + 6 + s) (nI a)) b G T L := by
  have hG := h.wf.G16
  have hT := h.wf.hT
  have h8 := h.wf.f8
  have hl := h.wf.l16
  have hF := set_WF h.wf hs hlo hhi h20 h0 h3
  have e1 : ∀ k : Nat, (k < 6 ∨ 10 ≤ k) → upd f (b + 6 + s) (nI a) (b + k) = f (b + k) := fun k hk => upd_ne (by omega)
  have e2 : ∀ y w : Nat, fX7_of (upd f (b + 6 + s) (nI a)) b y w = fX7_of f b y w := fun y w => by
    unfold fX7_of
    exact upd_ne (by omega)
  refine ⟨hF, ?_, ?_, ?_, ?_, ?_, ?_, fun w y hw hy => ?_, fun t ht => ?_, fun k hk => ?_, fun t z ht hz => ?_, fun k hk => ?_, fun k hk => ?_⟩
  · simp [rset]; exact h.pg
  · simp [rset]; exact h.pt
  · rw [e1 4 (by omega)]; simp [rset]; exact h.p2
  · rw [e1 5 (by omega)]; simp [rset]; exact h.p3
  · rw [e1 2 (by omega)]; simp [rset]; exact h.p4
  · rw [e1 3 (by omega)]; simp [rset]; exact h.p5
  · rw [e2, show rset P 7 (upd (P 7) s (nI a)) w = P w from if_neg (by omega)]; exact h.row w y hw hy
  · rw [upd_ne (by omega)]; simp [rset]; exact h.ts t ht
  · show upd (P 7) s (nI a) k = _
    by_cases c : k = s
    · subst c; rw [upd_eq, upd_eq]
    · rw [upd_ne c, upd_ne (by omega)]; exact h.sg k hk
  · rw [who_same h.wf hF (fun y w hy hw => e2 y w) (by omega) (nI z)]
    simp [rset]; exact h.hd t z ht hz
  · rw [e1 2 (by omega)] at hk
    rw [upd_ne (by omega)]; simp [rset]; exact h.fd k hk
  · rw [upd_ne (by omega)]; simp [rset]; exact h.od k hk
/-- set -/
theorem set_ST {PN PS : PV} {Ps : Nat → PV} {o v : Nat} {kp : Int32} {f M : Nat → Int32} (h : ST PN PS Ps o v kp f M) (g a : Int32) :
    (fX6_set PN Ps o v g a = Sum.inl 2 ∧ fX7_set f M g a = (0, (f, upd M 0 (nI 1)))) ∨ (fX6_set PN Ps o v g a = Sum.inl 0 ∧ fX7_set f M g a = (0, (f, upd M 0 (nI 2)))) ∨ ∃ (r : Int32) (PN' : PV) (Ps' : Nat → PV) (o' v' : Nat) (F M' : Nat → Int32), fX6_set PN Ps o v g a = Sum.inr (r, (PN', Ps', o', v')) ∧ fX7_set f M g a = (r, (F, M')) ∧ TZ M' M ∧ ST PN' PS Ps' o' v' kp F M' := by
  obtain ⟨G, T, L, hR⟩ := h.1
  have h10 : ¬ (1 : Int32) = 0 := by decide
  obtain ⟨s1, s2, s3⟩ := ST_save h hR
  rcases in_is (v := g) (n := 4) (by decide) with ⟨c1, s, hs, rfl⟩ | ⟨c1, c2⟩
  · have c1 : fX7_in (nI s) 0 3 = 1 := c1
    obtain ⟨lo, hi, b1, b2, b3, b4, b5, b6, b7, b8⟩ := set_bds s hs
    have eX : fX6_set PN Ps o v (nI s) a = if a < nI lo then Sum.inl 0 else if a ≤ nI hi then Sum.inr (fX3_at 4 (PN 7) (nI s), (rset PN 7 (fX3_put 4 (PN 7) (nI s) a), (fX0_save Ps o v PN).1, (fX0_save Ps o v PN).2.1, (fX0_save Ps o v PN).2.2)) else Sum.inl 0 := by
      unfold fX6_set
      rw [if_neg (nI_pos (by omega)), if_pos (show nI s < 4 from nI_lt hs (by decide)), at_in hs (by decide), at_in hs (by decide), b3, b4]
      rfl
    have eY : fX7_set f M (nI s) a = bd2 (fX7_holds M (nI (if fX7_in a (nI lo) (nI hi) = 0 then 2 else 0))) (fun r39 U39 => (if r39 = 0 then (0, (f, U39)) else (bd (fX7_save f U39) (fun U48 => ((U48.1 (6 + s)), ((upd U48.1 (6 + s) a), U48.2)))))) := by
      unfold fX7_set
      rw [c1, if_neg h10, bd_eq, bd_eq, b5, b6, nI_clamp (show s < 2 ^ 31 by omega)]
    rw [eX, eY]
    unfold fX7_in
    by_cases ca : a < nI lo
    · rw [if_pos ca, if_pos ca, if_pos rfl, bd2_eq, holds_p (by decide) (by decide)]
      exact Or.inr (Or.inl ⟨rfl, rfl⟩)
    · rw [if_neg ca, if_neg ca]
      by_cases cb : a ≤ nI hi
      · have cb2 : ¬ nI hi < a := by
          rw [Int32.lt_iff_toInt_lt]
          rw [Int32.le_iff_toInt_le] at cb
          omega
        obtain ⟨x, hx, rfl⟩ : ∃ x : Nat, x < 2 ^ 31 ∧ a = nI x := nI_of (fun e => ca (by
          rw [Int32.lt_iff_toInt_lt] at e ⊢
          rw [nI_toInt (by omega)]
          have : (0 : Int32).toInt = 0 := rfl
          omega))
        have d1 : lo ≤ x := Nat.le_of_not_lt (fun e => ca (nI_lt e (by omega)))
        have d2 : x ≤ hi := (nI_leI (by omega) (by omega)).mp cb
        have hS := set_REL s1 hs d1 d2 b2 b7 b8
        rw [Nat.zero_add] at hS
        rw [if_pos cb, if_neg cb2, if_neg h10, bd2_eq, holds_0, put_in hs (by decide), hR.sat hs rfl]
        refine Or.inr (Or.inr ⟨_, _, _, _, _, _, _, rfl, ?_, s2, s3 _ (upd (fX7_save f (upd M 0 0)).1 (6 + s) (nI x)) _ _ _ (fun i hi _ => upd_ne (by omega)) hS⟩)
        rw [← hR.sg s hs, s1.sg s hs, Nat.zero_add]
        rfl
      · have cb2 : nI hi < a := by
          rw [Int32.lt_iff_toInt_lt]
          rw [Int32.le_iff_toInt_le] at cb
          omega
        rw [if_neg cb, if_pos cb2, if_pos rfl, bd2_eq, holds_p (by decide) (by decide)]
        exact Or.inr (Or.inl ⟨rfl, rfl⟩)
  · have c1 : fX7_in g 0 3 = 0 := c1
    refine Or.inl ⟨?_, ?_⟩
    · unfold fX6_set
      by_cases c3 : g < 0
      · rw [if_pos c3]
      · have c4 : ¬ g < 4 := by
          have c5 := c2.resolve_left c3
          rw [Int32.le_iff_toInt_le] at c5
          rw [Int32.lt_iff_toInt_lt]
          have : (4 : Int32).toInt = (nI 4).toInt := rfl
          omega
        rw [if_neg c3, if_neg c4]
    · unfold fX7_set
      rw [c1, if_pos rfl, bd_eq, bd2_eq, holds_p (by decide) (by decide)]
      rfl


