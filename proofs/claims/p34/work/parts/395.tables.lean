theorem addT_WF {f F : Nat → Int32} {b G T n : Nat} {L : List Nat} (h : WF f b G T L) (hT : T < 4) (hn3 : 3 ≤ n) (hn8 : n ≤ 8) (e0 : F (b + 1) = nI (T + 1)) (en : F (b + 18 + T) = nI n) (e1 : ∀ i : Nat, i ≠ b + 1 → i ≠ b + 18 + T → F i = f i) : WF F b G (T + 1) L := by
  have hl := h.l16
  have hG := h.G16
  have e2 : ∀ x w : Nat, fX7_of F b x w = fX7_of f b x w := fun x w => by
    unfold fX7_of
    exact e1 _ (by omega) (by omega)
  refine ⟨?_, e0, by omega, fun y hy => ?_, fun y hy => ?_, fun y hy => ?_, fun t ht => ?_, fun y hy => ?_, fun y z hy hz => ?_, ?_, ?_⟩
  · obtain ⟨⟨rB, rG, rT, rF, rS, rTW, rWW⟩, hg, hG16, hnd, hS, hO, hM⟩ := h.ro
    refine ⟨⟨rB, ?_, ⟨T + 1, by omega, e0⟩, ?_, ?_, fun j hj => ?_, fun j hj => ?_⟩, (e1 _ (by omega) (by omega)).trans hg, hG16, hnd, (e1 _ (by omega) (by omega)).trans hS, fun k y hy => ?_, fun j => ?_⟩
    · rw [e1 _ (by omega) (by omega)]; exact rG
    · rw [e1 _ (by omega) (by omega)]; exact rF
    · rw [e1 _ (by omega) (by omega)]; exact rS
    · rw [e1 _ (by omega) (by omega)]; exact rTW j hj
    · rw [e1 _ (by omega) (by omega)]; exact rWW j hj
    · rw [e1 _ (by omega) (by omega)]; exact hO k y hy
    · rw [hM j, e1 _ (by omega) (by omega)]
  · rw [e2]; exact h.fam y hy
  · rw [e2]; exact h.siz y hy
  · rw [e2]; exact h.wsh y hy
  · by_cases c : t = T
    · subst c; exact ⟨n, hn3, hn8, en⟩
    · rw [e1 _ (by omega) (by omega)]; exact h.sts t (by omega)
  · rw [e2, e2]
    rcases h.sit y hy with e | ⟨t, z, m, k1, k2, k3, k4, k5, k6⟩
    · exact Or.inl e
    · exact Or.inr ⟨t, z, m, by omega, k2, k3, (e1 _ (by omega) (by omega)).trans k4, k5, k6⟩
  · rw [e2, e2, e2, e2]
    exact h.dis y z hy hz
  · obtain ⟨a, p, q, r, l1, l2, l3, l4, l5, l6, l7, l8, l9⟩ := h.stg
    exact ⟨a, p, q, r, l1, l2, l3, l4, l5, (e1 _ (by omega) (by omega)).trans l6, (e1 _ (by omega) (by omega)).trans l7, (e1 _ (by omega) (by omega)).trans l8, (e1 _ (by omega) (by omega)).trans l9⟩
  · obtain ⟨m, l1, l2, l3, l4⟩ := h.fds
    refine ⟨m, l1, (e1 _ (by omega) (by omega)).trans l2, fun k hk => ?_, fun j k hj hk => ?_⟩
    · rw [e1 _ (by omega) (by omega)]; exact l3 k hk
    · rw [e1 _ (by omega) (by omega), e1 (b + 10 + k) (by omega) (by omega)]; exact l4 j k hj hk
/-- eight empty seats -/
theorem empty_loop {P : PV} {T : Nat} (hT : T < 4) (hp : P 10 1 = nI T) : ∀ (d k : Nat) (U : PV), k + d = 8 → ∃ H : Nat → Int32, lq1 (fX2_addTable_b16 P) (fX2_addTable_r16 P) d k U = fX2_addTable_r16 P (rset U 6 H) ∧ (∀ z : Nat, k ≤ z → z < 8 → H (8 * T + z) = -1) ∧ (∀ i : Nat, (i < 8 * T + k ∨ 8 * T + 8 ≤ i) → H i = U 6 i)
  | 0, k, U, h => ⟨U 6, by rw [lq1_z]; congr 1; funext r; unfold rset; by_cases c : r = 6 <;> simp [c], fun z h1 h2 => by omega, fun i _ => rfl⟩
  | d + 1, k, U, h => by
    have hk : k < 8 := by omega
    obtain ⟨H, h1, h2, h3⟩ := empty_loop hT hp d (k + 1) (rset U 6 (upd (U 6) (8 * T + k) (-1))) (by omega)
    refine ⟨H, ?_, fun z z1 z2 => ?_, fun i hi => ?_⟩
    · have e : ∀ nx : PV → Int32 × PV, fX2_addTable_b16 P k U nx = nx (rset U 6 (upd (U 6) (8 * T + k) (-1))) := fun nx => by
        unfold fX2_addTable_b16
        rw [bd_eq, hp, m8z, put_in (by omega) (by decide)]
      rw [lq1_s, e, h1]
      congr 1
      funext r
      unfold rset
      by_cases c : r = 6 <;> simp [c]
    · by_cases c : z = k
      · subst c
        rw [h3 _ (Or.inl (by omega))]
        show upd (U 6) (8 * T + z) (-1) (8 * T + z) = -1
        exact upd_eq
      · exact h2 z (by omega) z2
    · rw [h3 i (by omega)]
      show upd (U 6) (8 * T + k) (-1) i = U 6 i
      exact upd_ne (by omega)
theorem addT_REL {P : PV} {f : Nat → Int32} {b G T n : Nat} {L : List Nat} (h : REL P f b G T L) (hT : T < 4) (hn3 : 3 ≤ n) (hn8 : n ≤ 8) : (fX2_addTable P (nI n)).1 = nI T ∧ REL (fX2_addTable P (nI n)).2 (upd (upd f (b + 18 + T) (nI n)) (b + 1) (nI (T + 1))) b G (T + 1) L := by
  have hG := h.wf.G16
  have h8 := h.wf.f8
  have hl := h.wf.l16
  have e1 : ∀ i : Nat, i ≠ b + 1 → i ≠ b + 18 + T → upd (upd f (b + 18 + T) (nI n)) (b + 1) (nI (T + 1)) i = f i := fun i h1 h2 => by rw [upd_ne h1, upd_ne h2]
  have e2 : ∀ x w : Nat, fX7_of (upd (upd f (b + 18 + T) (nI n)) (b + 1) (nI (T + 1))) b x w = fX7_of f b x w := fun x w => by
    unfold fX7_of
    exact e1 _ (by omega) (by omega)
  have hF := addT_WF h.wf hT hn3 hn8 (F := upd (upd f (b + 18 + T) (nI n)) (b + 1) (nI (T + 1))) upd_eq (by rw [upd_ne (by omega), upd_eq]) e1
  obtain ⟨H, g1, g2, g3⟩ := empty_loop hT h.pt 8 0 (rset P 5 (upd (P 5) T (nI n))) (Nat.zero_add 8)
  have eP : fX2_addTable P (nI n) = (nI T, sset (rset (rset P 5 (upd (P 5) T (nI n))) 6 H) 1 (nI (T + 1))) := by
    unfold fX2_addTable
    rw [bd_eq, h.pt, put_in hT (by decide), show ((8 : Int32).toNatClampNeg) = 8 from rfl, g1]
    unfold fX2_addTable_r16
    rw [h.pt]
    show (nI T, sset _ 1 (P 10 1 + 1)) = _
    rw [h.pt, nI_1]
  rw [eP]
  refine ⟨rfl, hF, ?_, ?_, ?_, ?_, ?_, ?_, fun w y hw hy => ?_, fun t ht => ?_, fun k hk => ?_, fun t z ht hz => ?_, fun k hk => ?_, fun k hk => ?_⟩
  · simp [sset, rset, upd]; exact h.pg
  · simp [sset, rset, upd]
  · rw [e1 _ (by omega) (by omega)]; simp [sset, rset, upd]; exact h.p2
  · rw [e1 _ (by omega) (by omega)]; simp [sset, rset, upd]; exact h.p3
  · rw [e1 _ (by omega) (by omega)]; simp [sset, rset, upd]; exact h.p4
  · rw [e1 _ (by omega) (by omega)]; simp [sset, rset, upd]; exact h.p5
  · show sset (rset (rset P 5 (upd (P 5) T (nI n))) 6 H) 1 (nI (T + 1)) w y = _
    rw [e2, show sset (rset (rset P 5 (upd (P 5) T (nI n))) 6 H) 1 (nI (T + 1)) w = P w from by
      have hw' : w = 0 ∨ w = 1 ∨ w = 2 ∨ w = 3 ∨ w = 4 := by omega
      rcases hw' with rfl | rfl | rfl | rfl | rfl <;> simp [sset, rset]]
    exact h.row w y hw hy
  · show upd (P 5) T (nI n) t = _
    by_cases c : t = T
    · subst c; rw [upd_eq, upd_ne (by omega), upd_eq]
    · rw [upd_ne c, e1 _ (by omega) (by omega)]; exact h.ts t ht
  · rw [e1 _ (by omega) (by omega)]; simp [sset, rset]; exact h.sg k hk
  · show H (8 * t + z) = _
    by_cases c : t = T
    · subst c
      rw [g2 z (Nat.zero_le z) hz]
      rcases who_is hF (nI t) (nI z) with ⟨i, k1, k2, k3, k4⟩ | ⟨k1, k2⟩
      · exfalso
        rw [e2] at k2
        obtain ⟨_, _, l1, _⟩ := h.wf.at_ k1 (by omega) k2
        exact Nat.lt_irrefl t l1
      · exact k2.symm
    · rw [g3 _ (by omega)]
      show P 6 (8 * t + z) = _
      rw [h.hd t z (by omega) hz]
      rcases who_is h.wf (nI t) (nI z) with ⟨i, k1, k2, k3, k4⟩ | ⟨k1, k2⟩
      · have := who_of hF k1 (by rw [e2, k2]; exact nI_m1 (by omega))
        rw [e2, e2, k2, k3] at this
        rw [this, k4]
      · rcases who_is hF (nI t) (nI z) with ⟨i, l1, l2, l3, l4⟩ | ⟨l1, l2⟩
        · rw [e2] at l2 l3
          exact absurd ⟨l2, l3⟩ (k1 i l1)
        · rw [l2, k2]
  · rw [e1 _ (by omega) (by omega)] at hk
    rw [e1 _ (by omega) (by omega)]; simp [sset, rset]; exact h.fd k hk
  · rw [e1 _ (by omega) (by omega)]; simp [sset, rset]; exact h.od k hk
/-- table -/
theorem table_ST {PN PS : PV} {Ps : Nat → PV} {o v : Nat} {kp : Int32} {f M : Nat → Int32} (h : ST PN PS Ps o v kp f M) (s : Int32) :
    (fX6_table PN Ps o v s = Sum.inl 0 ∧ fX7_table f M s = (0, (f, upd M 0 (nI 1)))) ∨ (fX6_table PN Ps o v s = Sum.inl 1 ∧ fX7_table f M s = (0, (f, upd M 0 (nI 2)))) ∨ ∃ (r : Int32) (PN' : PV) (Ps' : Nat → PV) (o' v' : Nat) (F M' : Nat → Int32), fX6_table PN Ps o v s = Sum.inr (r, (PN', Ps', o', v')) ∧ fX7_table f M s = (r, (F, M')) ∧ TZ M' M ∧ ST PN' PS Ps' o' v' kp F M' := by
  obtain ⟨G, T, L, hR⟩ := h.1
  have hT := hR.wf.hT
  have h10 : ¬ (1 : Int32) = 0 := by decide
  obtain ⟨s1, s2, s3⟩ := ST_save h hR
  have e0 : f 1 = nI T := by have := hR.wf.ht; rw [Nat.zero_add] at this; exact this
  have hs : (fX7_in s 3 8 = 1 ∧ ¬ s < 3 ∧ s ≤ 8 ∧ ∃ j : Nat, 3 ≤ j ∧ j ≤ 8 ∧ s = nI j) ∨ (fX7_in s 3 8 = 0 ∧ (s < 3 ∨ (¬ s < 3 ∧ ¬ s ≤ 8))) := by
    unfold fX7_in
    have t1 : (3 : Int32).toInt = 3 := rfl
    have t3 : (8 : Int32).toInt = 8 := rfl
    by_cases k1 : s < 3
    · exact Or.inr ⟨if_pos k1, Or.inl k1⟩
    · rw [if_neg k1]
      by_cases k2 : s ≤ 8
      · have k3 : ¬ (8 : Int32) < s := by
          rw [Int32.lt_iff_toInt_lt]; rw [Int32.le_iff_toInt_le] at k2; omega
        obtain ⟨j, hj, rfl⟩ := nI_of2 (n := 8) (x := s) (M := 8) rfl (fun e => k1 (by
          rw [Int32.lt_iff_toInt_lt] at e ⊢
          have : (0 : Int32).toInt = 0 := rfl
          omega)) k2
        refine Or.inl ⟨if_neg k3, k1, k2, j, ?_, hj, rfl⟩
        exact Nat.le_of_not_lt (fun e => k1 (show nI j < nI 3 from nI_lt e (by decide)))
      · have k3 : (8 : Int32) < s := by
          rw [Int32.lt_iff_toInt_lt]; rw [Int32.le_iff_toInt_le] at k2; omega
        exact Or.inr ⟨if_pos k3, Or.inr ⟨k1, k2⟩⟩
  rcases hs with ⟨d1, d2, d3, j, j1, j3, rfl⟩ | ⟨d1, d2⟩
  · have eX : fX6_table PN Ps o v (nI j) = if nI T < 4 then Sum.inr ((fX2_addTable PN (nI j)).1, ((fX2_addTable PN (nI j)).2, (fX0_save Ps o v PN).1, (fX0_save Ps o v PN).2.1, (fX0_save Ps o v PN).2.2)) else Sum.inl 1 := by
      unfold fX6_table
      rw [if_neg d2, if_pos d3, hR.pt]
      rfl
    rw [eX]
    unfold fX7_table
    rw [d1, if_neg h10, e0, bd_eq, bd2_eq]
    by_cases c : T = 4
    · subst c
      rw [if_neg (by decide), if_pos (show nI 4 = 4 from rfl), holds_p (by decide) (by decide)]
      exact Or.inr (Or.inl ⟨rfl, rfl⟩)
    · obtain ⟨a1, a2⟩ := addT_REL s1 (show T < 4 by omega) j1 j3
      obtain ⟨b1, b2⟩ := addT_REL hR (show T < 4 by omega) j1 j3
      rw [if_pos (show nI T < 4 from nI_lt (a := T) (b := 4) (by omega) (by decide)), if_neg (show ¬ nI T = 4 from fun e => c ((nI_eq (b := 4) (by omega) (by decide)).mp e)), holds_0]
      rw [Nat.zero_add, Nat.zero_add] at a2
      refine Or.inr (Or.inr ⟨nI T, _, _, _, _, _, _, by rw [b1], ?_, s2, s3 _ (upd (upd (fX7_save f (upd M 0 0)).1 (18 + T) (nI j)) 1 (nI (T + 1))) _ _ _ (fun i hi _ => by rw [upd_ne (by omega), upd_ne (by omega)]) a2⟩)
      have eT : (fX7_save f (upd M 0 0)).1 1 = nI T := by have := s1.wf.ht; rw [Nat.zero_add] at this; exact this
      show (if (1 : Int32) = 0 then (0, (f, upd M 0 0)) else _) = _
      rw [if_neg h10, bd_eq, eT, nI_clamp (show T < 2 ^ 31 by omega), upd_ne (show 1 ≠ 18 + T by omega), eT, nI_1, upd_eq, nI_pred]
  · refine Or.inl ⟨?_, ?_⟩
    · unfold fX6_table
      rcases d2 with d2 | ⟨d2, d3⟩
      · rw [if_pos d2]
      · rw [if_neg d2, if_neg d3]
    · unfold fX7_table
      rw [d1, if_pos rfl, bd_eq, bd2_eq, holds_p (by decide) (by decide)]
      rfl


