theorem wish_WF {f : Nat → Int32} {b G T x : Nat} {L : List Nat} (h : WF f b G T L) (hx : x < G) {a : Int32} (ha : a = -1 ∨ ∃ j : Nat, j < G ∧ j ≠ x ∧ a = nI j) : WF (upd f (b + 38 + 5 * x + 2) a) b G T L := by
  have hG := h.G16
  have hT := h.hT
  have e1 : ∀ k : Nat, k < 38 → upd f (b + 38 + 5 * x + 2) a (b + k) = f (b + k) := fun k hk => upd_ne (by omega)
  have e2 : ∀ y w : Nat, w < 5 → (y ≠ x ∨ w ≠ 2) → fX7_of (upd f (b + 38 + 5 * x + 2) a) b y w = fX7_of f b y w := fun y w hw hc => by
    unfold fX7_of
    exact upd_ne (by omega)
  have e3 : fX7_of (upd f (b + 38 + 5 * x + 2) a) b x 2 = a := upd_eq
  have e18 : ∀ t : Nat, t < 4 → upd f (b + 38 + 5 * x + 2) a (b + 18 + t) = f (b + 18 + t) := fun t ht => upd_ne (by omega)
  have e10 : ∀ t : Nat, t < 8 → upd f (b + 38 + 5 * x + 2) a (b + 10 + t) = f (b + 10 + t) := fun t ht => upd_ne (by omega)
  refine ⟨?_, (e1 1 (by omega)).trans h.ht, hT, fun y hy => ?_, fun y hy => ?_, fun y hy => ?_, fun t ht => ?_, fun y hy => ?_, fun y z hy hz => ?_, ?_, ?_⟩
  · obtain ⟨⟨rB, rG, rT, rF, rS, rTW, rWW⟩, hg, hG16, hnd, hS, hO, hM⟩ := h.ro
    have hl := h.l16
    refine ⟨⟨rB, ?_, ?_, ?_, ?_, fun j hj => ?_, fun j hj => ?_⟩, (e1 0 (by omega)).trans hg, hG16, hnd, (e1 3 (by omega)).trans hS, fun k y hy => ?_, fun j => ?_⟩
    · rw [e1 0 (by omega)]; exact rG
    · rw [e1 1 (by omega)]; exact rT
    · rw [e1 2 (by omega)]; exact rF
    · rw [e1 3 (by omega)]; exact rS
    · rw [upd_ne (by omega)]; exact rTW j hj
    · by_cases c : j = x
      · subst c
        rw [upd_eq]
        rcases ha with ha | ⟨i, hi, _, ha⟩
        · exact Or.inl ha
        · exact Or.inr ⟨i, by omega, ha⟩
      · rw [upd_ne (by omega)]; exact rWW j hj
    · have hk := (List.getElem?_eq_some_iff.mp hy).1
      rw [upd_ne (by omega)]; exact hO k y hy
    · rw [hM j, upd_ne (by omega)]
  · rw [e2 y 0 (by decide) (Or.inr (by decide))]; exact h.fam y hy
  · rw [e2 y 1 (by decide) (Or.inr (by decide))]; exact h.siz y hy
  · by_cases c : y = x
    · subst c; rw [e3]; exact ha
    · rw [e2 y 2 (by decide) (Or.inl c)]; exact h.wsh y hy
  · rw [e18 t (by omega)]; exact h.sts t ht
  · rw [e2 y 3 (by decide) (Or.inr (by decide)), e2 y 4 (by decide) (Or.inr (by decide))]
    rcases h.sit y hy with e | ⟨t, z, n, k1, k2, k3, k4, k5, k6⟩
    · exact Or.inl e
    · exact Or.inr ⟨t, z, n, k1, k2, k3, (e18 t (by omega)).trans k4, k5, k6⟩
  · rw [e2 y 3 (by decide) (Or.inr (by decide)), e2 y 4 (by decide) (Or.inr (by decide)), e2 z 3 (by decide) (Or.inr (by decide)), e2 z 4 (by decide) (Or.inr (by decide))]
    exact h.dis y z hy hz
  · obtain ⟨a, p, q, r, l1, l2, l3, l4, l5, l6, l7, l8, l9⟩ := h.stg
    exact ⟨a, p, q, r, l1, l2, l3, l4, l5, (e1 6 (by omega)).trans l6, (e1 7 (by omega)).trans l7, (e1 8 (by omega)).trans l8, (e1 9 (by omega)).trans l9⟩
  · obtain ⟨n, l1, l2, l3, l4⟩ := h.fds
    refine ⟨n, l1, (e1 2 (by omega)).trans l2, fun k hk => ?_, fun j k hj hk => ?_⟩
    · rw [e10 k (by omega)]; exact l3 k hk
    · rw [e10 k (by omega), e10 j (by omega)]; exact l4 j k hj hk
/-- who sits stays, where tables and seats stay -/
theorem who_same {f F : Nat → Int32} {b G T : Nat} {L L' : List Nat} (h : WF f b G T L) (hF : WF F b G T L') (h2 : ∀ x w : Nat, x < 16 → (w = 3 ∨ w = 4) → fX7_of F b x w = fX7_of f b x w) {t : Nat} (ht : t < 4) (z : Int32) : fX7_whoSits F b (nI t) z = fX7_whoSits f b (nI t) z := by
  have hG := h.G16
  rcases who_is h (nI t) z with ⟨i, k1, k2, k3, k4⟩ | ⟨k1, k2⟩
  · have e3 := (h2 i 3 (by omega) (Or.inl rfl)).trans k2
    have e4 := (h2 i 4 (by omega) (Or.inr rfl)).trans k3
    have := who_of hF k1 (by rw [e3]; exact nI_m1 (by omega))
    rw [e3, e4] at this
    rw [this, k4]
  · rcases who_is hF (nI t) z with ⟨i, l1, l2, l3, l4⟩ | ⟨l1, l2⟩
    · rw [h2 i 3 (by omega) (Or.inl rfl)] at l2
      rw [h2 i 4 (by omega) (Or.inr rfl)] at l3
      exact absurd ⟨l2, l3⟩ (k1 i l1)
    · rw [l2, k2]
theorem wish_REL {P : PV} {f : Nat → Int32} {b G T x : Nat} {L : List Nat} (h : REL P f b G T L) (hx : x < G) {a : Int32} (ha : a = -1 ∨ ∃ j : Nat, j < G ∧ j ≠ x ∧ a = nI j) : REL (rset P 2 (upd (P 2) x a)) (upd f (b + 38 + 5 * x + 2) a) b G T L := by
  have hG := h.wf.G16
  have hT := h.wf.hT
  have h8 := h.wf.f8
  have hl := h.wf.l16
  have hF := wish_WF h.wf hx ha
  have e1 : ∀ k : Nat, k < 38 → upd f (b + 38 + 5 * x + 2) a (b + k) = f (b + k) := fun k hk => upd_ne (by omega)
  have e2 : ∀ y w : Nat, w < 5 → (y ≠ x ∨ w ≠ 2) → fX7_of (upd f (b + 38 + 5 * x + 2) a) b y w = fX7_of f b y w := fun y w hw hc => by
    unfold fX7_of
    exact upd_ne (by omega)
  refine ⟨hF, ?_, ?_, ?_, ?_, ?_, ?_, fun w y hw hy => ?_, fun t ht => ?_, fun k hk => ?_, fun t z ht hz => ?_, fun k hk => ?_, fun k hk => ?_⟩
  · simp [rset]; exact h.pg
  · simp [rset]; exact h.pt
  · rw [e1 4 (by omega)]; simp [rset]; exact h.p2
  · rw [e1 5 (by omega)]; simp [rset]; exact h.p3
  · rw [e1 2 (by omega)]; simp [rset]; exact h.p4
  · rw [e1 3 (by omega)]; simp [rset]; exact h.p5
  · by_cases c : y = x ∧ w = 2
    · obtain ⟨rfl, rfl⟩ := c
      rw [show fX7_of (upd f (b + 38 + 5 * y + 2) a) b y 2 = a from upd_eq]
      simp [rset, upd]
    · rw [e2 y w hw (by omega)]
      by_cases c2 : w = 2
      · subst c2
        have c3 : y ≠ x := fun e => c ⟨e, rfl⟩
        simp [rset, upd, c3]; exact h.row 2 y hw hy
      · simp [rset, c2]; exact h.row w y hw hy
  · rw [upd_ne (by omega)]; simp [rset]; exact h.ts t ht
  · rw [upd_ne (by omega)]; simp [rset]; exact h.sg k hk
  · rw [who_same h.wf hF (fun y w hy hw => e2 y w (by omega) (by omega)) (by omega) (nI z)]
    simp [rset]; exact h.hd t z ht hz
  · rw [e1 2 (by omega)] at hk
    rw [upd_ne (by omega)]; simp [rset]; exact h.fd k hk
  · rw [upd_ne (by omega)]; simp [rset]; exact h.od k hk
/-- wish -/
theorem wish_ST {PN PS : PV} {Ps : Nat → PV} {o v : Nat} {kp : Int32} {f M : Nat → Int32} (h : ST PN PS Ps o v kp f M) (g a : Int32) :
    (fX6_wish PN Ps o v g a = Sum.inl 2 ∧ fX7_wish f M g a = (0, (f, upd M 0 (nI 1)))) ∨ (fX6_wish PN Ps o v g a = Sum.inl 0 ∧ fX7_wish f M g a = (0, (f, upd M 0 (nI 2)))) ∨ ∃ (r : Int32) (PN' : PV) (Ps' : Nat → PV) (o' v' : Nat) (F M' : Nat → Int32), fX6_wish PN Ps o v g a = Sum.inr (r, (PN', Ps', o', v')) ∧ fX7_wish f M g a = (r, (F, M')) ∧ TZ M' M ∧ ST PN' PS Ps' o' v' kp F M' := by
  obtain ⟨G, T, L, hR⟩ := h.1
  have hG := hR.wf.G16
  have h10 : ¬ (1 : Int32) = 0 := by decide
  have h1n : ¬ nI 1 = 0 := by decide
  have h0n : nI 0 = 0 := rfl
  obtain ⟨s1, s2, s3⟩ := ST_save h hR
  rcases guest_is hR g with ⟨c1, c2, x, hx, rfl⟩ | ⟨c1, c2⟩
  · have hcase : (fX2_isGuest PN a = 0 ∧ fX7_isGuest f a = 0 ∧ a ≠ -1) ∨ (a = -1 ∨ (a ≠ -1 ∧ fX2_isGuest PN a = 1 ∧ fX7_isGuest f a = 1 ∧ ∃ j : Nat, j < G ∧ a = nI j)) := by
      by_cases ca : a = -1
      · exact Or.inr (Or.inl ca)
      · rcases guest_is hR a with ⟨d1, d2, j, hj, e⟩ | ⟨d1, d2⟩
        · exact Or.inr (Or.inr ⟨ca, d1, d2, j, hj, e⟩)
        · exact Or.inl ⟨d1, d2, ca⟩
    rcases hcase with ⟨d1, d2, ca⟩ | hok
    · refine Or.inl ⟨?_, ?_⟩
      · unfold fX6_wish fX6_needGuest
        rw [c1, d1, if_neg h10, if_pos rfl, if_neg ca, if_pos rfl, if_neg h10]
      · unfold fX7_wish
        rw [c2, d2, bd_eq, if_neg h10, if_neg ca, if_pos rfl, if_pos h0n, bd_eq, bd2_eq, holds_p (by decide) (by decide)]
        rfl
    · have eX : fX6_wish PN Ps o v (nI x) a = if a = nI x then Sum.inl 0 else Sum.inr (fX3_at 16 (PN 2) (nI x), (rset PN 2 (fX3_put 16 (PN 2) (nI x) a), (fX0_save Ps o v PN).1, (fX0_save Ps o v PN).2.1, (fX0_save Ps o v PN).2.2)) := by
        unfold fX6_wish fX6_needGuest
        rw [c1, if_neg h10, if_pos rfl]
        rcases hok with ca | ⟨ca, d1, d2, _⟩
        · rw [if_pos ca]; rfl
        · rw [if_neg ca, d1, if_neg h10, if_pos rfl]; rfl
      have eY : fX7_wish f M (nI x) a = bd2 (fX7_holds M (nI (if a = nI x then 2 else 0))) (fun r46 U46 => (if r46 = 0 then (0, (f, U46)) else (bd (fX7_save f U46) (fun U55 => (bd (fX7_lay U55.1 0 x 2 a) (fun U72 => ((fX7_of U55.1 0 x 2), (U72, U55.2)))))))) := by
        unfold fX7_wish
        rw [c2, if_neg h10, nI_clamp (show x < 2 ^ 31 by omega)]
        rcases hok with ca | ⟨ca, d1, d2, _⟩
        · rw [if_pos ca, bd_eq, if_neg h1n, bd_eq]
        · rw [if_neg ca, d2, if_neg h10, bd_eq, if_neg h1n, bd_eq]
      rw [eX, eY]
      by_cases ce : a = nI x
      · rw [if_pos ce, if_pos ce, bd2_eq, holds_p (by decide) (by decide)]
        exact Or.inr (Or.inl ⟨rfl, rfl⟩)
      · have ha : a = -1 ∨ ∃ j : Nat, j < G ∧ j ≠ x ∧ a = nI j := by
          rcases hok with ca | ⟨_, _, _, j, hj, e⟩
          · exact Or.inl ca
          · exact Or.inr ⟨j, hj, fun e2 => ce (by rw [e, e2]), e⟩
        have hS := wish_REL s1 hx ha
        rw [if_neg ce, if_neg ce, put_in (by omega) (by decide), hR.rat (by decide) (by omega), bd2_eq, holds_0]
        refine Or.inr (Or.inr ⟨_, _, _, _, _, _, _, rfl, ?_, s2, s3 _ (upd (fX7_save f (upd M 0 0)).1 (0 + 38 + 5 * x + 2) a) _ _ _ (fun i hi _ => upd_ne (by omega)) hS⟩)
        rw [show fX7_of f 0 x 2 = fX7_of (fX7_save f (upd M 0 0)).1 0 x 2 from by rw [← hR.row 2 x (by decide) (by omega), s1.row 2 x (by decide) (by omega)]]
        rfl
  · refine Or.inl ⟨?_, ?_⟩
    · unfold fX6_wish fX6_needGuest
      rw [c1, if_pos rfl, if_neg h10]
    · unfold fX7_wish
      rw [c2, if_pos rfl, bd_eq, if_pos h0n, bd_eq, bd2_eq, holds_p (by decide) (by decide)]
      rfl


