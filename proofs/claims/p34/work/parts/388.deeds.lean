theorem in_is {v : Int32} {n : Nat} (hn : n < 2 ^ 30) : (fX7_in v 0 (nI n - 1) = 1 ∧ ∃ j : Nat, j < n ∧ v = nI j) ∨ (fX7_in v 0 (nI n - 1) = 0 ∧ (v < 0 ∨ nI n ≤ v)) := by
  have e1 : (nI n - 1).toInt = (n : Int) - 1 := pk_sub_toInt (b := 1) hn (by decide)
  unfold fX7_in
  rcases pk_ix v (show n < 2 ^ 31 by omega) with c | c | ⟨j, hj, rfl⟩
  · rw [if_pos c]; exact Or.inr ⟨rfl, Or.inl c⟩
  · have c2 : nI n - 1 < v := by
      rw [Int32.lt_iff_toInt_lt, e1]
      rw [Int32.le_iff_toInt_le, nI_toInt (by omega)] at c
      omega
    rw [if_pos c2]
    exact Or.inr ⟨by by_cases c3 : v < 0 <;> simp [c3], Or.inr c⟩
  · have c2 : ¬ nI n - 1 < nI j := by
      rw [Int32.lt_iff_toInt_lt, e1, nI_toInt (by omega)]
      omega
    rw [if_neg (nI_pos (by omega)), if_neg c2]
    exact Or.inl ⟨rfl, j, hj, rfl⟩
theorem guest_is {P : PV} {f : Nat → Int32} {G T : Nat} {L : List Nat} (h : REL P f 0 G T L) (v : Int32) : (fX2_isGuest P v = 1 ∧ fX7_isGuest f v = 1 ∧ ∃ g : Nat, g < G ∧ v = nI g) ∨ (fX2_isGuest P v = 0 ∧ fX7_isGuest f v = 0) := by
  have hG := h.wf.G16
  have e0 : f 0 = nI G := h.wf.g0
  unfold fX7_isGuest
  rw [e0]
  rcases in_is (v := v) (n := G) (by omega) with ⟨c1, g, hg, rfl⟩ | ⟨c1, c2⟩
  · exact Or.inl ⟨isGuest_in h hg, c1, g, hg, rfl⟩
  · refine Or.inr ⟨?_, c1⟩
    unfold fX2_isGuest
    rw [h.pg]
    rcases c2 with c2 | c2
    · exact if_pos c2
    · rw [if_pos c2]; by_cases c3 : v < 0 <;> simp [c3]
theorem table_is {P : PV} {f : Nat → Int32} {G T : Nat} {L : List Nat} (h : REL P f 0 G T L) (v : Int32) : (fX2_isTable P v = 1 ∧ fX7_isTable f v = 1 ∧ ∃ t : Nat, t < T ∧ v = nI t) ∨ (fX2_isTable P v = 0 ∧ fX7_isTable f v = 0) := by
  have hT := h.wf.hT
  have e0 : f 1 = nI T := h.wf.ht
  unfold fX7_isTable
  rw [e0]
  rcases in_is (v := v) (n := T) (by omega) with ⟨c1, g, hg, rfl⟩ | ⟨c1, c2⟩
  · refine Or.inl ⟨?_, c1, g, hg, rfl⟩
    unfold fX2_isTable
    rw [h.pt, if_neg (nI_pos (by omega)), if_neg (nI_ge hg (by omega))]
  · refine Or.inr ⟨?_, c1⟩
    unfold fX2_isTable
    rw [h.pt]
    rcases c2 with c2 | c2
    · exact if_pos c2
    · rw [if_pos c2]; by_cases c3 : v < 0 <;> simp [c3]
theorem seat_is {P : PV} {f : Nat → Int32} {G T : Nat} {L : List Nat} (h : REL P f 0 G T L) (tb v : Int32) : (fX2_isSeat P tb v = 1 ∧ fX7_isSeat f tb v = 1 ∧ ∃ t z n : Nat, t < T ∧ z < n ∧ n ≤ 8 ∧ f (0 + 18 + t) = nI n ∧ tb = nI t ∧ v = nI z) ∨ (fX2_isSeat P tb v = 0 ∧ fX7_isSeat f tb v = 0) := by
  have hT := h.wf.hT
  have h10 : ¬ (1 : Int32) = 0 := by decide
  rcases table_is h tb with ⟨c1, c2, t, ht, rfl⟩ | ⟨c1, c2⟩
  · obtain ⟨n, n3, n8, hn⟩ := h.wf.sts t ht
    have hn' : f (18 + t) = nI n := by rw [Nat.zero_add] at hn; exact hn
    have e1 : fX2_isSeat P (nI t) v = if v < 0 then 0 else if nI n ≤ v then 0 else 1 := by
      unfold fX2_isSeat
      rw [c1, if_neg h10, h.seats (by omega), hn]
    have e2 : fX7_isSeat f (nI t) v = if fX7_in v 0 (nI n - 1) = 0 then 0 else 1 := by
      unfold fX7_isSeat
      rw [c2, if_neg h10, nI_clamp (by omega), hn']
    rw [e1, e2]
    rcases in_is (v := v) (n := n) (by omega) with ⟨k1, z, hz, rfl⟩ | ⟨k1, k2⟩
    · refine Or.inl ⟨?_, ?_, t, z, n, ht, hz, n8, hn, rfl, rfl⟩
      · rw [if_neg (nI_pos (by omega)), if_neg (nI_ge hz (by omega))]
      · rw [k1, if_neg h10]
    · refine Or.inr ⟨?_, ?_⟩
      · rcases k2 with k2 | k2
        · exact if_pos k2
        · rw [if_pos k2]; by_cases c3 : v < 0 <;> simp [c3]
      · rw [k1, if_pos rfl]
  · refine Or.inr ⟨?_, ?_⟩
    · unfold fX2_isSeat
      rw [c1, if_pos rfl]
    · unfold fX7_isSeat
      rw [c2, if_pos rfl]
/-- the state of both sides, the text aside: the plan, the snapshot, the saved states -/
def ST (PN PS : PV) (Ps : Nat → PV) (o v : Nat) (kp : Int32) (f M : Nat → Int32) : Prop := (∃ (G T : Nat) (L : List Nat), REL PN f 0 G T L) ∧ HI Ps o v f ∧ M 1 = nI v ∧ M 2 = kp ∧ (kp = 0 ∨ ∃ (G T : Nat) (L : List Nat), REL PS f 826 G T L)
theorem ST_M {PN PS : PV} {Ps : Nat → PV} {o v : Nat} {kp : Int32} {f M : Nat → Int32} (h : ST PN PS Ps o v kp f M) (x : Int32) : ST PN PS Ps o v kp f (upd M 0 x) := ⟨h.1, h.2.1, (upd_ne (by decide)).trans h.2.2.1, (upd_ne (by decide)).trans h.2.2.2.1, h.2.2.2.2⟩
/-- nothing was thrown, and the buffer's length stays -/
def TZ (M' M : Nat → Int32) : Prop := M' 0 = 0 ∧ M' 3 = M 3
/-- what saving leaves, and what a change of the plan behind it makes -/
theorem ST_save {PN PS : PV} {Ps : Nat → PV} {o v G T : Nat} {L : List Nat} {kp : Int32} {f M : Nat → Int32} (h : ST PN PS Ps o v kp f M) (hR : REL PN f 0 G T L) : REL PN (fX7_save f (upd M 0 0)).1 0 G T L ∧ TZ (fX7_save f (upd M 0 0)).2 M ∧ ∀ (PN' : PV) (F : Nat → Int32) (G' T' : Nat) (L' : List Nat), (∀ i : Nat, 118 ≤ i → i < 944 → F i = (fX7_save f (upd M 0 0)).1 i) → REL PN' F 0 G' T' L' → ST PN' PS (fX0_save Ps o v PN).1 (fX0_save Ps o v PN).2.1 (fX0_save Ps o v PN).2.2 kp F (fX7_save f (upd M 0 0)).2 := by
  obtain ⟨-, h2, h3, h4, h5⟩ := h
  obtain ⟨s1, s2, s3, s4, s5⟩ := save_HI (M := upd M 0 0) hR h2 ((upd_ne (by decide)).trans h3)
  refine ⟨REL_to (PE_refl _) (fun k hk => by rw [Nat.zero_add]; exact s3 k hk) (by decide) hR, ⟨by rw [s2, upd_ne (by decide), upd_eq], by rw [s2, upd_ne (by decide), upd_ne (by decide)]⟩, fun PN' F G' T' L' hF hR' => ⟨⟨G', T', L', hR'⟩, HI_fr s1 (fun i hi h9 => hF i hi (by omega)), by rw [s2, upd_eq], by rw [s2, upd_ne (by decide), upd_ne (by decide)]; exact h4, ?_⟩⟩
  rcases h5 with h5 | ⟨G2, T2, L2, h6⟩
  · exact Or.inl h5
  · exact Or.inr ⟨G2, T2, L2, REL_to (PE_refl _) (fun k hk => (hF _ (by omega) (by omega)).trans (s4 k hk)) (by decide) h6⟩
theorem holds_0 (M : Nat → Int32) : fX7_holds M (nI 0) = (1, upd M 0 0) := if_pos rfl
theorem holds_p {M : Nat → Int32} {p : Nat} (h0 : 0 < p) (hp : p < 2 ^ 31) : fX7_holds M (nI p) = (0, upd M 0 (nI p)) := if_neg (nI_ne0 h0 hp)
theorem reason_05 (f : Nat → Int32) (b g : Nat) (tb z : Int32) : fX7_reason f b g tb z = 0 ∨ fX7_reason f b g tb z = 1 ∨ fX7_reason f b g tb z = 2 ∨ fX7_reason f b g tb z = 3 ∨ fX7_reason f b g tb z = 4 ∨ fX7_reason f b g tb z = 5 := by
  have ht : ∀ x : Int32, x = lq2 (fX7_reason_b58 f b g tb) (fX7_reason_r58 f b) ((f (b + 0)).toNatClampNeg) 0 0 0 → x = 0 ∨ x = 1 ∨ x = 2 ∨ x = 3 ∨ x = 4 ∨ x = 5 := fun x hx => by
    subst hx
    refine lq2_inv (fun _ _ => True) (fun x => x = 0 ∨ x = 1 ∨ x = 2 ∨ x = 3 ∨ x = 4 ∨ x = 5) (fun k x y nx _ hn => ?_) (fun x y _ => ?_) _ _ _ _ trivial
    · unfold fX7_reason_b58
      rw [bd2_eq]
      exact hn _ _ trivial
    · unfold fX7_reason_r58
      by_cases c : y = 0
      · rw [if_pos c]
        by_cases c2 : x < f (b + 6)
        · rw [if_pos c2]; exact Or.inl rfl
        · rw [if_neg c2]; exact Or.inr (Or.inr (Or.inr (Or.inr (Or.inr rfl))))
      · rw [if_neg c]; exact Or.inr (Or.inr (Or.inr (Or.inr (Or.inl rfl))))
  unfold fX7_reason
  by_cases c : fX7_whoSits f b tb z = -1
  · rw [if_pos c]
    by_cases c2 : fX7_isAtLeg z = 0
    · rw [if_pos c2]; exact ht _ rfl
    · rw [if_neg c2]
      by_cases c3 : fX7_of f b g 1 = 3
      · rw [if_pos c3]; exact Or.inr (Or.inr (Or.inr (Or.inl rfl)))
      · rw [if_neg c3]; exact ht _ rfl
  · rw [if_neg c]
    by_cases c4 : fX7_whoSits f b tb z = nI g
    · rw [if_pos c4]; exact Or.inr (Or.inl rfl)
    · rw [if_neg c4]; exact Or.inr (Or.inr (Or.inl rfl))
/-- rise -/
theorem rise_ST {PN PS : PV} {Ps : Nat → PV} {o v : Nat} {kp : Int32} {f M : Nat → Int32} (h : ST PN PS Ps o v kp f M) (g : Int32) :
    (fX6_rise PN Ps o v g = Sum.inl 2 ∧ fX7_rise f M g = (0, (f, upd M 0 (nI 1)))) ∨ (fX6_rise PN Ps o v g = Sum.inl 1 ∧ fX7_rise f M g = (0, (f, upd M 0 (nI 2)))) ∨ ∃ (r : Int32) (PN' : PV) (Ps' : Nat → PV) (o' v' : Nat) (F M' : Nat → Int32), fX6_rise PN Ps o v g = Sum.inr (r, (PN', Ps', o', v')) ∧ fX7_rise f M g = (r, (F, M')) ∧ TZ M' M ∧ ST PN' PS Ps' o' v' kp F M' := by
  obtain ⟨G, T, L, hR⟩ := h.1
  have hG := hR.wf.G16
  obtain ⟨s1, s2, s3⟩ := ST_save h hR
  unfold fX6_rise fX7_rise fX6_needGuest
  rcases guest_is hR g with ⟨c1, c2, x, hx, rfl⟩ | ⟨c1, c2⟩
  · rw [c1, c2, if_neg (show ¬ (1 : Int32) = 0 by decide), if_neg (show ¬ (1 : Int32) = 0 by decide), if_pos rfl, isSit_eq hR hx, nI_clamp (by omega)]
    by_cases c : fX7_of f 0 x 3 = -1
    · rw [if_pos c, if_pos rfl, if_pos c, bd_eq, bd2_eq, holds_p (by decide) (by decide)]
      exact Or.inr (Or.inl ⟨rfl, rfl⟩)
    · have c3 : fX7_of (fX7_save f (upd M 0 0)).1 0 x 3 ≠ -1 := by rw [← s1.row 3 x (by decide) (by omega), hR.row 3 x (by decide) (by omega)]; exact c
      obtain ⟨u1, u2, u3, u4, u5, u6⟩ := stand_fr s1.wf.ro (show x < 16 by omega)
      have hS := stand_REL s1 hx c3
      rw [if_neg c, if_neg (show ¬ (1 : Int32) = 0 by decide), if_neg c]
      refine Or.inr (Or.inr ⟨_, _, _, _, _, _, _, rfl, ?_, s2, s3 _ (fX7_standsUp (fX7_save f (upd M 0 0)).1 0 x) _ _ _ (fun i hi _ => u6 i (Or.inr (by omega))) hS⟩)
      rw [byGuests_eq hS, bd_eq, bd2_eq, holds_0]
      rfl
  · rw [c1, c2, if_pos rfl, if_pos rfl, if_neg (show ¬ (1 : Int32) = 0 by decide), bd_eq, bd2_eq, holds_p (by decide) (by decide)]
    exact Or.inl ⟨rfl, rfl⟩
theorem seatAll_ST {PN PS : PV} {Ps : Nat → PV} {o v : Nat} {kp : Int32} {f M : Nat → Int32} (h : ST PN PS Ps o v kp f M) : ∃ (r : Int32) (PN' : PV) (Ps' : Nat → PV) (o' v' : Nat) (F M' : Nat → Int32), fX6_seatAll PN Ps o v = (r, (PN', Ps', o', v')) ∧ fX7_seatAll f M = (r, (F, M')) ∧ TZ M' M ∧ ST PN' PS Ps' o' v' kp F M' := by
  obtain ⟨G, T, L, hR⟩ := h.1
  obtain ⟨s1, s2, s3⟩ := ST_save h hR
  obtain ⟨a1, ⟨L', a2⟩, a3⟩ := seatAll_REL s1
  refine ⟨_, _, _, _, _, _, _, rfl, ?_, s2, s3 _ _ _ _ _ (fun i hi _ => a3 i (Or.inr (by omega))) a2⟩
  unfold fX7_seatAll
  rw [a1]
  rfl
/-- sit -/
theorem sit_ST {PN PS : PV} {Ps : Nat → PV} {o v : Nat} {kp : Int32} {f M : Nat → Int32} (h : ST PN PS Ps o v kp f M) (g tb z : Int32) :
    (fX6_sit PN Ps o v g tb z = Sum.inl 2 ∧ fX7_sit f M g tb z = (0, (f, upd M 0 (nI 1)))) ∨ (fX6_sit PN Ps o v g tb z = Sum.inl 1 ∧ fX7_sit f M g tb z = (0, (f, upd M 0 (nI 2)))) ∨ ∃ (r : Int32) (PN' : PV) (Ps' : Nat → PV) (o' v' : Nat) (F M' : Nat → Int32), fX6_sit PN Ps o v g tb z = Sum.inr (r, (PN', Ps', o', v')) ∧ fX7_sit f M g tb z = (r, (F, M')) ∧ TZ M' M ∧ ST PN' PS Ps' o' v' kp F M' := by
  obtain ⟨G, T, L, hR⟩ := h.1
  have hG := hR.wf.G16
  have h10 : ¬ (1 : Int32) = 0 := by decide
  have h1n : ¬ nI 1 = 0 := by decide
  obtain ⟨s1, s2, s3⟩ := ST_save h hR
  rcases guest_is hR g with ⟨c1, c2, x, hx, rfl⟩ | ⟨c1, c2⟩
  · rcases seat_is hR tb z with ⟨d1, d2, t, y, n, k1, k2, k3, k4, rfl, rfl⟩ | ⟨d1, d2⟩
    · have eX : fX6_sit PN Ps o v (nI x) (nI t) (nI y) = if fX7_reason f 0 x (nI t) (nI y) = 0 then Sum.inr (fX4_byGuests (fX2_takeSeat PN (nI x) (nI t) (nI y)), (fX2_takeSeat PN (nI x) (nI t) (nI y), (fX0_save Ps o v PN).1, (fX0_save Ps o v PN).2.1, (fX0_save Ps o v PN).2.2)) else Sum.inl 1 := by
        unfold fX6_sit fX6_needGuestAndSeat fX6_needGuest fX6_needSeat
        rw [c1, d1, if_neg h10, if_pos rfl, if_pos rfl, reason_eq hR hx k1 (by omega), if_pos rfl]
        rfl
      have eY : fX7_sit f M (nI x) (nI t) (nI y) = bd2 (fX7_holds M (nI (if fX7_reason f 0 x (nI t) (nI y) ≤ 0 then 0 else 2))) (fun r50 U50 => (if r50 = 0 then (0, (f, U50)) else (bd (fX7_save f U50) (fun U59 => (bd (fX7_sitsDown U59.1 0 x (nI t) (nI y)) (fun U67 => ((fX7_points U67 0 (-1)), (U67, U59.2)))))))) := by
        unfold fX7_sit
        rw [c2, d2, bd_eq, bd_eq, if_neg h10, if_neg h10, if_neg h1n, nI_clamp (by omega)]
      rw [eX, eY]
      have hr05 : fX7_reason f 0 x (nI t) (nI y) = 0 ↔ fX7_reason f 0 x (nI t) (nI y) ≤ 0 := by
        rcases reason_05 f 0 x (nI t) (nI y) with e | e | e | e | e | e <;> rw [e] <;> decide
      by_cases c : fX7_reason f 0 x (nI t) (nI y) = 0
      · have c9 := c
        have e4 : fX7_save f (upd M 0 0) = ((fX7_save f (upd M 0 0)).1, (fX7_save f (upd M 0 0)).2) := rfl
        have hw : fX7_whoSits (fX7_save f (upd M 0 0)).1 0 (nI t) (nI y) = -1 := by
          rw [← s1.hold k1 (by omega), hR.hold k1 (by omega)]; exact reason_free c
        have hn2 : (fX7_save f (upd M 0 0)).1 (0 + 18 + t) = nI n := by
          have hT := hR.wf.hT
          rw [← s1.ts t (by omega), hR.ts t (by omega)]; exact k4
        have hS := take_REL s1 hx k1 hn2 k2 k3 hw
        have hfr : ∀ i : Nat, 118 ≤ i → fX7_sitsDown (fX7_save f (upd M 0 0)).1 0 x (nI t) (nI y) i = (fX7_save f (upd M 0 0)).1 i := fun i hi => by
          by_cases cs : fX7_of (fX7_save f (upd M 0 0)).1 0 x 3 = -1
          · obtain ⟨w1, w2, w3, w4, w5, w6⟩ := sit_fr s1.wf.ro hx cs (nI t) (nI y)
            exact w6 i (Or.inr (by omega))
          · obtain ⟨u1, u2, u3, u4, u5, u6⟩ := stand_fr s1.wf.ro (show x < 16 by omega)
            obtain ⟨w1, w2, w3, w4, w5, w6⟩ := sit_fr (RO_stands s1.wf.ro (show x < 16 by omega)) hx u3 (nI t) (nI y)
            rw [sits_split cs u3, w6 i (Or.inr (by omega)), u6 i (Or.inr (by omega))]
        rw [if_pos c, if_pos (hr05.mp c9)]
        refine Or.inr (Or.inr ⟨_, _, _, _, _, _, _, rfl, ?_, s2, s3 _ _ _ _ _ (fun i hi _ => hfr i hi) hS⟩)
        rw [byGuests_eq hS, bd2_eq, holds_0]
        rfl
      · rw [if_neg c, if_neg (fun e => c (hr05.mpr e)), bd2_eq, holds_p (by decide) (by decide)]
        exact Or.inr (Or.inl ⟨rfl, rfl⟩)
    · refine Or.inl ⟨?_, ?_⟩
      · unfold fX6_sit fX6_needGuestAndSeat fX6_needGuest fX6_needSeat
        rw [c1, d1, if_neg h10, if_pos rfl, if_pos rfl, if_neg h10, if_neg h10]
      · unfold fX7_sit
        rw [c2, d2, bd_eq, bd_eq, if_neg h10, if_pos rfl, if_pos (show nI 0 = 0 from rfl), bd2_eq, holds_p (by decide) (by decide)]
        rfl
  · refine Or.inl ⟨?_, ?_⟩
    · unfold fX6_sit fX6_needGuestAndSeat fX6_needGuest
      rw [c1, if_pos rfl, if_neg h10, if_neg h10]
    · unfold fX7_sit
      rw [c2, bd_eq, bd_eq, if_pos rfl, if_pos (show nI 0 = 0 from rfl), bd2_eq, holds_p (by decide) (by decide)]
      rfl




