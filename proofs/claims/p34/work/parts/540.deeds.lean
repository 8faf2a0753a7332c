/-! each deed that the law does: what it answers, and that what holds still holds. Mine. -/
def DD (F : Nat ⊕ (Int32 × (PV × (Nat → PV) × Nat × Nat))) (PN : PV) (Ps : Nat → PV) (o v : Nat) (c : Int32 × PV) : Prop := F = Sum.inr (SV PN Ps o v c) ∧ 0 ≤ 1000 + c.1 ∧ NW c.2
theorem ge1000 {x : Int32} (h1 : -1000 ≤ x.toInt) (h2 : x.toInt ≤ 2000) : (0 : Int32) ≤ 1000 + x := by
  have e0 : (1000 : Int32).toInt = 1000 := rfl
  rw [Int32.le_iff_toInt_le, i32_add (by rw [e0]; omega) (by rw [e0]; omega), e0]
  show (0 : Int) ≤ _
  omega
theorem ge1001 {x : Int32} (h1 : -1001 ≤ x.toInt) (h2 : x.toInt ≤ 2000) : (0 : Int32) ≤ 1001 + x := by
  have e0 : (1001 : Int32).toInt = 1001 := rfl
  rw [Int32.le_iff_toInt_le, i32_add (by rw [e0]; omega) (by rw [e0]; omega), e0]
  show (0 : Int) ≤ _
  omega
theorem ge1000n {n : Nat} (h : n ≤ 2000) : (0 : Int32) ≤ 1000 + nI n := ge1000 (by rw [nI_toInt (by omega)]; omega) (by rw [nI_toInt (by omega)]; omega)
theorem ge1000p {P : PV} {f : Nat → Int32} {G T : Nat} {L : List Nat} (h : REL P f 0 G T L) : (0 : Int32) ≤ 1000 + fX4_byGuests P := by
  rw [byGuests_eq h]
  have := points_bd h.wf
  exact ge1000 (by omega) (by omega)
theorem famI : ∀ a : Nat, a < 6 → fX6_isFamily (nI a) = 1 := by decide
theorem twoI : ∀ a : Nat, a < 6 → ∀ c : Nat, c < 6 → a ≠ c → fX6_needTwoFamilies (nI a) (nI c) = 0 := by decide
section DDS
variable {PN PS : PV} {Ps : Nat → PV} {o v : Nat} {f : Nat → Int32} {G T : Nat} {L : List Nat}
/-- a guest comes -/
theorem D_guest (hR : REL PN f 0 G T L) (hX : XI f G L) (hG : G < 16) {a b : Int32} (ha : ∃ j : Nat, j < 6 ∧ a = nI j) (hb : ∃ j : Nat, 1 ≤ j ∧ j ≤ 3 ∧ b = nI j) : DD (fX6_guest PN Ps o v a b) PN Ps o v (fX2_addGuest PN a b) := by
  obtain ⟨a, ha, rfl⟩ := ha
  obtain ⟨b, hb1, hb3, rfl⟩ := hb
  obtain ⟨k1, k2⟩ := add_REL hR hG ha hb1 hb3
  refine ⟨?_, by rw [k1]; exact ge1000n (by omega), ⟨_, _, _, _, k2, ?_⟩⟩
  · unfold fX6_guest
    rw [famI a ha, if_neg h10, if_neg (show ¬ nI b < 1 from fun e => by rw [show (1 : Int32) = nI 1 from rfl, nI_ltI (by omega) (by decide)] at e; omega), if_pos (show nI b ≤ 3 from by rw [show (3 : Int32) = nI 3 from rfl, nI_leI (by omega) (by decide)]; exact hb3), hR.pg, if_pos (show nI G < 16 from by rw [show (16 : Int32) = nI 16 from rfl, nI_ltI (by omega) (by decide)]; exact hG), bd_eq, bd2_eq]
    rfl
  · obtain ⟨e0, e1, e2, n0, n1, n2, n3, n4, e9⟩ := AG_at f 0 G (nI a) (nI b)
    have E1 : ∀ k : Nat, 1 ≤ k → k < 38 → AG f 0 G (nI a) (nI b) k = f k := fun k h1 h2 => by have := e1 k h1 h2; rw [Nat.zero_add] at this; exact this
    have h8 : (f 2).toNatClampNeg ≤ 8 := by have := hR.wf.f8; rw [Nat.zero_add] at this; exact this
    have hd := FD_fr (E1 2 (by decide) (by decide)) h8 (fun k hk => E1 (10 + k) (by omega) (by omega))
    obtain ⟨a1, a2, a3, a4⟩ := hX
    refine ⟨fun x z hx hz e3 s1 s4 => ?_, fun x k p q hx hk hp hq e3 e33 s0 s00 hf => ?_, by rw [E1 4 (by decide) (by decide), E1 5 (by decide) (by decide)]; exact a3, fun x hx e3 => by
      by_cases c : x = G
      · rw [c]; exact n4
      · rw [e2 x 3 (by decide) c] at e3
        rw [e2 x 4 (by decide) c]
        exact a4 x (by omega) e3⟩
    · have hxg : x ≠ G := fun z => by rw [z] at e3; exact e3 n3
      rw [e2 x 3 (by decide) hxg] at e3
      rw [e2 x 1 (by decide) hxg] at s1
      rw [e2 x 4 (by decide) hxg] at s4
      exact a1 x z (by omega) hz e3 s1 s4
    · have hxg : x ≠ G := fun z => by rw [z] at e3; exact e3 n3
      have hkg : k ≠ G := fun z => by rw [z, n3] at e33; exact e3 e33
      rw [e2 x 3 (by decide) hxg] at e3 e33
      rw [e2 k 3 (by decide) hkg] at e33
      rw [e2 x 0 (by decide) hxg] at s0
      rw [e2 k 0 (by decide) hkg] at s00
      exact a2 x k p q (by omega) (by omega) hp hq e3 e33 s0 s00 (hd _ hf)
/-- a table comes -/
theorem D_table (hR : REL PN f 0 G T L) (hX : XI f G L) (hT : T < 4) {a : Int32} (ha : ∃ j : Nat, 3 ≤ j ∧ j ≤ 8 ∧ a = nI j) : DD (fX6_table PN Ps o v a) PN Ps o v (fX2_addTable PN a) := by
  obtain ⟨n, hn3, hn8, rfl⟩ := ha
  obtain ⟨k1, k2⟩ := addT_REL hR hT hn3 hn8
  have hG := hR.wf.G16
  refine ⟨?_, by rw [k1]; exact ge1000n (by omega), ⟨_, _, _, _, k2, ?_⟩⟩
  · unfold fX6_table
    rw [if_neg (show ¬ nI n < 3 from fun e => by rw [show (3 : Int32) = nI 3 from rfl, nI_ltI (by omega) (by decide)] at e; omega), if_pos (show nI n ≤ 8 from by rw [show (8 : Int32) = nI 8 from rfl, nI_leI (by omega) (by decide)]; exact hn8), hR.pt, if_pos (show nI T < 4 from by rw [show (4 : Int32) = nI 4 from rfl, nI_ltI (by omega) (by decide)]; exact hT), bd_eq, bd2_eq]
    rfl
  · have h8 : (f 2).toNatClampNeg ≤ 8 := by have := hR.wf.f8; rw [Nat.zero_add] at this; exact this
    have E : ∀ i : Nat, i ≠ 1 → i ≠ 18 + T → (upd (upd f (0 + 18 + T) (nI n)) (0 + 1) (nI (T + 1))) i = f i := fun i h1 h2 => by rw [upd_ne (by omega), upd_ne (by omega)]
    refine XI_fr hX (E 4 (by decide) (by omega)) (E 5 (by decide) (by omega)) (FD_fr (E 2 (by decide) (by omega)) h8 (fun k hk => E (10 + k) (by omega) (by omega))) (fun x w hx hw _ => ?_)
    unfold fX7_of
    exact E _ (by omega) (by omega)
/-- a wish changes -/
def dWish (PN : PV) (g a : Int32) : Int32 × PV := (fX3_at 16 (PN 2) g, rset PN 2 (fX3_put 16 (PN 2) g a))
theorem D_wish (hR : REL PN f 0 G T L) (hX : XI f G L) {g a : Int32} (hg : ∃ x : Nat, x < G ∧ g = nI x) (ha : a = -1 ∨ ∃ j : Nat, j < G ∧ a = nI j) (hag : a ≠ g) : fX6_wish PN Ps o v g a = Sum.inr (SV PN Ps o v (dWish PN g a)) ∧ 0 ≤ 1001 + (dWish PN g a).1 ∧ NW (dWish PN g a).2 := by
  obtain ⟨x, hx, rfl⟩ := hg
  have hG := hR.wf.G16
  have ha2 : a = -1 ∨ ∃ j : Nat, j < G ∧ j ≠ x ∧ a = nI j := by
    rcases ha with e | ⟨j, hj, e⟩
    · exact Or.inl e
    · exact Or.inr ⟨j, hj, fun z => hag (by rw [e, z]), e⟩
  have hk := wish_REL hR hx ha2
  have hput : dWish PN (nI x) a = (fX3_at 16 (PN 2) (nI x), rset PN 2 (upd (PN 2) x a)) := by
    unfold dWish
    rw [put_in (show x < 16 by omega) (by decide)]
  refine ⟨?_, ?_, ?_⟩
  · unfold fX6_wish
    rw [needG hR hx, if_pos rfl]
    rcases ha with rfl | ⟨j, hj, rfl⟩
    · rw [if_pos rfl, if_neg hag, bd_eq, bd_eq]
      rfl
    · rw [if_neg (show ¬ nI j = -1 from nI_m1 (by omega)), needG hR hj, if_pos rfl, if_neg hag, bd_eq, bd_eq]
      rfl
  · rw [hput]
    show (0 : Int32) ≤ 1001 + fX3_at 16 (PN 2) (nI x)
    rw [hR.rat (by decide) (by omega)]
    rcases hR.wf.wsh x hx with e | ⟨j, hj, _, e⟩
    · rw [e]; decide
    · rw [e]; exact ge1001 (by rw [nI_toInt (by omega)]; omega) (by rw [nI_toInt (by omega)]; omega)
  · rw [hput]
    refine ⟨_, _, _, _, hk, ?_⟩
    have h8 : (f 2).toNatClampNeg ≤ 8 := by have := hR.wf.f8; rw [Nat.zero_add] at this; exact this
    have E : ∀ i : Nat, i ≠ 0 + 38 + 5 * x + 2 → (upd f (0 + 38 + 5 * x + 2) a) i = f i := fun i h1 => upd_ne h1
    refine XI_fr hX (E 4 (by omega)) (E 5 (by omega)) (FD_fr (E 2 (by omega)) h8 (fun k hk => E (10 + k) (by omega))) (fun y w hy hw hw2 => ?_)
    unfold fX7_of
    exact E _ (by omega)
/-- a setting changes -/
def dSet (PN : PV) (g a : Int32) : Int32 × PV := (fX3_at 4 (PN 7) g, rset PN 7 (fX3_put 4 (PN 7) g a))
theorem D_set (hR : REL PN f 0 G T L) (hX : XI f G L) {g a : Int32} (hg : ∃ s x : Nat, s < 4 ∧ g = nI s ∧ a = nI x ∧ (s = 0 → 1 ≤ x ∧ x ≤ 8) ∧ (s = 3 → x ≤ 9) ∧ x ≤ 20) : DD (fX6_set PN Ps o v g a) PN Ps o v (dSet PN g a) := by
  obtain ⟨s, x, hs, rfl, rfl, h0, h3, h20⟩ := hg
  have hG := hR.wf.G16
  obtain ⟨lo, hi, l1, l2, l3, l4, l5, l6, l7, l8⟩ := set_bds s hs
  have hlh : lo ≤ x ∧ x ≤ hi := by
    have : s = 0 ∨ s = 1 ∨ s = 2 ∨ s = 3 := by omega
    rcases this with rfl | rfl | rfl | rfl
    · obtain ⟨rfl, rfl⟩ := l7 rfl; exact h0 rfl
    · have e1 : lo = 0 := (nI_eq (by omega) (by decide)).mp (l3.symm.trans (show fLV 1 = nI 0 from rfl))
      have e2 : hi = 20 := (nI_eq (by omega) (by decide)).mp (l4.symm.trans (show fGV 1 = nI 20 from rfl))
      omega
    · have e1 : lo = 0 := (nI_eq (by omega) (by decide)).mp (l3.symm.trans (show fLV 2 = nI 0 from rfl))
      have e2 : hi = 20 := (nI_eq (by omega) (by decide)).mp (l4.symm.trans (show fGV 2 = nI 20 from rfl))
      omega
    · have e1 : lo = 0 := (nI_eq (by omega) (by decide)).mp (l3.symm.trans (show fLV 3 = nI 0 from rfl))
      have e2 := l8 rfl
      have := h3 rfl
      omega
  have hk := set_REL hR hs hlh.1 hlh.2 l2 l7 l8
  have hput : dSet PN (nI s) (nI x) = (fX3_at 4 (PN 7) (nI s), rset PN 7 (upd (PN 7) s (nI x))) := by
    unfold dSet
    rw [put_in hs (by decide)]
  refine ⟨?_, ?_, ?_⟩
  · unfold fX6_set
    rw [if_neg (nI_pos (by omega)), if_pos (show nI s < 4 from by rw [show (4 : Int32) = nI 4 from rfl, nI_ltI (by omega) (by decide)]; exact hs), at_in hs (by decide), at_in hs (by decide), l3, l4, if_neg (show ¬ nI x < nI lo from fun e => by rw [nI_ltI (by omega) (by omega)] at e; omega), if_pos (show nI x ≤ nI hi from by rw [nI_leI (by omega) (by omega)]; exact hlh.2), bd_eq, bd_eq]
    rfl
  · rw [hput]
    show (0 : Int32) ≤ 1000 + fX3_at 4 (PN 7) (nI s)
    rw [hR.sat hs rfl]
    obtain ⟨a', p, q, r, k1, k2, k3, k4, k5, k6, k7, k8, k9⟩ := hR.wf.stg
    have : s = 0 ∨ s = 1 ∨ s = 2 ∨ s = 3 := by omega
    rcases this with rfl | rfl | rfl | rfl
    · rw [show f (0 + 6 + 0) = nI a' from k6]; exact ge1000n (by omega)
    · rw [k7]; exact ge1000n (by omega)
    · rw [k8]; exact ge1000n (by omega)
    · rw [k9]; exact ge1000n (by omega)
  · rw [hput]
    refine ⟨_, _, _, _, hk, ?_⟩
    have h8 : (f 2).toNatClampNeg ≤ 8 := by have := hR.wf.f8; rw [Nat.zero_add] at this; exact this
    have E : ∀ i : Nat, i ≠ 0 + 6 + s → (upd f (0 + 6 + s) (nI x)) i = f i := fun i h1 => upd_ne h1
    refine XI_fr hX (E 4 (by omega)) (E 5 (by omega)) (FD_fr (E 2 (by omega)) h8 (fun k hk => E (10 + k) (by omega))) (fun y w hy hw hw2 => ?_)
    unfold fX7_of
    exact E _ (by omega)
/-- a guest stands up -/
def dRise (PN : PV) (g : Int32) : Int32 × PV := (fX4_byGuests (fX2_standUp PN g), fX2_standUp PN g)
theorem D_rise (hR : REL PN f 0 G T L) (hX : XI f G L) {g : Nat} (hg : g < G) (hs : fX7_of f 0 g 3 ≠ -1) : DD (fX6_rise PN Ps o v (nI g)) PN Ps o v (dRise PN (nI g)) := by
  have h2 := stand_REL hR hg hs
  refine ⟨?_, ge1000p h2, ⟨_, _, _, _, h2, XI_stand hR.wf hX hg hs⟩⟩
  unfold fX6_rise
  rw [needG hR hg, if_pos rfl, isSit_eq hR hg, if_neg hs, if_neg h10, bd_eq, bd_eq]
  rfl
/-- a guest sits down -/
def dSit (PN : PV) (g t z : Int32) : Int32 × PV := (fX4_byGuests (fX2_takeSeat PN g t z), fX2_takeSeat PN g t z)
theorem take_NW (hR : REL PN f 0 G T L) (hX : XI f G L) {g t z n : Nat} (hg : g < G) (ht : t < T) (hn : f (0 + 18 + t) = nI n) (hz : z < n) (hn8 : n ≤ 8) (h0 : fX2_reasonAgainst PN (nI g) (nI t) (nI z) = 0) : REL (fX2_takeSeat PN (nI g) (nI t) (nI z)) (fX7_sitsDown f 0 g (nI t) (nI z)) 0 G T (L.filter (fun x => decide (x ≠ g)) ++ [g]) ∧ XI (fX7_sitsDown f 0 g (nI t) (nI z)) G (L.filter (fun x => decide (x ≠ g)) ++ [g]) := by
  obtain ⟨w1, w2, w3⟩ := reason0 hR hg ht hz hn8 h0
  have hG := hR.wf.G16
  have hT := hR.wf.hT
  refine ⟨take_REL hR hg ht hn hz hn8 w1, ?_⟩
  by_cases hs : fX7_of f 0 g 3 = -1
  · rw [filter_out (hR.wf.not_mem hs)]
    exact XI_seat hR.wf hX hg hs ht hn hz hn8 w2 w3 (fun a ha => FD_self hR.wf ha)
  · obtain ⟨s1, s2, s3, s4, s5, s6⟩ := stand_fr hR.wf.ro (show g < 16 by omega)
    have hW := stand_WF hR.wf hg
    have hX2 := XI_stand hR.wf hX hg hs
    have e2 : fX7_standsUp f 0 g 2 = f 2 := by have := s1 2 (Or.inl (by decide)); rw [Nat.zero_add] at this; exact this
    have ec : ∀ k : Nat, k < 8 → fX7_standsUp f 0 g (10 + k) = f (10 + k) := fun k hk => by have := s1 (10 + k) (Or.inr (Or.inr ⟨by omega, by omega⟩)); rw [Nat.zero_add] at this; exact this
    have h8 : (f 2).toNatClampNeg ≤ 8 := by have := hR.wf.f8; rw [Nat.zero_add] at this; exact this
    have hn' : fX7_standsUp f 0 g (0 + 18 + t) = nI n := by have := s1 (18 + t) (Or.inr (Or.inr ⟨by omega, by omega⟩)); rw [show 0 + 18 + t = 0 + (18 + t) by omega, this, ← hn]; congr 1; omega
    rw [sits_split hs s3]
    refine XI_seat hW hX2 hg s3 ht hn' hz hn8 (fun e => w2 (by rw [← s2 g 1 (by omega) (by decide) (Or.inr (by decide))]; exact e)) (fun x a c hx ha hc e3 e0 e00 => ?_) (fun a ha => FD_self hW ha)
    have hxg : x ≠ g := fun z9 => by rw [z9, s3] at e3; exact nI_m1 (by omega) e3.symm
    rw [s2 x 3 (by omega) (by decide) (Or.inl hxg)] at e3
    rw [s2 g 0 (by omega) (by decide) (Or.inr (by decide))] at e0
    rw [s2 x 0 (by omega) (by decide) (Or.inr (by decide))] at e00
    exact ⟨fun z9 => (w3 x a c hx ha hc e3 e0 e00).1 (FD_fr e2 h8 ec _ z9), fun z9 => (w3 x a c hx ha hc e3 e0 e00).2 (FD_fr e2 h8 ec _ z9)⟩
theorem D_sit (hR : REL PN f 0 G T L) (hX : XI f G L) {g t z n : Nat} (hg : g < G) (ht : t < T) (hn : f (0 + 18 + t) = nI n) (hz : z < n) (hn8 : n ≤ 8) (h0 : fX2_reasonAgainst PN (nI g) (nI t) (nI z) = 0) : DD (fX6_sit PN Ps o v (nI g) (nI t) (nI z)) PN Ps o v (dSit PN (nI g) (nI t) (nI z)) := by
  obtain ⟨h1, h2⟩ := take_NW hR hX hg ht hn hz hn8 h0
  refine ⟨?_, ge1000p h1, ⟨_, _, _, _, h1, h2⟩⟩
  unfold fX6_sit
  rw [needGS hR hg ht hn hz hn8, if_pos rfl, h0, if_pos rfl, bd_eq, bd_eq]
  rfl
end DDS
