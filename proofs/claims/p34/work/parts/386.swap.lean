theorem PE_refl (P : PV) : PE P P := ⟨fun _ _ _ _ => rfl, fun _ _ => rfl, fun _ _ => rfl, fun _ _ => rfl, fun _ _ => rfl, fun _ _ => rfl, fun _ _ => rfl⟩
theorem isGuest_in {P : PV} {f : Nat → Int32} {b G T g : Nat} {L : List Nat} (h : REL P f b G T L) (hg : g < G) : fX2_isGuest P (nI g) = 1 := by
  have hG := h.wf.G16
  unfold fX2_isGuest
  rw [h.pg, if_neg (nI_pos (by omega)), if_neg (nI_ge hg (by omega))]
theorem isSeat_in {P : PV} {f : Nat → Int32} {b G T t z n : Nat} {L : List Nat} (h : REL P f b G T L) (ht : t < T) (hn : f (b + 18 + t) = nI n) (hz : z < n) (hn8 : n ≤ 8) : fX2_isSeat P (nI t) (nI z) = 1 := by
  have hT := h.wf.hT
  unfold fX2_isSeat fX2_isTable
  rw [h.pt, h.seats (by omega), hn, if_neg (nI_pos (by omega)), if_neg (nI_ge ht (by omega)), if_neg (by decide), if_neg (nI_pos (by omega)), if_neg (nI_ge hz (by omega))]
theorem mayTake_eq {P : PV} {f : Nat → Int32} {b G T g t z n : Nat} {L : List Nat} (h : REL P f b G T L) (hg : g < G) (ht : t < T) (hn : f (b + 18 + t) = nI n) (hz : z < n) (hn8 : n ≤ 8) : fX2_mayTake P (nI g) (nI t) (nI z) = if fX7_reason f b g (nI t) (nI z) = 0 then 1 else 0 := by
  unfold fX2_mayTake
  rw [isGuest_in h hg, isSeat_in h ht hn hz hn8, reason_eq h hg ht (by omega), if_neg (by decide), if_neg (by decide)]
/-- the swap, tried -/
theorem swap_REL {P : PV} {f : Nat → Int32} {G T g k : Nat} {L : List Nat} (h : REL P f 0 G T L) (hg : g < G) (hk : k < G) (hne : g ≠ k) (hs : fX7_of f 0 g 3 ≠ -1) (hs2 : fX7_of f 0 k 3 ≠ -1) :
    (fX2_exchange P (nI g) (nI k)).1 = (fX7_canSwap f g k).1 ∧ ((fX7_canSwap f g k).1 = 0 ∨ ∃ L' : List Nat, REL (fX2_exchange P (nI g) (nI k)).2 (fX7_canSwap f g k).2 944 G T L') ∧ ((fX7_canSwap f g k).1 = 0 ∨ (fX7_canSwap f g k).1 = 1) ∧ ∀ i : Nat, i < 944 → (fX7_canSwap f g k).2 i = f i := by
  have hG := h.wf.G16
  have hT := h.wf.hT
  have hR1 : REL P (fX7_copies f 0 8) 944 G T L := REL_to (PE_refl P) (copies_there f) (by decide) h
  have hc : ∀ i : Nat, i < 944 → fX7_copies f 0 8 i = f i := fun i hi => (copies_at f (show 0 ≠ 8 by decide)).2 i (Or.inl hi)
  have eo : ∀ x w : Nat, x < 16 → w < 5 → fX7_of (fX7_copies f 0 8) 944 x w = fX7_of f 0 x w := fun x w hx hw => of_row (copies_there f) hx hw
  obtain ⟨tg, zg, ng, a1, a2, a3, a4, a5, a6⟩ := (h.wf.sit g hg).resolve_left hs
  obtain ⟨tk, zk, nk, b1, b2, b3, b4, b5, b6⟩ := (h.wf.sit k hk).resolve_left hs2
  have hR2 := stand_REL hR1 hg (by rw [eo g 3 (by omega) (by decide)]; exact hs)
  obtain ⟨s1, s2, s3, s4, s5, s6⟩ := stand_fr hR1.wf.ro (show g < 16 by omega)
  have hk2 : fX7_of (fX7_standsUp (fX7_copies f 0 8) 944 g) 944 k 3 ≠ -1 := by
    rw [s2 k 3 (by omega) (by decide) (Or.inl (fun e => hne e.symm)), eo k 3 (by omega) (by decide)]; exact hs2
  have hR3 := stand_REL hR2 hk hk2
  obtain ⟨u1, u2, u3, u4, u5, u6⟩ := stand_fr hR2.wf.ro (show k < 16 by omega)
  have hg3 : fX7_of (fX7_standsUp (fX7_standsUp (fX7_copies f 0 8) 944 g) 944 k) 944 g 3 = -1 := by
    rw [u2 g 3 (by omega) (by decide) (Or.inl hne)]; exact s3
  have hn : ∀ t n : Nat, t < 4 → f (0 + 18 + t) = nI n → fX7_standsUp (fX7_standsUp (fX7_copies f 0 8) 944 g) 944 k (944 + 18 + t) = nI n := fun t n ht e => by
    rw [Nat.add_assoc, u1 (18 + t) (by omega), s1 (18 + t) (by omega), copies_there f (18 + t) (by omega), ← Nat.add_assoc]; exact e
  have eE : fX2_exchange P (nI g) (nI k) = (if (fX2_mayTake (fX2_standUp (fX2_standUp P (nI g)) (nI k)) (nI g) (nI tk) (nI zk)) = 0 then (0, fX2_standUp (fX2_standUp P (nI g)) (nI k)) else (if (fX2_mayTake (fX2_takeSeat (fX2_standUp (fX2_standUp P (nI g)) (nI k)) (nI g) (nI tk) (nI zk)) (nI k) (nI tg) (nI zg)) = 0 then (0, fX2_takeSeat (fX2_standUp (fX2_standUp P (nI g)) (nI k)) (nI g) (nI tk) (nI zk)) else (1, fX2_takeSeat (fX2_takeSeat (fX2_standUp (fX2_standUp P (nI g)) (nI k)) (nI g) (nI tk) (nI zk)) (nI k) (nI tg) (nI zg)))) := by
    unfold fX2_exchange
    rw [isSit_eq h hg, isSit_eq h hk, if_neg hs, if_neg hs2, if_neg (by decide), if_neg (by decide), h.rat (by decide) (by omega), h.rat (by decide) (by omega), h.rat (by decide) (by omega), h.rat (by decide) (by omega), a5, a6, b5, b6]
    rfl
  have eC : fX7_canSwap f g k = (nI (if (nI (if (fX7_reason (fX7_standsUp (fX7_standsUp (fX7_copies f 0 8) 944 g) 944 k) 944 g (nI tk) (nI zk)) = 0 then 1 else 0)) = 0 then 0 else (if (fX7_reason (fX7_sitsDown (fX7_standsUp (fX7_standsUp (fX7_copies f 0 8) 944 g) 944 k) 944 g (nI tk) (nI zk)) 944 k (nI tg) (nI zg)) = 0 then 1 else 0)), fX7_sitsDown (fX7_sitsDown (fX7_standsUp (fX7_standsUp (fX7_copies f 0 8) 944 g) 944 k) 944 g (nI tk) (nI zk)) 944 k (nI tg) (nI zg)) := by
    unfold fX7_canSwap
    rw [a5, a6, b5, b6]
    rfl
  rw [eE, eC]
  generalize fX7_standsUp (fX7_standsUp (fX7_copies f 0 8) 944 g) 944 k = F at hR3 hg3 hn u1 u2 u3 u4 u5 u6 ⊢
  generalize fX2_standUp (fX2_standUp P (nI g)) (nI k) = Q at hR3 ⊢
  have low : ∀ i : Nat, i < 944 → F i = f i := fun i hi => (u6 i (Or.inl hi)).trans ((s6 i (Or.inl hi)).trans (hc i hi))
  have hro := RO_sits hR3.wf.ro hg (tb := nI tk) (z := nI zk) (Or.inr ⟨tk, by omega, rfl⟩) (nI_m1 (by omega))
  obtain ⟨v1, v2, v3, v4, v5, v6⟩ := sit_fr hR3.wf.ro hg hg3 (nI tk) (nI zk)
  have hk4 : fX7_of (fX7_sitsDown F 944 g (nI tk) (nI zk)) 944 k 3 = -1 := by
    rw [v2 k 3 (by omega) (by decide) (Or.inl (fun e => hne e.symm))]; exact u3
  obtain ⟨w1, w2, w3, w4, w5, w6⟩ := sit_fr hro hk hk4 (nI tg) (nI zg)
  have low2 : ∀ i : Nat, i < 944 → fX7_sitsDown (fX7_sitsDown F 944 g (nI tk) (nI zk)) 944 k (nI tg) (nI zg) i = f i := fun i hi => (w6 i (Or.inl hi)).trans ((v6 i (Or.inl hi)).trans (low i hi))
  have hnk := hn tk nk (by omega) b4
  have hng := hn tg ng (by omega) a4
  rw [mayTake_eq hR3 hg b1 hnk b3 b2]
  by_cases c : fX7_reason F 944 g (nI tk) (nI zk) = 0
  · rw [if_pos c, if_neg (show ¬ (1 : Int32) = 0 by decide), if_pos c, if_neg (show ¬ nI 1 = 0 by decide)]
    have hR4 := seat_REL hR3 hg hg3 b1 hnk b3 b2 (reason_free c)
    have hng2 : fX7_sitsDown F 944 g (nI tk) (nI zk) (944 + 18 + tg) = nI ng := by
      rw [Nat.add_assoc, v1 (18 + tg) (by omega), ← Nat.add_assoc]; exact hng
    rw [mayTake_eq hR4 hk a1 hng2 a3 a2]
    by_cases c2 : fX7_reason (fX7_sitsDown F 944 g (nI tk) (nI zk)) 944 k (nI tg) (nI zg) = 0
    · rw [if_pos c2, if_neg (show ¬ (1 : Int32) = 0 by decide), if_pos c2]
      exact ⟨rfl, Or.inr ⟨_, seat_REL hR4 hk hk4 a1 hng2 a3 a2 (reason_free c2)⟩, Or.inr rfl, low2⟩
    · rw [if_neg c2, if_pos (show (0 : Int32) = 0 from rfl), if_neg c2]
      exact ⟨rfl, Or.inl rfl, Or.inl rfl, low2⟩
  · rw [if_neg c, if_pos (show (0 : Int32) = 0 from rfl), if_neg c, if_pos (show nI 0 = 0 from rfl)]
    exact ⟨rfl, Or.inl rfl, Or.inl rfl, low2⟩


