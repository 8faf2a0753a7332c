/-! what deeds bring is told ahead. Mine. -/
/-- a plan's rows alone, where they are read -/
def canon (P : PV) : PV := fun a k => if (a < 5 ∧ k < 16) ∨ (a = 5 ∧ k < 4) ∨ (a = 6 ∧ k < 32) ∨ (a = 7 ∧ k < 4) ∨ (a = 8 ∧ k < 8) ∨ (a = 9 ∧ k < 16) ∨ (a = 10 ∧ k < 6) then P a k else 0
theorem canon_PE {P Q : PV} (h : PE P Q) : canon P = canon Q := by
  obtain ⟨h1, h2, h3, h4, h5, h6, h7⟩ := h
  funext a k
  unfold canon
  by_cases c : (a < 5 ∧ k < 16) ∨ (a = 5 ∧ k < 4) ∨ (a = 6 ∧ k < 32) ∨ (a = 7 ∧ k < 4) ∨ (a = 8 ∧ k < 8) ∨ (a = 9 ∧ k < 16) ∨ (a = 10 ∧ k < 6)
  · rw [if_pos c, if_pos c]
    rcases c with ⟨c1, c2⟩ | ⟨rfl, c2⟩ | ⟨rfl, c2⟩ | ⟨rfl, c2⟩ | ⟨rfl, c2⟩ | ⟨rfl, c2⟩ | ⟨rfl, c2⟩
    · exact h1 a k c1 c2
    · exact h2 k c2
    · exact h3 k c2
    · exact h4 k c2
    · exact h5 k c2
    · exact h6 k c2
    · exact h7 k c2
  · rw [if_neg c, if_neg c]
theorem canon_is (P : PV) : PE (canon P) P := by
  refine ⟨fun w g hw hg => ?_, fun t ht => ?_, fun k hk => ?_, fun k hk => ?_, fun k hk => ?_, fun k hk => ?_, fun k hk => ?_⟩ <;> exact if_pos (by omega)
theorem canon_canon (P : PV) : canon (canon P) = canon P := canon_PE (canon_is P)
theorem canon_REL {P : PV} {f : Nat → Int32} {G T : Nat} {L : List Nat} (h : REL P f 0 G T L) : REL (canon P) f 0 G T L := REL_to (canon_is P) (fun _ _ => rfl) (by decide) h
theorem PE_trans {P Q R : PV} (h : PE P Q) (k : PE Q R) : PE P R := ⟨fun w g a b => (h.1 w g a b).trans (k.1 w g a b), fun t a => (h.2.1 t a).trans (k.2.1 t a), fun t a => (h.2.2.1 t a).trans (k.2.2.1 t a), fun t a => (h.2.2.2.1 t a).trans (k.2.2.2.1 t a), fun t a => (h.2.2.2.2.1 t a).trans (k.2.2.2.2.1 t a), fun t a => (h.2.2.2.2.2.1 t a).trans (k.2.2.2.2.2.1 t a), fun t a => (h.2.2.2.2.2.2 t a).trans (k.2.2.2.2.2.2 t a)⟩
section AH
variable {PN : PV} {Ps : Nat → PV} {o v : Nat} {f : Nat → Int32} {G T : Nat} {L : List Nat}
theorem copy_PE0 {P Q : PV} (h : REL Q f 0 G T L) : PE (fX2_copyFrom P Q) Q := by
  obtain ⟨n, n8, hn, -, -⟩ := h.wf.fds
  exact copy_PE n8 h.wf.l16 (h.p4.trans hn) (len_P h)
/-- saved, and brought back -/
theorem back_canon {X Y : PV} (h : REL PN f 0 G T L) (hc : canon PN = PN) : canon (fX2_copyFrom X (fX2_copyFrom Y PN)) = PN := by
  rw [canon_PE (PE_trans (copy_PE0 (copy_REL0 h)) (copy_PE0 h)), hc]
theorem save_ok (ho : o < 6) (hv : v ≤ 6) : (fX0_save Ps o v PN).2.1 < 6 ∧ (fX0_save Ps o v PN).2.2 ≤ 6 ∧ (fX0_save Ps o v PN).2.2 = (if v < 6 then v + 1 else 6) ∧ 1 ≤ (fX0_save Ps o v PN).2.2 ∧ (fX0_save Ps o v PN).1 (((fX0_save Ps o v PN).2.1 + ((fX0_save Ps o v PN).2.2 - 1)) % 6) = fX2_copyFrom (Ps ((o + v) % 6)) PN := by
  unfold fX0_save
  by_cases c : v < 6
  · simp only [if_pos c]
    refine ⟨ho, by omega, trivial, by omega, ?_⟩
    rw [show o + (v + 1 - 1) = o + v by omega]
    exact if_pos rfl
  · obtain rfl : v = 6 := by omega
    simp only [if_neg c]
    refine ⟨Nat.mod_lt _ (by decide), by omega, trivial, by omega, ?_⟩
    rw [show ((o + 1) % 6 + (6 - 1)) % 6 = (o + 6) % 6 by omega]
    exact if_pos rfl
theorem undo_is (hv : 1 ≤ v) (hv6 : v ≤ 6) : fX6_undo PN Ps o v = Sum.inr (nI (v - 1), (fX2_copyFrom PN (Ps ((o + (v - 1)) % 6)), v - 1)) := by
  have e : fX0_takeLatest Ps o v PN = (fX2_copyFrom PN (Ps ((o + (v - 1)) % 6)), v - 1) := by
    unfold fX0_takeLatest
    rw [if_neg (by omega)]
  unfold fX6_undo fX0_length
  rw [if_neg (show ¬ (nI v : Int32) = 0 from fun z => absurd ((nI_eq (b := 0) (by omega) (by decide)).mp z) (by omega)), e, bd_eq]
/-- a second save, and both taken back -/
theorem save_two {P1 : PV} {Qs : Nat → PV} {o1 v1 : Nat} (ho : o < 6) (hv : v ≤ 6) (h1 : Qs = (fX0_save Ps o v PN).1) (h2 : o1 = (fX0_save Ps o v PN).2.1) (h3 : v1 = (fX0_save Ps o v PN).2.2) : 1 ≤ (fX0_save Qs o1 v1 P1).2.2 - 1 ∧ (fX0_save Qs o1 v1 P1).1 (((fX0_save Qs o1 v1 P1).2.1 + ((fX0_save Qs o1 v1 P1).2.2 - 1 - 1)) % 6) = fX2_copyFrom (Ps ((o + v) % 6)) PN := by
  subst h1 h2 h3
  unfold fX0_save
  by_cases c : v < 6
  · simp only [if_pos c]
    by_cases c2 : v + 1 < 6
    · simp only [if_pos c2]
      refine ⟨by omega, ?_⟩
      rw [show o + (v + 1 + 1 - 1 - 1) = o + v by omega]
      refine (if_neg (by omega)).trans (if_pos rfl)
    · obtain rfl : v = 5 := by omega
      simp only [if_neg c2]
      refine ⟨by omega, ?_⟩
      rw [show ((o + 1) % 6 + (5 + 1 - 1 - 1)) % 6 = (o + 5) % 6 by omega]
      refine (if_neg (by omega)).trans (if_pos rfl)
  · obtain rfl : v = 6 := by omega
    simp only [if_neg c]
    refine ⟨by omega, ?_⟩
    rw [show (((o + 1) % 6 + 1) % 6 + (6 - 1 - 1)) % 6 = (o + 6) % 6 by omega]
    refine (if_neg (by omega)).trans (if_pos rfl)
theorem rises_sym {P : PV} {t : Int32} {a c : Nat} (ha : a < 6) (hc : c < 6) (hac : a ≠ c) : fX2_familyThatRises P t (nI a) (nI c) = fX2_familyThatRises P t (nI c) (nI a) := by
  unfold fX2_familyThatRises
  by_cases h1 : fX2_familyAt P t (nI a) = 0
  · rw [if_pos h1]
    by_cases h2 : fX2_familyAt P t (nI c) = 0
    · rw [if_pos h2]
    · rw [if_neg h2, if_pos h1]
  · rw [if_neg h1]
    by_cases h2 : fX2_familyAt P t (nI c) = 0
    · rw [if_pos h2, if_pos h2]
    · rw [if_neg h2, if_neg h2, if_neg h1]
      by_cases h3 : fX2_familyAt P t (nI a) = fX2_familyAt P t (nI c)
      · rw [if_pos h3, if_pos h3.symm]
        by_cases h4 : a < c
        · rw [if_pos ((nI_ltI (by omega) (by omega)).mpr h4), if_neg (fun z => absurd ((nI_ltI (by omega) (by omega)).mp z) (by omega))]
        · rw [if_neg (fun z => h4 ((nI_ltI (by omega) (by omega)).mp z)), if_pos ((nI_ltI (by omega) (by omega)).mpr (by omega))]
      · have h3' : ¬ fX2_familyAt P t (nI c) = fX2_familyAt P t (nI a) := fun z => h3 z.symm
        have t3 : (fX2_familyAt P t (nI a)).toInt ≠ (fX2_familyAt P t (nI c)).toInt := fun z => h3 (Int32.toInt_inj.mp z)
        rw [if_neg h3, if_neg h3']
        by_cases h4 : fX2_familyAt P t (nI c) ≤ fX2_familyAt P t (nI a)
        · have h5 : ¬ fX2_familyAt P t (nI a) ≤ fX2_familyAt P t (nI c) := by
            rw [Int32.le_iff_toInt_le] at h4 ⊢
            omega
          rw [if_pos h4, if_neg h5]
        · have h5 : fX2_familyAt P t (nI a) ≤ fX2_familyAt P t (nI c) := by
            rw [Int32.le_iff_toInt_le] at h4 ⊢
            omega
          rw [if_neg h4, if_pos h5]
theorem risers_sym (hR : REL PN f 0 G T L) {a c : Nat} (ha : a < 6) (hc : c < 6) (hac : a ≠ c) : fX2_risersOfFeud PN (nI a) (nI c) = fX2_risersOfFeud PN (nI c) (nI a) := by
  have hh : fX2_hasFeud PN (nI a) (nI c) = 0 ↔ fX2_hasFeud PN (nI c) (nI a) = 0 := by rw [hasF_0 hR ha hc, hasF_0 hR hc ha, fc_sym]
  by_cases h : fX2_hasFeud PN (nI a) (nI c) = 0
  · rw [risers_sum hR ha hc h, risers_sum hR hc ha (hh.mp h)]
    refine sm_congr (fun t ht => ?_)
    rw [rises_sym ha hc hac]
  · unfold fX2_risersOfFeud
    rw [if_neg h, if_neg (fun z => h (hh.mpr z))]
theorem risers_0 {a c : Int32} (h : fX2_hasFeud PN a c ≠ 0) : fX2_risersOfFeud PN a c = 0 := by
  unfold fX2_risersOfFeud
  rw [if_neg h]
theorem ifFeud_in {a c : Nat} (ha : a < 6) (hc : c < 6) (hac : a ≠ c) : fX6_ifFeud PN (nI a) (nI c) = Sum.inr (fX2_risersOfFeud PN (nI a) (nI c), ()) := by
  unfold fX6_ifFeud
  rw [twoI a ha c hc hac, if_pos rfl]
theorem ifSat_in (hR : REL PN f 0 G T L) {g t z n : Nat} (hg : g < G) (ht : t < T) (hn : f (0 + 18 + t) = nI n) (hz : z < n) (hn8 : n ≤ 8) : fX6_ifSat PN (nI g) (nI t) (nI z) = Sum.inr (if fX2_reasonAgainst PN (nI g) (nI t) (nI z) = 0 then fX4_afterMove PN (nI g) (nI t) (nI z) + 1000 else -1, ()) := by
  unfold fX6_ifSat
  rw [needGS hR hg ht hn hz hn8, if_pos rfl]
  by_cases c : fX2_reasonAgainst PN (nI g) (nI t) (nI z) = 0
  · rw [if_pos c, if_pos c]
  · rw [if_neg c, if_neg c]
/-- seating all, tried on another plan -/
theorem seatedN {PT : PV} (w : Int32) : fX6_seatedNumber PN PT w = (if w = 0 then (fX2_seatStanding (fX2_copyFrom PT PN)).1 else fX4_byGuests (fX2_seatStanding (fX2_copyFrom PT PN)).2 + 1000, (fX2_seatStanding (fX2_copyFrom PT PN)).2) := by
  unfold fX6_seatedNumber
  rw [bd_eq, bd2_eq]
  by_cases c : w = 0
  · rw [if_pos c, if_pos c]
  · rw [if_neg c, if_neg c]
theorem seated_0 {PT : PV} : fX6_ifSeated PN PT 0 = Sum.inr ((fX2_seatStanding (fX2_copyFrom PT PN)).1, (fX2_seatStanding (fX2_copyFrom PT PN)).2) := by
  unfold fX6_ifSeated
  rw [if_neg (show ¬ (0 : Int32) < 0 by decide), if_pos (show (0 : Int32) < 2 by decide), seatedN, if_pos rfl, bd2_eq]
theorem seated_1 {PT : PV} : fX6_ifSeated PN PT 1 = Sum.inr (fX4_byGuests (fX2_seatStanding (fX2_copyFrom PT PN)).2 + 1000, (fX2_seatStanding (fX2_copyFrom PT PN)).2) := by
  unfold fX6_ifSeated
  rw [if_neg (show ¬ (1 : Int32) < 0 by decide), if_pos (show (1 : Int32) < 2 by decide), seatedN, if_neg h10, bd2_eq]
theorem all_same {P Q : PV} (hP : REL P f 0 G T L) (hQ : REL Q f 0 G T L) : (fX2_seatStanding P).1 = (fX2_seatStanding Q).1 ∧ fX4_byGuests (fX2_seatStanding P).2 = fX4_byGuests (fX2_seatStanding Q).2 := by
  obtain ⟨p1, ⟨L1, p2⟩, _⟩ := seatAll_REL hP
  obtain ⟨q1, ⟨L2, q2⟩, _⟩ := seatAll_REL hQ
  exact ⟨p1.trans q1.symm, (byGuests_eq p2).trans (byGuests_eq q2).symm⟩
end AH
