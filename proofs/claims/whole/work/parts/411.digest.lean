/-- what seating all would bring -/
theorem seatedNumber_eq {PN PT : PV} {f : Nat → Int32} {G T : Nat} {L : List Nat} (hR : REL PN f 0 G T L) (w : Int32) : (fX6_seatedNumber PN PT w).1 = (fX7_seatedIf f w).1 ∧ ∀ i : Nat, i < 944 → (fX7_seatedIf f w).2 i = f i := by
  have hU : REL (fX2_copyFrom PT PN) (fX7_copies f 0 8) 944 G T L := copy_REL (copies_there f) (by decide) hR
  obtain ⟨a1, ⟨L', a2⟩, a3⟩ := seatAll_REL hU
  have hc : ∀ i : Nat, i < 944 → (fX7_seatsAll (fX7_copies f 0 8) 944).2 i = f i := fun i hi => (a3 i (Or.inl hi)).trans ((copies_at f (show 0 ≠ 8 by decide)).2 i (Or.inl hi))
  unfold fX6_seatedNumber fX7_seatedIf
  rw [bd_eq, bd_eq, bd2_eq, bd2_eq, a1, byGuests_eq a2]
  by_cases c : w = 0
  · simp only [if_pos c]; exact ⟨trivial, hc⟩
  · simp only [if_neg c]; exact ⟨trivial, hc⟩
/-- digest: the trial plan, row 8 and what was thrown alone change -/
theorem digest_ST {PN PT : PV} {Ps : Nat → PV} {o v G T : Nat} {f M tf x : Nat → Int32} {tu : Int32} {L : List Nat} (hR : REL PN f 0 G T L) (hM : M 1 = nI v) (hx : XT tf tu x M) : ∃ (r : Int64) (PT' : PV) (F : Nat → Int32), fX6_digest PN PT tf tu Ps o v = (r, PT') ∧ fX7_digest f x M = (r, (F, upd M 0 0, r)) ∧ ∀ i : Nat, i < 944 → F i = f i := by
  have hG := hR.wf.G16
  have hT := hR.wf.hT
  have hl := hR.wf.l16
  obtain ⟨n8, h8, e8, hc8, hd8⟩ := hR.wf.fds
  obtain ⟨n, hn, rfl, e2, e3⟩ := hx
  have f0 : (f 0).toNatClampNeg = G := hR.wf.gN
  have f1 : (f 1).toNatClampNeg = T := by have := hR.wf.tN; rw [Nat.zero_add] at this; exact this
  have f2 : f 2 = nI n8 := by have := e8; rw [Nat.zero_add] at this; exact this
  have f3 : f 3 = nI L.length := by have := hR.wf.ro.2.2.2.2.1; rw [Nat.zero_add] at this; exact this
  -- the class
  have s0 := seatedNumber_eq (PT := PT) hR 0
  have hR2 : REL PN (fX7_seatedIf f 0).2 0 G T L := REL_to (PE_refl _) (fun k hk => by rw [Nat.zero_add]; exact s0.2 k (by omega)) (by decide) hR
  have s1 := seatedNumber_eq (PT := (fX6_seatedNumber PN PT 0).2) hR2 1
  have hR3 : REL PN (fX7_seatedIf (fX7_seatedIf f 0).2 1).2 0 G T L := REL_to (PE_refl _) (fun k hk => by rw [Nat.zero_add]; exact s1.2 k (by omega)) (by decide) hR2
  have eC : fX6_digest PN PT tf (nI n) Ps o v = (fg (fun k y => 31 * y + (x k).toInt64) n 0 (31 * (31 * (31 * (31 * (31 * (31 * fg (fun k y => 31 * y + (f (10 + k)).toInt64) n8 0 (fg (fun k y => 31 * y + (f (22 + k)).toInt64) L.length 0 (fg (fun t y => fX7_mixTable f y t) T 0 (fg (GH f) G 0 (fg (fun k y => 31 * y + (fX7_counted f (upd M 0 0) k).toInt64) 14 0 3719)))) + (fX7_standing f 0 1).toInt64) + (fX7_standing f 2 3).toInt64) + ((fX7_seatedIf f 0).1).toInt64) + ((fX7_seatedIf (fX7_seatedIf f 0).2 1).1).toInt64) + fX7_bits (fX4_shareMet PN)) + (nI n).toInt64), (fX6_seatedNumber PN (fX6_seatedNumber PN PT 0).2 1).2) := by
    unfold fX6_digest
    rw [show ((14 : Int32).toNatClampNeg) = 14 from rfl, lq1_fg0 (fun k y => 31 * y + (fX7_counted f (upd M 0 0) k).toInt64) (fun k y nx hk => by
      unfold fX6_digest_b6
      rw [countNumber_eq hR (M := upd M 0 0) ((upd_ne (by decide)).trans hM) k hk])]
    unfold fX6_digest_r6
    have st : ∀ (k : Nat) (y : Int64) (U : PV) (nx : Int64 → PV → Int64 × PV), fX6_digest_b103 PN k y U nx = nx (31 * y + (fX6_seatedNumber PN U (nI k)).1.toInt64) (fX6_seatedNumber PN U (nI k)).2 := fun _ _ _ _ => rfl
    rw [show ((2 : Int32).toNatClampNeg) = 2 from rfl, lq2_s, st, lq2_s, st, lq2_z]
    unfold fX6_digest_r103 fX1_length
    rw [bits_eq (by rw [hR.pg]; exact ⟨G, hG, rfl⟩), line_hash (n := 60) (m := n) (F := x) rfl hn (by decide) (fun k hk => ((e3 k hk).1).symm)]
    rw [line_hash (n := 8) (m := n8) (F := fun k => f (10 + k)) (hR.p4.trans e8) h8 (by decide) (fun k hk => by
      rw [hR.fd k (by rw [e8, nI_clamp (by omega)]; exact hk), Nat.zero_add])]
    rw [line_hash (n := 16) (m := L.length) (F := fun k => f (22 + k)) (hR.p5.trans hR.wf.ro.2.2.2.2.1) hl (by decide) (fun k hk => by
      rw [hR.od k hk, Nat.zero_add])]
    rw [tables_hash hR, guests_hash hR, show fX2_risersOfFeud PN 0 1 = fX7_standing f 0 1 from standing_eq hR (a := 0) (c := 1) (by decide) (by decide) (by decide), show fX2_risersOfFeud PN 2 3 = fX7_standing f 2 3 from standing_eq hR (a := 2) (c := 3) (by decide) (by decide) (by decide)]
    rw [show fX6_seatedNumber PN PT (nI 0) = fX6_seatedNumber PN PT 0 from rfl, show nI (0 + 1) = 1 from rfl, s0.1, s1.1]
  have eM : fX7_digest f x M = (fg (fun k y => 31 * y + (x k).toInt64) n 0 (31 * (31 * (31 * (31 * (31 * (31 * fg (fun k y => 31 * y + (f (10 + k)).toInt64) n8 0 (fg (fun k y => 31 * y + (f (22 + k)).toInt64) L.length 0 (fg (fun t y => fX7_mixTable f y t) T 0 (fg (GH f) G 0 (fg (fun k y => 31 * y + (fX7_counted f (upd M 0 0) k).toInt64) 14 0 3719)))) + (fX7_standing f 0 1).toInt64) + (fX7_standing f 2 3).toInt64) + ((fX7_seatedIf f 0).1).toInt64) + ((fX7_seatedIf (fX7_seatedIf f 0).2 1).1).toInt64) + fX7_bits (fX4_shareMet PN)) + (nI n).toInt64), ((fX7_seatedIf (fX7_seatedIf f 0).2 1).2, upd M 0 0, fg (fun k y => 31 * y + (x k).toInt64) n 0 (31 * (31 * (31 * (31 * (31 * (31 * fg (fun k y => 31 * y + (f (10 + k)).toInt64) n8 0 (fg (fun k y => 31 * y + (f (22 + k)).toInt64) L.length 0 (fg (fun t y => fX7_mixTable f y t) T 0 (fg (GH f) G 0 (fg (fun k y => 31 * y + (fX7_counted f (upd M 0 0) k).toInt64) 14 0 3719)))) + (fX7_standing f 0 1).toInt64) + (fX7_standing f 2 3).toInt64) + ((fX7_seatedIf f 0).1).toInt64) + ((fX7_seatedIf (fX7_seatedIf f 0).2 1).1).toInt64) + fX7_bits (fX4_shareMet PN)) + (nI n).toInt64))) := by
    unfold fX7_digest
    rw [lq1_fg0 (b := fX7_digest_b14 f M) (fun k y => 31 * y + (fX7_counted f (upd M 0 0) k).toInt64) (fun k y nx hk => rfl)]
    unfold fX7_digest_r14
    rw [f0, lq1_fg0 (b := fX7_digest_b38 f) (GH f) (fun k y nx hk => by
      unfold fX7_digest_b38
      rw [lq1_fg0 (b := fX7_digest_b50 f k) (fun w y => 31 * y + (fX7_ofGuest f k w).toInt64) (fun w y nx hw => rfl)]
      rfl)]
    unfold fX7_digest_r38
    rw [f1, lq1_fg0 (b := fX7_digest_b92 f) (fun t y => fX7_mixTable f y t) (fun k y nx hk => rfl)]
    unfold fX7_digest_r92
    rw [f3, nI_clamp (by omega), lq1_fg0 (b := fX7_digest_b115 f) (fun k y => 31 * y + (f (22 + k)).toInt64) (fun k y nx hk => rfl)]
    unfold fX7_digest_r115
    rw [f2, nI_clamp (by omega), lq1_fg0 (b := fX7_digest_b147 f) (fun k y => 31 * y + (f (10 + k)).toInt64) (fun k y nx hk => rfl)]
    unfold fX7_digest_r147
    rw [bd_eq, bd_eq, bd2_eq, bd_eq, bd2_eq, bd_eq, bd_eq, bd_eq, e2, nI_clamp (by omega), lq1_fg0 (b := fX7_digest_b241 x) (fun k y => 31 * y + (x k).toInt64) (fun k y nx hk => rfl), ← share_eq hR3]
    rfl
  exact ⟨_, _, _, eC, eM, fun i hi => (s1.2 i hi).trans (s0.2 i hi)⟩
