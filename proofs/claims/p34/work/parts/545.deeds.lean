/-! peace, the snapshot, seating all: what they answer, and that what holds still holds. Mine. -/
theorem copy_REL0 {P Q : PV} {f : Nat → Int32} {G T : Nat} {L : List Nat} (h : REL Q f 0 G T L) : REL (fX2_copyFrom P Q) f 0 G T L := copy_REL (b := 0) (c := 0) (fun _ _ => rfl) (by decide) h
theorem len_P {P : PV} {f : Nat → Int32} {G T : Nat} {L : List Nat} (h : REL P f 0 G T L) : P 10 5 = nI L.length := h.p5.trans h.wf.ro.2.2.2.2.1
theorem len_id (n : Nat) (f : Nat → Int32) (u : Int32) : fX1_length n f u = u := rfl
section DD2
variable {PN PS : PV} {Ps : Nat → PV} {o v : Nat} {f : Nat → Int32} {G T : Nat} {L : List Nat}
/-- the snapshot comes back -/
def dRestore (PN PS : PV) : Int32 × PV := (fX1_length 16 (fX2_copyFrom PN PS 9) (fX2_copyFrom PN PS 10 5), fX2_copyFrom PN PS)
theorem restore_is {PN PS : PV} {Ps : Nat → PV} {o v : Nat} {k : Int32} (hk : ¬ k = 0) : fX6_restore PN PS Ps o v k = Sum.inr (SV PN Ps o v (dRestore PN PS)) := by
  unfold fX6_restore
  rw [if_neg hk, bd_eq, bd_eq]
  unfold SV dRestore
  generalize fX2_copyFrom PN PS = U
  generalize fX0_save Ps o v PN = S
  rfl
theorem D_restore (hS : NW PS) {k : Int32} (hk : ¬ k = 0) : DD (fX6_restore PN PS Ps o v k) PN Ps o v (dRestore PN PS) := by
  obtain ⟨f, G, T, L, hR, hX⟩ := hS
  have h2 := copy_REL0 (P := PN) hR
  have hl := h2.wf.l16
  have e1 : (dRestore PN PS).1 = nI L.length := by
    have e0 : dRestore PN PS = (fX1_length 16 (fX2_copyFrom PN PS 9) (fX2_copyFrom PN PS 10 5), fX2_copyFrom PN PS) := rfl
    rw [e0, len_id, len_P h2]
  refine ⟨restore_is hk, ?_, ⟨f, G, T, L, h2, hX⟩⟩
  rw [e1]
  exact ge1000n (by omega)
/-- a feud ends -/
def dPeace (PN : PV) (a b : Int32) : Int32 × PV := ((fX1_dropItem 8 (PN 8) (PN 10 4) (fX2_feudCode a b)).2, sset (rset PN 8 (fX1_dropItem 8 (PN 8) (PN 10 4) (fX2_feudCode a b)).1) 4 (fX1_dropItem 8 (PN 8) (PN 10 4) (fX2_feudCode a b)).2)
theorem D_peace (hR : REL PN f 0 G T L) (hX : XI f G L) {a c : Nat} (ha : a < 6) (hc : c < 6) (hac : a ≠ c) (hF : fX2_hasFeud PN (nI a) (nI c) ≠ 0) : DD (fX6_peace PN Ps o v (nI a) (nI c)) PN Ps o v (dPeace PN (nI a) (nI c)) ∧ ∃ (F : Nat → Int32), REL (dPeace PN (nI a) (nI c)).2 F 0 G T L := by
  have e6 : fX6_peace PN Ps o v (nI a) (nI c) = Sum.inr (SV PN Ps o v (dPeace PN (nI a) (nI c))) := by
    unfold fX6_peace SV dPeace fX1_length
    rw [twoI a ha c hc hac, if_pos rfl, if_neg hF, bd_eq, bd_eq]
  rw [hasFeud_eq hR ha hc] at hF
  rcases feudPlace_is f 0 (fX7_feudOf (nI a) (nI c)) with ⟨p, hp, ep, _, eF⟩ | ⟨_, eF⟩
  · obtain ⟨n, n8, hn, hcodes, hdist⟩ := hR.wf.fds
    have hn2 : f 2 = nI n := by have := hn; rw [Nat.zero_add] at this; exact this
    rw [hn, nI_clamp (by omega)] at hp
    have hP8 : ∀ j : Nat, j < n → PN 8 j = f (0 + 10 + j) := fun j hj => hR.fd j (by rw [hn, nI_clamp (by omega)]; exact hj)
    obtain ⟨R, d1, d2⟩ := drop_one (N := 8) (f := PN 8) n8 (by decide) hp (fun j k hj hk e => hdist j k hj hk (by rw [← hP8 j hj, ← hP8 k hk]; exact e))
    have eC : fX2_feudCode (nI a) (nI c) = PN 8 p := by rw [hP8 p hp, ep, fc_cls a ha c hc, fc_ref a ha c hc]
    obtain ⟨F, hFd⟩ : ∃ F : Nat → Int32, F = fun i => if i = 2 then nI (n - 1) else if 10 ≤ i ∧ i < 18 then f (10 + (if i - 10 < p then i - 10 else i - 10 + 1)) else f i := ⟨_, rfl⟩
    have F2 : F 2 = nI (n - 1) := by rw [hFd]; exact if_pos rfl
    have Fc : ∀ j : Nat, j < 8 → F (10 + j) = f (10 + (if j < p then j else j + 1)) := fun j hj => by
      rw [hFd]
      show (if 10 + j = 2 then nI (n - 1) else if 10 ≤ 10 + j ∧ 10 + j < 18 then f (10 + (if 10 + j - 10 < p then 10 + j - 10 else 10 + j - 10 + 1)) else f (10 + j)) = _
      rw [if_neg (by omega), if_pos ⟨by omega, by omega⟩, show 10 + j - 10 = j by omega]
    have Fo : ∀ i : Nat, i ≠ 2 → (i < 10 ∨ 18 ≤ i) → F i = f i := fun i h1 h2 => by
      rw [hFd]
      show (if i = 2 then nI (n - 1) else if 10 ≤ i ∧ i < 18 then f (10 + (if i - 10 < p then i - 10 else i - 10 + 1)) else f i) = _
      rw [if_neg h1, if_neg (by omega)]
    have hS := less_REL hR hn n8 hp (F := F) (R := R) (by rw [Nat.zero_add]; exact F2) (fun j hj => by rw [Nat.zero_add]; exact Fc j (by omega)) (fun i h1 h2 => Fo i (by omega) (by omega)) d2
    have eD : dPeace PN (nI a) (nI c) = (nI (n - 1), sset (rset PN 8 R) 4 (nI (n - 1))) := by
      unfold dPeace
      rw [hR.p4, hn, eC, d1]
    refine ⟨⟨e6, by rw [eD]; exact ge1000n (by omega), ?_⟩, F, by rw [eD]; exact hS⟩
    rw [eD]
    refine ⟨F, G, T, L, hS, ?_⟩
    refine XI_fr hX (Fo 4 (by decide) (by decide)) (Fo 5 (by decide) (by decide)) (fun w => ?_) (fun x w hx hw _ => by unfold fX7_of; exact Fo _ (by omega) (by omega))
    rintro ⟨k, hk, e⟩
    rw [Nat.zero_add, F2, nI_clamp (by omega)] at hk
    rw [Nat.zero_add, Fc k (by omega)] at e
    refine ⟨if k < p then k else k + 1, ?_, by rw [Nat.zero_add]; exact e⟩
    rw [Nat.zero_add, hn2, nI_clamp (by omega)]
    split <;> omega
  · rw [eF, if_pos rfl] at hF
    exact absurd rfl hF
/-- all are seated -/
theorem all_NW (hR : REL PN f 0 G T L) (hX : XI f G L) : ∃ (F : Nat → Int32) (L' : List Nat), REL (fX2_seatStanding PN).2 F 0 G T L' ∧ XI F G L' ∧ (fX2_seatStanding PN).1 = nI (G - L'.length) := by
  have hG := hR.wf.G16
  have hT := hR.wf.hT
  unfold fX2_seatStanding
  rw [hR.pg, nI_clamp (by omega)]
  refine lq1_ind (N := G) (fun k U => ∃ (F : Nat → Int32) (L' : List Nat), REL U F 0 G T L' ∧ XI F G L') (fun (r : Int32 × PV) => ∃ (F : Nat → Int32) (L' : List Nat), REL r.2 F 0 G T L' ∧ XI F G L' ∧ r.1 = nI (G - L'.length)) (fun k U nx hk hI hnx => ?_) (fun U hI => ?_) G 0 PN (Nat.zero_add G) ⟨f, L, hR, hX⟩
  · obtain ⟨F, L', r1, r2⟩ := hI
    unfold fX2_seatStanding_b2
    rw [bd_eq, isSit_eq r1 hk]
    by_cases c : fX7_of F 0 k 3 = -1
    · rw [if_pos c, if_pos rfl, best_eq r1 hk]
      rcases best_is r1.wf k with e | ⟨t, z, n, k1, k2, k3, k4, k5, k6⟩
      · rw [if_pos e]
        exact hnx _ ⟨F, L', r1, r2⟩
      · rw [if_neg (show ¬ fX7_best F 0 k = -1 from by rw [k5]; exact nI_m1 (by omega)), k5, bd_eq, show (8 : Int32) = nI 8 from rfl, pk_rem (by omega) (by decide) (by decide), pk_div (by omega) (by decide) (by decide), show (8 * t + z) / 8 = t by omega, show (8 * t + z) % 8 = z by omega]
        obtain ⟨g1, g2⟩ := take_NW r1 r2 hk k1 k4 k2 k3 (by rw [reason_eq r1 hk k1 (by omega)]; exact k6)
        exact hnx _ ⟨_, _, g1, g2⟩
    · rw [if_neg c, if_neg h10]
      exact hnx _ ⟨F, L', r1, r2⟩
  · obtain ⟨F, L', r1, r2⟩ := hI
    refine ⟨F, L', r1, r2, ?_⟩
    show U 10 0 - U 10 5 = _
    rw [r1.pg, len_P r1, pk_sub (r1.wf.ro.len)]
theorem D_all (hR : REL PN f 0 G T L) (hX : XI f G L) : fX6_seatAll PN Ps o v = SV PN Ps o v (fX2_seatStanding PN) ∧ 0 ≤ 1000 + (fX2_seatStanding PN).1 ∧ NW (fX2_seatStanding PN).2 := by
  have hG := hR.wf.G16
  obtain ⟨F, L', k1, k2, k3⟩ := all_NW hR hX
  refine ⟨?_, by rw [k3]; exact ge1000n (by omega), ⟨F, G, T, L', k1, k2⟩⟩
  unfold fX6_seatAll
  rw [bd_eq, bd2_eq]
  rfl
end DD2
