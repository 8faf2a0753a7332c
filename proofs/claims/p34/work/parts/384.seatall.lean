/-- a guest stands -/
def SI (f : Nat → Int32) (b g : Nat) : Int32 := if fX7_of f b g 3 = -1 then 1 else 0
theorem sm_len {f : Nat → Int32} {b : Nat} (p : Nat → Bool) : ∀ n : Nat, sm n (fun g => if p g then 1 else 0) = nI ((List.range n).filter p).length
  | 0 => rfl
  | n + 1 => by
    show sm n (fun g => if p g then 1 else 0) + (if p n then 1 else 0) = _
    rw [sm_len (f := f) (b := b) p n, List.range_succ, List.filter_append, List.length_append]
    by_cases c : p n = true
    · rw [if_pos c, nI_1]; simp [c]
    · rw [if_neg c, Int32.add_zero]; simp [c]
theorem SI_len {f : Nat → Int32} {b G T : Nat} {L : List Nat} (h : WF f b G T L) : nI G - nI L.length = sm G (SI f b) := by
  have hle := h.ro.len
  have e1 : sm G (fun g => if decide (fX7_of f b g 3 ≠ -1) then (1 : Int32) else 0) = nI L.length := by
    rw [sm_len (f := f) (b := b) (fun g => decide (fX7_of f b g 3 ≠ -1)) G]
    congr 1
    refine List.Perm.length_eq ((List.perm_ext_iff_of_nodup (List.Pairwise.filter _ List.nodup_range) h.ro.2.2.2.1).mpr (fun a => ?_))
    rw [List.mem_filter, List.mem_range, decide_eq_true_eq]
    exact (h.ro.2.2.2.2.2.2 a).symm
  have e2 : sm G (SI f b) + sm G (fun g => if decide (fX7_of f b g 3 ≠ -1) then (1 : Int32) else 0) = nI G := by
    rw [← sm_add]
    have e3 : ∀ n : Nat, sm n (fun g => SI f b g + (if decide (fX7_of f b g 3 ≠ -1) then (1 : Int32) else 0)) = nI n := fun n => by
      induction n with
      | zero => rfl
      | succ n ih =>
        show sm n (fun g => SI f b g + (if decide (fX7_of f b g 3 ≠ -1) then (1 : Int32) else 0)) + _ = nI (n + 1)
        rw [ih, ← nI_1]
        congr 1
        unfold SI
        by_cases c : fX7_of f b n 3 = -1
        · simp [c]
        · simp [c]
    exact e3 G
  rw [e1] at e2
  exact (sub_of_add e2).symm
theorem reason_free {f : Nat → Int32} {b g : Nat} {tb z : Int32} (h : fX7_reason f b g tb z = 0) : fX7_whoSits f b tb z = -1 := by
  by_cases c : fX7_whoSits f b tb z = -1
  · exact c
  · exfalso
    unfold fX7_reason at h
    rw [if_neg c] at h
    by_cases c2 : fX7_whoSits f b tb z = nI g
    · rw [if_pos c2] at h; exact absurd h (by decide)
    · rw [if_neg c2] at h; exact absurd h (by decide)
theorem best_is {f : Nat → Int32} {b G T : Nat} {L : List Nat} (h : WF f b G T L) (g : Nat) : fX7_best f b g = -1 ∨ ∃ t z n : Nat, t < T ∧ z < n ∧ n ≤ 8 ∧ f (b + 18 + t) = nI n ∧ fX7_best f b g = nI (8 * t + z) ∧ fX7_reason f b g (nI t) (nI z) = 0 := by
  have hT := h.hT
  unfold fX7_best
  rw [h.ht, show (8 : Int32) = nI 8 from rfl, pk_mul, nI_clamp (by omega)]
  refine lq2_ind (N := 8 * T) (fun _ _ (y : Int32) => y = -1 ∨ ∃ t z n : Nat, t < T ∧ z < n ∧ n ≤ 8 ∧ f (b + 18 + t) = nI n ∧ y = nI (8 * t + z) ∧ fX7_reason f b g (nI t) (nI z) = 0) (fun y => y = -1 ∨ ∃ t z n : Nat, t < T ∧ z < n ∧ n ≤ 8 ∧ f (b + 18 + t) = nI n ∧ y = nI (8 * t + z) ∧ fX7_reason f b g (nI t) (nI z) = 0) (fun k x y nx hk hI hn => ?_) (fun x y hI => hI) _ _ _ _ (Nat.zero_add _) (Or.inl rfl)
  obtain ⟨n, h3, h8, en⟩ := h.sts (k / 8) (by omega)
  unfold fX7_best_b8
  rw [bd2_eq, en]
  by_cases c : nI n ≤ nI (k % 8)
  · rw [if_pos c]; exact hn _ _ hI
  · rw [if_neg c]
    by_cases c2 : fX7_reason f b g (nI (k / 8)) (nI (k % 8)) = 0
    · rw [if_pos c2, bd_eq, bd_eq]
      refine hn _ _ ?_
      have hk2 : nI k = -1 ∨ ∃ t z n : Nat, t < T ∧ z < n ∧ n ≤ 8 ∧ f (b + 18 + t) = nI n ∧ nI k = nI (8 * t + z) ∧ fX7_reason f b g (nI t) (nI z) = 0 := by
        refine Or.inr ⟨k / 8, k % 8, n, by omega, ?_, h8, en, by congr 1; omega, c2⟩
        exact Nat.lt_of_not_le (fun e => c (nI_le e (by omega)))
      by_cases c3 : y = -1
      · simp only [if_pos c3]; exact hk2
      · simp only [if_neg c3]
        by_cases c4 : fX7_pointsIf f b g (k / 8) (nI (k % 8)) ≤ x
        · simp only [if_pos c4]; exact hI
        · simp only [if_neg c4]; exact hk2
    · rw [if_neg c2]; exact hn _ _ hI
theorem seats_loop {b G T : Nat} : ∀ (d k : Nat) (P : PV) (f : Nat → Int32) (L : List Nat) (x : Int32), k + d = G → REL P f b G T L → x = sm k (SI f b) → ∃ (P' : PV) (f' : Nat → Int32) (L' : List Nat), lq1 fX2_seatStanding_b2 fX2_seatStanding_r2 d k P = fX2_seatStanding_r2 P' ∧ lq2 (fX7_seatsAll_b4 b) fX7_seatsAll_r4 d k x f = fX7_seatsAll_r4 (sm G (SI f' b)) f' ∧ REL P' f' b G T L' ∧ ∀ i : Nat, (i < b ∨ b + 118 ≤ i) → f' i = f i
  | 0, k, P, f, L, x, h, hR, hx => by
    obtain rfl : k = G := by omega
    exact ⟨P, f, L, lq1_z _ _ _ _, by rw [lq2_z, hx], hR, fun _ _ => rfl⟩
  | d + 1, k, P, f, L, x, h, hR, hx => by
    have hk : k < G := by omega
    have hG := hR.wf.G16
    have hT := hR.wf.hT
    rw [lq1_s, lq2_s]
    unfold fX2_seatStanding_b2 fX7_seatsAll_b4
    rw [bd_eq, bd2_eq, isSit_eq hR hk, best_eq hR hk]
    by_cases c : fX7_of f b k 3 = -1
    · rw [if_pos c, if_pos rfl, if_pos c]
      have hs1 : SI f b k = 1 := if_pos c
      rcases best_is hR.wf k with e | ⟨t, z, n, k1, k2, k3, k4, k5, k6⟩
      · rw [if_pos e, if_pos e]
        exact seats_loop d (k + 1) P f L (x + 1) (by omega) hR (by rw [hx, ← hs1]; rfl)
      · rw [if_neg (by rw [k5]; exact nI_m1 (by omega)), if_neg (by rw [k5]; exact nI_m1 (by omega)), k5, show (8 : Int32) = nI 8 from rfl, pk_rem (by omega) (by decide) (by decide), pk_div (by omega) (by decide) (by decide), show (8 * t + z) / 8 = t by omega, show (8 * t + z) % 8 = z by omega, bd_eq, bd_eq]
        obtain ⟨s1, s2, s3, s4, s5, s6⟩ := sit_fr hR.wf.ro hk c (nI t) (nI z)
        have h2 := seat_REL hR hk c k1 k4 k2 k3 (reason_free k6)
        obtain ⟨P', f', L', l1, l2, l3, l4⟩ := seats_loop d (k + 1) _ _ _ x (by omega) h2 (by
          show x = sm k (SI (fX7_sitsDown f b k (nI t) (nI z)) b) + SI (fX7_sitsDown f b k (nI t) (nI z)) b k
          have e0 : SI (fX7_sitsDown f b k (nI t) (nI z)) b k = 0 := if_neg (by rw [s3]; exact nI_m1 (by omega))
          rw [e0, Int32.add_zero, hx]
          refine sm_congr (fun i hi => ?_)
          unfold SI
          rw [s2 i 3 (by omega) (by decide) (Or.inl (by omega))])
        exact ⟨P', f', L', l1, l2, l3, fun i hi => (l4 i hi).trans (s6 i hi)⟩
    · rw [if_neg c, if_neg (by decide), if_neg c]
      have hs1 : SI f b k = 0 := if_neg c
      exact seats_loop d (k + 1) P f L x (by omega) hR (by show x = sm k (SI f b) + SI f b k; rw [hs1, Int32.add_zero]; exact hx)
/-- all who stand are seated -/
theorem seatAll_REL {P : PV} {f : Nat → Int32} {b G T : Nat} {L : List Nat} (h : REL P f b G T L) : (fX2_seatStanding P).1 = (fX7_seatsAll f b).1 ∧ (∃ L' : List Nat, REL (fX2_seatStanding P).2 (fX7_seatsAll f b).2 b G T L') ∧ ∀ i : Nat, (i < b ∨ b + 118 ≤ i) → (fX7_seatsAll f b).2 i = f i := by
  have hG := h.wf.G16
  obtain ⟨P', f', L', l1, l2, l3, l4⟩ := seats_loop G 0 P f L 0 (Nat.zero_add G) h rfl
  unfold fX2_seatStanding fX7_seatsAll
  rw [h.pg, nI_clamp (by omega), h.wf.gN, l1, l2]
  refine ⟨?_, ⟨L', l3⟩, l4⟩
  show P' 10 0 - P' 10 5 = sm G (SI f' b)
  rw [l3.pg, l3.p5, l3.wf.ro.2.2.2.2.1]
  exact SI_len l3.wf


