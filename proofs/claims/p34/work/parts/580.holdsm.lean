/-! what the law looks for in every state holds: tables, lists, sums. Mine. -/
theorem bits2_lt : ∀ a : Nat, a < 6 → ∀ c : Nat, c < 6 → ∀ m : Nat, m < 64 → ¬ (m / 2 ^ a % 2 = 1 ∧ m / 2 ^ c % 2 = 1) → ¬ (2 : Int32) ≤ fL_bits (nI m &&& (((1 : Int32) <<< (nI a &&& 31)) ||| ((1 : Int32) <<< (nI c &&& 31)))) := by decide +kernel
theorem shr_all : (List.range 17).all (fun a => (List.range 17).all (fun b => b == 0 || decide (b < a) || (decide (¬ Op.cmpValue (FP.dcmp (shv a b) FP.dconst0) .l < 0) && decide (¬ 0 < Op.cmpValue (FP.dcmp (shv a b) FP.dconst1) .g)))) = true := by decide +kernel
theorem shr_one : (¬ Op.cmpValue (FP.dcmp FP.dconst1 FP.dconst0) .l < 0) ∧ ¬ 0 < Op.cmpValue (FP.dcmp FP.dconst1 FP.dconst1) .g := by decide +kernel
theorem shr_ok {a b : Nat} (hb : b ≤ 16) (h0 : b ≠ 0) (hab : a ≤ b) : (¬ Op.cmpValue (FP.dcmp (shv a b) FP.dconst0) .l < 0) ∧ ¬ 0 < Op.cmpValue (FP.dcmp (shv a b) FP.dconst1) .g := by
  have h := List.all_eq_true.mp shr_all a (List.mem_range.mpr (by omega))
  have h2 := List.all_eq_true.mp h b (List.mem_range.mpr (by omega))
  rw [Bool.or_eq_true, Bool.or_eq_true, Bool.and_eq_true, beq_iff_eq, decide_eq_true_eq, decide_eq_true_eq, decide_eq_true_eq] at h2
  rcases h2 with (h2 | h2) | h2
  · exact absurd h2 h0
  · omega
  · exact h2
section HM
variable {PN : PV} {f : Nat → Int32} {G T : Nat} {L : List Nat}
/-- the share of wishes that are met -/
theorem met_ok (hR : REL PN f 0 G T L) : (¬ Op.cmpValue (FP.dcmp (fX6_met PN) FP.dconst0) .l < 0) ∧ ¬ 0 < Op.cmpValue (FP.dcmp (fX6_met PN) FP.dconst1) .g := by
  have hG := hR.wf.G16
  obtain ⟨a, b, hab, hb, ea, eb⟩ := sm_le01 (n := G) hG (u := fun g => if fX4_levelOfGuest PN (nI g) ≤ 0 then 0 else 1) (v := fun g => if fX3_at 16 (PN 2) (nI g) = -1 then 0 else 1) (fun g hg => by
    by_cases c : fX4_levelOfGuest PN (nI g) ≤ 0
    · refine Or.inl ⟨if_pos c, ?_⟩
      show (if fX3_at 16 (PN 2) (nI g) = -1 then (0 : Int32) else 1) = 0 ∨ (if fX3_at 16 (PN 2) (nI g) = -1 then (0 : Int32) else 1) = 1
      split
      · exact Or.inl rfl
      · exact Or.inr rfl
    · refine Or.inr ⟨if_neg c, ?_⟩
      obtain ⟨j, hj, j2, _⟩ := level_ne hR hg (fun e => c (by rw [e]; decide))
      show (if fX3_at 16 (PN 2) (nI g) = -1 then (0 : Int32) else 1) = 1
      rw [hR.rat (by decide) (by omega), j2]
      exact if_neg (nI_m1 (by omega)))
  have e1 : fX4_wishesMet PN = nI a := by
    unfold fX4_wishesMet
    rw [hR.pg, nI_clamp (by omega), ← ea]
    refine lq1_sum0 (N := G) _ (fun k x nx hk => ?_)
    unfold fX4_wishesMet_b4
    rw [bd_eq]
    by_cases c : fX4_levelOfGuest PN (nI k) ≤ 0
    · rw [if_pos c, if_pos c, Int32.add_zero]
    · rw [if_neg c, if_neg c]
  have e2 : fX6_met PN = if nI b = 0 then FP.dconst1 else shv a b := by
    show fX4_shareMet PN = _
    unfold fX4_shareMet
    rw [hR.pg, nI_clamp (by omega), lq1_sum0 (N := G) (fun g => if fX3_at 16 (PN 2) (nI g) = -1 then 0 else 1) (fun k x nx hk => by
      unfold fX4_shareMet_b4
      rw [bd_eq]
      by_cases c : fX3_at 16 (PN 2) (nI k) = -1
      · rw [if_pos c, if_pos c, Int32.add_zero]
      · rw [if_neg c, if_neg c]), eb]
    unfold fX4_shareMet_r4
    rw [e1]
    rfl
  rw [e2]
  by_cases c : b = 0
  · subst c
    rw [if_pos (show (nI 0 : Int32) = 0 from rfl)]
    exact shr_one
  · rw [if_neg (show ¬ (nI b : Int32) = 0 from fun e => c ((nI_eq (b := 0) (by omega) (by decide)).mp e))]
    exact shr_ok (by omega) c hab
/-- the lists, place by place -/
theorem seated_at (hR : REL PN f 0 G T L) {k : Nat} (hk : k < 16) : (k < L.length → ∃ x : Nat, L[k]? = some x ∧ fX1_itemAt 16 (PN 9) (PN 10 5) (nI k) = nI x) ∧ (¬ k < L.length → fX1_itemAt 16 (PN 9) (PN 10 5) (nI k) = -1) := by
  have hl := hR.wf.l16
  have e5 := len_P hR
  unfold fX1_itemAt
  rw [e5, if_neg (nI_pos (by omega))]
  refine ⟨fun h => ?_, fun h => ?_⟩
  · obtain ⟨x, hx⟩ : ∃ x, L[k]? = some x := ⟨_, List.getElem?_eq_getElem h⟩
    refine ⟨x, hx, ?_⟩
    rw [if_neg (nI_ge h (by omega)), if_neg (nI_ge hk (by decide)), nI_clamp (by omega)]
    exact hR.ord hx
  · rw [if_pos ((nI_leI (by omega) (by omega)).mpr (by omega))]
theorem feud_at (hR : REL PN f 0 G T L) {k n : Nat} (hn : f (0 + 2) = nI n) (hn8 : n ≤ 8) (hk : k < 2 ^ 30) : (k < n → ∃ a c : Nat, a < c ∧ c < 6 ∧ f (0 + 10 + k) = nI (6 * a + c) ∧ fX1_itemAt 8 (PN 8) (PN 10 4) (nI k) = nI (6 * a + c)) ∧ (¬ k < n → fX1_itemAt 8 (PN 8) (PN 10 4) (nI k) = -1) := by
  refine ⟨fun h => ?_, fun h => ?_⟩
  · have hk2 : k < (f (0 + 2)).toNatClampNeg := by rw [hn, nI_clamp (by omega)]; exact h
    obtain ⟨a, c, h1, h2, h3⟩ := hR.wf.fc hk2
    exact ⟨a, c, h1, h2, h3, (hR.fitem hk2).trans h3⟩
  · unfold fX1_itemAt
    rw [hR.p4, hn, if_neg (nI_pos (by omega)), if_pos ((nI_leI (by omega) (by omega)).mpr (by omega))]
theorem holds_b508 (hR : REL PN f 0 G T L) {k e : Nat} (hk : k < 16) (he : e < k) (nx : Nat → Int32) : fL_holds_b508 PN k e 1 nx = nx 1 := by
  unfold fL_holds_b508
  rw [bd_eq, if_neg (show ¬ (nI 1 : Int32) = 0 by decide)]
  obtain ⟨k1, k2⟩ := seated_at hR hk
  obtain ⟨e1, e2⟩ := seated_at hR (show e < 16 by omega)
  by_cases c : k < L.length
  · obtain ⟨x, hx, ex⟩ := k1 c
    obtain ⟨y, hy, ey⟩ := e1 (by omega)
    have hxm := hR.wf.lm x (List.mem_of_getElem? hx)
    have hym := hR.wf.lm y (List.mem_of_getElem? hy)
    rw [ex, ey, if_neg (nI_m1 (by omega)), if_neg]
    intro z
    have z2 := (nI_eq (by omega) (by omega)).mp z
    subst z2
    have := (List.getElem?_inj c hR.wf.ro.2.2.2.1).mp (hx.trans hy.symm)
    omega
  · rw [k2 c, if_pos rfl]
theorem holds_b413 (hR : REL PN f 0 G T L) {k : Nat} (hk : k < 16) (nx : Nat → Int32) : fL_holds_b413 PN k 1 nx = nx 1 := by
  obtain ⟨n, n8, hn, -, -⟩ := hR.wf.fds
  have hl := hR.wf.l16
  obtain ⟨k1, k2⟩ := seated_at hR hk
  obtain ⟨f1, f2⟩ := feud_at hR hn n8 (show k < 2 ^ 30 by omega)
  unfold fL_holds_b413
  simp only [bd_eq]
  have hv : (if (nI 1 : Int32) = 0 then 0 else if (nI (if fX1_itemAt 16 (PN 9) (PN 10 5) (nI k) = -1 then 1 else 0) : Int32) = nI (if nI k < PN 10 5 then 0 else 1) then if 8 < (nI k : Int32) then 1 else if (nI (if fX1_itemAt 8 (PN 8) (PN 10 4) (nI k) = -1 then 1 else 0) : Int32) = nI (if nI k < PN 10 4 then 0 else 1) then 1 else 0 else 0 : Nat) = 1 := by
    rw [if_neg (show ¬ (nI 1 : Int32) = 0 by decide)]
    have hs : (if fX1_itemAt 16 (PN 9) (PN 10 5) (nI k) = -1 then 1 else 0 : Nat) = (if nI k < PN 10 5 then 0 else 1 : Nat) := by
      by_cases c : k < L.length
      · obtain ⟨x, hx, ex⟩ := k1 c
        have hxm := hR.wf.lm x (List.mem_of_getElem? hx)
        rw [ex, if_neg (nI_m1 (by omega)), len_P hR, if_pos ((nI_ltI (by omega) (by omega)).mpr c)]
      · rw [k2 c, if_pos rfl, len_P hR, if_neg (fun z => c ((nI_ltI (by omega) (by omega)).mp z))]
    have hf : (if fX1_itemAt 8 (PN 8) (PN 10 4) (nI k) = -1 then 1 else 0 : Nat) = (if nI k < PN 10 4 then 0 else 1 : Nat) := by
      have e4 : PN 10 4 = nI n := hR.p4.trans hn
      by_cases c : k < n
      · obtain ⟨a, b, h1, h2, h3, h4⟩ := f1 c
        rw [h4, if_neg (nI_m1 (by omega)), e4, if_pos ((nI_ltI (by omega) (by omega)).mpr c)]
      · rw [f2 c, if_pos rfl, e4, if_neg (fun z => c ((nI_ltI (by omega) (by omega)).mp z))]
    rw [hs, if_pos rfl, hf, if_pos rfl, ite_self]
  rw [hv, nI_clamp (by omega)]
  exact (lq1_c (N := k) (fun e nx' he => holds_b508 hR hk he nx') k 0 (Nat.zero_add k)).trans rfl
theorem letter_ne (hR : REL PN f 0 G T L) {t n i : Nat} (ht : t < T) (hn : f (0 + 18 + t) = nI n) (hn8 : n ≤ 8) (hi : i < n) : fX2_letterOfTable PN (nI t) (nI i) ≠ -1 := by
  have hT := hR.wf.hT
  unfold fX2_letterOfTable
  rw [hR.seats (by omega), hn, nI_clamp (by omega)]
  have key : ∀ (d k x : Nat), k + d = n → k ≤ x → x ≤ 2 * k → (i < x → False) → lq1 (fX2_letterOfTable_b5 PN (nI t) (nI i)) fX2_letterOfTable_r5 d k (nI x) ≠ -1 := by
    intro d
    induction d with
    | zero =>
      intro k x e h1 h2 h3
      exact absurd (h3 (by omega)) id
    | succ d ih =>
      intro k x e h1 h2 h3
      rw [lq1_s]
      unfold fX2_letterOfTable_b5
      by_cases c : x = i
      · subst c
        rw [if_pos rfl]
        rcases who_is hR.wf (nI t) (nI k) with ⟨g, g1, g2, g3, g4⟩ | ⟨g1, g2⟩
        · have hG := hR.wf.G16
          obtain ⟨v, hv, ev⟩ := hR.wf.fam g g1
          rw [(hR.hold ht (by omega)).trans g4, if_neg (nI_m1 (by omega)), hR.rat (by decide) (by omega), ev, show (65 : Int32) = nI 65 from rfl, nI_add]
          exact nI_m1 (by omega)
        · rw [(hR.hold ht (by omega)).trans g2, if_pos rfl]
          decide
      · rw [if_neg (fun z => c ((nI_eq (by omega) (by omega)).mp z))]
        by_cases c2 : fX2_isAtLeg (nI k) = 0
        · rw [if_pos c2, nI_1]
          exact ih (k + 1) (x + 1) (by omega) (by omega) (by omega) (fun z => h3 (by omega))
        · rw [if_neg c2, nI_1]
          by_cases c3 : x + 1 = i
          · subst c3
            rw [if_pos rfl]
            decide
          · rw [if_neg (fun z => c3 ((nI_eq (by omega) (by omega)).mp z)), nI_1]
            exact ih (k + 1) (x + 1 + 1) (by omega) (by omega) (by omega) (fun z => h3 (by omega))
  exact key n 0 0 (Nat.zero_add n) (Nat.le_refl 0) (Nat.le_refl 0) (fun z => absurd z (Nat.not_lt_zero i))
theorem mask_nat (hR : REL PN f 0 G T L) {t : Nat} (ht : t < T) : ∃ m : Nat, m < 64 ∧ fX2_familyMask PN (nI t) = nI m ∧ ∀ i : Nat, i < 32 → (m / 2 ^ i % 2 = 1 ↔ HB (fX2_familyMask PN (nI t)) i) := by
  have hb : ∀ i : Nat, 6 ≤ i → i < 32 → ¬ HB (fX2_familyMask PN (nI t)) i := fun i h1 h2 h => by
    obtain ⟨g, hg, _, e⟩ := (famMask_bits hR ht h2).mp h
    obtain ⟨v, hv, ev⟩ := hR.wf.fam g hg
    have := (nI_eq (by omega) (by omega)).mp (ev.symm.trans e)
    omega
  refine ⟨(fX2_familyMask PN (nI t)).toBitVec.toNat, ?_, ?_, fun i hi => ?_⟩
  · show _ < 2 ^ 6
    refine Nat.lt_pow_two_of_testBit _ (fun i hi => ?_)
    rw [BitVec.testBit_toNat]
    by_cases c : i < 32
    · exact Bool.eq_false_iff.mpr (hb i hi c)
    · exact BitVec.getLsbD_of_ge _ _ (by omega)
  · apply Int32.toBitVec_inj.mp
    show _ = BitVec.ofNat 32 _
    rw [BitVec.ofNat_toNat]
    simp
  · unfold HB
    rw [← BitVec.testBit_toNat, Nat.testBit_eq_decide_div_mod_eq, decide_eq_true_eq]
theorem holds_b293 (hR : REL PN f 0 G T L) (hX : XI f G L) {t k n : Nat} (ht : t < T) (hn : f (0 + 2) = nI n) (hn8 : n ≤ 8) (hk : k < n) (nx : Nat → Int32) : fL_holds_b293 PN t k 1 nx = nx 1 := by
  obtain ⟨x1, x2, x3, x4⟩ := hX
  have hT := hR.wf.hT
  obtain ⟨a, c, h1, h2, h3, h4⟩ := (feud_at hR hn hn8 (show k < 2 ^ 30 by omega)).1 hk
  obtain ⟨m, m1, m2, m3⟩ := mask_nat hR ht
  have hno : ¬ (m / 2 ^ a % 2 = 1 ∧ m / 2 ^ c % 2 = 1) := by
    rintro ⟨z1, z2⟩
    obtain ⟨g, g1, g2, g3⟩ := (famMask_bits hR ht (by omega)).mp ((m3 a (by omega)).mp z1)
    obtain ⟨h, k1, k2, k3⟩ := (famMask_bits hR ht (by omega)).mp ((m3 c (by omega)).mp z2)
    refine x2 g h a c g1 k1 (by omega) h2 (by rw [g2]; exact nI_m1 (by omega)) (g2.trans k2.symm) g3 k3 ⟨k, by rw [hn, nI_clamp (by omega)]; exact hk, ?_⟩
    rw [h3]
    unfold fc
    rw [if_pos (by omega)]
  unfold fL_holds_b293
  rw [bd_eq, if_neg (show ¬ (nI 1 : Int32) = 0 by decide), h4, show fX6_tableNumber PN (nI t) 2 = nI m from m2, show (6 : Int32) = nI 6 from rfl, pk_rem (by omega) (by decide) (by decide), pk_div (by omega) (by decide) (by decide), show (6 * a + c) / 6 = a by omega, show (6 * a + c) % 6 = c by omega, if_neg (bits2_lt a (by omega) c h2 m m1 hno)]
theorem holds_b362 (hR : REL PN f 0 G T L) {t k n : Nat} (ht : t < T) (hn : f (0 + 18 + t) = nI n) (hn8 : n ≤ 8) (hk : k < n) (nx : Nat → Int32) : fL_holds_b362 PN t k 1 nx = nx 1 := by
  unfold fL_holds_b362
  rw [bd_eq, if_neg (show ¬ (nI 1 : Int32) = 0 by decide), if_neg (letter_ne hR ht hn hn8 hk)]
theorem holds_b268 (hR : REL PN f 0 G T L) (hX : XI f G L) {t : Nat} (ht : t < T) (y : Int32) (nx : Nat → Int32 → Int32) : fL_holds_b268 PN t 1 y nx = nx 1 (y + fX4_ofTable PN (nI t)) := by
  obtain ⟨n, n8, hn, -, -⟩ := hR.wf.fds
  obtain ⟨m, m3, m8, hm, em⟩ := tabN hR ht
  unfold fL_holds_b268
  rw [hR.p4, hn, nI_clamp (by omega), lq1_c (N := n) (fun k nx' hk => holds_b293 hR hX ht hn n8 hk nx') n 0 (Nat.zero_add n)]
  unfold fL_holds_r293
  rw [em, nI_clamp (by omega), lq1_c (N := m) (fun k nx' hk => holds_b362 hR ht hm m8 hk nx') m 0 (Nat.zero_add m)]
  rfl
/-- all that the law looks for -/
theorem holds_1 (hR : REL PN f 0 G T L) (hX : XI f G L) : fL_holds PN = 1 := by
  have hG := hR.wf.G16
  have hT := hR.wf.hT
  have hl := hR.wf.ro.len
  have b1 : fX4_byGuests PN = fX4_byTables PN := (byGuests_eq hR).trans (byTables_eq hR).symm
  have b2 : PN 10 5 = PN 10 2 - PN 10 3 := by
    rw [len_P hR, hR.p2, hR.p3]
    exact hX.2.2.1.symm
  have s1 : fX4_byGuests PN = sm G (fun g => fX4_ofGuest PN (nI g)) := by
    unfold fX4_byGuests
    rw [hR.pg, nI_clamp (by omega)]
    exact lq1_sum0 (N := G) _ (fun k x nx hk => rfl)
  have s2 : fX4_byTables PN = sm T (fun t => fX4_ofTable PN (nI t)) := by
    unfold fX4_byTables
    rw [hR.pt, nI_clamp (by omega)]
    exact lq1_sum0 (N := T) _ (fun k x nx hk => rfl)
  have s3 : fX4_wishesMet PN = sm G (fun g => nI (if fX6_guestNumber PN (nI g) 5 ≤ 0 then 0 else 1)) := by
    unfold fX4_wishesMet
    rw [hR.pg, nI_clamp (by omega)]
    refine lq1_sum0 (N := G) _ (fun k x nx hk => ?_)
    unfold fX4_wishesMet_b4
    rw [bd_eq]
    show nx (if fX4_levelOfGuest PN (nI k) ≤ 0 then x else x + 1) = nx (x + nI (if fX4_levelOfGuest PN (nI k) ≤ 0 then 0 else 1))
    by_cases c : fX4_levelOfGuest PN (nI k) ≤ 0
    · rw [if_pos c, if_pos c]
      exact congrArg nx (Int32.add_zero x).symm
    · rw [if_neg c, if_neg c]
      rfl
  have s4 : PN 10 5 = sm G (fun g => nI (if fX6_guestNumber PN (nI g) 3 = -1 then 0 else 1)) := by
    have e1 := SI_len hR.wf
    have e2 : sm G (fun g => nI (if fX6_guestNumber PN (nI g) 3 = -1 then 0 else 1)) + sm G (SI f 0) = nI G := by
      rw [← sm_add, ← sm_ones G]
      refine sm_congr (fun g hg => ?_)
      unfold SI
      rw [show fX6_guestNumber PN (nI g) 3 = fX7_of f 0 g 3 from gnum (w := 3) hR hg (by decide)]
      by_cases c : fX7_of f 0 g 3 = -1
      · rw [if_pos c, if_pos c]; rfl
      · rw [if_neg c, if_neg c]; rfl
    rw [← e1] at e2
    rw [len_P hR]
    have e3 := Int32.add_sub_cancel (sm G (fun g => nI (if fX6_guestNumber PN (nI g) 3 = -1 then 0 else 1))) (nI G - nI L.length)
    rw [e2, i32_sss] at e3
    exact e3
  obtain ⟨d1, d2⟩ := met_ok hR
  unfold fL_holds
  rw [if_pos b1, if_pos b2, bd_eq, hR.pg, nI_clamp (by omega), lq4_s3 (N := G) (fun g => nI (if fX6_guestNumber PN (nI g) 3 = -1 then 0 else 1)) (fun g => nI (if fX6_guestNumber PN (nI g) 5 ≤ 0 then 0 else 1)) (fun g => fX4_ofGuest PN (nI g)) (fun k y z w nx hk => holds_b53 hR hX hk y z w nx) G 0 0 0 0 (Nat.zero_add G) rfl rfl rfl]
  unfold fL_holds_r53
  rw [hR.pt, nI_clamp (by omega), lq2_s1 (N := T) (fun t => fX4_ofTable PN (nI t)) (fun k y nx hk => holds_b268 hR hX hk y nx) T 0 0 (Nat.zero_add T) rfl]
  unfold fL_holds_r268
  rw [lq1_c (N := 16) (fun k nx hk => holds_b413 hR hk nx) 16 0 rfl]
  unfold fL_holds_r413
  rw [if_neg (show ¬ (nI 1 : Int32) = 0 by decide), ← s1, ← s2, ← s3, ← s4, if_pos rfl, if_pos b1.symm, if_pos rfl, if_pos rfl, if_neg d1, if_neg d2]
end HM
