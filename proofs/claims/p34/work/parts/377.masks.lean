/-- a code is among the feuds -/
def FD (f : Nat → Int32) (b : Nat) (x : Int32) : Prop := ∃ k : Nat, k < (f (b + 2)).toNatClampNeg ∧ f (b + 10 + k) = x
theorem feudPlace_is (f : Nat → Int32) (b : Nat) (v : Int32) : (∃ k : Nat, k < (f (b + 2)).toNatClampNeg ∧ f (b + 10 + k) = v ∧ (∀ i : Nat, i < k → f (b + 10 + i) ≠ v) ∧ fX7_feudPlace f b v = nI k) ∨ (¬ FD f b v ∧ fX7_feudPlace f b v = -1) := by
  unfold fX7_feudPlace
  rcases lq0_find (b := fX7_feudPlace_b2 f b v) (r := fX7_feudPlace_r2) (fun k => f (b + 10 + k) = v) nI (fun k nx _ => rfl) (f (b + 2)).toNatClampNeg 0 (Nat.zero_add _) with ⟨j, _, h2, h3, h4, h5⟩ | ⟨h4, h5⟩
  · exact Or.inl ⟨j, h2, h3, fun i hi => h4 i (Nat.zero_le i) hi, h5⟩
  · exact Or.inr ⟨fun ⟨k, h1, h2⟩ => h4 k (Nat.zero_le k) h1 h2, h5⟩
theorem feudPlace_m1 {f : Nat → Int32} {b : Nat} {v : Int32} (h8 : (f (b + 2)).toNatClampNeg ≤ 8) : fX7_feudPlace f b v = -1 ↔ ¬ FD f b v := by
  rcases feudPlace_is f b v with ⟨k, h1, h2, h3, h4⟩ | ⟨h1, h2⟩
  · rw [h4]
    exact ⟨fun e => absurd e (nI_m1 (by omega)), fun e => absurd ⟨k, h1, h2⟩ e⟩
  · exact ⟨fun _ => h1, fun _ => h2⟩
theorem WF.f8 {f : Nat → Int32} {b G T : Nat} {L : List Nat} (h : WF f b G T L) : (f (b + 2)).toNatClampNeg ≤ 8 := by
  obtain ⟨n, h1, h2, _⟩ := h.fds
  rw [h2, nI_clamp (by omega)]; exact h1
theorem WF.fe {f : Nat → Int32} {b G T : Nat} {L : List Nat} (h : WF f b G T L) : f (b + 2) = nI (f (b + 2)).toNatClampNeg := by
  obtain ⟨n, h1, h2, _⟩ := h.fds
  rw [h2, nI_clamp (by omega)]
theorem WF.fc {f : Nat → Int32} {b G T : Nat} {L : List Nat} (h : WF f b G T L) {k : Nat} (hk : k < (f (b + 2)).toNatClampNeg) : ∃ a c : Nat, a < c ∧ c < 6 ∧ f (b + 10 + k) = nI (6 * a + c) := by
  obtain ⟨n, h1, h2, h3, _⟩ := h.fds
  rw [h2, nI_clamp (by omega)] at hk
  exact h3 k hk
theorem REL.fitem {P : PV} {f : Nat → Int32} {b G T : Nat} {L : List Nat} (h : REL P f b G T L) {k : Nat} (hk : k < (f (b + 2)).toNatClampNeg) : fX1_itemAt 8 (P 8) (P 10 4) (nI k) = f (b + 10 + k) := by
  have h8 := h.wf.f8
  unfold fX1_itemAt
  rw [h.p4, h.wf.fe, if_neg (nI_pos (by omega)), if_neg (nI_ge hk (by omega)), if_neg (nI_ge (by omega) (by decide)), nI_clamp (by omega)]
  exact h.fd k hk
theorem hasFeud_is {P : PV} {f : Nat → Int32} {b G T : Nat} {L : List Nat} (h : REL P f b G T L) (v : Int32) : fX1_holds 8 (P 8) (P 10 4) v = if fX7_feudPlace f b v = -1 then 0 else 1 := by
  have h8 := h.wf.f8
  unfold fX1_holds
  rw [h.p4]
  rcases lq0_find (b := fX1_holds_b2 8 (P 8) (f (b + 2)) v) (r := fX1_holds_r2) (N := (f (b + 2)).toNatClampNeg) (fun k => f (b + 10 + k) = v) (fun _ => 1) (fun k nx hk => by
    unfold fX1_holds_b2
    rw [← h.p4, h.fitem hk]) (f (b + 2)).toNatClampNeg 0 (Nat.zero_add _) with ⟨j, _, h2, h3, h4, h5⟩ | ⟨h4, h5⟩
  · rw [h5, if_neg (fun e => (feudPlace_m1 h8).mp e ⟨j, h2, h3⟩)]
  · rw [h5, if_pos ((feudPlace_m1 h8).mpr (fun ⟨k, h1, h2⟩ => h4 k (Nat.zero_le k) h1 h2))]
    rfl
def fc (a c : Nat) : Nat := if a ≤ c then 6 * a + c else 6 * c + a
theorem fc_cls : ∀ a : Nat, a < 6 → ∀ c : Nat, c < 6 → fX2_feudCode (nI a) (nI c) = nI (fc a c) := by decide +kernel
theorem fc_ref : ∀ a : Nat, a < 6 → ∀ c : Nat, c < 6 → fX7_feudOf (nI a) (nI c) = nI (fc a c) := by decide +kernel
theorem hasFeud_eq {P : PV} {f : Nat → Int32} {b G T : Nat} {L : List Nat} (h : REL P f b G T L) {a c : Nat} (ha : a < 6) (hc : c < 6) : fX2_hasFeud P (nI a) (nI c) = if fX7_feudPlace f b (fX7_feudOf (nI a) (nI c)) = -1 then 0 else 1 := by
  unfold fX2_hasFeud
  rw [hasFeud_is h, fc_cls a ha c hc, fc_ref a ha c hc]
/-- a bit of a mask -/
def HB (m : Int32) (i : Nat) : Prop := m.toBitVec.getLsbD i = true
theorem HB_0 (i : Nat) : ¬ HB 0 i := by
  unfold HB
  show ¬ (0#32).getLsbD i = true
  simp
theorem HB_bit : ∀ v : Nat, v < 6 → ∀ i : Nat, i < 32 → ((1 : Int32) <<< (nI v &&& 31)).toBitVec.getLsbD i = decide (i = v) := by decide +kernel
theorem HB_or {x : Int32} {v i : Nat} (hv : v < 6) (hi : i < 32) : HB (x ||| ((1 : Int32) <<< (nI v &&& 31))) i ↔ HB x i ∨ i = v := by
  unfold HB
  rw [Int32.toBitVec_or, BitVec.getLsbD_or, HB_bit v hv i hi, Bool.or_eq_true, decide_eq_true_eq]
theorem HB_and (x y : Int32) : x &&& y = 0 ↔ ∀ i : Nat, i < 32 → ¬ (HB x i ∧ HB y i) := by
  unfold HB
  constructor
  · intro e i hi ⟨h1, h2⟩
    have e2 := congrArg (fun z : Int32 => z.toBitVec.getLsbD i) e
    simp only [Int32.toBitVec_and, BitVec.getLsbD_and, h1, h2] at e2
    exact HB_0 i e2.symm
  · intro h
    refine Int32.toBitVec_inj.mp (BitVec.eq_of_getLsbD_eq (fun i hi => ?_))
    rw [Int32.toBitVec_and, BitVec.getLsbD_and]
    have h0 : (0 : Int32).toBitVec.getLsbD i = false := by
      have := HB_0 i
      unfold HB at this
      exact Bool.eq_false_iff.mpr this
    rw [h0]
    have h1 := h i hi
    cases e1 : x.toBitVec.getLsbD i <;> cases e2 : y.toBitVec.getLsbD i <;> simp_all
theorem lq1_bits {ρ : Type} {b : Nat → Int32 → (Int32 → ρ) → ρ} {r : Int32 → ρ} {N : Nat} (Q : Nat → Nat → Prop) (hb : ∀ (k : Nat) (x : Int32) (nx : Int32 → ρ), k < N → ∃ x' : Int32, b k x nx = nx x' ∧ ∀ i : Nat, i < 32 → (HB x' i ↔ HB x i ∨ Q k i)) : ∀ (n k : Nat) (x : Int32), k + n = N → ∃ X : Int32, lq1 b r n k x = r X ∧ ∀ i : Nat, i < 32 → (HB X i ↔ HB x i ∨ ∃ j : Nat, k ≤ j ∧ j < N ∧ Q j i)
  | 0, k, x, h => ⟨x, lq1_z b r k x, fun i _ => ⟨Or.inl, fun h1 => by
      rcases h1 with h1 | ⟨j, h2, h3, _⟩
      · exact h1
      · omega⟩⟩
  | n + 1, k, x, h => by
    obtain ⟨x', h1, h2⟩ := hb k x (lq1 b r n (k + 1)) (by omega)
    obtain ⟨X, h3, h4⟩ := lq1_bits Q hb n (k + 1) x' (by omega)
    refine ⟨X, by rw [lq1_s, h1, h3], fun i hi => ?_⟩
    rw [h4 i hi, h2 i hi]
    constructor
    · rintro ((h5 | h5) | ⟨j, h5, h6, h7⟩)
      · exact Or.inl h5
      · exact Or.inr ⟨k, Nat.le_refl k, by omega, h5⟩
      · exact Or.inr ⟨j, by omega, h6, h7⟩
    · rintro (h5 | ⟨j, h5, h6, h7⟩)
      · exact Or.inl (Or.inl h5)
      · rcases Nat.eq_or_lt_of_le h5 with h8 | h8
        · subst h8; exact Or.inl (Or.inr h7)
        · exact Or.inr ⟨j, h8, h6, h7⟩
theorem famMask_bits {P : PV} {f : Nat → Int32} {b G T : Nat} {L : List Nat} (h : REL P f b G T L) {t : Nat} (ht : t < T) {i : Nat} (hi : i < 32) : HB (fX2_familyMask P (nI t)) i ↔ ∃ g : Nat, g < G ∧ fX7_of f b g 3 = nI t ∧ fX7_of f b g 0 = nI i := by
  have hG := h.wf.G16
  have hT := h.wf.hT
  obtain ⟨n, hn3, hn8, hn⟩ := h.wf.sts t ht
  unfold fX2_familyMask
  rw [h.seats (by omega), hn, nI_clamp (by omega)]
  obtain ⟨X, e1, e2⟩ := lq1_bits (b := fX2_familyMask_b4 P (nI t)) (r := fX2_familyMask_r4) (N := n) (fun z i => ∃ g : Nat, g < G ∧ fX7_of f b g 3 = nI t ∧ fX7_of f b g 4 = nI z ∧ fX7_of f b g 0 = nI i) (fun z x nx hz => by
    unfold fX2_familyMask_b4
    rw [bd_eq, h.hold ht (by omega)]
    rcases who_is h.wf (nI t) (nI z) with ⟨g, h1, h2, h3, h4⟩ | ⟨h1, h2⟩
    · obtain ⟨v, hv, ev⟩ := h.wf.fam g h1
      rw [h4, if_neg (nI_m1 (by omega)), h.rat (by decide) (by omega), ev]
      refine ⟨_, rfl, fun i hi => ?_⟩
      rw [HB_or hv hi]
      constructor
      · rintro (h5 | h5)
        · exact Or.inl h5
        · exact Or.inr ⟨g, h1, h2, h3, by rw [ev, h5]⟩
      · rintro (h5 | ⟨j, k1, k2, k3, k4⟩)
        · exact Or.inl h5
        · obtain rfl : g = j := h.wf.dis g j h1 k1 (by rw [h2]; exact nI_m1 (by omega)) (h2.trans k2.symm) (h3.trans k3.symm)
          exact Or.inr ((nI_eq (by omega) (by omega)).mp (k4.symm.trans ev))
    · rw [h2, if_pos rfl]
      exact ⟨x, rfl, fun i _ => ⟨Or.inl, fun h3 => h3.resolve_right (fun ⟨g, k1, k2, k3, _⟩ => h1 g k1 ⟨k2, k3⟩)⟩⟩) n 0 0 (Nat.zero_add n)
  rw [e1, show fX2_familyMask_r4 X = X from rfl, e2 i hi]
  constructor
  · rintro (h5 | ⟨j, _, _, g, k1, k2, k3, k4⟩)
    · exact absurd h5 (HB_0 i)
    · exact ⟨g, k1, k2, k4⟩
  · rintro ⟨g, k1, k2, k4⟩
    obtain ⟨z, n', l1, l2, l3, l4, l5⟩ := h.wf.at_ k1 (by omega) k2
    obtain rfl : n' = n := (nI_eq (by omega) (by omega)).mp (l4.symm.trans hn)
    exact Or.inr ⟨z, Nat.zero_le z, l3, g, k1, k2, l5, k4⟩
theorem foeMask_bits {P : PV} {f : Nat → Int32} {b G T : Nat} {L : List Nat} (h : REL P f b G T L) {v : Nat} (hv : v < 6) {i : Nat} (hi : i < 6) : HB (fX2_foeMask P (nI v)) i ↔ FD f b (nI (fc v i)) := by
  have h8 := h.wf.f8
  unfold fX2_foeMask fX1_length
  rw [h.p4]
  obtain ⟨X, e1, e2⟩ := lq1_bits (b := fX2_foeMask_b4 P (nI v)) (r := fX2_foeMask_r4) (N := (f (b + 2)).toNatClampNeg) (fun k i => ∃ a c : Nat, a < c ∧ c < 6 ∧ f (b + 10 + k) = nI (6 * a + c) ∧ ((a = v ∧ i = c) ∨ (c = v ∧ i = a))) (fun k x nx hk => by
    obtain ⟨a, c, ac, c6, ec⟩ := h.wf.fc hk
    unfold fX2_foeMask_b4
    rw [bd_eq, bd_eq, h.fitem hk, ec, show (6 : Int32) = nI 6 from rfl, pk_rem (by omega) (by decide) (by decide), pk_div (by omega) (by decide) (by decide), show (6 * a + c) / 6 = a by omega, show (6 * a + c) % 6 = c by omega]
    refine ⟨_, rfl, fun i hi => ?_⟩
    have hu : ∀ a' c' : Nat, a' < c' → c' < 6 → nI (6 * a + c) = nI (6 * a' + c') → a' = a ∧ c' = c := fun a' c' k1 k2 k3 => by
      have k4 := (nI_eq (by omega) (by omega)).mp k3
      omega
    by_cases c1 : a = v
    · rw [if_neg (show ¬ nI c = nI v from fun e => by have := (nI_eq (by omega) (by omega)).mp e; omega), if_pos (show nI a = nI v by rw [c1]), HB_or c6 hi]
      constructor
      · rintro (h5 | h5)
        · exact Or.inl h5
        · exact Or.inr ⟨a, c, ac, c6, rfl, Or.inl ⟨c1, h5⟩⟩
      · rintro (h5 | ⟨a', c', k1, k2, k3, k4⟩)
        · exact Or.inl h5
        · obtain ⟨rfl, rfl⟩ := hu a' c' k1 k2 k3
          rcases k4 with ⟨_, k5⟩ | ⟨k5, _⟩
          · exact Or.inr k5
          · omega
    · rw [if_neg (show ¬ nI a = nI v from fun e => c1 ((nI_eq (by omega) (by omega)).mp e))]
      by_cases c2 : c = v
      · rw [if_pos (show nI c = nI v by rw [c2]), HB_or (by omega) hi]
        constructor
        · rintro (h5 | h5)
          · exact Or.inl h5
          · exact Or.inr ⟨a, c, ac, c6, rfl, Or.inr ⟨c2, h5⟩⟩
        · rintro (h5 | ⟨a', c', k1, k2, k3, k4⟩)
          · exact Or.inl h5
          · obtain ⟨rfl, rfl⟩ := hu a' c' k1 k2 k3
            rcases k4 with ⟨k5, _⟩ | ⟨_, k5⟩
            · exact absurd k5 c1
            · exact Or.inr k5
      · rw [if_neg (show ¬ nI c = nI v from fun e => c2 ((nI_eq (by omega) (by omega)).mp e))]
        refine ⟨Or.inl, ?_⟩
        rintro (h5 | ⟨a', c', k1, k2, k3, k4⟩)
        · exact h5
        · obtain ⟨rfl, rfl⟩ := hu a' c' k1 k2 k3
          rcases k4 with ⟨k5, _⟩ | ⟨k5, _⟩
          · exact absurd k5 c1
          · exact absurd k5 c2) (f (b + 2)).toNatClampNeg 0 0 (Nat.zero_add _)
  rw [e1, show fX2_foeMask_r4 X = X from rfl, e2 i (by omega)]
  constructor
  · rintro (h5 | ⟨k, _, hk, a, c, ac, c6, ec, h6⟩)
    · exact absurd h5 (HB_0 i)
    · refine ⟨k, hk, ec.trans ?_⟩
      congr 1
      unfold fc
      rcases h6 with ⟨rfl, rfl⟩ | ⟨rfl, rfl⟩
      · rw [if_pos (by omega)]
      · rw [if_neg (by omega)]
  · rintro ⟨k, hk, ek⟩
    obtain ⟨a, c, ac, c6, ec⟩ := h.wf.fc hk
    refine Or.inr ⟨k, Nat.zero_le k, hk, a, c, ac, c6, ec, ?_⟩
    have e3 := (nI_eq (show fc v i < 2 ^ 31 by unfold fc; split <;> omega) (by omega)).mp (ek.symm.trans ec)
    unfold fc at e3
    split at e3 <;> omega

