theorem share_okB {f : Nat → Int32} (hR : RW f 0) : okB (fX7_share f) = true := by
  unfold fX7_share
  by_cases c : fX7_wishes f 0 = 0
  · rw [if_pos c]
    exact one_ok
  · rw [if_neg c]
    obtain ⟨b, hb, e⟩ := wishes_in hR 0
    obtain ⟨a, ha, e2⟩ := wishes_in hR 1
    rw [e] at c ⊢
    rw [e2]
    exact (shv_ok ha hb (fun z => c (by rw [z]; rfl))).2
/-- how many characters stand before a seat, at most -/
def chn (k : Nat) : Nat := k + (k + 2) / 3
theorem leg_nat {k : Nat} (hk : k < 2 ^ 31) : (fX7_isAtLeg (nI k) = 0) ↔ ¬ k % 3 = 0 := by
  unfold fX7_isAtLeg
  rw [show nI k - nI k / 3 * 3 = nI (k % 3) from pk_rem (a := k) (d := 3) hk (by decide) (by decide)]
  by_cases h : k % 3 = 0
  · rw [h, if_pos nI_0]
    exact ⟨fun z => absurd z (by decide), fun z => absurd rfl z⟩
  · rw [if_neg (nI_ne0 (by omega) (by omega))]
    exact ⟨fun _ => h, fun _ => rfl⟩
theorem nI_ne_k {a b : Nat} (ha : a < 2 ^ 31) (hb : b < 2 ^ 31) (h : a ≠ b) : ¬ nI a = nI b := fun z => h ((nI_eq ha hb).mp z)
/-- behind the end of a table's text there is nothing -/
theorem char_lt {f : Nat → Int32} {t j : Nat} (hs : (f (18 + t)).toNatClampNeg ≤ 8) (hj : j < 2 ^ 30) (c : ¬ fX7_character f t (nI j) = -1) : j < 11 := by
  refine Nat.lt_of_not_le (fun hle => c ?_)
  unfold fX7_character
  generalize (f (18 + t)).toNatClampNeg = N at hs ⊢
  have hc : ∀ k : Nat, k < 8 → chn (k + 1) = chn k + (if k % 3 = 0 then 2 else 1) := by decide
  have hc8 : ∀ k : Nat, k < 9 → chn k ≤ 11 := by decide
  refine lq1_ind (N := N) (fun k x => ∃ y : Nat, x = nI y ∧ y + chn k = j) (fun r => r = -1) (fun k x nx hk hI hn => ?_) (fun x hI => rfl) _ _ _ (Nat.zero_add _) ⟨j, rfl, rfl⟩
  obtain ⟨y, rfl, hy⟩ := hI
  have h8 := hc k (by omega)
  have h9 := hc8 (k + 1) (by omega)
  have hy1 : 0 < y := by split at h8 <;> omega
  unfold fX7_character_b5
  rw [if_neg (nI_ne0 hy1 (by omega))]
  obtain ⟨y', rfl⟩ : ∃ y', y = y' + 1 := ⟨y - 1, by omega⟩
  rw [pk_m1]
  by_cases hl : k % 3 = 0
  · rw [if_neg (fun z => (leg_nat (by omega)).mp z hl)]
    rw [if_pos hl] at h8
    have hy2 : 0 < y' := by omega
    rw [if_neg (nI_ne0 hy2 (by omega))]
    obtain ⟨y2, rfl⟩ : ∃ y2, y' = y2 + 1 := ⟨y' - 1, by omega⟩
    rw [pk_m1]
    exact hn _ ⟨y2, rfl, by omega⟩
  · rw [if_pos ((leg_nat (by omega)).mpr hl)]
    rw [if_neg hl] at h8
    exact hn _ ⟨y', rfl, by omega⟩
theorem seatsAll_low {f : Nat → Int32} {G : Nat} {L : List Nat} (h : RO f 944 G L) : ∀ i : Nat, i < 944 → (fX7_seatsAll f 944).2 i = f i := by
  have hN : (f (944 + 0)).toNatClampNeg = G := by rw [h.2.1, nI_clamp (by have := h.2.2.1; omega)]
  unfold fX7_seatsAll
  refine (lq2_ind (N := (f (944 + 0)).toNatClampNeg) (fun _ _ U => (∃ L', RO U 944 G L') ∧ ∀ i : Nat, i < 944 → U i = f i) (fun z : Int32 × (Nat → Int32) => (∃ L', RO z.2 944 G L') ∧ ∀ i : Nat, i < 944 → z.2 i = f i) (fun k x U nx hk hI hn => ?_) (fun x U hI => hI) _ _ _ _ (Nat.zero_add _) ⟨⟨L, h⟩, fun _ _ => rfl⟩).2
  obtain ⟨⟨L1, h1⟩, h2⟩ := hI
  unfold fX7_seatsAll_b4 bd2
  refine hn _ _ ⟨seatsAll_step (k := k) h1 (by omega) rfl, ?_⟩
  intro i hi
  by_cases c1 : fX7_of U 944 k 3 = -1
  · rw [if_pos c1]
    by_cases c2 : fX7_best U 944 k = -1
    · rw [if_pos c2]
      exact h2 i hi
    · rw [if_neg c2, bd_eq]
      exact (sits_out h1 (by omega) (Or.inl hi)).trans (h2 i hi)
  · rw [if_neg c1]
    exact h2 i hi
theorem seatedIf_low {f U : Nat → Int32} {r w : Int32} {G : Nat} {L : List Nat} (hL : RO f 0 G L) (h : (r, U) = fX7_seatedIf f w) : ∀ i : Nat, i < 944 → U i = f i := by
  have c0 := (copies_at f (a := 0) (c := 8) (by decide)).2
  have h1 := RO_there hL
  unfold fX7_seatedIf at h
  rw [bd_eq] at h
  generalize fX7_copies f 0 8 = V at h1 c0 h
  have h2 := seatsAll_low h1
  generalize fX7_seatsAll V 944 = z at h2 h
  have hU : U = z.2 := by
    unfold bd2 at h
    dsimp only at h
    by_cases c : w = 0
    · rw [if_pos c] at h
      exact congrArg Prod.snd h
    · rw [if_neg c] at h
      exact congrArg Prod.snd h
  intro i hi
  rw [hU, h2 i hi, c0 i (Or.inl (by omega))]
theorem bits_step {v x : UInt64} {k n : Nat} (hd : x = dbl v k) (hk : k ≤ n) (hex : 0 ≤ Op.cmpValue (FP.dcmp (dbl v n) FP.dconst1) .g) (c : ¬ 0 ≤ Op.cmpValue (FP.dcmp x FP.dconst1) .g) : FP.dmul x 4611686018427387904 = dbl v (k + 1) ∧ k + 1 ≤ n := by
  subst hd
  refine ⟨rfl, ?_⟩
  have : k ≠ n := fun e => c (by rw [e]; exact hex)
  omega

