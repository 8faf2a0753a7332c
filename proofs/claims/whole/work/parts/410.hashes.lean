/-- a loop that carries a hash on by a rule -/
def fg (g : Nat → Int64 → Int64) : Nat → Nat → Int64 → Int64
  | 0, _, x => x
  | n + 1, k, x => fg g n (k + 1) (g k x)
theorem lq1_fg {ρ : Type} {b : Nat → Int64 → (Int64 → ρ) → ρ} {r : Int64 → ρ} {N : Nat} (g : Nat → Int64 → Int64) (hb : ∀ (k : Nat) (x : Int64) (nx : Int64 → ρ), k < N → b k x nx = nx (g k x)) : ∀ (n k : Nat) (x : Int64), k + n = N → lq1 b r n k x = r (fg g n k x)
  | 0, k, x, h => lq1_z b r k x
  | n + 1, k, x, h => by
    rw [lq1_s, hb k x _ (by omega)]
    exact lq1_fg g hb n (k + 1) _ (by omega)
theorem lq1_fg0 {ρ : Type} {b : Nat → Int64 → (Int64 → ρ) → ρ} {r : Int64 → ρ} {N : Nat} {x : Int64} (g : Nat → Int64 → Int64) (hb : ∀ (k : Nat) (x : Int64) (nx : Int64 → ρ), k < N → b k x nx = nx (g k x)) : lq1 b r N 0 x = r (fg g N 0 x) := lq1_fg g hb N 0 x (Nat.zero_add N)
theorem bits_all : (List.range 17).all (fun a => (List.range 17).all (fun b => b == 0 || fX6_bitsOfShare (shv a b) == fX7_bits (shv a b))) = true := by decide +kernel
theorem bits_one : fX6_bitsOfShare FP.dconst1 = fX7_bits FP.dconst1 := by decide +kernel
theorem bits_eq {P : PV} (hG : IN (P 10 0) 16) : fX6_bitsOfShare (fX4_shareMet P) = fX7_bits (fX4_shareMet P) := by
  rcases shareMet_at hG with e | ⟨a, b, ha, hb, h0, e⟩
  · rw [e]; exact bits_one
  · rw [e]
    have h1 := List.all_eq_true.mp bits_all a (List.mem_range.mpr (by omega))
    have h2 := List.all_eq_true.mp h1 b (List.mem_range.mpr (by omega))
    rcases Bool.or_eq_true _ _ ▸ h2 with h3 | h3
    · exact absurd (by simpa using h3) h0
    · exact of_decide_eq_true (by simpa using h3)
/-- how many characters the seats from k on have -/
def LT : Nat → Nat → Nat
  | 0, _ => 0
  | n + 1, k => (if fX7_isAtLeg (nI k) = 0 then 1 else 2) + LT n (k + 1)
theorem LT_8 : ∀ n : Nat, n < 9 → LT n 0 ≤ 12 := by decide +kernel
theorem letters_LT : ∀ (n k a : Nat), lq1 fX2_lettersOfTable_b4 fX2_lettersOfTable_r4 n k (nI a) = nI (a + LT n k)
  | 0, k, a => lq1_z _ _ _ _
  | n + 1, k, a => by
    rw [lq1_s]
    unfold fX2_lettersOfTable_b4
    rw [bd_eq, show fX2_isAtLeg (nI k) = fX7_isAtLeg (nI k) from rfl]
    have e : nI a + (if fX7_isAtLeg (nI k) = 0 then 1 else 2) = nI (a + (if fX7_isAtLeg (nI k) = 0 then 1 else 2)) := by
      by_cases c : fX7_isAtLeg (nI k) = 0
      · rw [if_pos c, if_pos c]; exact nI_add a 1
      · rw [if_neg c, if_neg c]; exact nI_add a 2
    rw [e]
    have := letters_LT n (k + 1) (a + (if fX7_isAtLeg (nI k) = 0 then 1 else 2))
    unfold fX2_lettersOfTable_b4 at this
    rw [this]
    show nI _ = nI (a + ((if fX7_isAtLeg (nI k) = 0 then 1 else 2) + LT n (k + 1)))
    rw [Nat.add_assoc]
theorem char_end {f : Nat → Int32} {G T t : Nat} {L : List Nat} (h : WF f 0 G T L) : ∀ (n k i : Nat), i < 2 ^ 30 → (lq1 (fX7_character_b5 f t) fX7_character_r5 n k (nI i) = -1 ↔ LT n k ≤ i)
  | 0, k, i, hi => by
    rw [lq1_z]
    exact ⟨fun _ => Nat.zero_le _, fun _ => rfl⟩
  | n + 1, k, i, hi => by
    have hG := h.G16
    rw [lq1_s]
    have eY : ∀ nx : Int32 → Int32, fX7_character_b5 f t k (nI i) nx = (if nI i = 0 then (if fX7_whoSits f 0 (nI t) (nI k) = -1 then 46 else (65 + fX7_of f 0 (fX7_whoSits f 0 (nI t) (nI k)).toNatClampNeg 0)) else (if fX7_isAtLeg (nI k) = 0 then nx (nI i + (-1)) else (if nI i + (-1) = 0 then 124 else nx (nI i + (-1) + (-1))))) := fun nx => rfl
    rw [eY]
    show _ ↔ (if fX7_isAtLeg (nI k) = 0 then 1 else 2) + LT n (k + 1) ≤ i
    by_cases c0 : i = 0
    · subst c0
      rw [if_pos (show nI 0 = 0 from rfl)]
      constructor
      · intro e
        exfalso
        rcases who_is h (nI t) (nI k) with ⟨g, k1, k2, k3, k4⟩ | ⟨k1, k2⟩
        · obtain ⟨v, hv, ev⟩ := h.fam g k1
          rw [k4, if_neg (nI_m1 (by omega)), nI_clamp (by omega), ev] at e
          have e : nI 65 + nI v = -1 := e
          rw [nI_add] at e
          exact nI_m1 (by omega) e
        · rw [k2, if_pos rfl] at e
          exact absurd e (by decide)
      · intro e
        exfalso
        split at e <;> omega
    · obtain ⟨j, rfl⟩ : ∃ j, i = j + 1 := ⟨i - 1, by omega⟩
      rw [if_neg (nI_ne0 (by omega) (by omega)), pk_m1]
      by_cases c1 : fX7_isAtLeg (nI k) = 0
      · rw [if_pos c1, if_pos c1, char_end h n (k + 1) j (by omega)]
        omega
      · rw [if_neg c1, if_neg c1]
        by_cases c2 : j = 0
        · subst c2
          rw [if_pos (show nI 0 = 0 from rfl)]
          exact ⟨fun e => absurd e (by decide), fun e => by omega⟩
        · obtain ⟨q, rfl⟩ : ∃ q, j = q + 1 := ⟨j - 1, by omega⟩
          rw [if_neg (nI_ne0 (by omega) (by omega)), pk_m1, char_end h n (k + 1) q (by omega)]
          omega
/-- the reference goes over a table's characters -/
theorem chars_loop {f : Nat → Int32} {t N : Nat} (hc : ∀ i : Nat, i < 13 → (fX7_character f t (nI i) = -1 ↔ N ≤ i)) : ∀ (m k : Nat) (h : Int64), k ≤ N → N ≤ k + m → k + m ≤ 12 → lq2 (fX7_mixTable_b59 f t) fX7_mixTable_r59 m k k h = fg (fun k x => 31 * x + (fX7_character f t (nI k)).toInt64) (N - k) k h
  | 0, k, h, h1, h2, h3 => by
    rw [show N - k = 0 by omega, lq2_z]; rfl
  | m + 1, k, h, h1, h2, h3 => by
    rw [lq2_s]
    unfold fX7_mixTable_b59
    by_cases c : N ≤ k
    · rw [if_pos ((hc k (by omega)).mpr c), show N - k = 0 by omega]; rfl
    · rw [if_neg (fun e => c ((hc k (by omega)).mp e)), bd_eq]
      have := chars_loop hc m (k + 1) (fX7_mix h (fX7_character f t (nI k)).toInt64) (by omega) (by omega) (by omega)
      unfold fX7_mixTable_b59 at this
      rw [this, show N - k = (N - (k + 1)) + 1 by omega]
      rfl
theorem table_hash {PN : PV} {f : Nat → Int32} {G T t : Nat} {L : List Nat} (hR : REL PN f 0 G T L) (ht : t < T) (h : Int64) (nx : Int64 → Int64) : fX6_hashTables_b5 PN t h nx = nx (fX7_mixTable f h t) := by
  have hT := hR.wf.hT
  obtain ⟨n, n3, n8, hn⟩ := hR.wf.sts t ht
  have hn' : f (18 + t) = nI n := by rw [Nat.zero_add] at hn; exact hn
  have hl := LT_8 n (by omega)
  have hc : ∀ i : Nat, i < 13 → (fX7_character f t (nI i) = -1 ↔ LT n 0 ≤ i) := fun i hi => by
    unfold fX7_character
    rw [hn', nI_clamp (by omega)]
    exact char_end hR.wf n 0 i (by omega)
  unfold fX6_hashTables_b5 fX7_mixTable
  rw [show ((5 : Int32).toNatClampNeg) = 5 from rfl, lq1_fg0 (fun k x => 31 * x + (fX7_ofTable f t (nI k)).toInt64) (fun k x nx hk => by
    unfold fX6_hashTables_b20
    rw [tableNumber_eq hR ht]), lq1_fg0 (b := fX7_mixTable_b2 f t) (fun k x => 31 * x + (fX7_ofTable f t (nI k)).toInt64) (fun k x nx hk => rfl)]
  unfold fX6_hashTables_r20 fX7_mixTable_r2
  rw [hR.seats (by omega), hn, nI_clamp (by omega), lq1_fg0 (fun k x => 31 * x + (fX7_whoSits f 0 (nI t) (nI k)).toInt64) (fun k x nx hk => by
    unfold fX6_hashTables_b51
    rw [hR.hold ht (by omega)]), lq1_fg0 (b := fX7_mixTable_b26 f t) (fun k x => 31 * x + (fX7_whoSits f 0 (nI t) (nI k)).toInt64) (fun k x nx hk => rfl)]
  unfold fX6_hashTables_r51 fX7_mixTable_r26 fX2_lettersOfTable
  have e0 := letters_LT n 0 0
  rw [Nat.zero_add] at e0
  rw [hR.seats (by omega), hn, nI_clamp (by omega), show (0 : Int32) = nI 0 from rfl, e0, nI_clamp (by omega), lq1_fg0 (fun k x => 31 * x + (fX7_character f t (nI k)).toInt64) (fun k x nx hk => by
    unfold fX6_hashTables_b104
    rw [letter_eq hR ht]), chars_loop hc 12 0 _ (by omega) (by omega) (by omega)]
  rfl
theorem tables_hash {PN : PV} {f : Nat → Int32} {G T : Nat} {L : List Nat} (hR : REL PN f 0 G T L) (h : Int64) : fX6_hashTables PN h = fg (fun t x => fX7_mixTable f x t) T 0 h := by
  have hT := hR.wf.hT
  unfold fX6_hashTables
  rw [hR.pt, nI_clamp (by omega), lq1_fg0 (fun t x => fX7_mixTable f x t) (fun k x nx hk => table_hash hR hk x nx)]
  rfl
/-- a guest's numbers -/
def GH (f : Nat → Int32) (g : Nat) (x : Int64) : Int64 := 31 * fg (fun k x => 31 * x + (fX7_ofGuest f g k).toInt64) 7 0 x + (fX7_best f 0 g).toInt64
theorem guests_hash {PN : PV} {f : Nat → Int32} {G T : Nat} {L : List Nat} (hR : REL PN f 0 G T L) (h : Int64) : fX6_hashGuests PN h = fg (GH f) G 0 h := by
  have hG := hR.wf.G16
  unfold fX6_hashGuests
  rw [hR.pg, nI_clamp (by omega), lq1_fg0 (GH f) (fun k x nx hk => by
    unfold fX6_hashGuests_b5
    rw [show ((7 : Int32).toNatClampNeg) = 7 from rfl, lq1_fg0 (fun w x => 31 * x + (fX7_ofGuest f k w).toInt64) (fun w x nx hw => by
      unfold fX6_hashGuests_b20
      rw [guestNumber_eq hR hk w hw])]
    unfold fX6_hashGuests_r20
    rw [best_eq hR hk]
    rfl)]
  rfl
theorem line_hash {n m : Nat} {f F : Nat → Int32} {u : Int32} (hu : u = nI m) (hm : m ≤ n) (hn : n < 2 ^ 31) (hf : ∀ k : Nat, k < m → f k = F k) (h : Int64) : fX6_hashLine n f u h = fg (fun k x => 31 * x + (F k).toInt64) m 0 h := by
  subst hu
  unfold fX6_hashLine fX1_length
  rw [nI_clamp (by omega), lq1_fg0 (fun k x => 31 * x + (F k).toInt64) (fun k x nx hk => by
    unfold fX6_hashLine_b5 fX1_itemAt
    rw [if_neg (nI_pos (by omega)), if_neg (nI_ge hk (by omega)), if_neg (nI_ge (by omega) hn), nI_clamp (by omega), hf k hk])]
  rfl
