/-- a row of the reference that is a state of the document -/
def WF (f : Nat → Int32) (b G T : Nat) (L : List Nat) : Prop :=
  (RO f b G L) ∧
  (f (b + 1) = nI T) ∧
  (T ≤ 4) ∧
  (∀ g : Nat, g < G → ∃ v : Nat, v < 6 ∧ fX7_of f b g 0 = nI v) ∧
  (∀ g : Nat, g < G → ∃ v : Nat, 1 ≤ v ∧ v ≤ 3 ∧ fX7_of f b g 1 = nI v) ∧
  (∀ g : Nat, g < G → fX7_of f b g 2 = -1 ∨ ∃ j : Nat, j < G ∧ j ≠ g ∧ fX7_of f b g 2 = nI j) ∧
  (∀ t : Nat, t < T → ∃ n : Nat, 3 ≤ n ∧ n ≤ 8 ∧ f (b + 18 + t) = nI n) ∧
  (∀ g : Nat, g < G → fX7_of f b g 3 = -1 ∨ ∃ t z n : Nat, t < T ∧ n ≤ 8 ∧ z < n ∧ f (b + 18 + t) = nI n ∧ fX7_of f b g 3 = nI t ∧ fX7_of f b g 4 = nI z) ∧
  (∀ g h : Nat, g < G → h < G → fX7_of f b g 3 ≠ -1 → fX7_of f b g 3 = fX7_of f b h 3 → fX7_of f b g 4 = fX7_of f b h 4 → g = h) ∧
  (∃ a p q r : Nat, 1 ≤ a ∧ a ≤ 8 ∧ p ≤ 20 ∧ q ≤ 20 ∧ r ≤ 9 ∧ f (b + 6) = nI a ∧ f (b + 6 + 1) = nI p ∧ f (b + 6 + 2) = nI q ∧ f (b + 6 + 3) = nI r) ∧
  (∃ n : Nat, n ≤ 8 ∧ f (b + 2) = nI n ∧ (∀ k : Nat, k < n → ∃ a c : Nat, a < c ∧ c < 6 ∧ f (b + 10 + k) = nI (6 * a + c)) ∧ (∀ j k : Nat, j < n → k < n → f (b + 10 + j) = f (b + 10 + k) → j = k))
theorem WF.ro {f : Nat → Int32} {b G T : Nat} {L : List Nat} (h : WF f b G T L) : RO f b G L := h.1
theorem WF.ht {f : Nat → Int32} {b G T : Nat} {L : List Nat} (h : WF f b G T L) : f (b + 1) = nI T := h.2.1
theorem WF.hT {f : Nat → Int32} {b G T : Nat} {L : List Nat} (h : WF f b G T L) : T ≤ 4 := h.2.2.1
theorem WF.fam {f : Nat → Int32} {b G T : Nat} {L : List Nat} (h : WF f b G T L) : ∀ g : Nat, g < G → ∃ v : Nat, v < 6 ∧ fX7_of f b g 0 = nI v := h.2.2.2.1
theorem WF.siz {f : Nat → Int32} {b G T : Nat} {L : List Nat} (h : WF f b G T L) : ∀ g : Nat, g < G → ∃ v : Nat, 1 ≤ v ∧ v ≤ 3 ∧ fX7_of f b g 1 = nI v := h.2.2.2.2.1
theorem WF.wsh {f : Nat → Int32} {b G T : Nat} {L : List Nat} (h : WF f b G T L) : ∀ g : Nat, g < G → fX7_of f b g 2 = -1 ∨ ∃ j : Nat, j < G ∧ j ≠ g ∧ fX7_of f b g 2 = nI j := h.2.2.2.2.2.1
theorem WF.sts {f : Nat → Int32} {b G T : Nat} {L : List Nat} (h : WF f b G T L) : ∀ t : Nat, t < T → ∃ n : Nat, 3 ≤ n ∧ n ≤ 8 ∧ f (b + 18 + t) = nI n := h.2.2.2.2.2.2.1
theorem WF.sit {f : Nat → Int32} {b G T : Nat} {L : List Nat} (h : WF f b G T L) : ∀ g : Nat, g < G → fX7_of f b g 3 = -1 ∨ ∃ t z n : Nat, t < T ∧ n ≤ 8 ∧ z < n ∧ f (b + 18 + t) = nI n ∧ fX7_of f b g 3 = nI t ∧ fX7_of f b g 4 = nI z := h.2.2.2.2.2.2.2.1
theorem WF.dis {f : Nat → Int32} {b G T : Nat} {L : List Nat} (h : WF f b G T L) : ∀ g h : Nat, g < G → h < G → fX7_of f b g 3 ≠ -1 → fX7_of f b g 3 = fX7_of f b h 3 → fX7_of f b g 4 = fX7_of f b h 4 → g = h := h.2.2.2.2.2.2.2.2.1
theorem WF.stg {f : Nat → Int32} {b G T : Nat} {L : List Nat} (h : WF f b G T L) : ∃ a p q r : Nat, 1 ≤ a ∧ a ≤ 8 ∧ p ≤ 20 ∧ q ≤ 20 ∧ r ≤ 9 ∧ f (b + 6) = nI a ∧ f (b + 6 + 1) = nI p ∧ f (b + 6 + 2) = nI q ∧ f (b + 6 + 3) = nI r := h.2.2.2.2.2.2.2.2.2.1
theorem WF.fds {f : Nat → Int32} {b G T : Nat} {L : List Nat} (h : WF f b G T L) : ∃ n : Nat, n ≤ 8 ∧ f (b + 2) = nI n ∧ (∀ k : Nat, k < n → ∃ a c : Nat, a < c ∧ c < 6 ∧ f (b + 10 + k) = nI (6 * a + c)) ∧ (∀ j k : Nat, j < n → k < n → f (b + 10 + j) = f (b + 10 + k) → j = k) := h.2.2.2.2.2.2.2.2.2.2
/-- a plan of the class and a row of the reference that say the same -/
def REL (P : PV) (f : Nat → Int32) (b G T : Nat) (L : List Nat) : Prop :=
  (WF f b G T L) ∧
  (P 10 0 = nI G) ∧
  (P 10 1 = nI T) ∧
  (P 10 2 = f (b + 4)) ∧
  (P 10 3 = f (b + 5)) ∧
  (P 10 4 = f (b + 2)) ∧
  (P 10 5 = f (b + 3)) ∧
  (∀ w g : Nat, w < 5 → g < 16 → P w g = fX7_of f b g w) ∧
  (∀ t : Nat, t < 4 → P 5 t = f (b + 18 + t)) ∧
  (∀ k : Nat, k < 4 → P 7 k = f (b + 6 + k)) ∧
  (∀ t z : Nat, t < T → z < 8 → P 6 (8 * t + z) = fX7_whoSits f b (nI t) (nI z)) ∧
  (∀ k : Nat, k < (f (b + 2)).toNatClampNeg → P 8 k = f (b + 10 + k)) ∧
  (∀ k : Nat, k < L.length → P 9 k = f (b + 22 + k))
theorem REL.wf {P : PV} {f : Nat → Int32} {b G T : Nat} {L : List Nat} (h : REL P f b G T L) : WF f b G T L := h.1
theorem REL.pg {P : PV} {f : Nat → Int32} {b G T : Nat} {L : List Nat} (h : REL P f b G T L) : P 10 0 = nI G := h.2.1
theorem REL.pt {P : PV} {f : Nat → Int32} {b G T : Nat} {L : List Nat} (h : REL P f b G T L) : P 10 1 = nI T := h.2.2.1
theorem REL.p2 {P : PV} {f : Nat → Int32} {b G T : Nat} {L : List Nat} (h : REL P f b G T L) : P 10 2 = f (b + 4) := h.2.2.2.1
theorem REL.p3 {P : PV} {f : Nat → Int32} {b G T : Nat} {L : List Nat} (h : REL P f b G T L) : P 10 3 = f (b + 5) := h.2.2.2.2.1
theorem REL.p4 {P : PV} {f : Nat → Int32} {b G T : Nat} {L : List Nat} (h : REL P f b G T L) : P 10 4 = f (b + 2) := h.2.2.2.2.2.1
theorem REL.p5 {P : PV} {f : Nat → Int32} {b G T : Nat} {L : List Nat} (h : REL P f b G T L) : P 10 5 = f (b + 3) := h.2.2.2.2.2.2.1
theorem REL.row {P : PV} {f : Nat → Int32} {b G T : Nat} {L : List Nat} (h : REL P f b G T L) : ∀ w g : Nat, w < 5 → g < 16 → P w g = fX7_of f b g w := h.2.2.2.2.2.2.2.1
theorem REL.ts {P : PV} {f : Nat → Int32} {b G T : Nat} {L : List Nat} (h : REL P f b G T L) : ∀ t : Nat, t < 4 → P 5 t = f (b + 18 + t) := h.2.2.2.2.2.2.2.2.1
theorem REL.sg {P : PV} {f : Nat → Int32} {b G T : Nat} {L : List Nat} (h : REL P f b G T L) : ∀ k : Nat, k < 4 → P 7 k = f (b + 6 + k) := h.2.2.2.2.2.2.2.2.2.1
theorem REL.hd {P : PV} {f : Nat → Int32} {b G T : Nat} {L : List Nat} (h : REL P f b G T L) : ∀ t z : Nat, t < T → z < 8 → P 6 (8 * t + z) = fX7_whoSits f b (nI t) (nI z) := h.2.2.2.2.2.2.2.2.2.2.1
theorem REL.fd {P : PV} {f : Nat → Int32} {b G T : Nat} {L : List Nat} (h : REL P f b G T L) : ∀ k : Nat, k < (f (b + 2)).toNatClampNeg → P 8 k = f (b + 10 + k) := h.2.2.2.2.2.2.2.2.2.2.2.1
theorem REL.od {P : PV} {f : Nat → Int32} {b G T : Nat} {L : List Nat} (h : REL P f b G T L) : ∀ k : Nat, k < L.length → P 9 k = f (b + 22 + k) := h.2.2.2.2.2.2.2.2.2.2.2.2
theorem nI_lit : ∀ {n : Nat} {x : Int32}, Int32.ofNat n = x → x = nI n := fun h => h.symm
theorem at_in {n k : Nat} {f : Nat → Int32} (h : k < n) (hn : n < 2 ^ 31) : fX3_at n f (nI k) = f k := by
  unfold fX3_at
  rw [if_neg (nI_pos (by omega)), if_neg (nI_ge h hn), nI_clamp (by omega)]
theorem at_m1 (n : Nat) (f : Nat → Int32) : fX3_at n f (-1) = -1 := by
  unfold fX3_at
  exact if_pos (by decide)
theorem WF.G16 {f : Nat → Int32} {b G T : Nat} {L : List Nat} (h : WF f b G T L) : G ≤ 16 := h.ro.2.2.1
theorem WF.g0 {f : Nat → Int32} {b G T : Nat} {L : List Nat} (h : WF f b G T L) : f (b + 0) = nI G := h.ro.2.1
theorem WF.gN {f : Nat → Int32} {b G T : Nat} {L : List Nat} (h : WF f b G T L) : (f (b + 0)).toNatClampNeg = G := by
  rw [h.g0, nI_clamp (by have := h.G16; omega)]
theorem WF.tN {f : Nat → Int32} {b G T : Nat} {L : List Nat} (h : WF f b G T L) : (f (b + 1)).toNatClampNeg = T := by
  rw [h.ht, nI_clamp (by have := h.hT; omega)]
theorem REL.rat {P : PV} {f : Nat → Int32} {b G T : Nat} {L : List Nat} (h : REL P f b G T L) {w g : Nat} (hw : w < 5) (hg : g < 16) : fX3_at 16 (P w) (nI g) = fX7_of f b g w := (at_in hg (by decide)).trans (h.row w g hw hg)
theorem REL.sat {P : PV} {f : Nat → Int32} {b G T : Nat} {L : List Nat} (h : REL P f b G T L) {k : Nat} (hk : k < 4) {x : Int32} (hx : x = nI k) : fX3_at 4 (P 7) x = f (b + 6 + k) := by rw [hx, at_in hk (by decide)]; exact h.sg k hk
theorem REL.seats {P : PV} {f : Nat → Int32} {b G T : Nat} {L : List Nat} (h : REL P f b G T L) {t : Nat} (ht : t < 4) : fX2_seatsAt P (nI t) = f (b + 18 + t) := by
  unfold fX2_seatsAt
  rw [if_neg (nI_pos (by omega)), if_neg (nI_ge ht (by decide)), nI_clamp (by omega)]
  exact h.ts t ht
theorem m8z (t z : Nat) : nI t * 8 + nI z = nI (8 * t + z) := by
  rw [show (8 : Int32) = nI 8 from rfl, pk_mul, nI_add, Nat.mul_comm t 8]
theorem REL.hold {P : PV} {f : Nat → Int32} {b G T : Nat} {L : List Nat} (h : REL P f b G T L) {t z : Nat} (ht : t < T) (hz : z < 8) : fX2_holderAt P (nI t) (nI z) = fX7_whoSits f b (nI t) (nI z) := by
  have hT := h.wf.hT
  unfold fX2_holderAt
  rw [m8z, if_neg (nI_pos (by omega)), if_neg (nI_ge (by omega) (by decide)), nI_clamp (by omega)]
  exact h.hd t z ht hz
/-- who sits on a seat -/
theorem who_is {f : Nat → Int32} {b G T : Nat} {L : List Nat} (h : WF f b G T L) (tb z : Int32) : (∃ g : Nat, g < G ∧ fX7_of f b g 3 = tb ∧ fX7_of f b g 4 = z ∧ fX7_whoSits f b tb z = nI g) ∨ ((∀ g : Nat, g < G → ¬ (fX7_of f b g 3 = tb ∧ fX7_of f b g 4 = z)) ∧ fX7_whoSits f b tb z = -1) := by
  unfold fX7_whoSits
  rw [h.gN]
  rcases lq0_find (b := fX7_whoSits_b3 f b tb z) (r := fX7_whoSits_r3) (N := G) (fun g => fX7_of f b g 3 = tb ∧ fX7_of f b g 4 = z) nI (fun k nx _ => by
    unfold fX7_whoSits_b3
    by_cases c1 : fX7_of f b k 3 = tb
    · by_cases c2 : fX7_of f b k 4 = z
      · rw [if_pos c1, if_pos c2, if_pos ⟨c1, c2⟩]
      · rw [if_pos c1, if_neg c2, if_neg (fun c => c2 c.2)]
    · rw [if_neg c1, if_neg (fun c => c1 c.1)]) G 0 (Nat.zero_add G) with ⟨j, _, h2, h3, _, h5⟩ | ⟨h4, h5⟩
  · exact Or.inl ⟨j, h2, h3.1, h3.2, h5⟩
  · exact Or.inr ⟨fun g hg => h4 g (Nat.zero_le g) hg, h5⟩
theorem who_of {f : Nat → Int32} {b G T : Nat} {L : List Nat} (h : WF f b G T L) {g : Nat} (hg : g < G) (hs : fX7_of f b g 3 ≠ -1) : fX7_whoSits f b (fX7_of f b g 3) (fX7_of f b g 4) = nI g := by
  rcases who_is h (fX7_of f b g 3) (fX7_of f b g 4) with ⟨j, h1, h2, h3, h4⟩ | ⟨h1, h2⟩
  · rw [h4, h.dis g j hg h1 hs h2.symm h3.symm]
  · exact absurd ⟨rfl, rfl⟩ (h1 g hg)
/-- a sum over a table's seats is one over the guests who sit there -/
theorem seat_guest {f : Nat → Int32} {b G T : Nat} {L : List Nat} (h : WF f b G T L) {t n : Nat} (ht : t < T) (hn : f (b + 18 + t) = nI n) (hn8 : n ≤ 8) (u : Nat → Int32 → Int32) :
    sm n (fun z => if fX7_whoSits f b (nI t) (nI z) = -1 then 0 else u (fX7_whoSits f b (nI t) (nI z)).toNatClampNeg (nI z)) = sm G (fun g => if fX7_of f b g 3 = nI t then u g (fX7_of f b g 4) else 0) := by
  have hG := h.G16
  have hT := h.hT
  have e1 : ∀ z : Nat, z < n → (if fX7_whoSits f b (nI t) (nI z) = -1 then 0 else u (fX7_whoSits f b (nI t) (nI z)).toNatClampNeg (nI z)) = sm G (fun g => if fX7_of f b g 3 = nI t ∧ fX7_of f b g 4 = nI z then u g (nI z) else 0) := by
    intro z hz
    rcases who_is h (nI t) (nI z) with ⟨j, h1, h2, h3, h4⟩ | ⟨h1, h2⟩
    · rw [h4, if_neg (nI_m1 (by omega)), nI_clamp (by omega), sm_one h1 (fun i hi hne => if_neg (fun c => hne (h.dis i j hi h1 (by rw [c.1]; exact nI_m1 (by omega)) (c.1.trans h2.symm) (c.2.trans h3.symm)))), if_pos ⟨h2, h3⟩]
    · rw [if_pos h2, sm_none (fun i hi => if_neg (h1 i hi))]
  rw [sm_congr e1, sm_swap]
  refine sm_congr (fun g hg => ?_)
  by_cases c : fX7_of f b g 3 = nI t
  · rw [if_pos c]
    rcases h.sit g hg with c2 | ⟨t', z, n', h1, h2, h3, h4, h5, h6⟩
    · exact absurd (c.symm.trans c2) (nI_m1 (by omega))
    · obtain rfl : t' = t := (nI_eq (by omega) (by omega)).mp (h5.symm.trans c)
      obtain rfl : n' = n := (nI_eq (by omega) (by omega)).mp (h4.symm.trans hn)
      rw [sm_one h3 (fun i hi hne => if_neg (fun c3 => hne ((nI_eq (by omega) (by omega)).mp (c3.2.symm.trans h6)))), if_pos ⟨c, h6⟩, h6]
  · rw [if_neg c]
    exact sm_none (fun i _ => if_neg (fun c3 => c c3.1))

