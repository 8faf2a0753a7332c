/-! the law's rows: deeds whose answers are known, looks' values. Mine. -/
theorem ok1_inr {α : Type} {F : Nat ⊕ (Int32 × α)} {v : Int32} {u : α} (h : F = Sum.inr (v, u)) : ok1 F = v := by rw [h]; rfl
theorem okp_inr {α : Type} [Inhabited α] {F : Nat ⊕ (Int32 × α)} {x : Int32 × α} (h : F = Sum.inr x) : okp F = x := by rw [h]; rfl
theorem nI01 {n : Nat} (h : n = 0 ∨ n = 1) : (nI n : Int32) = 0 ∨ nI n = 1 := by rcases h with rfl | rfl; exact Or.inl rfl; exact Or.inr rfl
section KD
variable {p : Program} {l : Launch} {e : Env} {R : Room} {s : State} {m : MethodId} {args : Array Value} {below : List Frame} {meth : Method} {c : Code} {H : Heap} {locs : List Loc} {cells slots : Nat} {Q : State → Prop}
variable {pc : Nat} {ls : Array Slot} {rest st0 : List Value} {a : Array Value} {A : Nat → Prop} {D : va_G} {wf : va_W} {mc ms : Nat}
/-- a change whose answer and whose world are known -/
theorem k_deed2 {S : Type} {F : Int32 × S} {r0 : Int32} {u0 : S} {W1 : S → va_W} (e9 : F = (r0, u0)) (hr : va_Run p l e R s m args below meth c H locs cells slots mc ms (F0 m pc ls st0) rest (va_Qi (fun r u => (r, u) = F) (fun u t => va_P D vwCl (W1 u) t.heap) (adr wf) a) (adr wf))
    (hP : va_P D vwCl wf H) (hD : va_D A wf) (hS : va_S A s.heap H locs) (hw : (W1 u0).map (fun c => c.1) = wf.map (fun c => c.1))
    (kk : ∀ (H1 : Heap) (locs1 : List Loc), va_P D vwCl (W1 u0) H1 → va_D A (W1 u0) → va_S A s.heap H1 locs1 → W p l e R s m args below meth c H1 locs1 (cells + mc) (slots + ms) Q (F0 m (pc + 3) ls (.int r0 :: rest))) : W p l e R s m args below meth c H locs cells slots Q (F0 m pc ls st0) := by
  have hA : ∀ q, adr wf q → A q := (D_addr.mp hD).2
  refine va_calli hr hS (fun q _ h => hA q h) hA (fun r u t H1 locs1 ht hvm hp hB hz hk hS1 => ?_)
  rw [e9] at hp
  obtain ⟨rfl, rfl⟩ := Prod.mk.inj hp
  rw [ht] at hB
  exact kk H1 locs1 hB (D_addr.mpr (by rw [hw]; exact D_addr.mp hD)) hS1
theorem k_deed {S : Type} [Inhabited S] {F : Nat ⊕ (Int32 × S)} {r0 : Int32} {u0 : S} {W1 : S → va_W} (e9 : F = Sum.inr (r0, u0)) (hr : va_Run p l e R s m args below meth c H locs cells slots mc ms (F0 m pc ls st0) rest (va_Qi (fun r u => (r, u) = okp F) (fun u t => va_P D vwCl (W1 u) t.heap) (adr wf) a) (adr wf))
    (hP : va_P D vwCl wf H) (hD : va_D A wf) (hS : va_S A s.heap H locs) (hw : (W1 u0).map (fun c => c.1) = wf.map (fun c => c.1))
    (kk : ∀ (H1 : Heap) (locs1 : List Loc), va_P D vwCl (W1 u0) H1 → va_D A (W1 u0) → va_S A s.heap H1 locs1 → W p l e R s m args below meth c H1 locs1 (cells + mc) (slots + ms) Q (F0 m (pc + 3) ls (.int r0 :: rest))) : W p l e R s m args below meth c H locs cells slots Q (F0 m pc ls st0) :=
  k_deed2 (F := okp F) (okp_inr e9) hr hP hD hS hw kk
end KD
/-- what a save leaves beside a deed's own answer -/
def SV (PN : PV) (Ps : Nat → PV) (oh vh : Nat) (c : Int32 × PV) : Int32 × (PV × (Nat → PV) × Nat × Nat) := (c.1, (c.2, (fX0_save Ps oh vh PN).1, (fX0_save Ps oh vh PN).2.1, (fX0_save Ps oh vh PN).2.2))
theorem sv_ret {PN : PV} {Ps : Nat → PV} {oh vh : Nat} {c : Int32 × PV} {v : Int32} {P : PV} (h : c = (v, P)) : (v, (P, (fX0_save Ps oh vh PN).1, (fX0_save Ps oh vh PN).2.1, (fX0_save Ps oh vh PN).2.2)) = SV PN Ps oh vh c := by rw [h]; rfl
/-! counts -/
def cnt (PN : PV) (w : Int32) : Int32 := fX6_countNumber PN (fun _ => PN) 0 0 w
theorem count_in {PN : PV} {Ps : Nat → PV} {o v : Nat} {w : Nat} (hw : w < 14) : fX6_count PN Ps o v (nI w) = Sum.inr (fX6_countNumber PN Ps o v (nI w), ()) := by
  unfold fX6_count
  rw [if_neg (nI_pos (by omega)), if_pos (show nI w < 14 from (nI_ltI (a := w) (b := 14) (by omega) (by decide)).mpr hw)]
theorem count_lo {PN : PV} {Ps : Nat → PV} {o v : Nat} {w : Nat} (hw : w < 13) : fX6_count PN Ps o v (nI w) = Sum.inr (cnt PN (nI w), ()) := by
  rw [count_in (by omega)]
  have hw' : w = 0 ∨ w = 1 ∨ w = 2 ∨ w = 3 ∨ w = 4 ∨ w = 5 ∨ w = 6 ∨ w = 7 ∨ w = 8 ∨ w = 9 ∨ w = 10 ∨ w = 11 ∨ w = 12 := by omega
  rcases hw' with rfl | rfl | rfl | rfl | rfl | rfl | rfl | rfl | rfl | rfl | rfl | rfl | rfl <;> rfl
theorem count_0 {PN : PV} {Ps : Nat → PV} {o v : Nat} : fX6_count PN Ps o v 0 = Sum.inr (PN 10 0, ()) := count_in (w := 0) (by decide)
theorem count_1 {PN : PV} {Ps : Nat → PV} {o v : Nat} : fX6_count PN Ps o v 1 = Sum.inr (PN 10 1, ()) := count_in (w := 1) (by decide)
theorem count_2 {PN : PV} {Ps : Nat → PV} {o v : Nat} : fX6_count PN Ps o v 2 = Sum.inr (PN 10 4, ()) := count_in (w := 2) (by decide)
theorem count_3 {PN : PV} {Ps : Nat → PV} {o v : Nat} : fX6_count PN Ps o v 3 = Sum.inr (PN 10 5, ()) := count_in (w := 3) (by decide)
theorem count_4 {PN : PV} {Ps : Nat → PV} {o v : Nat} : fX6_count PN Ps o v 4 = Sum.inr (fX4_byGuests PN, ()) := count_in (w := 4) (by decide)
theorem count_5 {PN : PV} {Ps : Nat → PV} {o v : Nat} : fX6_count PN Ps o v 5 = Sum.inr (fX4_byTables PN, ()) := count_in (w := 5) (by decide)
theorem count_6 {PN : PV} {Ps : Nat → PV} {o v : Nat} : fX6_count PN Ps o v 6 = Sum.inr (fX4_wishesMet PN, ()) := count_in (w := 6) (by decide)
theorem count_7 {PN : PV} {Ps : Nat → PV} {o v : Nat} : fX6_count PN Ps o v 7 = Sum.inr (PN 10 2, ()) := count_in (w := 7) (by decide)
theorem count_8 {PN : PV} {Ps : Nat → PV} {o v : Nat} : fX6_count PN Ps o v 8 = Sum.inr (PN 10 3, ()) := count_in (w := 8) (by decide)
theorem count_13 {PN : PV} {Ps : Nat → PV} {o v : Nat} : fX6_count PN Ps o v 13 = Sum.inr (nI v, ()) := count_in (w := 13) (by decide)
/-! looks that don't throw -/
section LK
variable {PN : PV} {f : Nat → Int32} {G T : Nat} {L : List Nat}
theorem h10 : ¬ (1 : Int32) = 0 := by decide
theorem needG (hR : REL PN f 0 G T L) {g : Nat} (hg : g < G) : fX6_needGuest PN (nI g) = 0 := by
  unfold fX6_needGuest
  rw [isGuest_in hR hg, if_neg h10]
theorem isTable_in (hR : REL PN f 0 G T L) {t : Nat} (ht : t < T) : fX2_isTable PN (nI t) = 1 := by
  have hT := hR.wf.hT
  unfold fX2_isTable
  rw [hR.pt, if_neg (nI_pos (by omega)), if_neg (nI_ge ht (by omega))]
theorem needT (hR : REL PN f 0 G T L) {t : Nat} (ht : t < T) : fX6_needTable PN (nI t) = 0 := by
  unfold fX6_needTable
  rw [isTable_in hR ht, if_neg h10]
theorem needS (hR : REL PN f 0 G T L) {t z n : Nat} (ht : t < T) (hn : f (0 + 18 + t) = nI n) (hz : z < n) (hn8 : n ≤ 8) : fX6_needSeat PN (nI t) (nI z) = 0 := by
  unfold fX6_needSeat
  rw [isSeat_in hR ht hn hz hn8, if_neg h10]
theorem needGS (hR : REL PN f 0 G T L) {g t z n : Nat} (hg : g < G) (ht : t < T) (hn : f (0 + 18 + t) = nI n) (hz : z < n) (hn8 : n ≤ 8) : fX6_needGuestAndSeat PN (nI g) (nI t) (nI z) = 0 := by
  unfold fX6_needGuestAndSeat
  rw [needG hR hg, if_pos rfl, needS hR ht hn hz hn8, if_pos rfl]
theorem guestOf_in (hR : REL PN f 0 G T L) {g w : Nat} (hg : g < G) (hw : w < 7) : fX6_guestOf PN (nI g) (nI w) = Sum.inr (fX6_guestNumber PN (nI g) (nI w), ()) := by
  unfold fX6_guestOf
  rw [needG hR hg, if_pos rfl, if_neg (nI_pos (by omega)), if_pos (show nI w < 7 from (nI_ltI (a := w) (b := 7) (by omega) (by decide)).mpr hw)]
theorem tableOf_in (hR : REL PN f 0 G T L) {t w : Nat} (ht : t < T) (hw : w < 5) : fX6_tableOf PN (nI t) (nI w) = Sum.inr (fX6_tableNumber PN (nI t) (nI w), ()) := by
  unfold fX6_tableOf
  rw [needT hR ht, if_pos rfl, if_neg (nI_pos (by omega)), if_pos (show nI w < 5 from (nI_ltI (a := w) (b := 5) (by omega) (by decide)).mpr hw)]
theorem nI_0le {k : Nat} (hk : k < 2 ^ 31) : (0 : Int32) ≤ nI k := by
  rw [Int32.le_iff_toInt_le, nI_toInt hk]
  show (0 : Int) ≤ _
  omega
theorem needP {k : Nat} (hk : k < 2 ^ 31) : fX6_needPlace (nI k) = 0 := by
  unfold fX6_needPlace
  rw [if_pos (nI_0le hk)]
theorem seated_in {k : Nat} (hk : k < 2 ^ 31) : fX6_seated PN (nI k) = Sum.inr (fX1_itemAt 16 (PN 9) (PN 10 5) (nI k), ()) := by
  unfold fX6_seated
  rw [needP hk, if_pos rfl]
theorem feudAt_in {k : Nat} (hk : k < 2 ^ 31) : fX6_feudAt PN (nI k) = Sum.inr (fX1_itemAt 8 (PN 8) (PN 10 4) (nI k), ()) := by
  unfold fX6_feudAt
  rw [needP hk, if_pos rfl]
theorem told_in (hR : REL PN f 0 G T L) {t k : Nat} (ht : t < T) (hk : k < 2 ^ 31) : fX6_told PN (nI t) (nI k) = Sum.inr (fX2_letterOfTable PN (nI t) (nI k), ()) := by
  unfold fX6_told
  rw [needT hR ht, if_pos rfl, if_pos (nI_0le hk)]
theorem whyNot_in (hR : REL PN f 0 G T L) {g t z n : Nat} (hg : g < G) (ht : t < T) (hn : f (0 + 18 + t) = nI n) (hz : z < n) (hn8 : n ≤ 8) : fX6_whyNot PN (nI g) (nI t) (nI z) = Sum.inr (fX2_reasonAgainst PN (nI g) (nI t) (nI z), ()) := by
  unfold fX6_whyNot
  rw [needGS hR hg ht hn hz hn8, if_pos rfl]
theorem bestSeat_in (hR : REL PN f 0 G T L) {g : Nat} (hg : g < G) : fX6_bestSeat PN (nI g) = Sum.inr (fX2_bestPlace PN (nI g), ()) := by
  unfold fX6_bestSeat
  rw [needG hR hg, if_pos rfl]
theorem who_in (hR : REL PN f 0 G T L) {t z n : Nat} (ht : t < T) (hn : f (0 + 18 + t) = nI n) (hz : z < n) (hn8 : n ≤ 8) : fX6_who PN (nI t) (nI z) = Sum.inr (fX2_holderAt PN (nI t) (nI z), ()) := by
  unfold fX6_who
  rw [needS hR ht hn hz hn8, if_pos rfl]
theorem mul_pg (hR : REL PN f 0 G T L) {a : Nat} (ha : a ≤ 8) : (nI a * PN 10 0).toNatClampNeg = a * G := by
  have hG := hR.wf.G16
  have hm : a * G ≤ 8 * 16 := Nat.mul_le_mul ha hG
  rw [hR.pg, pk_mul, nI_clamp (by omega)]
theorem mul_pt (hR : REL PN f 0 G T L) {a : Nat} (ha : a ≤ 8) : (nI a * PN 10 1).toNatClampNeg = a * T := by
  have hT := hR.wf.hT
  have hm : a * T ≤ 8 * 4 := Nat.mul_le_mul ha hT
  rw [hR.pt, pk_mul, nI_clamp (by omega)]
end LK
