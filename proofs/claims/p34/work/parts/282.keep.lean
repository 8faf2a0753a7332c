theorem RO_RW {f : Nat → Int32} {b G : Nat} (h : ∃ L, RO f b G L) : RW f b := by
  obtain ⟨L, h⟩ := h
  exact h.1
/-- what standsUp leaves as it is -/
theorem stands_keep {f : Nat → Int32} {b G g i : Nat} {L : List Nat} (h : RO f b G L) (hg : g < 16) (h1 : i < b + 22 ∨ b + 38 ≤ i) (h3 : i ≠ b + 3) (h5 : i ≠ b + 5) (h6 : i ≠ b + 38 + 5 * g + 3) (h7 : i ≠ b + 38 + 5 * g + 4) : fX7_standsUp f b g i = f i := by
  obtain ⟨U, a1, -, e⟩ := standsUp_at h hg
  rw [e, upd_ne h5, upd_ne h7, upd_ne h6, upd_ne h3, a1 i (by omega)]
theorem stands_out {f : Nat → Int32} {b G g i : Nat} {L : List Nat} (h : RO f b G L) (hg : g < 16) (hi : i < b ∨ b + 118 ≤ i) : fX7_standsUp f b g i = f i :=
  stands_keep h hg (by omega) (by omega) (by omega) (by omega) (by omega)
theorem mid_out {f : Nat → Int32} {b G g i : Nat} {L : List Nat} (h : RO f b G L) (hg : g < 16) (hi : i < b ∨ b + 118 ≤ i) : sitMid f b g i = f i := by
  by_cases c : f (b + 38 + 5 * g + 3) = -1
  · rw [sitMid_stands c]
  · rw [sitMid_sits c]
    exact stands_out h hg hi
theorem sits_out {f : Nat → Int32} {b G g i : Nat} {tb z : Int32} {L : List Nat} (h : RO f b G L) (hg : g < G) (hi : i < b ∨ b + 118 ≤ i) : fX7_sitsDown f b g tb z i = f i := by
  have hG := h.2.2.1
  obtain ⟨S, hS, e⟩ := RO_midS h hg
  rw [sits_at h.1.1 (by omega) hS e, upd_ne (by omega), upd_ne (by omega), upd_ne (by omega), upd_ne (by omega), upd_ne (by omega), mid_out h (by omega) hi]
theorem feud_step {U U' : Nat → Int32} {G k : Nat} {t n n' go c : Int32} (h : (∃ L, RO U 0 G L) ∧ U 1 = c) (hk : k < 16)
    (hz : (n', U') = (if (fX7_of U 0 k 3) = t then (if (fX7_of U 0 k 0) = go then (bd (fX7_standsUp U 0 k) (fun U150 => ((n + 1), U150))) else (n, U)) else (n, U))) : (∃ L, RO U' 0 G L) ∧ U' 1 = c := by
  obtain ⟨⟨L, hL⟩, h1⟩ := h
  split at hz
  · split at hz
    · unfold bd at hz
      cases hz
      exact ⟨⟨_, RO_stands hL hk⟩, by rw [stands_keep hL hk (by omega) (by omega) (by omega) (by omega) (by omega)]; exact h1⟩
    · cases hz
      exact ⟨⟨L, hL⟩, h1⟩
  · cases hz
    exact ⟨⟨L, hL⟩, h1⟩
theorem feudPlace_in {f : Nat → Int32} {b : Nat} (hR : RW f b) (v : Int32) : fX7_feudPlace f b v = -1 ∨ ∃ k : Nat, k < 8 ∧ fX7_feudPlace f b v = nI k := by
  have rF := hR.2.2.2.1.c (by decide)
  unfold fX7_feudPlace
  refine lq0_ind (N := (f (b + 2)).toNatClampNeg) (fun r => r = -1 ∨ ∃ k : Nat, k < 8 ∧ r = nI k) (fun k nx hk h => ?_) (Or.inl rfl) _ _ (Nat.zero_add _)
  unfold fX7_feudPlace_b2
  split
  · exact Or.inr ⟨k, by omega, rfl⟩
  · exact h
theorem nat_of_or {x : Int32} {n : Nat} (hn : n < 2 ^ 31) (h : x = -1 ∨ ∃ k : Nat, k < n ∧ x = nI k) (c : ¬ x = -1) : x = nI x.toNatClampNeg ∧ x.toNatClampNeg < n := by
  obtain ⟨k, hk, rfl⟩ := h.resolve_left c
  rw [nI_clamp (by omega)]
  exact ⟨rfl, hk⟩
theorem pred_le {x : Int32} {n : Nat} (h : IN x n) (hn : n < 2 ^ 30) : (x - 1).toNatClampNeg ≤ n := by
  obtain ⟨k, hk, rfl⟩ := h
  rw [← Int32.toNat_toInt, show nI k - 1 = nI k - nI 1 from rfl, pk_sub_toInt (by omega) (by decide)]
  omega
theorem copies_back (f : Nat → Int32) : ∀ k : Nat, k < 118 → fX7_copies f 8 0 (0 + k) = f (944 + k) := by
  intro k hk
  have h := copies_row f (a := 8) (c := 0) (r := 0) (by decide) hk
  rw [if_pos rfl] at h
  exact h
theorem save_row8 {f M : Nat → Int32} {m k : Nat} (hm : m ≤ 6) (em : M 1 = nI m) (hk : k < 118) : (fX7_save f M).1 (944 + k) = f (944 + k) := by
  have h := (save_at (f := f) hm em).1 8 k hk
  have e : savSrc m 8 = 8 := by
    unfold savSrc
    split
    · rw [if_neg (by omega)]
    · simp
  rw [e] at h
  exact h
/-- canSwap works in the copy alone -/
theorem canSwap_keep {f : Nat → Int32} {g g2 G : Nat} {L : List Nat} (hL : RO f 0 G L) (hg : g < G) (hg2 : g2 < G) (hs1 : f (0 + 38 + 5 * g + 3) ≠ -1) (hs2 : f (0 + 38 + 5 * g2 + 3) ≠ -1) :
    (∀ k : Nat, k < 944 → (fX7_canSwap f g g2).2 k = f k) ∧ ∃ L', RO (fX7_canSwap f g g2).2 944 G L' := by
  have hG16 := hL.2.2.1
  have hTW := hL.1.2.2.2.2.2.1
  unfold fX7_canSwap bd
  dsimp only
  have c0 := (copies_at f (a := 0) (c := 8) (by decide)).2
  have h1 := RO_there hL
  generalize fX7_copies f 0 8 = U1 at h1 c0 ⊢
  have h2 := RO_stands h1 (g := g) (by omega)
  have c1 := fun i (hi : i < 944) => stands_out (i := i) h1 (g := g) (by omega) (Or.inl hi)
  generalize fX7_standsUp U1 944 g = U2 at h2 c1 ⊢
  have h3 := RO_stands h2 (g := g2) (by omega)
  have c2 := fun i (hi : i < 944) => stands_out (i := i) h2 (g := g2) (by omega) (Or.inl hi)
  generalize fX7_standsUp U2 944 g2 = U3 at h3 c2 ⊢
  have h4 := RO_sits h3 hg (tb := fX7_of f 0 g2 3) (z := fX7_of f 0 g2 4) (hTW g2 (by omega)) hs2
  have c3 := fun i (hi : i < 944) => sits_out (i := i) (tb := fX7_of f 0 g2 3) (z := fX7_of f 0 g2 4) h3 hg (Or.inl hi)
  generalize fX7_sitsDown U3 944 g (fX7_of f 0 g2 3) (fX7_of f 0 g2 4) = U4 at h4 c3 ⊢
  have h5 := RO_sits h4 hg2 (tb := fX7_of f 0 g 3) (z := fX7_of f 0 g 4) (hTW g (by omega)) hs1
  have c4 := fun i (hi : i < 944) => sits_out (i := i) (tb := fX7_of f 0 g 3) (z := fX7_of f 0 g 4) h4 hg2 (Or.inl hi)
  refine ⟨fun k hk => ?_, _, h5⟩
  rw [c4 k hk, c3 k hk, c2 k hk, c1 k hk, c0 k (Or.inl (by omega))]
theorem RO_low {f f' : Nat → Int32} {G : Nat} {L : List Nat} (h : ∀ k : Nat, k < 944 → f' k = f k) (hL : RO f 0 G L) : RO f' 0 G L := RO_row (b := 0) (b' := 0) (fun k hk => by rw [Nat.zero_add]; exact h k (by omega)) (by decide) hL
/-- the swap's try: the state stays, and where it could be done the copy holds it -/
theorem swap_join {f U : Nat → Int32} {G v5 v23 : Nat} {L : List Nat} {v a : Int32} (hL : RO f 0 G L) (h5 : v5 = (if (fX7_isGuest f v) = 0 then 0 else (if (fX7_isGuest f a) = 0 then 0 else 1)))
    (h23 : (v23, U) = (if (nI v5) = 0 then (0, f) else (if v = a then (0, f) else (if (fX7_of f 0 v.toNatClampNeg 3) = (-1) then (0, f) else (if (fX7_of f 0 a.toNatClampNeg 3) = (-1) then (0, f) else (bd2 (fX7_canSwap f v.toNatClampNeg a.toNatClampNeg) (fun r56 U56 => (if r56 = 0 then (0, U56) else (1, U56))))))))) :
    (∀ k : Nat, k < 944 → U k = f k) ∧ (v23 ≠ 0 → ∃ L', RO U 944 G L') := by
  have none : (v23, U) = (0, f) → (∀ k : Nat, k < 944 → U k = f k) ∧ (v23 ≠ 0 → ∃ L', RO U 944 G L') := fun e => by
    cases e
    exact ⟨fun _ _ => rfl, fun z => absurd rfl z⟩
  by_cases c1 : nI v5 = 0
  · rw [if_pos c1] at h23
    exact none h23
  rw [if_neg c1] at h23
  by_cases c2 : v = a
  · rw [if_pos c2] at h23
    exact none h23
  rw [if_neg c2] at h23
  by_cases c3 : fX7_of f 0 v.toNatClampNeg 3 = -1
  · rw [if_pos c3] at h23
    exact none h23
  rw [if_neg c3] at h23
  by_cases c4 : fX7_of f 0 a.toNatClampNeg 3 = -1
  · rw [if_pos c4] at h23
    exact none h23
  rw [if_neg c4] at h23
  rw [h5] at c1
  have k2 : ¬ fX7_isGuest f v = 0 := fun z => c1 (by rw [if_pos z]; rfl)
  have k3 : ¬ fX7_isGuest f a = 0 := fun z => c1 (by rw [if_neg k2, if_pos z]; rfl)
  obtain ⟨-, hvl, -⟩ := in_nat (v := v) (x := f 0) (n := 16) hL.1.2.1 (by decide) k2
  obtain ⟨-, hal, -⟩ := in_nat (v := a) (x := f 0) (n := 16) hL.1.2.1 (by decide) k3
  obtain ⟨p1, p2⟩ := canSwap_keep hL (RO_lt hL hvl) (RO_lt hL hal) c3 c4
  unfold bd2 at h23
  dsimp only at h23
  split at h23
  · cases h23
    exact ⟨p1, fun z => absurd rfl z⟩
  · cases h23
    exact ⟨p1, fun _ => p2⟩
/-! the text's reading leaves what lies below -/
theorem readsOne_keep {x M U : Nat → Int32} {r v a : Int32} {k : Nat} (hk : k ≠ 4) (h : (r, U) = fX7_readsOne x M v a) : U k = M k := by
  unfold fX7_readsOne bd at h
  cases h
  exact upd_ne hk
theorem readsOne_keep2 {x M : Nat → Int32} {v a : Int32} {k : Nat} (hk : k ≠ 4) : (fX7_readsOne x M v a).2 k = M k := by
  unfold fX7_readsOne bd
  exact upd_ne hk
theorem takes_keep {x M U : Nat → Int32} {r v : Int32} {k : Nat} (hk : k ≠ 4) (h : (r, U) = fX7_takes x M v) : U k = M k := by
  unfold fX7_takes bd at h
  cases h
  exact upd_ne hk
theorem readsGuest_keep {x M U : Nat → Int32} {r : Int32} {k : Nat} (hk : k < 4) (h : (r, U) = fX7_readsGuest x M) : U k = M k := by
  unfold fX7_readsGuest at h
  obtain ⟨⟨r6, U6⟩, h6⟩ : ∃ z, z = fX7_readsOne x M 48 57 := ⟨_, rfl⟩
  rw [← h6] at h
  have e6 := readsOne_keep (k := k) (by omega) h6
  unfold bd2 bd at h
  dsimp only at h
  have out : ∀ V : Nat → Int32, V k = M k → (r, U) = (if (V 6) = (-1) then ((0 : Int32), V) else (1, V)) → U k = M k := fun V hV e => by
    split at e <;> (cases e; exact hV)
  have eu : (upd U6 6 r6) k = M k := by rw [upd_ne (by omega)]; exact e6
  by_cases c1 : r6 = 1
  · rw [if_pos c1] at h
    by_cases c2 : fX7_in (fX7_sign x (upd U6 6 r6)) 48 53 = 0
    · rw [if_pos c2] at h
      exact out _ eu h
    · rw [if_neg c2] at h
      obtain ⟨⟨r7, U7⟩, h7⟩ : ∃ z, z = fX7_readsOne x (upd U6 6 r6) 48 53 := ⟨_, rfl⟩
      rw [← h7] at h
      refine out _ ?_ h
      rw [upd_ne (by omega)]
      exact (readsOne_keep (k := k) (by omega) h7).trans eu
  · rw [if_neg c1] at h
    exact out _ eu h
theorem readsPart_keep {x M U : Nat → Int32} {r : Int32} {k : Nat} (hk : k < 4) (h : (r, U) = fX7_readsPart x M) : U k = M k := by
  unfold fX7_readsPart at h
  obtain ⟨⟨r4, U4⟩, h4⟩ : ∃ z, z = fX7_takes x M 45 := ⟨_, rfl⟩
  rw [← h4] at h
  have e4 := takes_keep (k := k) (by omega) h4
  unfold bd2 at h
  dsimp only at h
  obtain ⟨⟨r11, U11⟩, h11⟩ : ∃ z, z = fX7_readsGuest x (upd U4 5 r4) := ⟨_, rfl⟩
  rw [← h11] at h
  have e11 : U11 k = M k := by rw [readsGuest_keep hk h11, upd_ne (by omega)]; exact e4
  dsimp only at h
  obtain ⟨⟨r49, U49⟩, h49⟩ : ∃ z, z = fX7_takes x U11 64 := ⟨_, rfl⟩
  rw [← h49] at h
  have e49 : U49 k = M k := (takes_keep (k := k) (by omega) h49).trans e11
  dsimp only at h
  obtain ⟨⟨r60, U60⟩, h60⟩ : ∃ z, z = fX7_readsOne x U49 48 51 := ⟨_, rfl⟩
  rw [← h60] at h
  have e60 : U60 k = M k := (readsOne_keep (k := k) (by omega) h60).trans e49
  have e52 : ∀ z : Int32 × (Nat → Int32), z = (if r49 = 0 then ((-1 : Int32), U49) else (r60, U60)) → z.2 k = M k := fun z e => by
    split at e <;> (cases e; assumption)
  have last : ∀ z : Int32 × (Nat → Int32), z.2 k = M k → (r, U) = (if z.1 = (-1) then ((0 : Int32), (upd z.2 8 z.1)) else (1, (upd z.2 8 z.1))) → U k = M k := fun z hz e => by
    split at e <;> (cases e; rw [upd_ne (by omega)]; exact hz)
  have third : ∀ z : Int32 × (Nat → Int32), z.2 k = M k → ∀ y : Int32 × (Nat → Int32), y = (if z.1 = (-1) then ((-1 : Int32), upd z.2 7 z.1) else ((fX7_readsOne x (upd z.2 7 z.1) 97 104).1, (fX7_readsOne x (upd z.2 7 z.1) 97 104).2)) → y.2 k = M k := fun z hz y e => by
    split at e
    · cases e
      dsimp only
      rw [upd_ne (by omega)]; exact hz
    · cases e
      dsimp only
      exact (readsOne_keep2 (by omega)).trans ((upd_ne (by omega)).trans hz)
  split at h
  · split at h
    · cases h; exact e11
    · split at h <;> (cases h; exact e11)
  · split at h
    · exact last _ (third _ (e52 _ rfl) _ rfl) h
    · first
      | (split at h <;> (cases h; exact e11))
      | (split at h
         · cases h; exact e11
         · split at h <;> (cases h; exact e11))
theorem areSeats_keep {x M U : Nat → Int32} {r : Int32} {k : Nat} (hk : k < 4) (h : (r, U) = fX7_areSeats x M) : U k = M k := by
  have key : ∀ z : Int32 × (Nat → Int32), z = fX7_areSeats x M → z.2 k = M k := by
    intro z e
    rw [e]
    unfold fX7_areSeats
    refine lq1_inv (fun V : Nat → Int32 => V k = M k) (fun z : Int32 × (Nat → Int32) => z.2 k = M k) (fun j V nx hV hn => ?_) (fun V hV => hV) _ _ _ (upd_ne (by omega))
    unfold fX7_areSeats_b5
    obtain ⟨⟨r6, U6⟩, h6⟩ : ∃ z, z = fX7_readsPart x V := ⟨_, rfl⟩
    rw [← h6]
    have e6 := (readsPart_keep hk h6).trans hV
    unfold bd2
    dsimp only
    split
    · exact e6
    · split
      · exact e6
      · obtain ⟨⟨r28, U28⟩, h28⟩ : ∃ z, z = fX7_takes x U6 59 := ⟨_, rfl⟩
        rw [← h28]
        dsimp only
        have e28 := (takes_keep (k := k) (by omega) h28).trans e6
        split
        · exact e28
        · exact hn _ e28
  exact key (r, U) h
theorem if01 {α : Type} {p : Prop} [Decidable p] (A B : α) : (if nI (if p then 0 else 1) = 0 then A else B) = (if p then A else B) := by
  by_cases h : p
  · rw [if_pos h, if_pos h, if_pos nI_0]
  · rw [if_neg h, if_neg h, if_neg (nI_ne0 (by decide) (by decide))]
theorem if10 {α : Type} {p : Prop} [Decidable p] (A B : α) : (if nI (if p then 1 else 0) = 0 then A else B) = (if p then B else A) := by
  by_cases h : p
  · rw [if_pos h, if_pos h, if_neg (nI_ne0 (by decide) (by decide))]
  · rw [if_neg h, if_neg h, if_pos nI_0]
theorem bd_eq {A ρ : Type} (x : A) (f : A → ρ) : bd x f = f x := rfl
theorem isDone_RO {f M U : Nat → Int32} {r : Int32} {G : Nat} {L : List Nat} (hL : RO f 0 G L) (h : (r, U) = fX7_isDone f M) : ∃ L', RO U 0 G L' := by
  have k0 : ∃ L', RO f 0 G L' := ⟨L, hL⟩
  unfold fX7_isDone at h
  by_cases c8 : fX7_isGuest f (M 6) = 0
  · rw [if_pos c8] at h
    cases h
    exact k0
  rw [if_neg c8] at h
  obtain ⟨hfn, hfl, hfb⟩ := in_nat (v := M 6) (x := f 0) (n := 16) hL.1.2.1 (by decide) c8
  have kr : ∃ L', RO (fX7_standsUp f 0 (M 6).toNatClampNeg) 0 G L' := ⟨_, RO_stands hL hfb⟩
  have ks : ¬ fX7_isSeat f (M 7) (M 8) = 0 → ∃ L', RO (fX7_sitsDown f 0 (M 6).toNatClampNeg (M 7) (M 8)) 0 G L' := fun k => ⟨_, RO_sits hL (RO_lt hL hfl) (isSeat_tw hL.1.2.2.1 k).1 (isSeat_tw hL.1.2.2.1 k).2⟩
  generalize fX7_sitsDown f 0 (M 6).toNatClampNeg (M 7) (M 8) = V at ks h
  generalize fX7_standsUp f 0 (M 6).toNatClampNeg = V2 at kr h
  have n1 : ¬ nI 1 = 0 := nI_ne0 (by decide) (by decide)
  by_cases c5 : M 5 = 0
  · rw [if_pos c5] at h
    by_cases k : fX7_isSeat f (M 7) (M 8) = 0
    · rw [if_pos k, bd_eq, if_pos nI_0, bd_eq] at h
      cases h
      exact k0
    · rw [if_neg k] at h
      by_cases k2 : fX7_reason f 0 ((M 6).toNatClampNeg) (M 7) (M 8) = 0
      · rw [if_pos k2, bd_eq, if_neg n1, bd_eq, bd_eq] at h
        cases h
        exact ks k
      · rw [if_neg k2, bd_eq, if_pos nI_0, bd_eq] at h
        cases h
        exact k0
  · rw [if_neg c5] at h
    by_cases k2 : fX7_of f 0 ((M 6).toNatClampNeg) 3 = -1
    · rw [if_pos k2, bd_eq, if_pos nI_0, bd_eq] at h
      cases h
      exact k0
    · rw [if_neg k2, bd_eq, if_neg n1, bd_eq, bd_eq] at h
      cases h
      exact kr
theorem seats_step {x f U U6 U57 U41 : Nat → Int32} {r6 r41 r57 : Int32} {G k : Nat} {L : List Nat} (hL : RO f 0 G L) (hT : TX U) (hk : k ≤ (U 4).toNatClampNeg) (h6 : (r6, U6) = fX7_readsPart x U) (c : ¬ r6 = 0) (h41 : (r41, U41) = fX7_isDone f U6) (h57 : (r57, U57) = fX7_takes x U6 59) : (∃ L', RO U41 0 G L') ∧ TX U57 ∧ k + 1 ≤ (U57 4).toNatClampNeg :=
  ⟨isDone_RO hL h41, areSeats_step hT hk h6 c h57⟩

