theorem bd2_id {A B : Type} (x : A × B) : bd2 x (fun a b => (a, b)) = x := rfl
theorem bd2_mk {A B ρ : Type} (a : A) (b : B) (f : A → B → ρ) : bd2 (a, b) f = f a b := rfl
theorem in_slt {x : Nat → Int32} {n i : Nat} {a b : Int32} (h : fX7_in (SG x n i) a b = 0) (hi : i < n) : fX7_in (x i) a b = 0 := by
  unfold SG at h
  rw [if_pos hi] at h
  exact h
theorem sg_lt {x : Nat → Int32} {n i : Nat} {a : Int32} (h : SG x n i ≠ a) (hi : i < n) : x i ≠ a := by
  unfold SG at h
  rw [if_pos hi] at h
  exact h
theorem nI_nc {a b : Nat} (ha : a < 2 ^ 31) (hb : b < 2 ^ 31) (h : a ≠ b) : nI a ≠ nI b := fun e => h ((nI_eq ha hb).mp e)
theorem guest_ok {x M U : Nat → Int32} {n i : Nat} {r : Int32} (hA : AT M n i) (h : (r, U) = fX7_readsGuest x M) :
    (fX7_in (SG x n i) 48 57 = 0 ∧ r = 0 ∧ AT U n i ∧ U 6 = -1 ∧ ∀ k : Nat, k ≠ 4 → k ≠ 6 → U k = M k) ∨
    (∃ l g : Nat, 1 ≤ l ∧ i + l ≤ n ∧ g ≤ 15 ∧ r = 1 ∧ AT U n (i + l) ∧ U 6 = nI g ∧ (∀ k : Nat, k ≠ 4 → k ≠ 6 → U k = M k) ∧ fX5_numberIn x (nI n) i (nI (i + l)) = nI g ∧ (∀ k : Nat, i ≤ k → k < i + l → x k ≠ 59 ∧ x k ≠ 45) ∧ ((fX7_in (SG x n (i + l)) 48 53 = 0 ∧ PH x l i 0 1 ∧ PH x l i 6 7) ∨ (PH x l i 0 2 ∧ PH x l i 6 8))) := by
  have hn := hA.1
  rcases guest_at hA h with ⟨h1, h2, h3, h4, h5⟩ | ⟨j, h1, h2, h3, h4, h5, h6, h7, h8⟩ | ⟨j, h1, h2, h3, h4, h5, h6, h7, h8⟩
  · exact Or.inl ⟨h1, h2, h3, h4, h5⟩
  · refine Or.inr ⟨1, j, by omega, by omega, by omega, h5, h6, h7, h8, num_1 hn h2 h3 h1, fun k k1 k2 => ?_, ?_⟩
    · obtain rfl : k = i := by omega
      rw [h3]
      exact ⟨nI_nc (b := 59) (by omega) (by decide) (by omega), nI_nc (b := 45) (by omega) (by decide) (by omega)⟩
    · have e0 := n0_d j h1
      have e6 := n6_d j h1
      by_cases c : j = 1
      · rw [if_pos c] at e0 e6
        exact Or.inl ⟨h4 c, PH_1 (by rw [h3]; exact e0) (by decide), PH_1 (by rw [h3]; exact e6) (by decide)⟩
      · rw [if_neg c] at e0 e6
        exact Or.inr ⟨PH_1 (by rw [h3]; exact e0) (by decide), PH_1 (by rw [h3]; exact e6) (by decide)⟩
  · refine Or.inr ⟨2, 10 + j, by omega, by omega, by omega, h5, h6, h7, h8, num_2 hn h2 h3 h4 h1, fun k k1 k2 => ?_, Or.inr ⟨?_, ?_⟩⟩
    · have hk : k = i ∨ k = i + 1 := by omega
      rcases hk with rfl | rfl
      · rw [h3]
        exact ⟨nI_nc (b := 59) (by omega) (by decide) (by omega), nI_nc (b := 45) (by omega) (by decide) (by omega)⟩
      · rw [h4]
        exact ⟨nI_nc (b := 59) (by omega) (by decide) (by omega), nI_nc (b := 45) (by omega) (by decide) (by omega)⟩
    · exact PH_s (PH_1 (t := 1) (by rw [h3]; exact n0_d 1 (by decide)) (by decide)) rfl (by rw [h4]; exact n1_d j h1) (by decide)
    · exact PH_s (PH_1 (t := 7) (by rw [h3]; exact n6_d 1 (by decide)) (by decide)) rfl (by rw [h4]; exact n7_d j h1) (by decide)
/-- a part that breaks, or ends too early -/
def PB (x : Nat → Int32) (n i e : Nat) : Prop := ∃ (d : Nat) (s : Int32), i + d = e ∧ PH x d i 0 s ∧ s ≠ 5 ∧ s ≠ 7 ∧ s ≠ 8 ∧ (e < n → fX5_next s (x e) = -1)
/-- a part that is whole -/
def PG (x : Nat → Int32) (n i e : Nat) : Prop := ∃ (d : Nat) (s : Int32), 1 ≤ d ∧ i + d = e ∧ PH x d i 0 s ∧ (s = 5 ∨ s = 7 ∨ s = 8) ∧ (e < n → x e ≠ 59 → fX5_next s (x e) = -1) ∧ ∀ k : Nat, i ≤ k → k < e → x k ≠ 59
set_option maxHeartbeats 4000000 in
theorem part_at {x M U : Nat → Int32} {n i : Nat} {r : Int32} (hA : AT M n i) (h : (r, U) = fX7_readsPart x M) :
    (∀ k : Nat, (k < 4 ∨ 8 < k) → U k = M k) ∧ ((r = 0 ∧ ∃ e : Nat, AT U n e ∧ PB x n i e) ∨
    (r = 1 ∧ ∃ e g : Nat, AT U n e ∧ PG x n i e ∧ U 5 = 1 ∧ U 6 = nI g ∧ g ≤ 15 ∧ x i = 45 ∧ fX5_numberIn x (nI n) (i + 1) (nI e) = nI g) ∨
    (r = 1 ∧ ∃ e g t z : Nat, AT U n e ∧ PG x n i e ∧ U 5 = 0 ∧ U 6 = nI g ∧ g ≤ 15 ∧ U 7 = nI t ∧ t < 4 ∧ U 8 = nI z ∧ z < 8 ∧ x i ≠ 45 ∧ i + 4 ≤ e ∧ fX5_numberIn x (nI n) i (nI (e - 3)) = nI g ∧ x (e - 2) = nI (48 + t) ∧ x (e - 1) = nI (97 + z))) := by
  have hn := hA.1
  have h10 : ¬ (1 : Int32) = 0 := by decide
  unfold fX7_readsPart at h
  obtain ⟨r4, U4, e4⟩ : ∃ (r4 : Int32) (U4 : Nat → Int32), fX7_takes x M 45 = (r4, U4) := ⟨_, _, pr_eta _⟩
  rw [e4, bd2_mk] at h
  obtain ⟨r11, U11, e11⟩ : ∃ (r11 : Int32) (U11 : Nat → Int32), fX7_readsGuest x (upd U4 5 r4) = (r11, U11) := ⟨_, _, pr_eta _⟩
  rw [e11, bd2_mk] at h
  rcases takes_is hA (v := 45) (by decide) e4.symm with ⟨a1, a2, rfl, a4, a5⟩ | ⟨a1, rfl, a4, a5⟩
  · -- a riser
    have hp1 : PH x 1 i 0 6 := PH_1 (by rw [a2]; decide) (by decide)
    have u5 : (upd U4 5 1) 5 = 1 := upd_eq
    rcases guest_ok (a4.keep (k := 5) (v := 1) (by decide) (by decide)) e11.symm with ⟨b1, rfl, b3, b4, b5⟩ | ⟨l, g, b0, b1, b2, rfl, b3, b4, b5, b6, b7, b8⟩
    · rw [if_pos rfl, b5 5 (by decide) (by decide), u5, if_neg h10, b4, if_pos rfl] at h
      cases h
      refine ⟨fun k hk => (b5 k (by omega) (by omega)).trans ((upd_ne (by omega)).trans (a5 k (by omega))), Or.inl ⟨rfl, i + 1, b3, 1, 6, rfl, hp1, by decide, by decide, by decide, fun hi => n6_f (in_slt b1 hi)⟩⟩
    · rw [if_neg h10, b5 5 (by decide) (by decide), u5, if_neg h10, if_neg h10, b4, if_neg (nI_m1 (by omega))] at h
      cases h
      refine ⟨fun k hk => (b5 k (by omega) (by omega)).trans ((upd_ne (by omega)).trans (a5 k (by omega))), Or.inr (Or.inl ⟨rfl, i + 1 + l, g, b3, ?_, (b5 5 (by decide) (by decide)).trans u5, b4, b2, a2, b6⟩)⟩
      have no : ∀ k : Nat, i ≤ k → k < i + 1 + l → x k ≠ 59 := fun k k1 k2 => by
        by_cases ck : k = i
        · subst ck; rw [a2]; decide
        · exact (b7 k (by omega) k2).1
      rcases b8 with ⟨c1, c2, c3⟩ | ⟨c2, c3⟩
      · exact ⟨1 + l, 7, by omega, by omega, PH_add hp1 c3, Or.inr (Or.inl rfl), fun hi h59 => n7_f (in_slt c1 hi) h59, no⟩
      · exact ⟨1 + l, 8, by omega, by omega, PH_add hp1 c3, Or.inr (Or.inr rfl), fun hi h59 => n8_f h59, no⟩
  · -- a guest who sits down
    have u5 : (upd U4 5 0) 5 = 0 := upd_eq
    rcases guest_ok (a4.keep (k := 5) (v := 0) (by decide) (by decide)) e11.symm with ⟨b1, rfl, b3, b4, b5⟩ | ⟨l, g, b0, b1, b2, rfl, b3, b4, b5, b6, b7, b8⟩
    · rw [if_pos rfl, b5 5 (by decide) (by decide), u5, if_pos rfl] at h
      cases h
      refine ⟨fun k hk => (b5 k (by omega) (by omega)).trans ((upd_ne (by omega)).trans (a5 k)), Or.inl ⟨rfl, i, b3, 0, 0, rfl, rfl, by decide, by decide, by decide, fun hi => n0_f (sg_lt a1 hi) (in_slt b1 hi)⟩⟩
    · rw [if_neg h10, b5 5 (by decide) (by decide), u5, if_pos rfl] at h
      have kb : ∀ k : Nat, (k < 4 ∨ 8 < k) → U11 k = M k := fun k hk => (b5 k (by omega) (by omega)).trans ((upd_ne (by omega)).trans (a5 k))
      have k5 : U11 5 = 0 := (b5 5 (by decide) (by decide)).trans u5
      have hi0 : i < n := by omega
      obtain ⟨r49, U49, e49⟩ : ∃ (r49 : Int32) (U49 : Nat → Int32), fX7_takes x U11 64 = (r49, U49) := ⟨_, _, pr_eta _⟩
      rw [e49, bd2_mk] at h
      rcases takes_is b3 (v := 64) (by decide) e49.symm with ⟨c1, c2, rfl, c4, c5⟩ | ⟨c1, rfl, c4, c5⟩
      · have hp3 : PH x (l + 1) i 0 3 := by
          rcases b8 with ⟨_, d2, _⟩ | ⟨d2, _⟩
          · exact PH_s d2 rfl (by rw [c2]; decide) (by decide)
          · exact PH_s d2 rfl (by rw [c2]; decide) (by decide)
        rw [if_neg h10] at h
        obtain ⟨r60, U60, e60⟩ : ∃ (r60 : Int32) (U60 : Nat → Int32), fX7_readsOne x U49 48 51 = (r60, U60) := ⟨_, _, pr_eta _⟩
        rw [bd2_id, e60, bd2_mk] at h
        rcases reads_is (lo := 48) (hi := 51) c4 (by decide) (by decide) (by decide) e60.symm with ⟨t, d1, d2, d3, rfl, d5, d6⟩ | ⟨d1, rfl, d5, d6⟩
        · rw [if_neg (nI_m1 (by omega))] at h
          have hp4 : PH x (l + 1 + 1) i 0 4 := PH_s hp3 (j := i + l + 1) (by omega) (by rw [d2]; exact n3_d t (by omega)) (by decide)
          obtain ⟨r84, U84, e84⟩ : ∃ (r84 : Int32) (U84 : Nat → Int32), fX7_readsOne x (upd U60 7 (nI t)) 97 104 = (r84, U84) := ⟨_, _, pr_eta _⟩
          rw [bd2_id, e84, bd2_mk] at h
          have ku : ∀ k : Nat, k ≠ 4 → k ≠ 7 → (upd U60 7 (nI t)) k = U11 k := fun k k4 k7 => (upd_ne k7).trans ((d6 k k4).trans (c5 k k4))
          rcases reads_is (lo := 97) (hi := 104) (d5.keep (k := 7) (v := nI t) (by decide) (by decide)) (by decide) (by decide) (by decide) e84.symm with ⟨z, f1, f2, f3, rfl, f5, f6⟩ | ⟨f1, rfl, f5, f6⟩
          · rw [if_neg (nI_m1 (by omega))] at h
            cases h
            have kk : ∀ k : Nat, k ≠ 4 → k ≠ 7 → k ≠ 8 → (upd U84 8 (nI z)) k = U11 k := fun k k4 k7 k8 => (upd_ne k8).trans ((f6 k k4).trans (ku k k4 k7))
            refine ⟨fun k hk => (kk k (by omega) (by omega) (by omega)).trans (kb k hk), Or.inr (Or.inr ⟨rfl, i + l + 1 + 1 + 1, g, t, z, f5.keep (by decide) (by decide), ⟨l + 1 + 1 + 1, 5, by omega, by omega, PH_s hp4 (j := i + l + 1 + 1) (by omega) (by rw [f2]; exact n4_d z (by omega)) (by decide), Or.inl rfl, fun _ h59 => n5_f h59, fun k k1 k2 => ?_⟩, (kk 5 (by decide) (by decide) (by decide)).trans k5, (kk 6 (by decide) (by decide) (by decide)).trans b4, b2, (upd_ne (by decide)).trans ((f6 7 (by decide)).trans upd_eq), by omega, upd_eq, by omega, (b7 i (by omega) (by omega)).2, by omega, ?_, ?_, ?_⟩)⟩
            · have hk : k < i + l ∨ k = i + l ∨ k = i + l + 1 ∨ k = i + l + 1 + 1 := by omega
              rcases hk with hk | rfl | rfl | rfl
              · exact (b7 k k1 hk).1
              · rw [c2]; decide
              · rw [d2]; exact nI_nc (b := 59) (by omega) (by decide) (by omega)
              · rw [f2]; exact nI_nc (b := 59) (by omega) (by decide) (by omega)
            · rw [show i + l + 1 + 1 + 1 - 3 = i + l by omega]; exact b6
            · rw [show i + l + 1 + 1 + 1 - 2 = i + l + 1 by omega]; exact d2
            · rw [show i + l + 1 + 1 + 1 - 1 = i + l + 1 + 1 by omega]; exact f2
          · rw [if_pos rfl] at h
            cases h
            refine ⟨fun k hk => (upd_ne (by omega)).trans ((f6 k).trans ((ku k (by omega) (by omega)).trans (kb k hk))), Or.inl ⟨rfl, i + l + 1 + 1, f5.keep (by decide) (by decide), l + 1 + 1, 4, by omega, hp4, by decide, by decide, by decide, fun hi => n4_f (in_slt f1 hi)⟩⟩
        · rw [if_pos rfl, bd2_mk, if_pos rfl] at h
          cases h
          refine ⟨fun k hk => (upd_ne (by omega)).trans ((upd_ne (by omega)).trans ((d6 k).trans ((c5 k (by omega)).trans (kb k hk)))), Or.inl ⟨rfl, i + l + 1, (d5.keep (by decide) (by decide)).keep (by decide) (by decide), l + 1, 3, by omega, hp3, by decide, by decide, by decide, fun hi => n3_f (in_slt d1 hi)⟩⟩
      · rw [if_pos rfl, bd2_mk, if_pos rfl, bd2_mk, if_pos rfl] at h
        cases h
        refine ⟨fun k hk => (upd_ne (by omega)).trans ((upd_ne (by omega)).trans ((c5 k).trans (kb k hk))), Or.inl ⟨rfl, i + l, (c4.keep (by decide) (by decide)).keep (by decide) (by decide), ?_⟩⟩
        rcases b8 with ⟨d1, d2, _⟩ | ⟨d2, _⟩
        · exact ⟨l, 1, rfl, d2, by decide, by decide, by decide, fun hi => n1_f (in_slt d1 hi) (sg_lt c1 hi)⟩
        · exact ⟨l, 2, rfl, d2, by decide, by decide, by decide, fun hi => n2_f (sg_lt c1 hi)⟩
