/-! what holds besides, of every state that the law meets: legs, feuds, counts. Mine. -/
def XI (f : Nat → Int32) (G : Nat) (L : List Nat) : Prop :=
  (∀ g z : Nat, g < G → z < 8 → fX7_of f 0 g 3 ≠ -1 → fX7_of f 0 g 1 = 3 → fX7_of f 0 g 4 = nI z → z % 3 ≠ 0) ∧
  (∀ g h a c : Nat, g < G → h < G → a < 6 → c < 6 → fX7_of f 0 g 3 ≠ -1 → fX7_of f 0 g 3 = fX7_of f 0 h 3 → fX7_of f 0 g 0 = nI a → fX7_of f 0 h 0 = nI c → ¬ FD f 0 (nI (fc a c))) ∧
  f 4 - f 5 = nI L.length ∧
  (∀ g : Nat, g < G → fX7_of f 0 g 3 = -1 → fX7_of f 0 g 4 = -1)
def NW (P : PV) : Prop := ∃ (f : Nat → Int32) (G T : Nat) (L : List Nat), REL P f 0 G T L ∧ XI f G L
theorem XI_fr {f F : Nat → Int32} {G : Nat} {L : List Nat} (h : XI f G L) (h4 : F 4 = f 4) (h5 : F 5 = f 5) (hd : ∀ v : Int32, FD F 0 v → FD f 0 v) (ho : ∀ x w : Nat, x < G → w < 5 → w ≠ 2 → fX7_of F 0 x w = fX7_of f 0 x w) : XI F G L := by
  obtain ⟨a1, a2, a3, a4⟩ := h
  refine ⟨fun g z hg hz e3 e1 e4 => ?_, fun g k a c hg hk ha hc e3 e33 e0 e00 hf => ?_, by rw [h4, h5]; exact a3, fun g hg e3 => by
    rw [ho g 3 hg (by decide) (by decide)] at e3
    rw [ho g 4 hg (by decide) (by decide)]
    exact a4 g hg e3⟩
  · rw [ho g 3 hg (by decide) (by decide)] at e3
    rw [ho g 1 hg (by decide) (by decide)] at e1
    rw [ho g 4 hg (by decide) (by decide)] at e4
    exact a1 g z hg hz e3 e1 e4
  · rw [ho g 3 hg (by decide) (by decide)] at e3 e33
    rw [ho k 3 hk (by decide) (by decide)] at e33
    rw [ho g 0 hg (by decide) (by decide)] at e0
    rw [ho k 0 hk (by decide) (by decide)] at e00
    exact a2 g k a c hg hk ha hc e3 e33 e0 e00 (hd _ hf)
theorem FD_fr {f F : Nat → Int32} (h2 : F 2 = f 2) (h8 : (f 2).toNatClampNeg ≤ 8) (hc : ∀ k : Nat, k < 8 → F (10 + k) = f (10 + k)) (v : Int32) : FD F 0 v → FD f 0 v := by
  rintro ⟨k, hk, e⟩
  rw [Nat.zero_add] at hk e
  rw [h2] at hk
  rw [hc k (by omega)] at e
  refine ⟨k, ?_, ?_⟩
  · rw [Nat.zero_add]; exact hk
  · rw [Nat.zero_add]; exact e
theorem filter_len {g : Nat} : ∀ {L : List Nat}, L.Nodup → g ∈ L → (L.filter (fun x => decide (x ≠ g))).length + 1 = L.length
  | [], _, h => absurd h List.not_mem_nil
  | y :: L, hn, h => by
    obtain ⟨h1, h2⟩ := List.nodup_cons.mp hn
    by_cases c : y = g
    · subst c
      have e : decide (y ≠ y) = false := by simp
      rw [List.filter_cons, e, filter_out h1]
      rfl
    · have e : decide (y ≠ g) = true := by simp [c]
      have hg : g ∈ L := by
        rcases List.mem_cons.mp h with e2 | e2
        · exact absurd e2.symm c
        · exact e2
      rw [List.filter_cons, e, if_pos rfl, List.length_cons, List.length_cons, filter_len h2 hg]
theorem i32_sub_up (a b : Int32) : a - (b + 1) = a - b - 1 := (Int32.sub_sub a b 1).symm
theorem i32_up_sub (a b : Int32) : a + 1 - b = a - b + 1 := by
  rw [Int32.sub_eq_add_neg, Int32.sub_eq_add_neg, Int32.add_assoc, Int32.add_comm 1, ← Int32.add_assoc]
theorem XI_stand {f : Nat → Int32} {G T g : Nat} {L : List Nat} (hW : WF f 0 G T L) (h : XI f G L) (hg : g < G) (hs : fX7_of f 0 g 3 ≠ -1) : XI (fX7_standsUp f 0 g) G (L.filter (fun x => decide (x ≠ g))) := by
  have hG := hW.G16
  obtain ⟨a1, a2, a3, a4⟩ := h
  obtain ⟨s1, s2, s3, s4, s5, s6⟩ := stand_fr hW.ro (show g < 16 by omega)
  generalize fX7_standsUp f 0 g = F at s1 s2 s3 s4 s5 s6 ⊢
  have e4 : F 4 = f 4 := by have := s1 4 (Or.inr (Or.inl rfl)); rw [Nat.zero_add] at this; exact this
  have e5 : F 5 = f 5 + 1 := by have := s5; rw [Nat.zero_add] at this; exact this
  have e2 : F 2 = f 2 := by have := s1 2 (Or.inl (by decide)); rw [Nat.zero_add] at this; exact this
  have ec : ∀ k : Nat, k < 8 → F (10 + k) = f (10 + k) := fun k hk => by have := s1 (10 + k) (Or.inr (Or.inr ⟨by omega, by omega⟩)); rw [Nat.zero_add] at this; exact this
  have h8 : (f 2).toNatClampNeg ≤ 8 := by have := hW.f8; rw [Nat.zero_add] at this; exact this
  have ne : ∀ x : Nat, x < G → fX7_of (F) 0 x 3 ≠ -1 → x ≠ g := fun x hx e z => by rw [z] at e; exact e s3
  have ho : ∀ x w : Nat, x < G → w < 5 → x ≠ g → fX7_of (F) 0 x w = fX7_of f 0 x w := fun x w hx hw hxg => s2 x w (by omega) hw (Or.inl hxg)
  have ho3 : ∀ x w : Nat, x < G → w < 3 → fX7_of (F) 0 x w = fX7_of f 0 x w := fun x w hx hw => s2 x w (by omega) (by omega) (Or.inr hw)
  refine ⟨fun x z hx hz e3 e1 e44 => ?_, fun x k a c hx hk ha hc e3 e33 e0 e00 hf => ?_, ?_, fun x hx e3 => by
    by_cases c : x = g
    · rw [c]; exact s4
    · rw [ho x 3 hx (by decide) c] at e3
      rw [ho x 4 hx (by decide) c]
      exact a4 x hx e3⟩
  · have hxg := ne x hx e3
    rw [ho x 3 hx (by decide) hxg] at e3
    rw [ho x 1 hx (by decide) hxg] at e1
    rw [ho x 4 hx (by decide) hxg] at e44
    exact a1 x z hx hz e3 e1 e44
  · have hxg := ne x hx e3
    have hkg := ne k hk (by rw [← e33]; exact e3)
    rw [ho x 3 hx (by decide) hxg] at e3 e33
    rw [ho k 3 hk (by decide) hkg] at e33
    rw [ho3 x 0 hx (by decide)] at e0
    rw [ho3 k 0 hk (by decide)] at e00
    exact a2 x k a c hx hk ha hc e3 e33 e0 e00 (FD_fr e2 h8 ec _ hf)
  · have hm : g ∈ L := (hW.ro.2.2.2.2.2.2 g).mpr ⟨hg, hs⟩
    have hl := filter_len hW.ro.2.2.2.1 hm
    rw [e4, e5, i32_sub_up, a3, ← hl, ← nI_1, Int32.add_sub_cancel]
theorem XI_seat {f : Nat → Int32} {G T g t z n : Nat} {L : List Nat} (hW : WF f 0 G T L) (h : XI f G L) (hg : g < G) (hs : fX7_of f 0 g 3 = -1) (ht : t < T) (hn : f (0 + 18 + t) = nI n) (hz : z < n) (hn8 : n ≤ 8)
    (hleg : fX7_of f 0 g 1 = 3 → z % 3 ≠ 0) (hfoe : ∀ x a c : Nat, x < G → a < 6 → c < 6 → fX7_of f 0 x 3 = nI t → fX7_of f 0 g 0 = nI a → fX7_of f 0 x 0 = nI c → ¬ FD f 0 (nI (fc a c)) ∧ ¬ FD f 0 (nI (fc c a))) (hself : ∀ a : Nat, a < 6 → ¬ FD f 0 (nI (fc a a))) : XI (fX7_sitsDown f 0 g (nI t) (nI z)) G (L ++ [g]) := by
  have hG := hW.G16
  have hT := hW.hT
  obtain ⟨a1, a2, a3, a4⟩ := h
  obtain ⟨s1, s2, s3, s4, s5, s6⟩ := sit_fr hW.ro hg hs (nI t) (nI z)
  generalize fX7_sitsDown f 0 g (nI t) (nI z) = F at s1 s2 s3 s4 s5 s6 ⊢
  have e5 : F 5 = f 5 := by have := s1 5 (Or.inr (Or.inl rfl)); rw [Nat.zero_add] at this; exact this
  have e4 : F 4 = f 4 + 1 := by have := s5; rw [Nat.zero_add] at this; exact this
  have e2 : F 2 = f 2 := by have := s1 2 (Or.inl (by decide)); rw [Nat.zero_add] at this; exact this
  have ec : ∀ k : Nat, k < 8 → F (10 + k) = f (10 + k) := fun k hk => by have := s1 (10 + k) (Or.inr (Or.inr ⟨by omega, by omega⟩)); rw [Nat.zero_add] at this; exact this
  have h8 : (f 2).toNatClampNeg ≤ 8 := by have := hW.f8; rw [Nat.zero_add] at this; exact this
  have ho : ∀ x w : Nat, x < G → w < 5 → x ≠ g → fX7_of F 0 x w = fX7_of f 0 x w := fun x w hx hw hxg => s2 x w (by omega) hw (Or.inl hxg)
  have ho3 : ∀ x w : Nat, x < G → w < 3 → fX7_of F 0 x w = fX7_of f 0 x w := fun x w hx hw => s2 x w (by omega) (by omega) (Or.inr hw)
  refine ⟨fun x y hx hy e3 e1 e44 => ?_, fun x k a c hx hk ha hc e3 e33 e0 e00 hf => ?_, ?_, fun x hx e3 => by
    by_cases c : x = g
    · rw [c, s3] at e3
      exact absurd e3 (nI_m1 (by omega))
    · rw [ho x 3 hx (by decide) c] at e3
      rw [ho x 4 hx (by decide) c]
      exact a4 x hx e3⟩
  · rw [ho3 x 1 hx (by decide)] at e1
    by_cases hxg : x = g
    · subst hxg
      rw [s4] at e44
      obtain rfl : z = y := (nI_eq (by omega) (by omega)).mp e44
      exact hleg e1
    · rw [ho x 3 hx (by decide) hxg] at e3
      rw [ho x 4 hx (by decide) hxg] at e44
      exact a1 x y hx hy e3 e1 e44
  · have hf := FD_fr e2 h8 ec _ hf
    rw [ho3 x 0 hx (by decide)] at e0
    rw [ho3 k 0 hk (by decide)] at e00
    by_cases hxg : x = g
    · subst hxg
      by_cases hkg : k = x
      · subst hkg
        obtain rfl : a = c := (nI_eq (by omega) (by omega)).mp (e0.symm.trans e00)
        exact hself a ha hf
      · rw [s3, ho k 3 hk (by decide) hkg] at e33
        exact (hfoe k a c hk ha hc e33.symm e0 e00).1 hf
    · by_cases hkg : k = g
      · subst hkg
        rw [s3, ho x 3 hx (by decide) hxg] at e33
        exact (hfoe x c a hx hc ha e33 e00 e0).2 hf
      · rw [ho x 3 hx (by decide) hxg] at e3 e33
        rw [ho k 3 hk (by decide) hkg] at e33
        exact a2 x k a c hx hk ha hc e3 e33 e0 e00 hf
  · rw [e4, e5, i32_up_sub, a3, List.length_append, nI_1]
    rfl
theorem fc_sym (a c : Nat) : fc a c = fc c a := by
  unfold fc
  by_cases h : a ≤ c
  · by_cases h2 : c ≤ a
    · obtain rfl : a = c := by omega
      rfl
    · rw [if_pos h, if_neg h2]
  · rw [if_neg h, if_pos (by omega)]
theorem FD_self {f : Nat → Int32} {G T : Nat} {L : List Nat} (hW : WF f 0 G T L) {a : Nat} (ha : a < 6) : ¬ FD f 0 (nI (fc a a)) := by
  rintro ⟨k, hk, e⟩
  obtain ⟨p, q, k8, k9, k10⟩ := hW.fc hk
  have e2 := (nI_eq (show fc a a < 2 ^ 31 by unfold fc; split <;> omega) (by omega)).mp (e.symm.trans k10)
  unfold fc at e2
  rw [if_pos (Nat.le_refl a)] at e2
  omega
/-- what no reason against a seat says -/
theorem reason0 {P : PV} {f : Nat → Int32} {G T g t z n : Nat} {L : List Nat} (hR : REL P f 0 G T L) (hg : g < G) (ht : t < T) (hz : z < n) (hn8 : n ≤ 8) (h0 : fX2_reasonAgainst P (nI g) (nI t) (nI z) = 0) :
    fX7_whoSits f 0 (nI t) (nI z) = -1 ∧ (fX7_of f 0 g 1 = 3 → z % 3 ≠ 0) ∧ ∀ x a c : Nat, x < G → a < 6 → c < 6 → fX7_of f 0 x 3 = nI t → fX7_of f 0 g 0 = nI a → fX7_of f 0 x 0 = nI c → ¬ FD f 0 (nI (fc a c)) ∧ ¬ FD f 0 (nI (fc c a)) := by
  have hG := hR.wf.G16
  have hT := hR.wf.hT
  have hw : fX7_whoSits f 0 (nI t) (nI z) = -1 := reason_free (by rw [← reason_eq hR hg ht (by omega)]; exact h0)
  refine ⟨hw, ?_⟩
  have hh : fX2_holderAt P (nI t) (nI z) = -1 := (hR.hold ht (by omega)).trans hw
  have hmask : fX2_foeMask P (fX3_at 16 (P 0) (nI g)) &&& fX2_familyMask P (nI t) = 0 ∧ (fX7_of f 0 g 1 = 3 → z % 3 ≠ 0) := by
    unfold fX2_reasonAgainst at h0
    rw [hh, if_neg (fun e => nI_m1 (n := g) (by omega) e.symm), if_pos rfl] at h0
    have hleg : fX2_isAtLeg (nI z) = 0 ↔ ¬ z % 3 = 0 := leg_nat (k := z) (by omega)
    by_cases c1 : fX2_isAtLeg (nI z) = 0
    · rw [if_pos c1] at h0
      refine ⟨?_, fun _ => hleg.mp c1⟩
      by_cases c2 : fX2_foeMask P (fX3_at 16 (P 0) (nI g)) &&& fX2_familyMask P (nI t) = 0
      · exact c2
      · rw [if_neg c2] at h0
        exact absurd h0 (by decide)
    · rw [if_neg c1] at h0
      by_cases c3 : fX3_at 16 (P 1) (nI g) = 3
      · rw [if_pos c3] at h0
        exact absurd h0 (by decide)
      · rw [if_neg c3] at h0
        refine ⟨?_, fun e => absurd (by rw [hR.rat (by decide) (by omega)]; exact e) c3⟩
        by_cases c2 : fX2_foeMask P (fX3_at 16 (P 0) (nI g)) &&& fX2_familyMask P (nI t) = 0
        · exact c2
        · rw [if_neg c2] at h0
          exact absurd h0 (by decide)
  refine ⟨hmask.2, fun x a c hx ha hc e3 e0 e00 => ?_⟩
  have hm := hmask.1
  rw [hR.rat (by decide) (by omega), e0, HB_and] at hm
  have hno : ¬ FD f 0 (nI (fc a c)) := fun hf => hm c (by omega) ⟨(foeMask_bits hR ha hc).mpr hf, (famMask_bits hR ht (by omega)).mpr ⟨x, hx, e3, e00⟩⟩
  exact ⟨hno, by rw [fc_sym c a]; exact hno⟩
