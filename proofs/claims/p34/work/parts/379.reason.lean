theorem bd2_eq {A B ρ : Type} (x : A × B) (f : A → B → ρ) : bd2 x f = f x.1 x.2 := rfl
theorem lq2_flag {ρ : Type} {b : Nat → Int32 → Int32 → (Int32 → Int32 → ρ) → ρ} {r : Int32 → Int32 → ρ} {N : Nat} (u : Nat → Int32) (q : Nat → Prop) (hb : ∀ (k : Nat) (x y : Int32) (nx : Int32 → Int32 → ρ), k < N → ∃ y' : Int32, b k x y nx = nx (x + u k) y' ∧ (y' = 0 ↔ y = 0 ∧ ¬ q k)) : ∀ (n k : Nat) (x y : Int32), k + n = N → x = sm k u → (y = 0 ↔ ∀ i : Nat, i < k → ¬ q i) → ∃ Y : Int32, lq2 b r n k x y = r (sm N u) Y ∧ (Y = 0 ↔ ∀ i : Nat, i < N → ¬ q i)
  | 0, k, x, y, h, hx, hy => by
    obtain rfl : k = N := by omega
    exact ⟨y, by rw [lq2_z, hx], hy⟩
  | n + 1, k, x, y, h, hx, hy => by
    obtain ⟨y', h1, h2⟩ := hb k x y (lq2 b r n (k + 1)) (by omega)
    obtain ⟨Y, h3, h4⟩ := lq2_flag u q hb n (k + 1) (x + u k) y' (by omega) (by rw [hx]; rfl) (by
      rw [h2, hy]
      constructor
      · rintro ⟨h5, h6⟩ i hi
        rcases Nat.eq_or_lt_of_le (Nat.le_of_lt_succ hi) with e | e
        · subst e; exact h6
        · exact h5 i e
      · exact fun h5 => ⟨fun i hi => h5 i (by omega), h5 k (by omega)⟩)
    exact ⟨Y, by rw [lq2_s, h1, h3], h4⟩
/-- the part of the reasons that looks at the table's guests -/
theorem reason_tail {P : PV} {f : Nat → Int32} {b G T : Nat} {L : List Nat} (h : REL P f b G T L) {g t : Nat} (hg : g < G) (ht : t < T) :
    (if (fX2_foeMask P (fX3_at 16 (P 0) (nI g))) &&& (fX2_familyMask P (nI t)) = 0 then (bd ((if (fX3_at 16 (P 3) (nI g)) = nI t then ((fX2_familyAt P (nI t) (fX3_at 16 (P 0) (nI g))) + (-1)) else (fX2_familyAt P (nI t) (fX3_at 16 (P 0) (nI g)))) : Int32) (fun v90_0 => (if v90_0 < (fX3_at 4 (P 7) 0) then (0 : Int32) else 5))) else 4) = lq2 (fX7_reason_b58 f b g (nI t)) (fX7_reason_r58 f b) ((f (b + 0)).toNatClampNeg) 0 0 0 := by
  have hG := h.wf.G16
  have hT := h.wf.hT
  have h8 := h.wf.f8
  obtain ⟨v, hv, ev⟩ := h.wf.fam g hg
  obtain ⟨Y, e1, e2⟩ := lq2_flag (b := fX7_reason_b58 f b g (nI t)) (r := fX7_reason_r58 f b) (N := G) (fun k => if k = g then 0 else (if fX7_of f b k 3 = nI t then (if fX7_of f b k 0 = nI v then 1 else 0) else 0)) (fun k => k ≠ g ∧ fX7_of f b k 3 = nI t ∧ FD f b (fX7_feudOf (nI v) (fX7_of f b k 0))) (fun k x y nx hk => by
    unfold fX7_reason_b58
    rw [bd2_eq]
    by_cases c : k = g
    · subst c
      refine ⟨y, ?_, ?_⟩
      · rw [if_pos rfl, if_pos rfl, Int32.add_zero]
      · exact ⟨fun e => ⟨e, fun e2 => e2.1 rfl⟩, fun e => e.1⟩
    · rw [if_neg (show ¬ nI k = nI g from fun e => c ((nI_eq (by omega) (by omega)).mp e))]
      by_cases c3 : fX7_of f b k 3 = nI t
      · simp only [if_pos c3, bd_eq, if_neg c, ev]
        by_cases cf : FD f b (fX7_feudOf (nI v) (fX7_of f b k 0))
        · rw [if_neg (fun e => (feudPlace_m1 h8).mp e cf)]
          refine ⟨nI (if y = 0 then 1 else 1), ?_, ?_⟩
          · congr 2
            by_cases c4 : fX7_of f b k 0 = nI v
            · rw [if_pos c4, if_pos c4]; rfl
            · rw [if_neg c4, if_neg c4]; rfl
          · refine ⟨fun e => ?_, fun e => absurd ⟨c, c3, cf⟩ e.2⟩
            exfalso
            by_cases cy : y = 0
            · rw [if_pos cy] at e; exact absurd e (by decide)
            · rw [if_neg cy] at e; exact absurd e (by decide)
        · rw [if_pos ((feudPlace_m1 h8).mpr cf)]
          refine ⟨nI (if y = 0 then 0 else 1), ?_, ?_⟩
          · congr 2
            by_cases c4 : fX7_of f b k 0 = nI v
            · rw [if_pos c4, if_pos c4]; rfl
            · rw [if_neg c4, if_neg c4]; rfl
          · by_cases cy : y = 0
            · rw [if_pos cy]
              exact ⟨fun _ => ⟨cy, fun e => cf e.2.2⟩, fun _ => rfl⟩
            · rw [if_neg cy]
              exact ⟨fun e => absurd e (by decide), fun e => absurd e.1 cy⟩
      · simp only [if_neg c3, if_neg c]
        exact ⟨y, by rw [Int32.add_zero], fun e => ⟨e, fun e2 => c3 e2.2.1⟩, fun e => e.1⟩) G 0 0 0 (Nat.zero_add G) rfl ⟨fun _ i hi => absurd hi (Nat.not_lt_zero i), fun _ => rfl⟩
  rw [h.wf.gN, e1]
  unfold fX7_reason_r58
  have hm : (fX2_foeMask P (fX3_at 16 (P 0) (nI g))) &&& (fX2_familyMask P (nI t)) = 0 ↔ Y = 0 := by
    rw [e2, HB_and, h.rat (by decide) (by omega), ev]
    constructor
    · rintro h1 x hx ⟨k1, k2, k3⟩
      obtain ⟨w, hw, ew⟩ := h.wf.fam x hx
      rw [ew, fc_ref v hv w hw] at k3
      exact h1 w (by omega) ⟨(foeMask_bits h hv hw).mpr k3, (famMask_bits h ht (by omega)).mpr ⟨x, hx, k2, ew⟩⟩
    · rintro h1 i hi ⟨k1, k2⟩
      obtain ⟨x, hx, k3, k4⟩ := (famMask_bits h ht hi).mp k2
      obtain ⟨w, hw, ew⟩ := h.wf.fam x hx
      obtain rfl : w = i := (nI_eq (by omega) (by omega)).mp (ew.symm.trans k4)
      have k5 := (foeMask_bits h hv hw).mp k1
      refine h1 x hx ⟨?_, k3, by rw [ew, fc_ref v hv w hw]; exact k5⟩
      rintro rfl
      obtain rfl : v = w := (nI_eq (by omega) (by omega)).mp (ev.symm.trans ew)
      obtain ⟨k, k6, k7⟩ := k5
      obtain ⟨a, c, k8, k9, k10⟩ := h.wf.fc k6
      have k11 := (nI_eq (show fc v v < 2 ^ 31 by unfold fc; split <;> omega) (by omega)).mp (k7.symm.trans k10)
      unfold fc at k11
      split at k11 <;> omega
  by_cases cy : Y = 0
  · rw [if_pos (hm.mpr cy), if_pos cy, bd_eq, h.sat (k := 0) (x := 0) (by decide) rfl, h.rat (by decide) (by omega), h.rat (by decide) (by omega), ev, familyAt_sum h ht]
    have e5 : sm G (fun x => if fX7_of f b x 3 = nI t then (if fX7_of f b x 0 = nI v then (1 : Int32) else 0) else 0) = sm G (fun k => if k = g then 0 else (if fX7_of f b k 3 = nI t then (if fX7_of f b k 0 = nI v then 1 else 0) else 0)) + (if fX7_of f b g 3 = nI t then 1 else 0) := by
      have e6 : (if fX7_of f b g 3 = nI t then (1 : Int32) else 0) = sm G (fun x => if x = g then (if fX7_of f b g 3 = nI t then (1 : Int32) else 0) else 0) := by
        rw [sm_one hg (fun i _ hne => if_neg hne), if_pos rfl]
      rw [e6, ← sm_add]
      refine sm_congr (fun x hx => ?_)
      by_cases c : x = g
      · subst c
        rw [if_pos rfl, if_pos rfl, Int32.zero_add, if_pos ev]
      · rw [if_neg c, if_neg c, Int32.add_zero]
    rw [e5]
    congr 2
    by_cases c : fX7_of f b g 3 = nI t
    · rw [if_pos c, if_pos c, Int32.add_assoc]
      exact Int32.add_zero _
    · rw [if_neg c, if_neg c, Int32.add_zero]
  · rw [if_neg (fun e => cy (hm.mp e)), if_neg cy]
theorem reason_eq {P : PV} {f : Nat → Int32} {b G T : Nat} {L : List Nat} (h : REL P f b G T L) {g t z : Nat} (hg : g < G) (ht : t < T) (hz : z < 8) : fX2_reasonAgainst P (nI g) (nI t) (nI z) = fX7_reason f b g (nI t) (nI z) := by
  have hG := h.wf.G16
  unfold fX2_reasonAgainst fX7_reason
  rw [reason_tail h hg ht, h.hold ht hz, h.rat (w := 1) (by decide) (by omega), show fX2_isAtLeg (nI z) = fX7_isAtLeg (nI z) from rfl]
  rcases who_is h.wf (nI t) (nI z) with ⟨j, h1, h2, h3, h4⟩ | ⟨h1, h2⟩
  · rw [h4, if_neg (show ¬ nI j = -1 from nI_m1 (by omega)), if_neg (show ¬ nI j = -1 from nI_m1 (by omega))]
  · rw [h2, if_neg (show ¬ (-1 : Int32) = nI g from fun e => nI_m1 (by omega) e.symm), if_pos rfl, if_pos rfl]

