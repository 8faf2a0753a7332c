theorem sits_at {f : Nat → Int32} {b g n : Nat} {tb z : Int32} (hB : b ≤ 944) (hg : g < 16) (hn : n ≤ 15) (hS : sitMid f b g (b + 3) = nI n) :
    fX7_sitsDown f b g tb z = upd (upd (upd (upd (upd (sitMid f b g) (b + 38 + 5 * g + 3) tb) (b + 38 + 5 * g + 4) z) (b + 22 + n) (nI g)) (b + 3) (nI (n + 1))) (b + 4) (sitMid f b g (b + 4) + 1) := by
  unfold fX7_sitsDown
  rw [show (if (fX7_of f b g 3) = (-1) then f else (bd (fX7_standsUp f b g) (fun U14 => U14))) = sitMid f b g from rfl]
  generalize sitMid f b g = V at hS ⊢
  unfold bd
  simp only [lay_eq]
  have e3 : (upd (upd V (b + 38 + 5 * g + 3) tb) (b + 38 + 5 * g + 4) z) (b + 3) = nI n := by rw [upd_ne (by omega), upd_ne (by omega)]; exact hS
  have e4 : (upd (upd (upd (upd V (b + 38 + 5 * g + 3) tb) (b + 38 + 5 * g + 4) z) (b + 22 + n) (nI g)) (b + 3) (nI (n + 1))) (b + 4) = V (b + 4) := by rw [upd_ne (by omega), upd_ne (by omega), upd_ne (by omega), upd_ne (by omega)]
  have e5 : (upd (upd (upd V (b + 38 + 5 * g + 3) tb) (b + 38 + 5 * g + 4) z) (b + 22 + n) (nI g)) (b + 3) = nI n := by rw [upd_ne (by omega)]; exact e3
  rw [e3, nI_clamp (by omega), e5, nI_1, e4]
theorem RO_sits {f : Nat → Int32} {b G g : Nat} {L : List Nat} (h : RO f b G L) (hg : g < G) {tb z : Int32} (hT : TW tb) (ht : tb ≠ -1) : RO (fX7_sitsDown f b g tb z) b G (L.filter (fun x => decide (x ≠ g)) ++ [g]) := by
  obtain ⟨L', h', rfl, hs⟩ := RO_mid h hg
  have hl15 := h'.len15 hg hs
  have hG16 := h.2.2.1
  have hB := h.1.1
  obtain ⟨⟨rB, rG, rT, rF, rS, rTW, rWW⟩, hG, -, hnd, hS, hO, hM⟩ := h'
  rw [sits_at hB (by omega) hl15 hS]
  generalize hLe : L.filter (fun x => decide (x ≠ g)) = L2 at *
  generalize sitMid f b g = V at *
  have hgn : g ∉ L2 := fun hm => ((hM g).mp hm).2 hs
  refine ⟨⟨rB, ?_, ?_, ?_, ?_, fun j hj => ?_, fun j hj => ?_⟩, ?_, hG16, List.nodup_append.mpr ⟨hnd, by simp, fun a ha c hc => ?_⟩, ?_, fun k x hx => ?_, fun j => ?_⟩
  · rw [upd_ne (by omega), upd_ne (by omega), upd_ne (by omega), upd_ne (by omega), upd_ne (by omega)]; exact rG
  · rw [upd_ne (by omega), upd_ne (by omega), upd_ne (by omega), upd_ne (by omega), upd_ne (by omega)]; exact rT
  · rw [upd_ne (by omega), upd_ne (by omega), upd_ne (by omega), upd_ne (by omega), upd_ne (by omega)]; exact rF
  · rw [upd_ne (by omega), upd_eq]; exact ⟨_, by omega, rfl⟩
  · rw [upd_ne (by omega), upd_ne (by omega), upd_ne (by omega), upd_ne (by omega)]
    by_cases hjg : j = g
    · subst hjg; rw [upd_eq]; exact hT
    · rw [upd_ne (by omega)]; exact rTW j hj
  · rw [upd_ne (by omega), upd_ne (by omega), upd_ne (by omega), upd_ne (by omega), upd_ne (by omega)]; exact rWW j hj
  · rw [upd_ne (by omega), upd_ne (by omega), upd_ne (by omega), upd_ne (by omega), upd_ne (by omega)]; exact hG
  · rw [List.mem_singleton] at hc
    subst hc
    exact fun e => hgn (e ▸ ha)
  · rw [upd_ne (by omega), upd_eq, List.length_append]; rfl
  · have hk : k < (L2 ++ [g]).length := (List.getElem?_eq_some_iff.mp hx).1
    rw [List.length_append, List.length_singleton] at hk
    rw [upd_ne (by omega), upd_ne (by omega)]
    by_cases hk2 : k = L2.length
    · subst hk2
      rw [upd_eq]
      rw [List.getElem?_append_right (Nat.le_refl _), Nat.sub_self] at hx
      cases hx
      rfl
    · rw [upd_ne (by omega), upd_ne (by omega), upd_ne (by omega)]
      rw [List.getElem?_append_left (by omega)] at hx
      exact hO k x hx
  · rw [List.mem_append, List.mem_singleton, hM j]
    by_cases hjg : j = g
    · subst hjg
      rw [upd_ne (by omega), upd_ne (by omega), upd_ne (by omega), upd_ne (by omega), upd_eq]
      simp [hg, ht]
    · by_cases hjG : j < G
      · rw [upd_ne (by omega), upd_ne (by omega), upd_ne (by omega), upd_ne (by omega), upd_ne (by omega)]
        simp [hjg]
      · simp [hjG, hjg]
theorem best_range {f : Nat → Int32} {b : Nat} (hR : RW f b) (g : Nat) : fX7_best f b g = -1 ∨ ∃ k : Nat, k < 32 ∧ fX7_best f b g = nI k := by
  obtain ⟨rB, rG, rT0, -⟩ := hR
  have r8 : (8 * (f (b + 1))).toNatClampNeg ≤ 32 := T8_le rT0
  unfold fX7_best
  generalize (8 * (f (b + 1))).toNatClampNeg = N8 at r8 ⊢
  refine lq2_ind (N := N8) (fun k _ y => y = -1 ∨ ∃ j : Nat, j < k ∧ y = nI j) (fun r => r = -1 ∨ ∃ k : Nat, k < 32 ∧ r = nI k) (fun k x y nx hk hI hn => ?_) (fun x y hI => ?_) _ _ _ _ (Nat.zero_add _) (Or.inl rfl)
  · have hI' : y = -1 ∨ ∃ j : Nat, j < k + 1 ∧ y = nI j := hI.imp_right (fun ⟨j, hj, e⟩ => ⟨j, by omega, e⟩)
    have hk' : (nI k = -1 ∨ ∃ j : Nat, j < k + 1 ∧ nI k = nI j) := Or.inr ⟨k, by omega, rfl⟩
    unfold fX7_best_b8 bd2 bd
    refine hn _ _ ?_
    repeat' split
    all_goals first | exact hI' | exact hk'
  · exact hI.imp_right (fun ⟨j, hj, e⟩ => ⟨j, by omega, e⟩)
theorem div8_tw {x : Int32} (h : x = -1 ∨ ∃ k : Nat, k < 32 ∧ x = nI k) (hx : ¬ x = -1) : TW (x / 8) ∧ x / 8 ≠ -1 := by
  obtain ⟨k, hk, rfl⟩ := h.resolve_left hx
  have e : nI k / 8 = nI (k / 8) := pk_div (d := 8) (by omega) (by decide) (by decide)
  rw [e]
  refine ⟨Or.inr ⟨k / 8, by omega, rfl⟩, fun z => ?_⟩
  have h1 := congrArg Int32.toInt z
  rw [nI_toInt (by omega)] at h1
  have h2 : (-1 : Int32).toInt = -1 := by decide
  omega
theorem RO_g {f : Nat → Int32} {b G : Nat} (h : ∃ L, RO f b G L) : f (b + 0) = nI G := by obtain ⟨L, h⟩ := h; exact h.2.1
theorem seatsAll_step {U U' : Nat → Int32} {b G k : Nat} {x v : Int32} {L : List Nat} (h : RO U b G L) (hk : k < G)
    (hz : (v, U') = (if (fX7_of U b k 3) = (-1) then (if (fX7_best U b k) = (-1) then ((x + 1), U) else (bd (fX7_sitsDown U b k ((fX7_best U b k) / 8) ((fX7_best U b k) - (fX7_best U b k) / 8 * 8)) (fun U60 => (x, U60)))) else (x, U))) : ∃ L, RO U' b G L := by
  split at hz
  · split at hz
    · obtain ⟨-, rfl⟩ := Prod.mk.inj hz
      exact ⟨L, h⟩
    · rename_i _ hb
      unfold bd at hz
      obtain ⟨-, rfl⟩ := Prod.mk.inj hz
      obtain ⟨h1, h2⟩ := div8_tw (best_range h.1 k) hb
      exact ⟨_, RO_sits h hk h1 h2⟩
  · obtain ⟨-, rfl⟩ := Prod.mk.inj hz
    exact ⟨L, h⟩
theorem sav_le {m v : Nat} (hm : m ≤ 6) (hv : v = (if 6 ≤ nI m then 0 else 1)) : m + v ≤ 6 := by
  split at hv
  · omega
  · rename_i h
    have : ¬ 6 ≤ m := fun e => h ((nI_leI (a := 6) (by decide) (by omega)).mpr e)
    omega

