/-! numbers drawn from the script. Mine. -/
theorem and_nat (v : Int32) : ∃ m : Nat, m < 2 ^ 31 ∧ v &&& (2147483647 : Int32) = nI m := by
  refine ⟨(v &&& (2147483647 : Int32)).toBitVec.toNat, ?_, ?_⟩
  · have h : (v &&& (2147483647 : Int32)).toBitVec.toNat ≤ 2147483647 := by
      show (v.toBitVec &&& (2147483647 : Int32).toBitVec).toNat ≤ 2147483647
      rw [BitVec.toNat_and]
      exact Nat.and_le_right
    omega
  · apply Int32.toBitVec_inj.mp
    show _ = BitVec.ofNat 32 _
    rw [BitVec.ofNat_toNat]
    simp
theorem up_is {v : Int32} {n : Nat} (h0 : 0 < n) (hn : n < 2 ^ 30) : ∃ j : Nat, j < n ∧ fL_up v (nI n) = nI j := by
  obtain ⟨m, hm, e⟩ := and_nat v
  refine ⟨m % n, Nat.mod_lt _ h0, ?_⟩
  unfold fL_up
  rw [e, pk_rem hm h0 (by omega)]
theorem up1 (v : Int32) : ∃ j : Nat, 1 ≤ j ∧ j ≤ 3 ∧ 1 + fL_up v 3 = nI j := by
  obtain ⟨j, hj, e⟩ := up_is (v := v) (n := 3) (by decide) (by decide)
  refine ⟨1 + j, by omega, by omega, ?_⟩
  rw [show fL_up v 3 = nI j from e, show (1 : Int32) = nI 1 from rfl, nI_add]
theorem up3 (v : Int32) : ∃ j : Nat, 3 ≤ j ∧ j ≤ 8 ∧ 3 + fL_up v 6 = nI j := by
  obtain ⟨j, hj, e⟩ := up_is (v := v) (n := 6) (by decide) (by decide)
  refine ⟨3 + j, by omega, by omega, ?_⟩
  rw [show fL_up v 6 = nI j from e, show (3 : Int32) = nI 3 from rfl, nI_add]
theorem set0 (v : Int32) : ∃ s x : Nat, s < 4 ∧ (0 : Int32) = nI s ∧ 1 + fL_up v 8 = nI x ∧ (s = 0 → 1 ≤ x ∧ x ≤ 8) ∧ (s = 3 → x ≤ 9) ∧ x ≤ 20 := by
  obtain ⟨j, hj, e⟩ := up_is (v := v) (n := 8) (by decide) (by decide)
  refine ⟨0, 1 + j, by decide, rfl, ?_, by omega, by omega, by omega⟩
  rw [show fL_up v 8 = nI j from e, show (1 : Int32) = nI 1 from rfl, nI_add]
theorem set1 (v : Int32) : ∃ s x : Nat, s < 4 ∧ (1 : Int32) = nI s ∧ fL_up v 21 = nI x ∧ (s = 0 → 1 ≤ x ∧ x ≤ 8) ∧ (s = 3 → x ≤ 9) ∧ x ≤ 20 := by
  obtain ⟨j, hj, e⟩ := up_is (v := v) (n := 21) (by decide) (by decide)
  exact ⟨1, j, by decide, rfl, e, by omega, by omega, by omega⟩
theorem nz1021 {c : Prop} [Decidable c] {z : Int32} (h : z = if c then 10 else 21) : ¬ z = 0 := by
  rw [h]
  split <;> decide
theorem setw {w v x : Int32} (hw : ∃ j : Nat, j < 4 ∧ w = nI j) (hx : x = (if w = 0 then (1 + fL_up v 8) else (bd ((if w = 3 then 10 else 21) : Int32) (fun z => fL_up v z)))) : ∃ s y : Nat, s < 4 ∧ w = nI s ∧ x = nI y ∧ (s = 0 → 1 ≤ y ∧ y ≤ 8) ∧ (s = 3 → y ≤ 9) ∧ y ≤ 20 := by
  obtain ⟨s, hs, rfl⟩ := hw
  by_cases c0 : s = 0
  · subst c0
    rw [if_pos (show (nI 0 : Int32) = 0 from rfl)] at hx
    obtain ⟨j, hj, e⟩ := up_is (v := v) (n := 8) (by decide) (by decide)
    refine ⟨0, 1 + j, by decide, rfl, ?_, by omega, by omega, by omega⟩
    rw [hx, show fL_up v 8 = nI j from e, show (1 : Int32) = nI 1 from rfl, nI_add]
  · rw [if_neg (show ¬ (nI s : Int32) = 0 from fun e => c0 ((nI_eq (b := 0) (by omega) (by decide)).mp e)), bd_eq] at hx
    by_cases c3 : s = 3
    · subst c3
      rw [if_pos (show (nI 3 : Int32) = 3 from rfl)] at hx
      obtain ⟨j, hj, e⟩ := up_is (v := v) (n := 10) (by decide) (by decide)
      exact ⟨3, j, by decide, rfl, hx.trans e, by omega, by omega, by omega⟩
    · rw [if_neg (show ¬ (nI s : Int32) = 3 from fun e => c3 ((nI_eq (b := 3) (by omega) (by decide)).mp e))] at hx
      obtain ⟨j, hj, e⟩ := up_is (v := v) (n := 21) (by decide) (by decide)
      exact ⟨s, j, hs, rfl, hx.trans e, by omega, by omega, by omega⟩
/-- two families that are not the same -/
def PAIR (a b : Int32) : Prop := ∃ p q : Nat, p < 6 ∧ q < 6 ∧ p ≠ q ∧ a = nI p ∧ b = nI q
theorem act_ab (y z : Int32) : PAIR (fL_up y 6) (((fL_up y 6 + 1) + fL_up z 5) - ((fL_up y 6 + 1) + fL_up z 5) / 6 * 6) := by
  obtain ⟨p, hp, e⟩ := up_is (v := y) (n := 6) (by decide) (by decide)
  obtain ⟨j, hj, e2⟩ := up_is (v := z) (n := 5) (by decide) (by decide)
  refine ⟨p, (p + 1 + j) % 6, hp, Nat.mod_lt _ (by decide), by omega, e, ?_⟩
  rw [show fL_up y 6 = nI p from e, show fL_up z 5 = nI j from e2, nI_1, nI_add, show (6 : Int32) = nI 6 from rfl, pk_rem (by omega) (by decide) (by decide)]
section UPS
variable {PN PS : PV} {Ps : Nat → PV} {o v : Nat} {f : Nat → Int32} {G T : Nat} {L : List Nat}
theorem pgn (hR : REL PN f 0 G T L) (h : ¬ PN 10 0 = 0) : 0 < G := by
  rcases Nat.eq_zero_or_pos G with e | e
  · exact absurd (by rw [hR.pg, e]; rfl) h
  · exact e
theorem ptn (hR : REL PN f 0 G T L) (h : ¬ PN 10 1 = 0) : 0 < T := by
  rcases Nat.eq_zero_or_pos T with e | e
  · exact absurd (by rw [hR.pt, e]; rfl) h
  · exact e
theorem gl16_0 (hR : REL PN f 0 G T L) (h : PN 10 0 = 0) : G < 16 := by
  have hG := hR.wf.G16
  rw [hR.pg] at h
  have := (nI_eq (b := 0) (by omega) (by decide)).mp h
  omega
theorem gl16 (hR : REL PN f 0 G T L) (h : ¬ 16 ≤ PN 10 0) : G < 16 := by
  have hG := hR.wf.G16
  rw [hR.pg, show (16 : Int32) = nI 16 from rfl, nI_leI (by decide) (by omega)] at h
  omega
theorem tl4_0 (hR : REL PN f 0 G T L) (h : PN 10 1 = 0) : T < 4 := by
  have hT := hR.wf.hT
  rw [hR.pt] at h
  have := (nI_eq (b := 0) (by omega) (by decide)).mp h
  omega
theorem tl4 (hR : REL PN f 0 G T L) (h : ¬ 4 ≤ PN 10 1) : T < 4 := by
  have hT := hR.wf.hT
  rw [hR.pt, show (4 : Int32) = nI 4 from rfl, nI_leI (by decide) (by omega)] at h
  omega
theorem act_o (hR : REL PN f 0 G T L) (h : ¬ PN 10 0 = 0) (y : Int32) : ∃ g : Nat, g < G ∧ fL_up y (PN 10 0) = nI g := by
  have hG := hR.wf.G16
  rw [hR.pg]
  exact up_is (pgn hR h) (by omega)
theorem act_g (hR : REL PN f 0 G T L) {y w : Int32} (e : w = if PN 10 0 = 0 then 0 else fL_up y (PN 10 0)) (h : ¬ PN 10 0 = 0) : ∃ g : Nat, g < G ∧ w = nI g := by
  rw [if_neg h] at e
  obtain ⟨g, hg, e2⟩ := act_o hR h y
  exact ⟨g, hg, e.trans e2⟩
theorem act_t (hR : REL PN f 0 G T L) {y w : Int32} (e : w = if PN 10 1 = 0 then 0 else fL_up y (PN 10 1)) (h : ¬ PN 10 1 = 0) : ∃ t : Nat, t < T ∧ w = nI t := by
  have hT := hR.wf.hT
  rw [if_neg h, hR.pt] at e
  obtain ⟨t, ht, e2⟩ := up_is (v := y) (ptn hR h) (show T < 2 ^ 30 by omega)
  exact ⟨t, ht, e.trans e2⟩
theorem tabN (hR : REL PN f 0 G T L) {t : Nat} (ht : t < T) : ∃ n : Nat, 3 ≤ n ∧ n ≤ 8 ∧ f (0 + 18 + t) = nI n ∧ fX6_tableNumber PN (nI t) 0 = nI n := by
  have hT := hR.wf.hT
  obtain ⟨n, n3, n8, hn⟩ := hR.wf.sts t ht
  refine ⟨n, n3, n8, hn, ?_⟩
  show fX2_seatsAt PN (nI t) = nI n
  rw [hR.seats (by omega), hn]
theorem tab_nz (hR : REL PN f 0 G T L) {t : Nat} (ht : t < T) {w : Int32} (e : w = nI t) : ¬ fX6_tableNumber PN w 0 = 0 := by
  obtain ⟨n, n3, n8, _, en⟩ := tabN hR ht
  rw [e, en]
  exact fun z => absurd ((nI_eq (b := 0) (by omega) (by decide)).mp z) (by omega)
theorem act_s (hR : REL PN f 0 G T L) {t : Nat} (ht : t < T) {w : Int32} (e : w = nI t) (y : Int32) : ∃ z n : Nat, f (0 + 18 + t) = nI n ∧ z < n ∧ n ≤ 8 ∧ fL_up y (fX6_tableNumber PN w 0) = nI z := by
  obtain ⟨n, n3, n8, hn, en⟩ := tabN hR ht
  obtain ⟨z, hz, e2⟩ := up_is (v := y) (n := n) (by omega) (by omega)
  exact ⟨z, n, hn, hz, n8, by rw [e, en]; exact e2⟩
end UPS
