/-! a plan's cells say no more than its rows; further small things for the law. Mine. -/
theorem arr_at {D : va_G} {cI : ClassId} {q n : Nat} {f g : Nat → Int32} {H : Heap} (h : ∀ k : Nat, k < n → f k = g k) (k : va_at D vwCl (q, .inl (cI, n, .inl f)) H) : va_at D vwCl (q, .inl (cI, n, .inl g)) H := by
  have e : vp_cell cI (n, .inl f) = vp_cell cI (n, .inl g) := arrV_congr (fun k hk => congrArg Value.int (h k hk))
  show H[q]? = some (vp_cell cI (n, .inl g))
  rw [← e]
  exact k
theorem pW_PE {D : va_G} {cI : ClassId} {ad : Nat → Nat} {P Q : PV} {H : Heap} (h : PE P Q) (k : va_P D vwCl (pW cI ad P) H) : va_P D vwCl (pW cI ad Q) H := by
  obtain ⟨h1, h2, h3, h4, h5, h6, h7⟩ := h
  intro i q hi
  match i, hi with
  | 0, hi =>
    cases hi
    rw [← h7 0 (by decide), ← h7 1 (by decide), ← h7 2 (by decide), ← h7 3 (by decide)]
    exact k 0 _ rfl
  | 1, hi => cases hi; exact arr_at (fun j hj => h1 0 j (by decide) hj) (k 1 _ rfl)
  | 2, hi => cases hi; exact arr_at (fun j hj => h1 1 j (by decide) hj) (k 2 _ rfl)
  | 3, hi => cases hi; exact arr_at (fun j hj => h1 2 j (by decide) hj) (k 3 _ rfl)
  | 4, hi => cases hi; exact arr_at (fun j hj => h1 3 j (by decide) hj) (k 4 _ rfl)
  | 5, hi => cases hi; exact arr_at (fun j hj => h1 4 j (by decide) hj) (k 5 _ rfl)
  | 6, hi => cases hi; exact arr_at h2 (k 6 _ rfl)
  | 7, hi => cases hi; exact arr_at h3 (k 7 _ rfl)
  | 8, hi => cases hi; exact arr_at h4 (k 8 _ rfl)
  | 9, hi =>
    cases hi
    rw [← h7 4 (by decide)]
    exact k 9 _ rfl
  | 10, hi => cases hi; exact arr_at h5 (k 10 _ rfl)
  | 11, hi =>
    cases hi
    rw [← h7 5 (by decide)]
    exact k 11 _ rfl
  | 12, hi => cases hi; exact arr_at h6 (k 12 _ rfl)
  | i + 13, hi => simp [pW] at hi
theorem fW_PE {D : va_G} {A : Nat → Prop} {cI cP : ClassId} {a0 : Nat} {aN aT aS : Nat → Nat} {t0 t1 t2 h0 h1 : Nat} {pa : Nat → Nat → Nat} {P Q PT PS : PV} {f : Nat → Int32} {u : Int32} {Ps : Nat → PV} {oh vh : Nat} {k : Int32} {H : Heap} (h : PE P Q) (hP : va_P D vwCl (fW cI cP a0 aN aT aS t0 t1 t2 h0 h1 pa P PT PS f u Ps oh vh k) H) (hD : va_D A (fW cI cP a0 aN aT aS t0 t1 t2 h0 h1 pa P PT PS f u Ps oh vh k)) : va_P D vwCl (fW cI cP a0 aN aT aS t0 t1 t2 h0 h1 pa Q PT PS f u Ps oh vh k) H ∧ va_D A (fW cI cP a0 aN aT aS t0 t1 t2 h0 h1 pa Q PT PS f u Ps oh vh k) := by
  refine ⟨?_, D_addr.mpr (by rw [show (fW cI cP a0 aN aT aS t0 t1 t2 h0 h1 pa Q PT PS f u Ps oh vh k).map (fun c => c.1) = (fW cI cP a0 aN aT aS t0 t1 t2 h0 h1 pa P PT PS f u Ps oh vh k).map (fun c => c.1) from rfl]; exact D_addr.mp hD)⟩
  refine fl_P.mpr (fun b hb => ?_)
  simp only [List.mem_cons, List.not_mem_nil, or_false] at hb
  rcases hb with rfl | rfl | rfl | rfl | rfl | rfl
  · exact fl_at hP 0 rfl
  · exact pW_PE h (fl_at hP 1 rfl)
  · exact fl_at hP 2 rfl
  · exact fl_at hP 3 rfl
  · exact fl_at hP 4 rfl
  · exact fl_at hP 5 rfl
section AX
variable {PN : PV} {Ps : Nat → PV} {o v : Nat} {f : Nat → Int32} {G T : Nat} {L : List Nat}
theorem back_PE {X Y Z : PV} (h : REL PN f 0 G T L) (e : Z = fX2_copyFrom Y PN) : PE (fX2_copyFrom X Z) PN := by
  rw [e]
  exact PE_trans (copy_PE0 (copy_REL0 h)) (copy_PE0 h)
theorem act_q {p : Nat} (hp : p < 6) (z : Int32) : ∃ q : Nat, q < 6 ∧ p ≠ q ∧ ((nI p + 1 + fL_up z 5) - (nI p + 1 + fL_up z 5) / 6 * 6) = nI q := by
  obtain ⟨j, hj, e2⟩ := up_is (v := z) (n := 5) (by decide) (by decide)
  refine ⟨(p + 1 + j) % 6, Nat.mod_lt _ (by decide), by omega, ?_⟩
  rw [show fL_up z 5 = nI j from e2, nI_1, nI_add, show (6 : Int32) = nI 6 from rfl, pk_rem (by omega) (by decide) (by decide)]
/-- the best seat: none, or this one -/
def BM (PN : PV) (f : Nat → Int32) (T g : Nat) (b m : Int32) : Prop :=
  (b = -1 ∧ ∀ t z n : Nat, t < T → f (0 + 18 + t) = nI n → n ≤ 8 → z < n → fX2_reasonAgainst PN (nI g) (nI t) (nI z) ≠ 0) ∨
  ∃ t z n : Nat, t < T ∧ f (0 + 18 + t) = nI n ∧ n ≤ 8 ∧ z < n ∧ b = nI (8 * t + z) ∧ fX2_reasonAgainst PN (nI g) (nI t) (nI z) = 0 ∧ m = fX4_afterMove PN (nI g) (nI t) (nI z) + 1000 ∧
    ∀ t' z' n' : Nat, t' < T → f (0 + 18 + t') = nI n' → n' ≤ 8 → z' < n' → fX2_reasonAgainst PN (nI g) (nI t') (nI z') = 0 → ¬ m < fX4_afterMove PN (nI g) (nI t') (nI z') + 1000 ∧ (m ≤ fX4_afterMove PN (nI g) (nI t') (nI z') + 1000 → 8 * t + z ≤ 8 * t' + z')
theorem best_pos (hR : REL PN f 0 G T L) {g : Nat} (hg : g < G) (h : ¬ fX2_bestPlace PN (nI g) < 0) : ∃ t z n : Nat, t < T ∧ f (0 + 18 + t) = nI n ∧ n ≤ 8 ∧ z < n ∧ fX2_bestPlace PN (nI g) = nI (8 * t + z) ∧ fX2_bestPlace PN (nI g) / 8 = nI t ∧ fX2_bestPlace PN (nI g) - fX2_bestPlace PN (nI g) / 8 * 8 = nI z ∧ fX2_reasonAgainst PN (nI g) (nI t) (nI z) = 0 := by
  have hT := hR.wf.hT
  obtain ⟨m, hs⟩ := best_spec hR hg
  rcases hs with ⟨e, _⟩ | ⟨t, z, n, h1, h2, h3, h4, h5, h6, h7, h8, h9⟩
  · rw [e] at h
    exact absurd (by decide) h
  · refine ⟨t, z, n, h1, h2, h3, h4, h6, ?_, ?_, h7⟩
    · rw [h6, show (8 : Int32) = nI 8 from rfl, pk_div (by omega) (by decide) (by decide), show (8 * t + z) / 8 = t by omega]
    · rw [h6, show (8 : Int32) = nI 8 from rfl, pk_rem (by omega) (by decide) (by decide), show (8 * t + z) % 8 = z by omega]
theorem best_BM (hR : REL PN f 0 G T L) {g : Nat} (hg : g < G) {w : Int32} (hw : w = if 0 ≤ fX2_bestPlace PN (nI g) then (fX4_afterMove PN (nI g) (fX2_bestPlace PN (nI g) / 8) (fX2_bestPlace PN (nI g) - fX2_bestPlace PN (nI g) / 8 * 8) + 1000) else 0) : BM PN f T g (fX2_bestPlace PN (nI g)) w := by
  have hT := hR.wf.hT
  obtain ⟨m, hs⟩ := best_spec hR hg
  rcases hs with ⟨e, h⟩ | ⟨t, z, n, h1, h2, h3, h4, h5, h6, h7, h8, h9⟩
  · exact Or.inl ⟨e, fun t z n k1 k2 k3 k4 => h t z n k1 k2 k3 k4 (by omega)⟩
  · have hp : 0 ≤ fX2_bestPlace PN (nI g) := by rw [h6]; exact nI_0le (by omega)
    have e1 : fX2_bestPlace PN (nI g) / 8 = nI t := by rw [h6, show (8 : Int32) = nI 8 from rfl, pk_div (by omega) (by decide) (by decide), show (8 * t + z) / 8 = t by omega]
    have e2 : fX2_bestPlace PN (nI g) - fX2_bestPlace PN (nI g) / 8 * 8 = nI z := by rw [h6, show (8 : Int32) = nI 8 from rfl, pk_rem (by omega) (by decide) (by decide), show (8 * t + z) % 8 = z by omega]
    rw [if_pos hp, e2, e1] at hw
    refine Or.inr ⟨t, z, n, h1, h2, h3, h4, h6, h7, hw, fun t' z' n' k1 k2 k3 k4 k5 => ?_⟩
    rw [hw]
    exact best_cmp hR hg h1 h2 h3 h4 k1 k2 k3 k4 (h9 t' z' n' k1 k2 k3 k4 (by omega) k5)
theorem reason_05' (hR : REL PN f 0 G T L) {g t z n : Nat} (hg : g < G) (ht : t < T) (hz : z < n) (hn8 : n ≤ 8) : fX2_reasonAgainst PN (nI g) (nI t) (nI z) = 0 ∨ 0 < fX2_reasonAgainst PN (nI g) (nI t) (nI z) := by
  rw [reason_eq hR hg ht (by omega)]
  rcases reason_05 f 0 g (nI t) (nI z) with e | e | e | e | e | e
  · exact Or.inl e
  all_goals (refine Or.inr ?_; rw [e]; decide)
/-- the first reason is that the guest sits there -/
theorem reason_1 (hR : REL PN f 0 G T L) {g t z n : Nat} (hg : g < G) (ht : t < T) (hz : z < n) (hn8 : n ≤ 8) : fX2_reasonAgainst PN (nI g) (nI t) (nI z) = 1 ↔ fX2_holderAt PN (nI t) (nI z) = nI g := by
  have hT := hR.wf.hT
  constructor
  · intro h
    by_cases c : fX2_holderAt PN (nI t) (nI z) = nI g
    · exact c
    · exfalso
      unfold fX2_reasonAgainst at h
      rw [if_neg c] at h
      have k2 : ¬ (2 : Int32) = 1 := by decide
      have k3 : ¬ (3 : Int32) = 1 := by decide
      have k4 : ¬ (4 : Int32) = 1 := by decide
      have k5 : ¬ (5 : Int32) = 1 := by decide
      have k0 : ¬ (0 : Int32) = 1 := by decide
      simp only [bd_eq] at h
      repeat' split at h
      all_goals first | exact k2 h | exact k3 h | exact k4 h | exact k5 h | exact k0 h
  · intro h
    unfold fX2_reasonAgainst
    rw [if_pos h]
/-- the last of those who sit -/
theorem last_seat (hR : REL PN f 0 G T L) {g t z n : Nat} (hg : g < G) (ht : t < T) (hn : f (0 + 18 + t) = nI n) (hz : z < n) (hn8 : n ≤ 8) (h0 : fX2_reasonAgainst PN (nI g) (nI t) (nI z) = 0) {P1 : PV} (e1 : P1 = fX2_takeSeat PN (nI g) (nI t) (nI z)) : ∃ k : Nat, k < 16 ∧ P1 10 5 - 1 = nI k ∧ fX1_itemAt 16 (P1 9) (P1 10 5) (nI k) = nI g := by
  have h2 := take_REL hR hg ht hn hz hn8 (reason0 hR hg ht hz hn8 h0).1
  rw [← e1] at h2
  have hl := h2.wf.l16
  rw [List.length_append] at hl
  have hl1 : (L.filter (fun x => decide (x ≠ g)) ++ [g]).length = (L.filter (fun x => decide (x ≠ g))).length + 1 := by rw [List.length_append]; rfl
  refine ⟨(L.filter (fun x => decide (x ≠ g))).length, ?_, ?_, ?_⟩
  · have : [g].length = 1 := rfl
    omega
  · rw [len_P h2, hl1, ← nI_1, Int32.add_sub_cancel]
  · have hk : (L.filter (fun x => decide (x ≠ g))).length < 16 := by
      have : [g].length = 1 := rfl
      omega
    obtain ⟨x, hx, ex⟩ := (seated_at h2 hk).1 (by rw [hl1]; omega)
    rw [ex]
    rw [List.getElem?_append_right (Nat.le_refl _), Nat.sub_self] at hx
    have : g = x := Option.some.inj hx
    rw [this]
theorem mul8 (hR : REL PN f 0 G T L) : 8 * PN 10 1 = nI (8 * T) := by
  rw [hR.pt, show (8 : Int32) = nI 8 from rfl, pk_mul]
theorem lt_of_nle9 {a b : Nat} (ha : a < 2 ^ 31) (hb : b < 2 ^ 31) (h : ¬ nI a ≤ nI b) : b < a := by
  rw [nI_leI ha hb] at h
  omega
theorem ah_none (hR : REL PN f 0 G T L) {g t z n : Nat} (hg : g < G) (ht : t < T) (hn : f (0 + 18 + t) = nI n) (hz : z < n) (hn8 : n ≤ 8) : (if (if fX2_reasonAgainst PN (nI g) (nI t) (nI z) = 0 then fX4_afterMove PN (nI g) (nI t) (nI z) + 1000 else -1) = -1 then 1 else 0 : Nat) = (if fX2_reasonAgainst PN (nI g) (nI t) (nI z) ≤ 0 then 0 else 1) := by
  rcases reason_05' hR hg ht hz hn8 with e | e
  · rw [if_pos e, if_neg (after_ne hR hg ht hn hz hn8 e), e, if_pos (by decide)]
  · have e0 : ¬ fX2_reasonAgainst PN (nI g) (nI t) (nI z) = 0 := fun z9 => by rw [z9] at e; exact absurd e (by decide)
    rw [if_neg e0, if_pos rfl, if_neg (fun z9 => absurd (Int32.le_iff_toInt_le.mp z9) (by have := Int32.lt_iff_toInt_lt.mp e; omega))]
theorem ah_first (hR : REL PN f 0 G T L) {g t z n : Nat} (hg : g < G) (ht : t < T) (hz : z < n) (hn8 : n ≤ 8) : (if fX2_reasonAgainst PN (nI g) (nI t) (nI z) = 1 then 1 else 0 : Nat) = (if fX2_holderAt PN (nI t) (nI z) = nI g then 1 else 0) := by
  by_cases c : fX2_holderAt PN (nI t) (nI z) = nI g
  · rw [if_pos c, if_pos ((reason_1 hR hg ht hz hn8).mpr c)]
  · rw [if_neg c, if_neg (fun e => c ((reason_1 hR hg ht hz hn8).mp e))]
theorem ah_best (hR : REL PN f 0 G T L) {g t z n : Nat} {b m : Int32} (hB : BM PN f T g b m) (hg : g < G) (ht : t < T) (hn : f (0 + 18 + t) = nI n) (hz : z < n) (hn8 : n ≤ 8) (h : ¬ 0 < fX2_reasonAgainst PN (nI g) (nI t) (nI z)) : ¬ b < 0 ∧ ¬ m < (if fX2_reasonAgainst PN (nI g) (nI t) (nI z) = 0 then fX4_afterMove PN (nI g) (nI t) (nI z) + 1000 else -1) ∧ (m ≤ (if fX2_reasonAgainst PN (nI g) (nI t) (nI z) = 0 then fX4_afterMove PN (nI g) (nI t) (nI z) + 1000 else -1) → b ≤ nI (8 * t + z)) := by
  have hT := hR.wf.hT
  have e := (reason_05' hR hg ht hz hn8).resolve_right h
  rw [if_pos e]
  rcases hB with ⟨_, k⟩ | ⟨t0, z0, n0, k1, k2, k3, k4, k5, k6, k7, k8⟩
  · exact absurd e (k t z n ht hn hn8 hz)
  · obtain ⟨l1, l2⟩ := k8 t z n ht hn hn8 hz e
    refine ⟨by rw [k5]; exact nI_pos (by omega), l1, fun h9 => ?_⟩
    rw [k5, nI_leI (by omega) (by omega)]
    exact l2 h9
theorem BM_pos (hR : REL PN f 0 G T L) {g : Nat} {b m : Int32} (hB : BM PN f T g b m) (h : ¬ b < 0) : ∃ t z n : Nat, t < T ∧ f (0 + 18 + t) = nI n ∧ n ≤ 8 ∧ z < n ∧ b / 8 = nI t ∧ b - b / 8 * 8 = nI z ∧ fX2_reasonAgainst PN (nI g) (nI t) (nI z) = 0 ∧ m = fX4_afterMove PN (nI g) (nI t) (nI z) + 1000 := by
  have hT := hR.wf.hT
  rcases hB with ⟨k, _⟩ | ⟨t, z, n, k1, k2, k3, k4, k5, k6, k7, k8⟩
  · rw [k] at h
    exact absurd (by decide) h
  · refine ⟨t, z, n, k1, k2, k3, k4, ?_, ?_, k6, k7⟩
    · rw [k5, show (8 : Int32) = nI 8 from rfl, pk_div (by omega) (by decide) (by decide), show (8 * t + z) / 8 = t by omega]
    · rw [k5, show (8 : Int32) = nI 8 from rfl, pk_rem (by omega) (by decide) (by decide), show (8 * t + z) % 8 = z by omega]
theorem lg_same (x : Int64) : lg_cmp x x = 0 := by
  unfold lg_cmp
  rw [if_neg (fun h : x > x => Int64.lt_irrefl h), if_pos rfl]
theorem all_left (hR : REL PN f 0 G T L) (hX : XI f G L) : (fX2_seatStanding PN).2 10 0 - (fX2_seatStanding PN).2 10 5 = (fX2_seatStanding PN).1 := by
  obtain ⟨F, L', k1, k2, k3⟩ := all_NW hR hX
  rw [k3, k1.pg, len_P k1, pk_sub k1.wf.ro.len]
theorem rise_8 (hR : REL PN f 0 G T L) {g : Nat} (hg : g < G) (hs : fX7_of f 0 g 3 ≠ -1) : fX2_standUp PN (nI g) 10 3 = PN 10 3 + 1 := by
  have hG := hR.wf.G16
  obtain ⟨s1, s2, s3, s4, s5, s6⟩ := stand_fr hR.wf.ro (show g < 16 by omega)
  rw [(stand_REL hR hg hs).p3, s5, hR.p3]
theorem g3_ne (hR : REL PN f 0 G T L) {g : Nat} (hg : g < G) (h : ¬ fX6_guestNumber PN (nI g) 3 < 0) : fX7_of f 0 g 3 ≠ -1 := fun e => by
  rw [gnum3 hR hg, e] at h
  exact absurd (by decide) h
/-- a feud begins, and ends at once -/
theorem feud_ahead (hR : REL PN f 0 G T L) (hX : XI f G L) {p q : Nat} (hp : p < 6) (hq : q < 6) (hpq : p ≠ q) (hF : fL_isFeud PN (nI p) (nI q) = 0) (h8 : ¬ 8 ≤ PN 10 4) {P1 : PV} (e1 : P1 = (fX2_beginFeud PN (nI p) (nI q)).2) :
    (fX2_beginFeud PN (nI p) (nI q)).1 = fX2_risersOfFeud PN (nI p) (nI q) ∧ P1 10 3 = PN 10 3 + fX2_risersOfFeud PN (nI p) (nI q) ∧ P1 10 5 = PN 10 5 - fX2_risersOfFeud PN (nI p) (nI q) ∧ fX2_risersOfFeud P1 (nI p) (nI q) = 0 ∧ ∀ (Qs : Nat → PV) (o1 v1 : Nat), ∃ m : Nat, m ≤ 8 ∧ fX6_peace P1 Qs o1 v1 (nI q) (nI p) = Sum.inr (nI m, ((dPeace P1 (nI q) (nI p)).2, (fX0_save Qs o1 v1 P1).1, (fX0_save Qs o1 v1 P1).2.1, (fX0_save Qs o1 v1 P1).2.2)) ∧ (dPeace P1 (nI q) (nI p)).2 10 5 = P1 10 5 := by
  obtain ⟨n, n8, hn, -, -⟩ := hR.wf.fds
  have hp4 : PN 10 4 = nI n := hR.p4.trans hn
  have hn2 : f 2 = nI n := by rw [Nat.zero_add] at hn; exact hn
  have hn8 : n < 8 := by
    rw [hp4, show (8 : Int32) = nI 8 from rfl, nI_leI (by decide) (by omega)] at h8
    omega
  have hF0 : fX2_hasFeud PN (nI p) (nI q) = 0 := (hasF_0 hR hp hq).mpr ((isFeud_0 hR hp hq hpq).mp hF)
  obtain ⟨F, L', k1, k2, k3, k4, k5, k6⟩ := feud_all hR hX hp hq hpq hF0 hn2 hn8
  rw [← e1] at k1 k6
  have c1 := hX.2.2.1
  have c2 := k2.2.2.1
  refine ⟨k3, ?_, ?_, risers_0 k6, fun Qs o1 v1 => ?_⟩
  · rw [k1.p3, hR.p3, ← k3]; exact k4
  · rw [len_P k1, len_P hR, ← c1, ← c2, k4, k5, k3, Int32.sub_sub]
  · have k7 : fX2_hasFeud P1 (nI q) (nI p) ≠ 0 := fun z => k6 ((hasF_0 k1 hp hq).mpr (by rw [fc_sym]; exact (hasF_0 k1 hq hp).mp z))
    obtain ⟨⟨d1, d2, d3⟩, F2, d4⟩ := D_peace (Ps := Qs) (o := o1) (v := v1) k1 k2 hq hp (Ne.symm hpq) k7
    obtain ⟨m, m8, hm, -, -⟩ := d4.wf.fds
    have em : (dPeace P1 (nI q) (nI p)).1 = nI m := by
      have := d4.p4.trans hm
      rw [← this]
      rfl
    refine ⟨m, m8, ?_, rfl⟩
    rw [d1, ← em]
    rfl
end AX
