/-- a row with one feud more -/
theorem more_WF {f F : Nat → Int32} {b G T n a c : Nat} {L : List Nat} (h : WF f b G T L) (hn : f (b + 2) = nI n) (hn8 : n < 8) (hac : a < c) (hc : c < 6) (hnew : ∀ k : Nat, k < n → f (b + 10 + k) ≠ nI (6 * a + c)) (e0 : F (b + 2) = nI (n + 1)) (ec : F (b + 10 + n) = nI (6 * a + c)) (e1 : ∀ i : Nat, i ≠ b + 2 → i ≠ b + 10 + n → F i = f i) : WF F b G T L := by
  have hl := h.l16
  have hG := h.G16
  have hT := h.hT
  have e2 : ∀ x w : Nat, fX7_of F b x w = fX7_of f b x w := fun x w => by
    unfold fX7_of
    exact e1 _ (by omega) (by omega)
  refine ⟨?_, (e1 _ (by omega) (by omega)).trans h.ht, hT, fun y hy => ?_, fun y hy => ?_, fun y hy => ?_, fun t ht => ?_, fun y hy => ?_, fun y z hy hz => ?_, ?_, ?_⟩
  · obtain ⟨⟨rB, rG, rT, rF, rS, rTW, rWW⟩, hg, hG16, hnd, hS, hO, hM⟩ := h.ro
    refine ⟨⟨rB, ?_, ?_, ⟨n + 1, by omega, e0⟩, ?_, fun j hj => ?_, fun j hj => ?_⟩, (e1 _ (by omega) (by omega)).trans hg, hG16, hnd, (e1 _ (by omega) (by omega)).trans hS, fun k y hy => ?_, fun j => ?_⟩
    · rw [e1 _ (by omega) (by omega)]; exact rG
    · rw [e1 _ (by omega) (by omega)]; exact rT
    · rw [e1 _ (by omega) (by omega)]; exact rS
    · rw [e1 _ (by omega) (by omega)]; exact rTW j hj
    · rw [e1 _ (by omega) (by omega)]; exact rWW j hj
    · rw [e1 _ (by omega) (by omega)]; exact hO k y hy
    · rw [hM j, e1 _ (by omega) (by omega)]
  · rw [e2]; exact h.fam y hy
  · rw [e2]; exact h.siz y hy
  · rw [e2]; exact h.wsh y hy
  · rw [e1 _ (by omega) (by omega)]; exact h.sts t ht
  · rw [e2, e2]
    rcases h.sit y hy with e | ⟨t, z, m, k1, k2, k3, k4, k5, k6⟩
    · exact Or.inl e
    · exact Or.inr ⟨t, z, m, k1, k2, k3, (e1 _ (by omega) (by omega)).trans k4, k5, k6⟩
  · rw [e2, e2, e2, e2]
    exact h.dis y z hy hz
  · obtain ⟨a, p, q, r, l1, l2, l3, l4, l5, l6, l7, l8, l9⟩ := h.stg
    exact ⟨a, p, q, r, l1, l2, l3, l4, l5, (e1 _ (by omega) (by omega)).trans l6, (e1 _ (by omega) (by omega)).trans l7, (e1 _ (by omega) (by omega)).trans l8, (e1 _ (by omega) (by omega)).trans l9⟩
  · obtain ⟨m, l1, l2, l3, l4⟩ := h.fds
    obtain rfl : m = n := (nI_eq (by omega) (by omega)).mp (l2.symm.trans hn)
    have ek : ∀ k : Nat, k < m → F (b + 10 + k) = f (b + 10 + k) := fun k hk => e1 _ (by omega) (by omega)
    refine ⟨m + 1, by omega, e0, fun k hk => ?_, fun j k hj hk e => ?_⟩
    · by_cases ck : k = m
      · subst ck; exact ⟨a, c, hac, hc, ec⟩
      · rw [ek k (by omega)]; exact l3 k (by omega)
    · by_cases ck : k = m
      · subst ck
        by_cases cj : j = k
        · exact cj
        · rw [ek j (by omega), ec] at e
          exact absurd e (hnew j (by omega))
      · rw [ek k (by omega)] at e
        by_cases cj : j = m
        · subst cj
          rw [ec] at e
          exact absurd e.symm (hnew k (by omega))
        · rw [ek j (by omega)] at e
          exact l4 j k (by omega) (by omega) e
theorem more_REL {P : PV} {f F : Nat → Int32} {b G T n : Nat} {v : Int32} {L : List Nat} (h : REL P f b G T L) (hF : WF F b G T L) (hn : f (b + 2) = nI n) (hn8 : n < 8) (e0 : F (b + 2) = nI (n + 1)) (ec : F (b + 10 + n) = v) (e1 : ∀ i : Nat, i ≠ b + 2 → i ≠ b + 10 + n → F i = f i) : REL (sset (rset P 8 (upd (P 8) n v)) 4 (nI (n + 1))) F b G T L := by
  have hG := h.wf.G16
  have hT := h.wf.hT
  have hl := h.wf.l16
  have e2 : ∀ x w : Nat, fX7_of F b x w = fX7_of f b x w := fun x w => by
    unfold fX7_of
    exact e1 _ (by omega) (by omega)
  refine ⟨hF, ?_, ?_, ?_, ?_, ?_, ?_, fun w y hw hy => ?_, fun t ht => ?_, fun k hk => ?_, fun t z ht hz => ?_, fun k hk => ?_, fun k hk => ?_⟩
  · simp [sset, rset, upd]; exact h.pg
  · simp [sset, rset, upd]; exact h.pt
  · rw [e1 _ (by omega) (by omega)]; simp [sset, rset, upd]; exact h.p2
  · rw [e1 _ (by omega) (by omega)]; simp [sset, rset, upd]; exact h.p3
  · rw [e0]; simp [sset, rset, upd]
  · rw [e1 _ (by omega) (by omega)]; simp [sset, rset, upd]; exact h.p5
  · show sset (rset P 8 (upd (P 8) n v)) 4 (nI (n + 1)) w y = _
    rw [e2, show sset (rset P 8 (upd (P 8) n v)) 4 (nI (n + 1)) w = P w from by
      have hw' : w = 0 ∨ w = 1 ∨ w = 2 ∨ w = 3 ∨ w = 4 := by omega
      rcases hw' with rfl | rfl | rfl | rfl | rfl <;> simp [sset, rset]]
    exact h.row w y hw hy
  · rw [e1 _ (by omega) (by omega)]; simp [sset, rset]; exact h.ts t ht
  · rw [e1 _ (by omega) (by omega)]; simp [sset, rset]; exact h.sg k hk
  · rw [who_same h.wf hF (fun y w hy hw => e2 y w) (by omega) (nI z)]
    simp [sset, rset]; exact h.hd t z ht hz
  · rw [e0, nI_clamp (by omega)] at hk
    show upd (P 8) n v k = _
    by_cases ck : k = n
    · subst ck; rw [upd_eq, ec]
    · rw [upd_ne ck, e1 _ (by omega) (by omega)]
      refine h.fd k ?_
      rw [hn, nI_clamp (by omega)]; omega
  · rw [e1 _ (by omega) (by omega)]; simp [sset, rset]; exact h.od k hk
/-- rows that agree but for the order's cells -/
def OC (f F : Nat → Int32) : Prop := (∀ k : Nat, k < 22 → F k = f k) ∧ ∀ y w : Nat, y < 16 → w < 5 → fX7_of F 0 y w = fX7_of f 0 y w
theorem REL_oc {P : PV} {f F : Nat → Int32} {G T : Nat} {L : List Nat} (h : REL P f 0 G T L) (hF : WF F 0 G T L) (e : OC f F) : REL P F 0 G T L := by
  have hG := h.wf.G16
  have hT := h.wf.hT
  obtain ⟨e1, e2⟩ := e
  have e3 : ∀ k : Nat, k < 22 → F (0 + k) = f (0 + k) := fun k hk => by rw [Nat.zero_add]; exact e1 k hk
  have h8 := h.wf.f8
  refine ⟨hF, h.pg, h.pt, ?_, ?_, ?_, ?_, fun w y hw hy => ?_, fun t ht => ?_, fun k hk => ?_, fun t z ht hz => ?_, fun k hk => ?_, ord_od hF (fun j y hj => h.ord hj)⟩
  · rw [e3 4 (by omega)]; exact h.p2
  · rw [e3 5 (by omega)]; exact h.p3
  · rw [e3 2 (by omega)]; exact h.p4
  · rw [e3 3 (by omega)]; exact h.p5
  · rw [e2 y w hy hw]; exact h.row w y hw hy
  · rw [Nat.add_assoc, e3 (18 + t) (by omega), ← Nat.add_assoc]; exact h.ts t ht
  · rw [Nat.add_assoc, e3 (6 + k) (by omega), ← Nat.add_assoc]; exact h.sg k hk
  · rw [who_same h.wf hF (fun y w hy hw => e2 y w hy (by omega)) (by omega) (nI z)]; exact h.hd t z ht hz
  · rw [e3 2 (by omega)] at hk
    rw [Nat.add_assoc, e3 (10 + k) (by omega), ← Nat.add_assoc]; exact h.fd k hk
/-- how many there are -/
def CN (p : Nat → Bool) (g : Nat) : Int32 := if p g = true then 1 else 0
/-- those who are p have stood up -/
def SU (f F : Nat → Int32) (G : Nat) (L L' : List Nat) (p : Nat → Bool) (x : Int32) : Prop :=
  (∀ k : Nat, (k < 3 ∨ k = 4 ∨ (6 ≤ k ∧ k < 22)) → F k = f k) ∧ (∀ y w : Nat, y < 16 → w < 5 → fX7_of F 0 y w = if p y = true ∧ 3 ≤ w then -1 else fX7_of f 0 y w) ∧ F 5 = f 5 + x ∧ x = sm G (CN p) ∧ L' = L.filter (fun y => !p y) ∧ ∀ i : Nat, 118 ≤ i → F i = f i
theorem SU_refl (f : Nat → Int32) (G : Nat) (L : List Nat) (p : Nat → Bool) (hp : ∀ y : Nat, p y = false) : SU f f G L L p 0 := by
  refine ⟨fun _ _ => rfl, fun y w _ _ => ?_, (Int32.add_zero _).symm, ?_, ?_, fun _ _ => rfl⟩
  · rw [if_neg (fun e => by rw [hp y] at e; exact absurd e.1 (by decide))]
  · exact (sm_none (fun i _ => if_neg (by rw [hp i]; decide))).symm
  · exact (List.filter_eq_self.mpr (fun y _ => by rw [hp y]; rfl)).symm
theorem SU_step {f F : Nat → Int32} {G T g : Nat} {L L' : List Nat} {p q : Nat → Bool} {x : Int32} (h : SU f F G L L' p x) (hF : WF F 0 G T L') (hg : g < G) (hpg : p g = false) (hq : ∀ y : Nat, q y = (p y || decide (y = g))) : SU f (fX7_standsUp F 0 g) G L (L'.filter (fun y => decide (y ≠ g))) q (x + 1) := by
  have hG := hF.G16
  obtain ⟨h1, h2, h3, h4, h5, h6⟩ := h
  obtain ⟨s1, s2, s3, s4, s5, s6⟩ := stand_fr hF.ro (show g < 16 by omega)
  refine ⟨fun k hk => ?_, fun y w hy hw => ?_, ?_, ?_, ?_, fun i hi => ?_⟩
  · have := s1 k (by omega)
    rw [Nat.zero_add] at this
    rw [this]; exact h1 k hk
  · by_cases c : y = g
    · subst c
      by_cases cw : w < 3
      · rw [s2 y w hy hw (Or.inr cw), h2 y w hy hw, if_neg (fun e => by omega), if_neg (fun e => by omega)]
      · have cw' : w = 3 ∨ w = 4 := by omega
        rw [if_pos ⟨by rw [hq y]; simp, by omega⟩]
        rcases cw' with rfl | rfl
        · exact s3
        · exact s4
    · rw [s2 y w hy hw (Or.inl c), h2 y w hy hw, show q y = p y by rw [hq y]; simp [c]]
  · have := s5
    simp only [Nat.zero_add] at this
    rw [this, h3, Int32.add_assoc]
  · rw [h4]
    have e : ∀ y : Nat, y < G → CN q y = CN p y + (if y = g then 1 else 0) := fun y _ => by
      unfold CN
      rw [hq y]
      by_cases c : y = g
      · subst c; rw [hpg]; simp
      · simp [c]
    rw [sm_congr e, sm_add, sm_one hg (fun i _ hne => if_neg hne), if_pos rfl]
  · rw [h5, List.filter_filter]
    congr 1
    funext y
    rw [hq y]
    by_cases c : y = g <;> simp [c]
  · rw [s6 i (Or.inr (by omega))]; exact h6 i hi
/-- who sits at a table, is of a family, and is told so far -/
def FP (f : Nat → Int32) (G : Nat) (tb v : Int32) (m : Nat → Bool) : Nat → Bool := fun y => decide (y < G) && (decide (fX7_of f 0 y 3 = tb) && (decide (fX7_of f 0 y 0 = v) && m y))
theorem FP_t {f : Nat → Int32} {G : Nat} {tb v : Int32} {m : Nat → Bool} {y : Nat} : FP f G tb v m y = true ↔ y < G ∧ fX7_of f 0 y 3 = tb ∧ fX7_of f 0 y 0 = v ∧ m y = true := by
  unfold FP
  simp [Bool.and_eq_true]
theorem bool_ext {a b : Bool} (h : a = true ↔ b = true) : a = b := by cases a <;> cases b <;> simp_all
/-- a family of a table stands up, by the seats -/
theorem family_up {P : PV} {f : Nat → Int32} {G T t : Nat} {L : List Nat} (h : REL P f 0 G T L) (ht : t < T) (v : Int32) : ∃ (P' : PV) (F : Nat → Int32) (L' : List Nat) (x : Int32), fX2_standFamilyUp P (nI t) v = (x, P') ∧ REL P' F 0 G T L' ∧ SU f F G L L' (FP f G (nI t) v (fun _ => true)) x := by
  have hG := h.wf.G16
  have hT := h.wf.hT
  obtain ⟨n, n3, n8, hn⟩ := h.wf.sts t ht
  unfold fX2_standFamilyUp
  rw [h.seats (by omega), hn, nI_clamp (by omega)]
  refine lq2_ind (N := n) (fun k x U => ∃ (F : Nat → Int32) (L' : List Nat), REL U F 0 G T L' ∧ SU f F G L L' (FP f G (nI t) v (fun y => decide ((fX7_of f 0 y 4).toNatClampNeg < k))) x) (fun z => ∃ (P' : PV) (F : Nat → Int32) (L' : List Nat) (x : Int32), z = (x, P') ∧ REL P' F 0 G T L' ∧ SU f F G L L' (FP f G (nI t) v (fun _ => true)) x) (fun k x U nx hk hI hnx => ?_) (fun x U hI => ?_) n 0 0 P (Nat.zero_add n) ⟨f, L, h, SU_refl f G L _ (fun y => by simp [FP])⟩
  · obtain ⟨F, L', r1, r2⟩ := hI
    obtain ⟨u1, u2, u3, u4, u5, u6⟩ := r2
    -- a seat's place, as a number
    have seat : ∀ y : Nat, y < G → fX7_of f 0 y 3 = nI t → ∃ z : Nat, z < n ∧ fX7_of f 0 y 4 = nI z := fun y hy e => by
      rcases h.wf.sit y hy with e2 | ⟨t', z, n', k1, k2, k3, k4, k5, k6⟩
      · exact absurd (e.symm.trans e2) (nI_m1 (by omega))
      · obtain rfl : t' = t := (nI_eq (by omega) (by omega)).mp (k5.symm.trans e)
        obtain rfl : n' = n := (nI_eq (by omega) (by omega)).mp (k4.symm.trans hn)
        exact ⟨z, k3, k6⟩
    have same : (∀ y : Nat, y < G → fX7_of f 0 y 3 = nI t → fX7_of f 0 y 0 = v → fX7_of f 0 y 4 = nI k → False) → FP f G (nI t) v (fun y => decide ((fX7_of f 0 y 4).toNatClampNeg < k + 1)) = FP f G (nI t) v (fun y => decide ((fX7_of f 0 y 4).toNatClampNeg < k)) := fun hno => by
      funext y
      refine bool_ext ?_
      rw [FP_t, FP_t, decide_eq_true_eq, decide_eq_true_eq]
      refine ⟨fun ⟨a1, a2, a3, a4⟩ => ⟨a1, a2, a3, ?_⟩, fun ⟨a1, a2, a3, a4⟩ => ⟨a1, a2, a3, by omega⟩⟩
      obtain ⟨z, hz, ez⟩ := seat y a1 a2
      rw [ez, nI_clamp (by omega)] at a4 ⊢
      by_cases c : z = k
      · subst c; exact absurd ez (fun e => hno y a1 a2 a3 e)
      · omega
    have stays : ∀ y : Nat, y < G → fX7_of f 0 y 3 = nI t → fX7_of f 0 y 4 = nI k → fX7_of F 0 y 3 = nI t ∧ fX7_of F 0 y 4 = nI k := fun y hy e3 e4 => by
      have hp : ¬ FP f G (nI t) v (fun y => decide ((fX7_of f 0 y 4).toNatClampNeg < k)) y = true := fun e => by
        have := (FP_t.mp e).2.2.2
        rw [decide_eq_true_eq, e4, nI_clamp (by omega)] at this
        omega
      rw [u2 y 3 (by omega) (by decide), u2 y 4 (by omega) (by decide), if_neg (fun e => hp e.1), if_neg (fun e => hp e.1)]
      exact ⟨e3, e4⟩
    unfold fX2_standFamilyUp_b5
    rw [bd2_eq, r1.hold ht (by omega)]
    rcases who_is r1.wf (nI t) (nI k) with ⟨g, k1, k2, k3, k4⟩ | ⟨k1, k2⟩
    · have hF3 := u2 g 3 (by omega) (by decide)
      have hF4 := u2 g 4 (by omega) (by decide)
      have hF0 := u2 g 0 (by omega) (by decide)
      have hnp : ¬ FP f G (nI t) v (fun y => decide ((fX7_of f 0 y 4).toNatClampNeg < k)) g = true := fun e => by
        rw [if_pos ⟨e, by decide⟩] at hF3
        exact nI_m1 (by omega) (k2.symm.trans hF3)
      rw [if_neg (fun e => hnp e.1)] at hF3 hF4 hF0
      have uniq : ∀ y : Nat, y < G → fX7_of f 0 y 3 = nI t → fX7_of f 0 y 4 = nI k → y = g := fun y hy e3 e4 => h.wf.dis y g hy k1 (by rw [e3]; exact nI_m1 (by omega)) (by rw [e3, ← hF3, k2]) (by rw [e4, ← hF4, k3])
      rw [k4, if_neg (nI_m1 (by omega)), r1.rat (by decide) (by omega), hF0]
      by_cases c : fX7_of f 0 g 0 = v
      · rw [if_pos c, bd_eq]
        refine hnx _ _ ⟨_, _, stand_REL r1 k1 (by rw [k2]; exact nI_m1 (by omega)), SU_step ⟨u1, u2, u3, u4, u5, u6⟩ r1.wf k1 (by simpa using hnp) (fun y => bool_ext ?_)⟩
        rw [Bool.or_eq_true, FP_t, FP_t, decide_eq_true_eq, decide_eq_true_eq, decide_eq_true_eq]
        constructor
        · intro ⟨a1, a2, a3, a4⟩
          obtain ⟨z, hz, ez⟩ := seat y a1 a2
          by_cases cz : z = k
          · subst cz; exact Or.inr (uniq y a1 a2 ez)
          · refine Or.inl ⟨a1, a2, a3, ?_⟩
            rw [ez, nI_clamp (by omega)] at a4 ⊢
            omega
        · rintro (⟨a1, a2, a3, a4⟩ | rfl)
          · exact ⟨a1, a2, a3, by omega⟩
          · refine ⟨k1, hF3.symm.trans k2, c, ?_⟩
            rw [← hF4, k3, nI_clamp (by omega)]
            omega
      · rw [if_neg c]
        refine hnx _ _ ⟨F, L', r1, ?_⟩
        rw [same (fun y a1 a2 a3 a4 => c (by rw [← uniq y a1 a2 a4]; exact a3))]
        exact ⟨u1, u2, u3, u4, u5, u6⟩
    · rw [k2, if_pos rfl]
      refine hnx _ _ ⟨F, L', r1, ?_⟩
      rw [same (fun y a1 a2 a3 a4 => k1 y a1 (stays y a1 a2 a4))]
      exact ⟨u1, u2, u3, u4, u5, u6⟩
  · obtain ⟨F, L', r1, r2⟩ := hI
    refine ⟨U, F, L', x, rfl, r1, ?_⟩
    have e : FP f G (nI t) v (fun y => decide ((fX7_of f 0 y 4).toNatClampNeg < n)) = FP f G (nI t) v (fun _ => true) := by
      funext y
      refine bool_ext ?_
      rw [FP_t, FP_t, decide_eq_true_eq]
      refine ⟨fun ⟨a1, a2, a3, a4⟩ => ⟨a1, a2, a3, rfl⟩, fun ⟨a1, a2, a3, a4⟩ => ⟨a1, a2, a3, ?_⟩⟩
      rcases h.wf.sit y a1 with e2 | ⟨t', z, n', k1, k2, k3, k4, k5, k6⟩
      · exact absurd (a2.symm.trans e2) (nI_m1 (by omega))
      · obtain rfl : t' = t := (nI_eq (by omega) (by omega)).mp (k5.symm.trans a2)
        obtain rfl : n' = n := (nI_eq (by omega) (by omega)).mp (k4.symm.trans hn)
        rw [k6, nI_clamp (by omega)]
        exact k3
    rw [← e]
    exact r2
/-- a family of a table stands up, by the guests -/
theorem family_down {f : Nat → Int32} {G T t : Nat} {L : List Nat} (h : WF f 0 G T L) (ht : t < T) (nx : Int32 → (Nat → Int32) → (Int32 × ((Nat → Int32) × (Nat → Int32)))) (a c x0 : Int32) (hne : fX7_leaving f (nI t) a c ≠ -1) : ∃ (F : Nat → Int32) (L' : List Nat) (x : Int32), lq2 (fX7_feud_b103 nx a c t f) (fX7_feud_r103 nx) G 0 x0 f = nx (x0 + x) F ∧ WF F 0 G T L' ∧ SU f F G L L' (FP f G (nI t) (fX7_leaving f (nI t) a c) (fun _ => true)) x := by
  have hG := h.G16
  have hT := h.hT
  refine lq2_ind (N := G) (fun k y U => ∃ (L' : List Nat) (x : Int32), y = x0 + x ∧ WF U 0 G T L' ∧ SU f U G L L' (FP f G (nI t) (fX7_leaving f (nI t) a c) (fun y => decide (y < k))) x) (fun z => ∃ (F : Nat → Int32) (L' : List Nat) (x : Int32), z = nx (x0 + x) F ∧ WF F 0 G T L' ∧ SU f F G L L' (FP f G (nI t) (fX7_leaving f (nI t) a c) (fun _ => true)) x) (fun k y U nx2 hk hI hnx => ?_) (fun y U hI => ?_) G 0 x0 f (Nat.zero_add G) ⟨L, 0, (Int32.add_zero _).symm, h, SU_refl f G L _ (fun y => by simp [FP])⟩
  · obtain ⟨L', x, rfl, r1, r2⟩ := hI
    have hnp : ¬ FP f G (nI t) (fX7_leaving f (nI t) a c) (fun y => decide (y < k)) k = true := fun e => by
      have := (FP_t.mp e).2.2.2
      rw [decide_eq_true_eq] at this
      omega
    have same : ¬ (fX7_of f 0 k 3 = nI t ∧ fX7_of f 0 k 0 = fX7_leaving f (nI t) a c) → FP f G (nI t) (fX7_leaving f (nI t) a c) (fun y => decide (y < k + 1)) = FP f G (nI t) (fX7_leaving f (nI t) a c) (fun y => decide (y < k)) := fun hno => by
      funext y
      refine bool_ext ?_
      rw [FP_t, FP_t, decide_eq_true_eq, decide_eq_true_eq]
      refine ⟨fun ⟨a1, a2, a3, a4⟩ => ⟨a1, a2, a3, ?_⟩, fun ⟨a1, a2, a3, a4⟩ => ⟨a1, a2, a3, by omega⟩⟩
      by_cases ck : y = k
      · subst ck; exact absurd ⟨a2, a3⟩ hno
      · omega
    have e3 : fX7_of U 0 k 3 = fX7_of f 0 k 3 := (r2.2.1 k 3 (by omega) (by decide)).trans (if_neg (fun e => hnp e.1))
    have e0 : fX7_of U 0 k 0 = fX7_of f 0 k 0 := (r2.2.1 k 0 (by omega) (by decide)).trans (if_neg (fun e => hnp e.1))
    unfold fX7_feud_b103
    rw [if_neg hne, bd2_eq, e3, e0]
    by_cases c1 : fX7_of f 0 k 3 = nI t
    · by_cases c2 : fX7_of f 0 k 0 = fX7_leaving f (nI t) a c
      · rw [if_pos c1, if_pos c2, bd_eq]
        refine hnx _ _ ⟨_, x + 1, Int32.add_assoc _ _ _, stand_WF r1 hk, SU_step r2 r1 hk (by simpa using hnp) (fun y => bool_ext ?_)⟩
        rw [Bool.or_eq_true, FP_t, FP_t, decide_eq_true_eq, decide_eq_true_eq, decide_eq_true_eq]
        constructor
        · intro ⟨a1, a2, a3, a4⟩
          by_cases ck : y = k
          · exact Or.inr ck
          · exact Or.inl ⟨a1, a2, a3, by omega⟩
        · rintro (⟨a1, a2, a3, a4⟩ | rfl)
          · exact ⟨a1, a2, a3, by omega⟩
          · exact ⟨hk, c1, c2, by omega⟩
      · rw [if_pos c1, if_neg c2]
        refine hnx _ _ ⟨L', x, rfl, r1, ?_⟩
        rw [same (fun e => c2 e.2)]; exact r2
    · rw [if_neg c1]
      refine hnx _ _ ⟨L', x, rfl, r1, ?_⟩
      rw [same (fun e => c1 e.1)]; exact r2
  · obtain ⟨L', x, rfl, r1, r2⟩ := hI
    refine ⟨U, L', x, rfl, r1, ?_⟩
    have e : FP f G (nI t) (fX7_leaving f (nI t) a c) (fun y => decide (y < G)) = FP f G (nI t) (fX7_leaving f (nI t) a c) (fun _ => true) := by
      funext y
      refine bool_ext ?_
      rw [FP_t, FP_t, decide_eq_true_eq]
      exact ⟨fun ⟨a1, a2, a3, a4⟩ => ⟨a1, a2, a3, rfl⟩, fun ⟨a1, a2, a3, a4⟩ => ⟨a1, a2, a3, a1⟩⟩
    rw [← e]
    exact r2
/-- nobody stands up at a table -/
theorem family_none {f : Nat → Int32} {t : Nat} (nx : Int32 → (Nat → Int32) → (Int32 × ((Nat → Int32) × (Nat → Int32)))) (a c : Int32) (he : fX7_leaving f (nI t) a c = -1) : ∀ (G k : Nat) (x : Int32) (U : Nat → Int32), lq2 (fX7_feud_b103 nx a c t f) (fX7_feud_r103 nx) G k x U = nx x U
  | 0, k, x, U => lq2_z _ _ _ _ _
  | G + 1, k, x, U => by
    rw [lq2_s]
    unfold fX7_feud_b103
    rw [if_pos he]
/-- rows that agree but for the order's cells and the newest feud -/
def ON (n : Nat) (f F : Nat → Int32) : Prop := (∀ k : Nat, k < 22 → k ≠ 2 → k ≠ 10 + n → F k = f k) ∧ ∀ y w : Nat, y < 16 → w < 5 → fX7_of F 0 y w = fX7_of f 0 y w
theorem FP_on {n G : Nat} {f F : Nat → Int32} {tb v : Int32} {m : Nat → Bool} (h : ON n f F) (hG : G ≤ 16) : FP F G tb v m = FP f G tb v m := by
  funext y
  refine bool_ext ?_
  rw [FP_t, FP_t]
  constructor
  · intro ⟨a1, a2, a3, a4⟩
    rw [h.2 y 3 (by omega) (by decide)] at a2
    rw [h.2 y 0 (by omega) (by decide)] at a3
    exact ⟨a1, a2, a3, a4⟩
  · intro ⟨a1, a2, a3, a4⟩
    rw [← h.2 y 3 (by omega) (by decide)] at a2
    rw [← h.2 y 0 (by omega) (by decide)] at a3
    exact ⟨a1, a2, a3, a4⟩
theorem leaving_on {n G T : Nat} {L L' : List Nat} {f F : Nat → Int32} (h : ON n f F) (hf : WF f 0 G T L) (hF : WF F 0 G T L') (tb a c : Int32) : fX7_leaving F tb a c = fX7_leaving f tb a c := by
  have hG := hf.G16
  have e : ∀ v : Int32, fX7_sitting F tb v = fX7_sitting f tb v := fun v => by
    rw [sitting_sum hF.gN, sitting_sum hf.gN]
    refine sm_congr (fun i hi => ?_)
    rw [h.2 i 3 (by omega) (by decide), h.2 i 0 (by omega) (by decide)]
  unfold fX7_leaving
  rw [e, e]
theorem ON_su {n G : Nat} {f F f' F' : Nat → Int32} {L L1 L2 : List Nat} {p : Nat → Bool} {x y : Int32} {T : Nat} (h : ON n f F) (hf : SU f f' G L L1 p x) (hF : SU F F' G L L2 p y) (wf : WF f' 0 G T L1) (wF : WF F' 0 G T L2) : ON n f' F' ∧ L2 = L1 ∧ y = x := by
  obtain ⟨f1, f2, f3, f4, f5, f6⟩ := hf
  obtain ⟨F1, F2, F3, F4, F5, F6⟩ := hF
  have eL : L2 = L1 := F5.trans f5.symm
  have ex : y = x := F4.trans f4.symm
  refine ⟨⟨fun k hk k2 k10 => ?_, fun y w hy hw => ?_⟩, eL, ex⟩
  · by_cases c3 : k = 3
    · subst c3
      have a1 := wf.ro.2.2.2.2.1
      have a2 := wF.ro.2.2.2.2.1
      rw [Nat.zero_add] at a1 a2
      rw [a1, a2, eL]
    · by_cases c5 : k = 5
      · subst c5
        rw [f3, F3, ex, h.1 5 (by decide) (by decide) (by omega)]
      · rw [f1 k (by omega), F1 k (by omega)]
        exact h.1 k hk k2 k10
  · rw [f2 y w hy hw, F2 y w hy hw, h.2 y w hy hw]
/-- the tables, one after the other -/
theorem feud_loop {G T n a c : Nat} {f : Nat → Int32} (ha : a < 6) (hc : c < 6) (hac : a ≠ c) (hG : (f 0).toNatClampNeg = G) (r : Int32 → (Nat → Int32) → (Int32 × ((Nat → Int32) × (Nat → Int32)))) : ∀ (d t : Nat) (P : PV) (F U : Nat → Int32) (L : List Nat) (x : Int32), t + d = T → REL P F 0 G T L → WF U 0 G T L → ON n U F → ∃ (P' : PV) (F' U' : Nat → Int32) (L' : List Nat) (x' : Int32), lq2 (fX2_beginFeud_b17 (nI a) (nI c)) fX2_beginFeud_r17 d t x P = (x', P') ∧ lq2 (fX7_feud_b79 f (nI a) (nI c)) r d t x U = r x' U' ∧ REL P' F' 0 G T L' ∧ WF U' 0 G T L' ∧ ON n U' F' ∧ (∀ k : Nat, k < 22 → k ≠ 3 → k ≠ 5 → U' k = U k ∧ F' k = F k) ∧ ∀ i : Nat, 118 ≤ i → U' i = U i
  | 0, t, P, F, U, L, x, h, hR, hU, hO => ⟨P, F, U, L, x, lq2_z _ _ _ _ _, lq2_z _ _ _ _ _, hR, hU, hO, fun _ _ _ _ => ⟨rfl, rfl⟩, fun _ _ => rfl⟩
  | d + 1, t, P, F, U, L, x, h, hR, hU, hO => by
    have ht : t < T := by omega
    have hG16 := hU.G16
    have eX : ∀ nx : Int32 → PV → Int32 × PV, fX2_beginFeud_b17 (nI a) (nI c) t x P nx = bd2 (if fX2_familyThatRises P (nI t) (nI a) (nI c) = -1 then (x, P) else bd2 (fX2_standFamilyUp P (nI t) (fX2_familyThatRises P (nI t) (nI a) (nI c))) (fun r48 U48 => (x + r48, U48))) (fun v39 U39 => nx v39 U39) := fun _ => rfl
    have eY : ∀ nx : Int32 → (Nat → Int32) → (Int32 × ((Nat → Int32) × (Nat → Int32))), fX7_feud_b79 f (nI a) (nI c) t x U nx = lq2 (fX7_feud_b103 nx (nI a) (nI c) t U) (fX7_feud_r103 nx) ((f 0).toNatClampNeg) 0 x U := fun _ => rfl
    rw [lq2_s, lq2_s, eX, eY]
    rw [bd2_eq, rises_eq hR ht ha hc hac, leaving_on hO hU hR.wf, hG]
    by_cases cl : fX7_leaving U (nI t) (nI a) (nI c) = -1
    · rw [if_pos cl, family_none _ _ _ cl]
      exact feud_loop ha hc hac hG r d (t + 1) P F U L x (by omega) hR hU hO
    · obtain ⟨P1, F1, L1, x1, e1, R1, S1⟩ := family_up hR ht (fX7_leaving U (nI t) (nI a) (nI c))
      obtain ⟨U1, L2, x2, e2, R2, S2⟩ := family_down hU ht (lq2 (fX7_feud_b79 f (nI a) (nI c)) r d (t + 1)) (nI a) (nI c) x cl
      rw [FP_on hO hG16] at S1
      obtain ⟨O1, eL, ex⟩ := ON_su hO S2 S1 R2 R1.wf
      subst eL
      subst ex
      rw [if_neg cl, e1, bd2_eq, e2]
      obtain ⟨P', F', U', L', x', q1, q2, q3, q4, q5, q6, q7⟩ := feud_loop ha hc hac hG r d (t + 1) P1 F1 U1 L1 (x + x1) (by omega) R1 R2 O1
      exact ⟨P', F', U', L', x', q1, q2, q3, q4, q5, fun k hk k3 k5 => ⟨(q6 k hk k3 k5).1.trans (S2.1 k (by omega)), (q6 k hk k3 k5).2.trans (S1.1 k (by omega))⟩, fun i hi => (q7 i hi).trans (S2.2.2.2.2.2 i hi)⟩

