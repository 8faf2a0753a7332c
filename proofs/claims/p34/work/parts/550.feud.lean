/-! a feud begins: who stands up, how many, and what holds afterwards. Mine. -/
theorem sm01_zero {u : Nat → Int32} : ∀ {n : Nat}, n ≤ 16 → (∀ i : Nat, i < n → u i = 0 ∨ u i = 1) → sm n u = 0 → ∀ i : Nat, i < n → u i = 0
  | 0, _, _, _, i, hi => absurd hi (Nat.not_lt_zero i)
  | n + 1, hn, hu, h0, i, hi => by
    obtain ⟨k, hk, ek⟩ := sm_01 (n := n) (by omega) (fun j hj => hu j (by omega))
    have h0' : sm n u + u n = 0 := h0
    have hun : u n = 0 ∧ sm n u = 0 := by
      rcases hu n (Nat.lt_succ_self n) with e | e
      · rw [e, Int32.add_zero] at h0'
        exact ⟨e, h0'⟩
      · rw [e, ek, nI_1] at h0'
        exact absurd ((nI_eq (b := 0) (by omega) (by decide)).mp h0') (by omega)
    by_cases c : i = n
    · rw [c]; exact hun.1
    · exact sm01_zero (n := n) (by omega) (fun j hj => hu j (by omega)) hun.2 i (by omega)
theorem fc_inj {a c p q : Nat} (hc : c < 6) (ha : a < 6) (hp : p < 6) (hq : q < 6) (hac : a ≠ c) (h : fc p q = fc a c) : (p = a ∧ q = c) ∨ (p = c ∧ q = a) := by
  unfold fc at h
  split at h <;> split at h <;> omega
theorem i32_sss (a b : Int32) : a - (a - b) = b := by
  rw [Int32.sub_eq_add_neg, Int32.neg_sub, Int32.add_comm, Int32.sub_add_cancel]
/-- how many of a family sit at a table, as the sum over the guests -/
def FS (f : Nat → Int32) (t : Nat) (v : Int32) : Nat → Int32 := fun g => if fX7_of f 0 g 3 = nI t then (if fX7_of f 0 g 0 = v then 1 else 0) else 0
theorem FS_01 (f : Nat → Int32) (t : Nat) (v : Int32) (i : Nat) : FS f t v i = 0 ∨ FS f t v i = 1 := by
  unfold FS
  split
  · split
    · exact Or.inr rfl
    · exact Or.inl rfl
  · exact Or.inl rfl
/-- what the loop of a feud's beginning keeps: k tables are done -/
def FK (f F0 : Nat → Int32) (P : PV) (G T a c k : Nat) (x : Int32) (U : PV) : Prop :=
  ∃ (F : Nat → Int32) (L' : List Nat), REL U F 0 G T L' ∧
  (∀ i : Nat, i < 22 → i ≠ 3 → i ≠ 5 → F i = F0 i) ∧
  (∀ y w : Nat, y < 16 → w < 3 → fX7_of F 0 y w = fX7_of F0 0 y w) ∧
  (∀ y : Nat, y < G → fX7_of F 0 y 3 = -1 ∨ (fX7_of F 0 y 3 = fX7_of F0 0 y 3 ∧ fX7_of F 0 y 4 = fX7_of F0 0 y 4)) ∧
  (∀ y t : Nat, y < G → t < T → k ≤ t → fX7_of F0 0 y 3 = nI t → fX7_of F 0 y 3 = nI t) ∧
  F 5 = F0 5 + x ∧
  x = sm k (fun t => if fX2_familyThatRises P (nI t) (nI a) (nI c) = -1 then 0 else fX2_familyAt P (nI t) (fX2_familyThatRises P (nI t) (nI a) (nI c))) ∧
  (∀ t g h : Nat, t < k → g < G → h < G → fX7_of F 0 g 3 = nI t → fX7_of F 0 h 3 = nI t → fX7_of F 0 g 0 = nI a → fX7_of F 0 h 0 = nI c → False) ∧
  F 4 - F 5 = nI L'.length ∧
  (∀ y : Nat, y < G → fX7_of F 0 y 3 = -1 → fX7_of F 0 y 4 = -1)
section FB
variable {PN : PV} {f : Nat → Int32} {G T : Nat} {L : List Nat}
theorem rises_v {P : PV} {a c : Nat} (t : Int32) : fX2_familyThatRises P t (nI a) (nI c) = -1 ∨ fX2_familyThatRises P t (nI a) (nI c) = nI a ∨ fX2_familyThatRises P t (nI a) (nI c) = nI c := by
  unfold fX2_familyThatRises
  repeat' split
  all_goals first | exact Or.inl rfl | exact Or.inr (Or.inl rfl) | exact Or.inr (Or.inr rfl)
theorem rises_none {P : PV} {a c : Nat} {t : Int32} (ha : a < 6) (hc : c < 6) (h : fX2_familyThatRises P t (nI a) (nI c) = -1) : fX2_familyAt P t (nI a) = 0 ∨ fX2_familyAt P t (nI c) = 0 := by
  by_cases h1 : fX2_familyAt P t (nI a) = 0
  · exact Or.inl h1
  · by_cases h2 : fX2_familyAt P t (nI c) = 0
    · exact Or.inr h2
    · exfalso
      have m1 := nI_m1 (n := a) (by omega)
      have m2 := nI_m1 (n := c) (by omega)
      unfold fX2_familyThatRises at h
      rw [if_neg h1, if_neg h2] at h
      repeat' split at h
      all_goals first | exact m1 h | exact m2 h
theorem rises_congr {P U : PV} {t a c : Int32} (h1 : fX2_familyAt U t a = fX2_familyAt P t a) (h2 : fX2_familyAt U t c = fX2_familyAt P t c) : fX2_familyThatRises U t a c = fX2_familyThatRises P t a c := by
  unfold fX2_familyThatRises
  rw [h1, h2]
theorem FK_step {F0 : Nat → Int32} {P0 : PV} {L0 : List Nat} (hP0 : REL P0 F0 0 G T L0) {P : PV} (hfam : ∀ (t : Nat) (v : Int32), t < T → fX2_familyAt P (nI t) v = sm G (FS F0 t v)) {a c : Nat} (ha : a < 6) (hc : c < 6) (hac : a ≠ c) {k : Nat} (hk : k < T) {x : Int32} {U : PV} (h : FK f F0 P G T a c k x U) (nx : Int32 → PV → Int32 × PV) (Z : Int32 × PV → Prop) (hnx : ∀ (x' : Int32) (U' : PV), FK f F0 P G T a c (k + 1) x' U' → Z (nx x' U')) : Z (fX2_beginFeud_b17 (nI a) (nI c) k x U nx) := by
  obtain ⟨F, L', r1, r2, r3, r4, r5, r6, r7, r8, r9, r10⟩ := h
  have hG := r1.wf.G16
  have hT := r1.wf.hT
  have same : ∀ y : Nat, y < G → (fX7_of F 0 y 3 = nI k ↔ fX7_of F0 0 y 3 = nI k) := fun y hy => ⟨fun e => by
    rcases r4 y hy with e2 | ⟨e2, _⟩
    · exact absurd (e.symm.trans e2) (nI_m1 (by omega))
    · rw [← e2]; exact e, fun e => r5 y k hy hk (Nat.le_refl k) e⟩
  have hFS : ∀ v : Int32, sm G (FS F k v) = sm G (FS F0 k v) := fun v => sm_congr (fun y hy => by
    unfold FS
    rw [r3 y 0 (by omega) (by decide)]
    by_cases e : fX7_of F 0 y 3 = nI k
    · rw [if_pos e, if_pos ((same y hy).mp e)]
    · rw [if_neg e, if_neg (fun e2 => e ((same y hy).mpr e2))])
  have hfU : ∀ v : Int32, fX2_familyAt U (nI k) v = fX2_familyAt P (nI k) v := fun v => by
    rw [hfam k v hk, ← hFS v]
    exact familyAt_sum r1 hk v
  have hri : fX2_familyThatRises U (nI k) (nI a) (nI c) = fX2_familyThatRises P (nI k) (nI a) (nI c) := rises_congr (hfU _) (hfU _)
  have hsum : sm (k + 1) (fun t => if fX2_familyThatRises P (nI t) (nI a) (nI c) = -1 then 0 else fX2_familyAt P (nI t) (fX2_familyThatRises P (nI t) (nI a) (nI c))) = sm k (fun t => if fX2_familyThatRises P (nI t) (nI a) (nI c) = -1 then 0 else fX2_familyAt P (nI t) (fX2_familyThatRises P (nI t) (nI a) (nI c))) + (if fX2_familyThatRises P (nI k) (nI a) (nI c) = -1 then 0 else fX2_familyAt P (nI k) (fX2_familyThatRises P (nI k) (nI a) (nI c))) := rfl
  unfold fX2_beginFeud_b17
  rw [bd2_eq, hri]
  by_cases cv : fX2_familyThatRises P (nI k) (nI a) (nI c) = -1
  · rw [if_pos cv]
    refine hnx _ _ ⟨F, L', r1, r2, r3, r4, fun y t hy ht hkt e => r5 y t hy ht (by omega) e, r6, ?_, fun t g h ht hg hh e3 e33 e0 e00 => ?_, r9, r10⟩
    · rw [hsum, if_pos cv, Int32.add_zero]; exact r7
    · by_cases ct : t = k
      · subst ct
        rcases rises_none (P := P) (t := nI t) ha hc cv with z0 | z0
        · rw [hfam t _ hk, ← hFS] at z0
          have := sm01_zero hG (fun i _ => FS_01 F t (nI a) i) z0 g hg
          unfold FS at this
          rw [if_pos e3, if_pos e0] at this
          exact absurd this (by decide)
        · rw [hfam t _ hk, ← hFS] at z0
          have := sm01_zero hG (fun i _ => FS_01 F t (nI c) i) z0 h hh
          unfold FS at this
          rw [if_pos e33, if_pos e00] at this
          exact absurd this (by decide)
      · exact r8 t g h (by omega) hg hh e3 e33 e0 e00
  · rw [if_neg cv, bd2_eq]
    obtain ⟨w, hw, ew⟩ : ∃ w : Nat, (w = a ∨ w = c) ∧ fX2_familyThatRises P (nI k) (nI a) (nI c) = nI w := by
      rcases rises_v (P := P) (a := a) (c := c) (nI k) with e | e | e
      · exact absurd e cv
      · exact ⟨a, Or.inl rfl, e⟩
      · exact ⟨c, Or.inr rfl, e⟩
    obtain ⟨P', F', L'', x', q1, q2, q3⟩ := family_up r1 hk (fX2_familyThatRises P (nI k) (nI a) (nI c))
    rw [q1]
    obtain ⟨u1, u2, u3, u4, u5, u6⟩ := q3
    have hx' : x' = fX2_familyAt P (nI k) (fX2_familyThatRises P (nI k) (nI a) (nI c)) := by
      rw [← hfU, familyAt_sum r1 hk, u4]
      refine sm_congr (fun y hy => ?_)
      unfold CN
      by_cases e3 : fX7_of F 0 y 3 = nI k
      · rw [if_pos e3]
        by_cases e0 : fX7_of F 0 y 0 = fX2_familyThatRises P (nI k) (nI a) (nI c)
        · rw [if_pos e0, if_pos (FP_t.mpr ⟨hy, e3, e0, rfl⟩)]
        · rw [if_neg e0, if_neg (fun z => e0 (FP_t.mp z).2.2.1)]
      · rw [if_neg e3, if_neg (fun z => e3 (FP_t.mp z).2.1)]
    refine hnx _ _ ⟨F', L'', q2, fun i hi h3 h5 => ?_, fun y w hy hw => ?_, fun y hy => ?_, fun y t hy ht hkt e => ?_, ?_, ?_, fun t g h ht hg hh e3 e33 e0 e00 => ?_, ?_, fun y hy e3 => ?_⟩
    · rw [u1 i (by omega)]; exact r2 i hi h3 h5
    · rw [u2 y w hy (by omega), if_neg (fun z => absurd z.2 (by omega))]; exact r3 y w hy hw
    · rw [u2 y 3 (by omega) (by decide), u2 y 4 (by omega) (by decide)]
      by_cases e : FP F G (nI k) (fX2_familyThatRises P (nI k) (nI a) (nI c)) (fun _ => true) y = true
      · rw [if_pos ⟨e, by decide⟩]; exact Or.inl rfl
      · rw [if_neg (fun z => e z.1), if_neg (fun z => e z.1)]; exact r4 y hy
    · have := r5 y t hy ht (by omega) e
      rw [u2 y 3 (by omega) (by decide), if_neg (fun z => ?_)]
      · exact this
      · have z3 := (FP_t.mp z.1).2.1
        have := (nI_eq (by omega) (by omega)).mp (z3.symm.trans this)
        omega
    · show F' 5 = F0 5 + (x + x')
      rw [u3, r6, Int32.add_assoc]
    · show x + x' = _
      rw [hsum, if_neg cv, ← hx', r7]
    · rw [u2 g 3 (by omega) (by decide)] at e3
      rw [u2 h 3 (by omega) (by decide)] at e33
      rw [u2 g 0 (by omega) (by decide), if_neg (fun z => absurd z.2 (by decide))] at e0
      rw [u2 h 0 (by omega) (by decide), if_neg (fun z => absurd z.2 (by decide))] at e00
      by_cases pg : FP F G (nI k) (fX2_familyThatRises P (nI k) (nI a) (nI c)) (fun _ => true) g = true
      · rw [if_pos ⟨pg, by decide⟩] at e3
        exact nI_m1 (by omega) e3.symm
      · by_cases ph : FP F G (nI k) (fX2_familyThatRises P (nI k) (nI a) (nI c)) (fun _ => true) h = true
        · rw [if_pos ⟨ph, by decide⟩] at e33
          exact nI_m1 (by omega) e33.symm
        · rw [if_neg (fun z => pg z.1)] at e3
          rw [if_neg (fun z => ph z.1)] at e33
          by_cases ct : t = k
          · subst ct
            rcases hw with rfl | rfl
            · exact pg (FP_t.mpr ⟨hg, e3, e0.trans ew.symm, rfl⟩)
            · exact ph (FP_t.mpr ⟨hh, e33, e00.trans ew.symm, rfl⟩)
          · exact r8 t g h (by omega) hg hh e3 e33 e0 e00
    · have s1 := SI_len q2.wf
      have s2 := SI_len r1.wf
      have s3 : sm G (SI F' 0) = sm G (SI F 0) + x' := by
        rw [u4, ← sm_add]
        refine sm_congr (fun y hy => ?_)
        have hv := u2 y 3 (show y < 16 by omega) (by decide)
        unfold SI CN
        by_cases e : FP F G (nI k) (fX2_familyThatRises P (nI k) (nI a) (nI c)) (fun _ => true) y = true
        · rw [if_pos ⟨e, by decide⟩] at hv
          rw [hv, if_pos rfl, if_pos e, if_neg (by rw [(FP_t.mp e).2.1]; exact nI_m1 (by omega))]
          rfl
        · rw [if_neg (fun z => e z.1)] at hv
          rw [hv, if_neg e, Int32.add_zero]
      rw [u1 4 (by decide), u3, ← Int32.sub_sub, r9]
      rw [s3, ← s2] at s1
      have e1 : nI L''.length = nI G - (nI G - nI L'.length + x') := by
        rw [← s1, i32_sss]
      rw [e1, ← Int32.sub_sub, i32_sss]
    · rw [u2 y 3 (by omega) (by decide)] at e3
      rw [u2 y 4 (by omega) (by decide)]
      by_cases e : FP F G (nI k) (fX2_familyThatRises P (nI k) (nI a) (nI c)) (fun _ => true) y = true
      · rw [if_pos ⟨e, by decide⟩]
      · rw [if_neg (fun z => e z.1)] at e3
        rw [if_neg (fun z => e z.1)]
        exact r10 y hy e3
end FB
