/-! a feud begins: the whole of it. Mine. -/
section FA
variable {PN : PV} {Ps : Nat → PV} {o v : Nat} {f : Nat → Int32} {G T : Nat} {L : List Nat}
theorem risers_sum (hR : REL PN f 0 G T L) {a c : Nat} (ha : a < 6) (hc : c < 6) (hF : fX2_hasFeud PN (nI a) (nI c) = 0) : fX2_risersOfFeud PN (nI a) (nI c) = sm T (fun t => if fX2_familyThatRises PN (nI t) (nI a) (nI c) = -1 then 0 else fX2_familyAt PN (nI t) (fX2_familyThatRises PN (nI t) (nI a) (nI c))) := by
  have hT := hR.wf.hT
  unfold fX2_risersOfFeud
  rw [if_pos hF, hR.pt, nI_clamp (by omega)]
  refine lq1_sum0 (N := T) _ (fun k x nx hk => ?_)
  unfold fX2_risersOfFeud_b16
  rw [bd_eq]
  by_cases e : fX2_familyThatRises PN (nI k) (nI a) (nI c) = -1
  · rw [if_pos e, if_pos e, Int32.add_zero]
  · rw [if_neg e, if_neg e]
theorem feud_all (hR : REL PN f 0 G T L) (hX : XI f G L) {a c : Nat} (ha : a < 6) (hc : c < 6) (hac : a ≠ c) (hF : fX2_hasFeud PN (nI a) (nI c) = 0) {n : Nat} (hn : f 2 = nI n) (hn8 : n < 8) :
    ∃ (F : Nat → Int32) (L' : List Nat), REL (fX2_beginFeud PN (nI a) (nI c)).2 F 0 G T L' ∧ XI F G L' ∧ (fX2_beginFeud PN (nI a) (nI c)).1 = fX2_risersOfFeud PN (nI a) (nI c) ∧ F 5 = f 5 + (fX2_beginFeud PN (nI a) (nI c)).1 ∧ F 4 = f 4 ∧ fX2_hasFeud (fX2_beginFeud PN (nI a) (nI c)).2 (nI a) (nI c) ≠ 0 := by
  have hG := hR.wf.G16
  have hT := hR.wf.hT
  have hri := risers_sum hR ha hc hF
  have hn0 : f (0 + 2) = nI n := by rw [Nat.zero_add]; exact hn
  obtain ⟨p, q, hpq, hq6, efc⟩ := fc_lt a ha c hc hac
  have hnF : ¬ FD f 0 (nI (6 * p + q)) := fun z => by
    rw [hasFeud_eq hR ha hc, fc_ref a ha c hc, efc] at hF
    by_cases e : fX7_feudPlace f 0 (nI (6 * p + q)) = -1
    · exact (feudPlace_m1 hR.wf.f8).mp e z
    · rw [if_neg e] at hF
      exact absurd hF (by decide)
  have hnew : ∀ k : Nat, k < n → f (0 + 10 + k) ≠ nI (6 * p + q) := fun k hk e => hnF ⟨k, by rw [hn0, nI_clamp (by omega)]; exact hk, e⟩
  obtain ⟨F0, hF0⟩ : ∃ F0 : Nat → Int32, F0 = upd (upd f (10 + n) (nI (6 * p + q))) 2 (nI (n + 1)) := ⟨_, rfl⟩
  have e2 : F0 (0 + 2) = nI (n + 1) := by rw [hF0, Nat.zero_add]; exact upd_eq
  have ec : F0 (0 + 10 + n) = nI (6 * p + q) := by rw [hF0, Nat.zero_add, upd_ne (by omega)]; exact upd_eq
  have eo : ∀ i : Nat, i ≠ 0 + 2 → i ≠ 0 + 10 + n → F0 i = f i := fun i h1 h2 => by rw [hF0, upd_ne (by omega), upd_ne (by omega)]
  have hW0 := more_WF hR.wf hn0 hn8 hpq hq6 hnew e2 ec eo
  have hR0 := more_REL hR hW0 hn0 hn8 e2 ec eo
  have eof : ∀ y w : Nat, fX7_of F0 0 y w = fX7_of f 0 y w := fun y w => by unfold fX7_of; exact eo _ (by omega) (by omega)
  have hfam : ∀ (t : Nat) (v : Int32), t < T → fX2_familyAt PN (nI t) v = sm G (FS F0 t v) := fun t v ht => by
    rw [familyAt_sum hR ht v]
    refine sm_congr (fun y hy => ?_)
    unfold FS
    rw [eof, eof]
  obtain ⟨a1, a2, a3, a4⟩ := hX
  have key : ∃ (x : Int32) (U : PV), fX2_beginFeud PN (nI a) (nI c) = (x, U) ∧ FK f F0 PN G T a c T x U := by
    have eB : fX2_beginFeud PN (nI a) (nI c) = lq2 (fX2_beginFeud_b17 (nI a) (nI c)) fX2_beginFeud_r17 T 0 0 (sset (rset PN 8 (upd (PN 8) n (nI (6 * p + q)))) 4 (nI (n + 1))) := by
      unfold fX2_beginFeud
      rw [bd_eq, fc_cls a ha c hc, efc, hR.p4, hn0, hR.pt, nI_clamp (show T < 2 ^ 31 by omega)]
      unfold fX1_addLast fX1_isFull
      rw [if_pos (show nI n < nI 8 from nI_lt (by omega) (by decide)), if_pos rfl, bd_eq, put_in (by omega) (by decide), nI_1]
    rw [eB]
    refine lq2_ind (N := T) (fun k x U => FK f F0 PN G T a c k x U) (fun (r : Int32 × PV) => ∃ (x : Int32) (U : PV), r = (x, U) ∧ FK f F0 PN G T a c T x U) (fun k x U nx hk hI hnx => FK_step hR0 hfam ha hc hac hk hI nx (fun (r : Int32 × PV) => ∃ (x : Int32) (U : PV), r = (x, U) ∧ FK f F0 PN G T a c T x U) hnx) (fun x U hI => ⟨x, U, rfl, hI⟩) T 0 0 _ (Nat.zero_add T) ⟨F0, L, hR0, fun _ _ _ _ => rfl, fun _ _ _ _ => rfl, fun y _ => Or.inr ⟨rfl, rfl⟩, fun y t _ _ _ e => e, (Int32.add_zero _).symm, rfl, fun t g h ht => absurd ht (Nat.not_lt_zero t), ?_, fun y hy e3 => by rw [eof] at e3 ⊢; exact a4 y hy e3⟩
    rw [eo 4 (by decide) (by omega), eo 5 (by decide) (by omega)]
    exact a3
  obtain ⟨x, U, eB, F, L', r1, r2, r3, r4, r5, r6, r7, r8, r9, r10⟩ := key
  rw [eB]
  have hF4 : F 4 = f 4 := (r2 4 (by decide) (by decide) (by decide)).trans (eo 4 (by decide) (by omega))
  have hF5 : F 5 = f 5 + x := by rw [r6, eo 5 (by decide) (by omega)]
  have hF2 : F (0 + 2) = nI (n + 1) := (r2 (0 + 2) (by decide) (by decide) (by decide)).trans e2
  have hold : ∀ w : Int32, FD F 0 w → FD f 0 w ∨ w = nI (6 * p + q) := by
    rintro w ⟨k, hk, e⟩
    rw [hF2, nI_clamp (by omega)] at hk
    rw [r2 (0 + 10 + k) (by omega) (by omega) (by omega)] at e
    by_cases ck : k = n
    · subst ck
      exact Or.inr (e.symm.trans ec)
    · rw [eo (0 + 10 + k) (by omega) (by omega)] at e
      exact Or.inl ⟨k, by rw [hn0, nI_clamp (by omega)]; omega, e⟩
  refine ⟨F, L', r1, ⟨fun g z hg hz e3 s1 s4 => ?_, fun g h a' c' hg hh ha' hc' e3 e33 s0 s00 hf => ?_, r9, r10⟩, by rw [hri]; exact r7, hF5, hF4, ?_⟩
  · rcases r4 g hg with e | ⟨e, e'⟩
    · exact absurd e e3
    · rw [r3 g 1 (by omega) (by decide), eof] at s1
      rw [e', eof] at s4
      rw [e, eof] at e3
      exact a1 g z hg hz e3 s1 s4
  · rcases r4 g hg with e | ⟨e, _⟩
    · exact absurd e e3
    have h3 : fX7_of F 0 h 3 ≠ -1 := by rw [← e33]; exact e3
    rcases r4 h hh with e9 | ⟨e9, _⟩
    · exact absurd e9 h3
    rcases hold _ hf with z | z
    · rw [r3 g 0 (by omega) (by decide), eof] at s0
      rw [r3 h 0 (by omega) (by decide), eof] at s00
      rw [e, e9, eof, eof] at e33
      rw [e, eof] at e3
      exact a2 g h a' c' hg hh ha' hc' e3 e33 s0 s00 z
    · have z2 := (nI_eq (show fc a' c' < 2 ^ 31 by unfold fc; split <;> omega) (by omega)).mp z
      rw [← efc] at z2
      rcases r1.wf.sit g hg with e8 | ⟨t, y, m, k1, k2, k3, k4, k5, k6⟩
      · exact absurd e8 e3
      rcases fc_inj hc ha ha' hc' hac z2 with ⟨rfl, rfl⟩ | ⟨rfl, rfl⟩
      · exact r8 t g h k1 hg hh k5 (by rw [← e33]; exact k5) s0 s00
      · exact r8 t h g k1 hh hg (by rw [← e33]; exact k5) k5 s00 s0
  · show fX2_hasFeud U (nI a) (nI c) ≠ 0
    rw [hasFeud_eq r1 ha hc, fc_ref a ha c hc, efc, if_neg (fun e => (feudPlace_m1 r1.wf.f8).mp e ⟨n, by rw [hF2, nI_clamp (by omega)]; omega, (r2 (0 + 10 + n) (by omega) (by omega) (by omega)).trans ec⟩)]
    exact h10
theorem D_feud (hR : REL PN f 0 G T L) (hX : XI f G L) {a c : Nat} (ha : a < 6) (hc : c < 6) (hac : a ≠ c) (hF : fX2_hasFeud PN (nI a) (nI c) = 0) (h8 : ¬ 8 ≤ PN 10 4) : DD (fX6_feud PN Ps o v (nI a) (nI c)) PN Ps o v (fX2_beginFeud PN (nI a) (nI c)) := by
  have hG := hR.wf.G16
  obtain ⟨n, n8, hn, -, -⟩ := hR.wf.fds
  have hp4 : PN 10 4 = nI n := hR.p4.trans hn
  have hn2 : f 2 = nI n := by rw [Nat.zero_add] at hn; exact hn
  have hn8 : n < 8 := by
    rw [hp4, show (8 : Int32) = nI 8 from rfl, nI_leI (by decide) (by omega)] at h8
    omega
  obtain ⟨F, L', k1, k2, k3, k4, k5, k6⟩ := feud_all hR hX ha hc hac hF hn2 hn8
  refine ⟨?_, ?_, F, G, T, L', k1, k2⟩
  · unfold fX6_feud fX1_isFull
    rw [twoI a ha c hc hac, if_pos rfl, if_pos hF, hp4, if_pos (show nI n < nI 8 from nI_lt hn8 (by decide)), if_pos rfl, bd_eq, bd2_eq]
    rfl
  · have e1 := SI_len k1.wf
    have e2 := SI_len hR.wf
    obtain ⟨-, -, a3, -⟩ := hX
    obtain ⟨-, -, b3, -⟩ := k2
    have hl := hR.wf.ro.len
    have hl2 := k1.wf.ro.len
    rw [k4, k5, ← Int32.sub_sub, a3] at b3
    have e3 : (fX2_beginFeud PN (nI a) (nI c)).1 = nI L.length - nI L'.length := by rw [← b3, i32_sss]
    rw [e3]
    exact ge1000 (by rw [pk_sub_toInt (by omega) (by omega)]; omega) (by rw [pk_sub_toInt (by omega) (by omega)]; omega)
end FA
