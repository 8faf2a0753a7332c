/-! a call of both sides, as one step. Mine. -/
/-- both sides' states -/
def LI (PN PS : PV) (Ps : Nat → PV) (o v : Nat) (kp : Int32) (F M tf : Nat → Int32) (tu : Int32) (x : Nat → Int32) : Prop := ST PN PS Ps o v kp F M ∧ XT tf tu x M
theorem LI_M {PN PS : PV} {Ps : Nat → PV} {o v : Nat} {kp tu : Int32} {F M tf x : Nat → Int32} (h : LI PN PS Ps o v kp F M tf tu x) (y : Int32) : LI PN PS Ps o v kp F (upd M 0 y) tf tu x := ⟨ST_M h.1 y, XT_M h.2 (upd_ne (by decide))⟩
theorem up_0 (fo : Nat → Int64) (y : Int64) : vp_updL fo 0 y 0 = y := by simp [vp_updL]
theorem sx_gen {S V : Type} {tm : V → Int32} {X : Nat ⊕ (Int32 × S)} {old : S} {cm : Nat → Int32} {k9 b9 : Int32} {z9 : S × (Nat → Int64)} {fo : Nat → Int64} {Y : Int32 × V} {w9 : V} {J : S → V → Prop} (hc : (∃ c9 : Nat, X = Sum.inl c9 ∧ k9 = cm c9 ∧ z9 = (old, fo)) ∨ (∃ (r9 : Int32) (u9 : S), X = Sum.inr (r9, u9) ∧ k9 = 0 ∧ z9 = (u9, vp_updL fo 0 r9.toInt64))) (hm : (b9, w9) = Y)
    (hs : (∃ (cc p : Nat) (v : V), X = Sum.inl cc ∧ Y = (0, v) ∧ tm v = nI p ∧ cm cc = nI p ∧ nI p ≠ 0 ∧ J old v) ∨ (∃ (r : Int32) (t : S) (v : V), X = Sum.inr (r, t) ∧ Y = (r, v) ∧ tm v = 0 ∧ J t v)) : tm w9 = k9 ∧ (k9 = 0 → z9.2 0 = b9.toInt64) ∧ J z9.1 w9 := by
  rcases hs with ⟨cc, p, v, e1, e2, e3, e4, e5, e6⟩ | ⟨r, t, v, e1, e2, e3, e4⟩
  · rcases hc with ⟨c9, d1, d2, d3⟩ | ⟨r9, u9, d1, d2, d3⟩
    · obtain rfl : cc = c9 := Sum.inl.inj (e1.symm.trans d1)
      obtain ⟨-, rfl⟩ := Prod.mk.inj (hm.trans e2)
      subst d3
      refine ⟨e3.trans (e4.symm.trans d2.symm), fun h0 => absurd (e4.symm.trans (d2.symm.trans h0)) e5, e6⟩
    · exact absurd (e1.symm.trans d1) (fun z => by cases z)
  · rcases hc with ⟨c9, d1, d2, d3⟩ | ⟨r9, u9, d1, d2, d3⟩
    · exact absurd (e1.symm.trans d1) (fun z => by cases z)
    · obtain ⟨rfl, rfl⟩ := Prod.mk.inj (Sum.inr.inj (e1.symm.trans d1))
      obtain ⟨rfl, rfl⟩ := Prod.mk.inj (hm.trans e2)
      subst d3
      exact ⟨e3.trans d2.symm, fun _ => up_0 fo _, e4⟩
/-- the same where a refusal may leave one thing written -/
theorem sx_genT {S V T : Type} {tm : V → Int32} {X : Nat ⊕ (Int32 × S)} {old : T → S} {cm : Nat → Int32} {k9 b9 : Int32} {z9 : S × (Nat → Int64)} {fo : Nat → Int64} {Y : Int32 × V} {w9 : V} {J : S → V → Prop} (hc : (∃ c9 : Nat, X = Sum.inl c9 ∧ k9 = cm c9 ∧ ∃ P9 : T, z9 = (old P9, fo)) ∨ (∃ (r9 : Int32) (u9 : S), X = Sum.inr (r9, u9) ∧ k9 = 0 ∧ z9 = (u9, vp_updL fo 0 r9.toInt64))) (hm : (b9, w9) = Y)
    (hs : (∃ (cc p : Nat) (v : V), X = Sum.inl cc ∧ Y = (0, v) ∧ tm v = nI p ∧ cm cc = nI p ∧ nI p ≠ 0 ∧ ∀ P9 : T, J (old P9) v) ∨ (∃ (r : Int32) (t : S) (v : V), X = Sum.inr (r, t) ∧ Y = (r, v) ∧ tm v = 0 ∧ J t v)) : tm w9 = k9 ∧ (k9 = 0 → z9.2 0 = b9.toInt64) ∧ J z9.1 w9 := by
  rcases hs with ⟨cc, p, v, e1, e2, e3, e4, e5, e6⟩ | hs
  · rcases hc with ⟨c9, d1, d2, P9, d3⟩ | ⟨r9, u9, d1, d2, d3⟩
    · exact sx_gen (old := old P9) (cm := cm) (Or.inl ⟨c9, d1, d2, d3⟩) hm (Or.inl ⟨cc, p, v, e1, e2, e3, e4, e5, e6 P9⟩)
    · exact absurd (e1.symm.trans d1) (fun z => by cases z)
  · rcases hc with ⟨c9, d1, d2, P9, d3⟩ | ⟨r9, u9, d1, d2, d3⟩
    · exact sx_gen (old := old P9) (cm := cm) (Or.inl ⟨c9, d1, d2, d3⟩) hm (Or.inr hs)
    · obtain ⟨r, t, v, e1, e2, e3, e4⟩ := hs
      exact sx_gen (old := t) (cm := cm) (Or.inr ⟨r9, u9, d1, d2, d3⟩) hm (Or.inr ⟨r, t, v, e1, e2, e3, e4⟩)
theorem sx_guest {PN PT PS : PV} {Ps : Nat → PV} {oh vh : Nat} {k u : Int32} {f F M x : Nat → Int32} {y1 y2 : Int32} {k9 b9 : Int32} {fo : Nat → Int64} {z9 : (PV × (Nat → PV) × Nat × Nat) × (Nat → Int64)} {w9 : (Nat → Int32) × (Nat → Int32)} (hI : LI PN PS Ps oh vh k F M f u x) (hc : (∃ c9 : Nat, fX6_guest PN Ps oh vh y1 y2 = Sum.inl c9 ∧ k9 = (if c9 = 0 then 1 else (if c9 = 1 then 2 else 9)) ∧ z9 = ((PN, Ps, oh, vh), fo)) ∨ (∃ (r9 : Int32) (u9 : PV × (Nat → PV) × Nat × Nat), fX6_guest PN Ps oh vh y1 y2 = Sum.inr (r9, u9) ∧ k9 = 0 ∧ z9 = (u9, vp_updL fo 0 r9.toInt64))) (hm : (b9, w9) = fX7_guest F M y1 y2) : w9.2 0 = k9 ∧ (k9 = 0 → z9.2 0 = b9.toInt64) ∧ LI z9.1.1 PS z9.1.2.1 z9.1.2.2.1 z9.1.2.2.2 k w9.1 w9.2 f u x := by
  refine sx_gen (tm := fun (w : (Nat → Int32) × (Nat → Int32)) => w.2 0) (J := fun (z : PV × (Nat → PV) × Nat × Nat) (w : (Nat → Int32) × (Nat → Int32)) => LI z.1 PS z.2.1 z.2.2.1 z.2.2.2 k w.1 w.2 f u x) hc hm ?_
  rcases guest_ST hI.1 y1 y2 with ⟨e1, e2⟩ | ⟨e1, e2⟩ |  ⟨r, PN', Ps', o', v', F', M', e1, e2, e3, e4⟩
  · exact Or.inl ⟨_, 1, _, e1, e2, (show upd M 0 (nI 1) 0 = nI 1 from upd_eq), rfl, by decide, LI_M hI _⟩
  · exact Or.inl ⟨_, 2, _, e1, e2, (show upd M 0 (nI 2) 0 = nI 2 from upd_eq), rfl, by decide, LI_M hI _⟩
  · exact Or.inr ⟨_, _, _, e1, e2, e3.1, e4, XT_M hI.2 e3.2⟩
theorem sx_wish {PN PT PS : PV} {Ps : Nat → PV} {oh vh : Nat} {k u : Int32} {f F M x : Nat → Int32} {y1 y2 : Int32} {k9 b9 : Int32} {fo : Nat → Int64} {z9 : (PV × (Nat → PV) × Nat × Nat) × (Nat → Int64)} {w9 : (Nat → Int32) × (Nat → Int32)} (hI : LI PN PS Ps oh vh k F M f u x) (hc : (∃ c9 : Nat, fX6_wish PN Ps oh vh y1 y2 = Sum.inl c9 ∧ k9 = (if c9 = 2 then 1 else (if c9 = 0 then 2 else 9)) ∧ z9 = ((PN, Ps, oh, vh), fo)) ∨ (∃ (r9 : Int32) (u9 : PV × (Nat → PV) × Nat × Nat), fX6_wish PN Ps oh vh y1 y2 = Sum.inr (r9, u9) ∧ k9 = 0 ∧ z9 = (u9, vp_updL fo 0 r9.toInt64))) (hm : (b9, w9) = fX7_wish F M y1 y2) : w9.2 0 = k9 ∧ (k9 = 0 → z9.2 0 = b9.toInt64) ∧ LI z9.1.1 PS z9.1.2.1 z9.1.2.2.1 z9.1.2.2.2 k w9.1 w9.2 f u x := by
  refine sx_gen (tm := fun (w : (Nat → Int32) × (Nat → Int32)) => w.2 0) (J := fun (z : PV × (Nat → PV) × Nat × Nat) (w : (Nat → Int32) × (Nat → Int32)) => LI z.1 PS z.2.1 z.2.2.1 z.2.2.2 k w.1 w.2 f u x) hc hm ?_
  rcases wish_ST hI.1 y1 y2 with ⟨e1, e2⟩ | ⟨e1, e2⟩ |  ⟨r, PN', Ps', o', v', F', M', e1, e2, e3, e4⟩
  · exact Or.inl ⟨_, 1, _, e1, e2, (show upd M 0 (nI 1) 0 = nI 1 from upd_eq), rfl, by decide, LI_M hI _⟩
  · exact Or.inl ⟨_, 2, _, e1, e2, (show upd M 0 (nI 2) 0 = nI 2 from upd_eq), rfl, by decide, LI_M hI _⟩
  · exact Or.inr ⟨_, _, _, e1, e2, e3.1, e4, XT_M hI.2 e3.2⟩
theorem sx_table {PN PT PS : PV} {Ps : Nat → PV} {oh vh : Nat} {k u : Int32} {f F M x : Nat → Int32} {y1 : Int32} {k9 b9 : Int32} {fo : Nat → Int64} {z9 : (PV × (Nat → PV) × Nat × Nat) × (Nat → Int64)} {w9 : (Nat → Int32) × (Nat → Int32)} (hI : LI PN PS Ps oh vh k F M f u x) (hc : (∃ c9 : Nat, fX6_table PN Ps oh vh y1 = Sum.inl c9 ∧ k9 = (if c9 = 0 then 1 else (if c9 = 1 then 2 else 9)) ∧ z9 = ((PN, Ps, oh, vh), fo)) ∨ (∃ (r9 : Int32) (u9 : PV × (Nat → PV) × Nat × Nat), fX6_table PN Ps oh vh y1 = Sum.inr (r9, u9) ∧ k9 = 0 ∧ z9 = (u9, vp_updL fo 0 r9.toInt64))) (hm : (b9, w9) = fX7_table F M y1) : w9.2 0 = k9 ∧ (k9 = 0 → z9.2 0 = b9.toInt64) ∧ LI z9.1.1 PS z9.1.2.1 z9.1.2.2.1 z9.1.2.2.2 k w9.1 w9.2 f u x := by
  refine sx_gen (tm := fun (w : (Nat → Int32) × (Nat → Int32)) => w.2 0) (J := fun (z : PV × (Nat → PV) × Nat × Nat) (w : (Nat → Int32) × (Nat → Int32)) => LI z.1 PS z.2.1 z.2.2.1 z.2.2.2 k w.1 w.2 f u x) hc hm ?_
  rcases table_ST hI.1 y1 with ⟨e1, e2⟩ | ⟨e1, e2⟩ |  ⟨r, PN', Ps', o', v', F', M', e1, e2, e3, e4⟩
  · exact Or.inl ⟨_, 1, _, e1, e2, (show upd M 0 (nI 1) 0 = nI 1 from upd_eq), rfl, by decide, LI_M hI _⟩
  · exact Or.inl ⟨_, 2, _, e1, e2, (show upd M 0 (nI 2) 0 = nI 2 from upd_eq), rfl, by decide, LI_M hI _⟩
  · exact Or.inr ⟨_, _, _, e1, e2, e3.1, e4, XT_M hI.2 e3.2⟩
theorem sx_feud {PN PT PS : PV} {Ps : Nat → PV} {oh vh : Nat} {k u : Int32} {f F M x : Nat → Int32} {y1 y2 : Int32} {k9 b9 : Int32} {fo : Nat → Int64} {z9 : (PV × (Nat → PV) × Nat × Nat) × (Nat → Int64)} {w9 : (Nat → Int32) × (Nat → Int32)} (hI : LI PN PS Ps oh vh k F M f u x) (hc : (∃ c9 : Nat, fX6_feud PN Ps oh vh y1 y2 = Sum.inl c9 ∧ k9 = (if c9 = 0 then 1 else (if c9 = 1 then 2 else 9)) ∧ z9 = ((PN, Ps, oh, vh), fo)) ∨ (∃ (r9 : Int32) (u9 : PV × (Nat → PV) × Nat × Nat), fX6_feud PN Ps oh vh y1 y2 = Sum.inr (r9, u9) ∧ k9 = 0 ∧ z9 = (u9, vp_updL fo 0 r9.toInt64))) (hm : (b9, w9) = fX7_feud F M y1 y2) : w9.2 0 = k9 ∧ (k9 = 0 → z9.2 0 = b9.toInt64) ∧ LI z9.1.1 PS z9.1.2.1 z9.1.2.2.1 z9.1.2.2.2 k w9.1 w9.2 f u x := by
  refine sx_gen (tm := fun (w : (Nat → Int32) × (Nat → Int32)) => w.2 0) (J := fun (z : PV × (Nat → PV) × Nat × Nat) (w : (Nat → Int32) × (Nat → Int32)) => LI z.1 PS z.2.1 z.2.2.1 z.2.2.2 k w.1 w.2 f u x) hc hm ?_
  rcases feud_ST hI.1 y1 y2 with ⟨e1, e2⟩ | ⟨e1, e2⟩ |  ⟨r, PN', Ps', o', v', F', M', e1, e2, e3, e4⟩
  · exact Or.inl ⟨_, 1, _, e1, e2, (show upd M 0 (nI 1) 0 = nI 1 from upd_eq), rfl, by decide, LI_M hI _⟩
  · exact Or.inl ⟨_, 2, _, e1, e2, (show upd M 0 (nI 2) 0 = nI 2 from upd_eq), rfl, by decide, LI_M hI _⟩
  · exact Or.inr ⟨_, _, _, e1, e2, e3.1, e4, XT_M hI.2 e3.2⟩
theorem sx_peace {PN PT PS : PV} {Ps : Nat → PV} {oh vh : Nat} {k u : Int32} {f F M x : Nat → Int32} {y1 y2 : Int32} {k9 b9 : Int32} {fo : Nat → Int64} {z9 : (PV × (Nat → PV) × Nat × Nat) × (Nat → Int64)} {w9 : (Nat → Int32) × (Nat → Int32)} (hI : LI PN PS Ps oh vh k F M f u x) (hc : (∃ c9 : Nat, fX6_peace PN Ps oh vh y1 y2 = Sum.inl c9 ∧ k9 = (if c9 = 0 then 1 else (if c9 = 1 then 2 else 9)) ∧ z9 = ((PN, Ps, oh, vh), fo)) ∨ (∃ (r9 : Int32) (u9 : PV × (Nat → PV) × Nat × Nat), fX6_peace PN Ps oh vh y1 y2 = Sum.inr (r9, u9) ∧ k9 = 0 ∧ z9 = (u9, vp_updL fo 0 r9.toInt64))) (hm : (b9, w9) = fX7_peace F M y1 y2) : w9.2 0 = k9 ∧ (k9 = 0 → z9.2 0 = b9.toInt64) ∧ LI z9.1.1 PS z9.1.2.1 z9.1.2.2.1 z9.1.2.2.2 k w9.1 w9.2 f u x := by
  refine sx_gen (tm := fun (w : (Nat → Int32) × (Nat → Int32)) => w.2 0) (J := fun (z : PV × (Nat → PV) × Nat × Nat) (w : (Nat → Int32) × (Nat → Int32)) => LI z.1 PS z.2.1 z.2.2.1 z.2.2.2 k w.1 w.2 f u x) hc hm ?_
  rcases peace_ST hI.1 y1 y2 with ⟨e1, e2⟩ | ⟨e1, e2⟩ |  ⟨r, PN', Ps', o', v', F', M', e1, e2, e3, e4⟩
  · exact Or.inl ⟨_, 1, _, e1, e2, (show upd M 0 (nI 1) 0 = nI 1 from upd_eq), rfl, by decide, LI_M hI _⟩
  · exact Or.inl ⟨_, 2, _, e1, e2, (show upd M 0 (nI 2) 0 = nI 2 from upd_eq), rfl, by decide, LI_M hI _⟩
  · exact Or.inr ⟨_, _, _, e1, e2, e3.1, e4, XT_M hI.2 e3.2⟩
theorem sx_set {PN PT PS : PV} {Ps : Nat → PV} {oh vh : Nat} {k u : Int32} {f F M x : Nat → Int32} {y1 y2 : Int32} {k9 b9 : Int32} {fo : Nat → Int64} {z9 : (PV × (Nat → PV) × Nat × Nat) × (Nat → Int64)} {w9 : (Nat → Int32) × (Nat → Int32)} (hI : LI PN PS Ps oh vh k F M f u x) (hc : (∃ c9 : Nat, fX6_set PN Ps oh vh y1 y2 = Sum.inl c9 ∧ k9 = (if c9 = 2 then 1 else (if c9 = 0 then 2 else 9)) ∧ z9 = ((PN, Ps, oh, vh), fo)) ∨ (∃ (r9 : Int32) (u9 : PV × (Nat → PV) × Nat × Nat), fX6_set PN Ps oh vh y1 y2 = Sum.inr (r9, u9) ∧ k9 = 0 ∧ z9 = (u9, vp_updL fo 0 r9.toInt64))) (hm : (b9, w9) = fX7_set F M y1 y2) : w9.2 0 = k9 ∧ (k9 = 0 → z9.2 0 = b9.toInt64) ∧ LI z9.1.1 PS z9.1.2.1 z9.1.2.2.1 z9.1.2.2.2 k w9.1 w9.2 f u x := by
  refine sx_gen (tm := fun (w : (Nat → Int32) × (Nat → Int32)) => w.2 0) (J := fun (z : PV × (Nat → PV) × Nat × Nat) (w : (Nat → Int32) × (Nat → Int32)) => LI z.1 PS z.2.1 z.2.2.1 z.2.2.2 k w.1 w.2 f u x) hc hm ?_
  rcases set_ST hI.1 y1 y2 with ⟨e1, e2⟩ | ⟨e1, e2⟩ |  ⟨r, PN', Ps', o', v', F', M', e1, e2, e3, e4⟩
  · exact Or.inl ⟨_, 1, _, e1, e2, (show upd M 0 (nI 1) 0 = nI 1 from upd_eq), rfl, by decide, LI_M hI _⟩
  · exact Or.inl ⟨_, 2, _, e1, e2, (show upd M 0 (nI 2) 0 = nI 2 from upd_eq), rfl, by decide, LI_M hI _⟩
  · exact Or.inr ⟨_, _, _, e1, e2, e3.1, e4, XT_M hI.2 e3.2⟩
theorem sx_sit {PN PT PS : PV} {Ps : Nat → PV} {oh vh : Nat} {k u : Int32} {f F M x : Nat → Int32} {y1 y2 y3 : Int32} {k9 b9 : Int32} {fo : Nat → Int64} {z9 : (PV × (Nat → PV) × Nat × Nat) × (Nat → Int64)} {w9 : (Nat → Int32) × (Nat → Int32)} (hI : LI PN PS Ps oh vh k F M f u x) (hc : (∃ c9 : Nat, fX6_sit PN Ps oh vh y1 y2 y3 = Sum.inl c9 ∧ k9 = (if c9 = 2 then 1 else (if c9 = 1 then 2 else 9)) ∧ z9 = ((PN, Ps, oh, vh), fo)) ∨ (∃ (r9 : Int32) (u9 : PV × (Nat → PV) × Nat × Nat), fX6_sit PN Ps oh vh y1 y2 y3 = Sum.inr (r9, u9) ∧ k9 = 0 ∧ z9 = (u9, vp_updL fo 0 r9.toInt64))) (hm : (b9, w9) = fX7_sit F M y1 y2 y3) : w9.2 0 = k9 ∧ (k9 = 0 → z9.2 0 = b9.toInt64) ∧ LI z9.1.1 PS z9.1.2.1 z9.1.2.2.1 z9.1.2.2.2 k w9.1 w9.2 f u x := by
  refine sx_gen (tm := fun (w : (Nat → Int32) × (Nat → Int32)) => w.2 0) (J := fun (z : PV × (Nat → PV) × Nat × Nat) (w : (Nat → Int32) × (Nat → Int32)) => LI z.1 PS z.2.1 z.2.2.1 z.2.2.2 k w.1 w.2 f u x) hc hm ?_
  rcases sit_ST hI.1 y1 y2 y3 with ⟨e1, e2⟩ | ⟨e1, e2⟩ |  ⟨r, PN', Ps', o', v', F', M', e1, e2, e3, e4⟩
  · exact Or.inl ⟨_, 1, _, e1, e2, (show upd M 0 (nI 1) 0 = nI 1 from upd_eq), rfl, by decide, LI_M hI _⟩
  · exact Or.inl ⟨_, 2, _, e1, e2, (show upd M 0 (nI 2) 0 = nI 2 from upd_eq), rfl, by decide, LI_M hI _⟩
  · exact Or.inr ⟨_, _, _, e1, e2, e3.1, e4, XT_M hI.2 e3.2⟩
theorem sx_rise {PN PT PS : PV} {Ps : Nat → PV} {oh vh : Nat} {k u : Int32} {f F M x : Nat → Int32} {y1 : Int32} {k9 b9 : Int32} {fo : Nat → Int64} {z9 : (PV × (Nat → PV) × Nat × Nat) × (Nat → Int64)} {w9 : (Nat → Int32) × (Nat → Int32)} (hI : LI PN PS Ps oh vh k F M f u x) (hc : (∃ c9 : Nat, fX6_rise PN Ps oh vh y1 = Sum.inl c9 ∧ k9 = (if c9 = 2 then 1 else (if c9 = 1 then 2 else 9)) ∧ z9 = ((PN, Ps, oh, vh), fo)) ∨ (∃ (r9 : Int32) (u9 : PV × (Nat → PV) × Nat × Nat), fX6_rise PN Ps oh vh y1 = Sum.inr (r9, u9) ∧ k9 = 0 ∧ z9 = (u9, vp_updL fo 0 r9.toInt64))) (hm : (b9, w9) = fX7_rise F M y1) : w9.2 0 = k9 ∧ (k9 = 0 → z9.2 0 = b9.toInt64) ∧ LI z9.1.1 PS z9.1.2.1 z9.1.2.2.1 z9.1.2.2.2 k w9.1 w9.2 f u x := by
  refine sx_gen (tm := fun (w : (Nat → Int32) × (Nat → Int32)) => w.2 0) (J := fun (z : PV × (Nat → PV) × Nat × Nat) (w : (Nat → Int32) × (Nat → Int32)) => LI z.1 PS z.2.1 z.2.2.1 z.2.2.2 k w.1 w.2 f u x) hc hm ?_
  rcases rise_ST hI.1 y1 with ⟨e1, e2⟩ | ⟨e1, e2⟩ |  ⟨r, PN', Ps', o', v', F', M', e1, e2, e3, e4⟩
  · exact Or.inl ⟨_, 1, _, e1, e2, (show upd M 0 (nI 1) 0 = nI 1 from upd_eq), rfl, by decide, LI_M hI _⟩
  · exact Or.inl ⟨_, 2, _, e1, e2, (show upd M 0 (nI 2) 0 = nI 2 from upd_eq), rfl, by decide, LI_M hI _⟩
  · exact Or.inr ⟨_, _, _, e1, e2, e3.1, e4, XT_M hI.2 e3.2⟩
theorem sx_swap {PN PT PS : PV} {Ps : Nat → PV} {oh vh : Nat} {k u : Int32} {f F M x : Nat → Int32} {y1 y2 : Int32} {k9 b9 : Int32} {fo : Nat → Int64} {z9 : (PV × PV × (Nat → PV) × Nat × Nat) × (Nat → Int64)} {w9 : (Nat → Int32) × (Nat → Int32)} (hI : LI PN PS Ps oh vh k F M f u x) (hc : (∃ c9 : Nat, fX6_swap PN PT Ps oh vh y1 y2 = Sum.inl c9 ∧ k9 = (if c9 = 2 then 1 else (if c9 = 0 then 2 else (if c9 = 1 then 3 else 9))) ∧ ∃ P9 : PV, z9 = ((PN, P9, Ps, oh, vh), fo)) ∨ (∃ (r9 : Int32) (u9 : PV × PV × (Nat → PV) × Nat × Nat), fX6_swap PN PT Ps oh vh y1 y2 = Sum.inr (r9, u9) ∧ k9 = 0 ∧ z9 = (u9, vp_updL fo 0 r9.toInt64))) (hm : (b9, w9) = fX7_swap F M y1 y2) : w9.2 0 = k9 ∧ (k9 = 0 → z9.2 0 = b9.toInt64) ∧ LI z9.1.1 PS z9.1.2.2.1 z9.1.2.2.2.1 z9.1.2.2.2.2 k w9.1 w9.2 f u x := by
  refine sx_genT (tm := fun (w : (Nat → Int32) × (Nat → Int32)) => w.2 0) (J := fun (z : PV × PV × (Nat → PV) × Nat × Nat) (w : (Nat → Int32) × (Nat → Int32)) => LI z.1 PS z.2.2.1 z.2.2.2.1 z.2.2.2.2 k w.1 w.2 f u x) hc hm ?_
  rcases swap_ST (PT := PT) hI.1 y1 y2 with ⟨cc, p, F', hcp, e1, e2, e3⟩ | ⟨r, PN', PT', Ps', o', v', F', M', e1, e2, e3, e4⟩
  · rcases hcp with ⟨rfl, rfl⟩ | ⟨rfl, rfl⟩ | ⟨rfl, rfl⟩
    · exact Or.inl ⟨_, 1, _, e1, e2, (show upd M 0 (nI 1) 0 = nI 1 from upd_eq), rfl, by decide, fun _ => ⟨e3, (show XT f u x (upd M 0 (nI 1)) from XT_M hI.2 (upd_ne (by decide)))⟩⟩
    · exact Or.inl ⟨_, 2, _, e1, e2, (show upd M 0 (nI 2) 0 = nI 2 from upd_eq), rfl, by decide, fun _ => ⟨e3, (show XT f u x (upd M 0 (nI 2)) from XT_M hI.2 (upd_ne (by decide)))⟩⟩
    · exact Or.inl ⟨_, 3, _, e1, e2, (show upd M 0 (nI 3) 0 = nI 3 from upd_eq), rfl, by decide, fun _ => ⟨e3, (show XT f u x (upd M 0 (nI 3)) from XT_M hI.2 (upd_ne (by decide)))⟩⟩
  · exact Or.inr ⟨_, _, _, e1, e2, e3.1, e4, XT_M hI.2 e3.2⟩
theorem sd_seatAll {PN PT PS : PV} {Ps : Nat → PV} {oh vh : Nat} {k u : Int32} {f F M x : Nat → Int32} {a9 b9 : Int32} {z9 : PV × (Nat → PV) × Nat × Nat} {w9 : (Nat → Int32) × (Nat → Int32)} (hI : LI PN PS Ps oh vh k F M f u x) (ha : (a9, z9) = fX6_seatAll PN Ps oh vh) (hm : (b9, w9) = fX7_seatAll F M) : a9 = b9 ∧ LI z9.1 PS z9.2.1 z9.2.2.1 z9.2.2.2 k w9.1 w9.2 f u x := by
  obtain ⟨r, PN', Ps', o', v', F', M', e1, e2, e3, e4⟩ := seatAll_ST hI.1
  cases ha.trans e1
  cases hm.trans e2
  exact ⟨rfl, e4, XT_M hI.2 e3.2⟩
theorem sx_append {PN PT PS : PV} {Ps : Nat → PV} {oh vh : Nat} {k u : Int32} {f F M x : Nat → Int32} {y1 : Int32} {k9 b9 : Int32} {fo : Nat → Int64} {z9 : ((Nat → Int32) × Int32) × (Nat → Int64)} {w9 : (Nat → Int32) × (Nat → Int32)} (hI : LI PN PS Ps oh vh k F M f u x) (hc : (∃ c9 : Nat, fX6_append f u y1 = Sum.inl c9 ∧ k9 = (if c9 = 0 then 1 else (if c9 = 1 then 2 else 9)) ∧ z9 = ((f, u), fo)) ∨ (∃ (r9 : Int32) (u9 : (Nat → Int32) × Int32), fX6_append f u y1 = Sum.inr (r9, u9) ∧ k9 = 0 ∧ z9 = (u9, vp_updL fo 0 r9.toInt64))) (hm : (b9, w9) = fX7_append x M y1) : w9.2 0 = k9 ∧ (k9 = 0 → z9.2 0 = b9.toInt64) ∧ LI PN PS Ps oh vh k F w9.2 z9.1.1 z9.1.2 w9.1 := by
  refine sx_gen (tm := fun (w : (Nat → Int32) × (Nat → Int32)) => w.2 0) (J := fun (z : (Nat → Int32) × Int32) (w : (Nat → Int32) × (Nat → Int32)) => LI PN PS Ps oh vh k F w.2 z.1 z.2 w.1) hc hm ?_
  rcases append_XT hI.2 y1 with ⟨e1, e2⟩ | ⟨e1, e2⟩ | ⟨r, tf', tu', x', M', e1, e2, e3, e4, e5⟩
  · exact Or.inl ⟨_, 1, _, e1, e2, (show upd M 0 (nI 1) 0 = nI 1 from upd_eq), rfl, by decide, LI_M hI _⟩
  · exact Or.inl ⟨_, 2, _, e1, e2, (show upd M 0 (nI 2) 0 = nI 2 from upd_eq), rfl, by decide, LI_M hI _⟩
  · exact Or.inr ⟨_, _, _, e1, e2, e3, ST_Mk hI.1 (e4 1 (by decide) (by decide)) (e4 2 (by decide) (by decide)), e5⟩
theorem sd_clearBuffer {PN PT PS : PV} {Ps : Nat → PV} {oh vh : Nat} {k u : Int32} {f F M x : Nat → Int32} {a9 b9 : Int32} {z9 : (Nat → Int32) × Int32} {w9 : (Nat → Int32)} (hI : LI PN PS Ps oh vh k F M f u x) (ha : (a9, z9) = fX6_clearBuffer f u) (hm : (b9, w9) = fX7_clearBuffer M) : a9 = b9 ∧ LI PN PS Ps oh vh k F w9 z9.1 z9.2 x := by
  obtain ⟨r, tf', tu', M', e1, e2, e3, e4, e5⟩ := clear_XT hI.2
  cases ha.trans e1
  cases hm.trans e2
  exact ⟨rfl, ST_Mk hI.1 (e4 1 (by decide) (by decide)) (e4 2 (by decide) (by decide)), e5⟩
theorem sd_firstError {PN PT PS : PV} {Ps : Nat → PV} {oh vh : Nat} {k u : Int32} {f F M x : Nat → Int32} {b9 : Int32} {w9 : (Nat → Int32)} (hI : LI PN PS Ps oh vh k F M f u x) (hm : (b9, w9) = fX7_firstError x M) : fX6_firstError f u = b9 ∧ LI PN PS Ps oh vh k F w9 f u x := by
  obtain ⟨r, M', e1, e2, e3, e4, e5⟩ := firstError_XT hI.2
  cases hm.trans e2
  exact ⟨e1, ST_Mk hI.1 (e4 1 (by decide) (by decide)) (e4 2 (by decide) (by decide)), e5⟩
theorem sx_seats {PN PT PS : PV} {Ps : Nat → PV} {oh vh : Nat} {k u : Int32} {f F M x : Nat → Int32} {k9 b9 : Int32} {fo : Nat → Int64} {z9 : (PV × (Nat → Int32) × Int32 × (Nat → PV) × Nat × Nat) × (Nat → Int64)} {w9 : (Nat → Int32) × (Nat → Int32)} (hI : LI PN PS Ps oh vh k F M f u x) (hc : (∃ c9 : Nat, fX6_seats PN f u Ps oh vh = Sum.inl c9 ∧ k9 = (if c9 = 0 then 1 else 9) ∧ z9 = ((PN, f, u, Ps, oh, vh), fo)) ∨ (∃ (r9 : Int32) (u9 : PV × (Nat → Int32) × Int32 × (Nat → PV) × Nat × Nat), fX6_seats PN f u Ps oh vh = Sum.inr (r9, u9) ∧ k9 = 0 ∧ z9 = (u9, vp_updL fo 0 r9.toInt64))) (hm : (b9, w9) = fX7_seats F x M) : w9.2 0 = k9 ∧ (k9 = 0 → z9.2 0 = b9.toInt64) ∧ LI z9.1.1 PS z9.1.2.2.2.1 z9.1.2.2.2.2.1 z9.1.2.2.2.2.2 k w9.1 w9.2 z9.1.2.1 z9.1.2.2.1 x := by
  refine sx_gen (tm := fun (w : (Nat → Int32) × (Nat → Int32)) => w.2 0) (J := fun (z : PV × (Nat → Int32) × Int32 × (Nat → PV) × Nat × Nat) (w : (Nat → Int32) × (Nat → Int32)) => LI z.1 PS z.2.2.2.1 z.2.2.2.2.1 z.2.2.2.2.2 k w.1 w.2 z.2.1 z.2.2.1 x) hc hm ?_
  rcases seats_ST hI.1 hI.2 with ⟨e1, M', e2, e3, e4, e5⟩ | ⟨r, PN', tf', tu', Ps', o', v', F', M', e1, e2, e3, e4, e5⟩
  · exact Or.inl ⟨_, 1, _, e1, e2, e3, rfl, by decide, e4, e5⟩
  · exact Or.inr ⟨_, _, _, e1, e2, e3, e4, e5⟩
theorem sx_told {PN PT PS : PV} {Ps : Nat → PV} {oh vh : Nat} {k u : Int32} {f F M x : Nat → Int32} {y1 y2 : Int32} {k9 b9 : Int32} {fo : Nat → Int64} {z9 : (Unit) × (Nat → Int64)} {w9 : (Nat → Int32)} (hI : LI PN PS Ps oh vh k F M f u x) (hc : (∃ c9 : Nat, fX6_told PN y1 y2 = Sum.inl c9 ∧ k9 = (if c9 = 2 then 1 else (if c9 = 0 then 2 else 9)) ∧ z9 = ((), fo)) ∨ (∃ (r9 : Int32) (u9 : Unit), fX6_told PN y1 y2 = Sum.inr (r9, u9) ∧ k9 = 0 ∧ z9 = (u9, vp_updL fo 0 r9.toInt64))) (hm : (b9, w9) = fX7_told F M y1 y2) : w9 0 = k9 ∧ (k9 = 0 → z9.2 0 = b9.toInt64) ∧ LI PN PS Ps oh vh k F w9 f u x := by
  refine sx_gen (tm := fun (w : (Nat → Int32)) => w 0) (J := fun (z : Unit) (w : (Nat → Int32)) => LI PN PS Ps oh vh k F w f u x) hc hm ?_
  obtain ⟨G, T, L, hR⟩ := hI.1.1
  rcases told_LK hR y1 y2 with (⟨e1, e2⟩ | ⟨r, e1, e2⟩) | (⟨e1, e2⟩ | ⟨r, e1, e2⟩)
  · exact Or.inl ⟨_, 1, _, e1, e2, (show upd M 0 (nI 1) 0 = nI 1 from upd_eq), rfl, by decide, LI_M hI _⟩
  · exact Or.inr ⟨_, _, _, e1, e2, (show upd M 0 0 0 = 0 from upd_eq), LI_M hI _⟩
  · exact Or.inl ⟨_, 2, _, e1, e2, (show upd M 0 (nI 2) 0 = nI 2 from upd_eq), rfl, by decide, LI_M hI _⟩
  · exact Or.inr ⟨_, _, _, e1, e2, (show upd M 0 0 0 = 0 from upd_eq), LI_M hI _⟩
theorem sx_undo {PN PT PS : PV} {Ps : Nat → PV} {oh vh : Nat} {k u : Int32} {f F M x : Nat → Int32} {k9 b9 : Int32} {fo : Nat → Int64} {z9 : (PV × Nat) × (Nat → Int64)} {w9 : (Nat → Int32) × (Nat → Int32)} (hI : LI PN PS Ps oh vh k F M f u x) (hc : (∃ c9 : Nat, fX6_undo PN Ps oh vh = Sum.inl c9 ∧ k9 = (if c9 = 1 then 1 else 9) ∧ z9 = ((PN, vh), fo)) ∨ (∃ (r9 : Int32) (u9 : PV × Nat), fX6_undo PN Ps oh vh = Sum.inr (r9, u9) ∧ k9 = 0 ∧ z9 = (u9, vp_updL fo 0 r9.toInt64))) (hm : (b9, w9) = fX7_undo F M) : w9.2 0 = k9 ∧ (k9 = 0 → z9.2 0 = b9.toInt64) ∧ LI z9.1.1 PS Ps oh z9.1.2 k w9.1 w9.2 f u x := by
  refine sx_gen (tm := fun (w : (Nat → Int32) × (Nat → Int32)) => w.2 0) (J := fun (z : PV × Nat) (w : (Nat → Int32) × (Nat → Int32)) => LI z.1 PS Ps oh z.2 k w.1 w.2 f u x) hc hm ?_
  rcases undo_ST hI.1  with ⟨e1, e2⟩ |  ⟨r, PN', v', F', M', e1, e2, e3, e4⟩
  · exact Or.inl ⟨_, 1, _, e1, e2, (show upd M 0 (nI 1) 0 = nI 1 from upd_eq), rfl, by decide, LI_M hI _⟩
  · exact Or.inr ⟨_, _, _, e1, e2, e3.1, e4, XT_M hI.2 e3.2⟩
theorem sd_keep {PN PT PS : PV} {Ps : Nat → PV} {oh vh : Nat} {k u : Int32} {f F M x : Nat → Int32} {a9 b9 : Int32} {z9 : PV × Int32} {w9 : (Nat → Int32) × (Nat → Int32)} (hI : LI PN PS Ps oh vh k F M f u x) (ha : (a9, z9) = fX6_keep PN PS) (hm : (b9, w9) = fX7_keep F M) : a9 = b9 ∧ LI PN z9.1 Ps oh vh z9.2 w9.1 w9.2 f u x := by
  obtain ⟨r, PS', F', M', e1, e2, e3, e4⟩ := keep_ST hI.1
  cases ha.trans e1
  cases hm.trans e2
  exact ⟨rfl, e4, XT_M hI.2 e3.2⟩
theorem sx_restore {PN PT PS : PV} {Ps : Nat → PV} {oh vh : Nat} {k u : Int32} {f F M x : Nat → Int32} {k9 b9 : Int32} {fo : Nat → Int64} {z9 : (PV × (Nat → PV) × Nat × Nat) × (Nat → Int64)} {w9 : (Nat → Int32) × (Nat → Int32)} (hI : LI PN PS Ps oh vh k F M f u x) (hc : (∃ c9 : Nat, fX6_restore PN PS Ps oh vh k = Sum.inl c9 ∧ k9 = (if c9 = 1 then 1 else 9) ∧ z9 = ((PN, Ps, oh, vh), fo)) ∨ (∃ (r9 : Int32) (u9 : PV × (Nat → PV) × Nat × Nat), fX6_restore PN PS Ps oh vh k = Sum.inr (r9, u9) ∧ k9 = 0 ∧ z9 = (u9, vp_updL fo 0 r9.toInt64))) (hm : (b9, w9) = fX7_restore F M) : w9.2 0 = k9 ∧ (k9 = 0 → z9.2 0 = b9.toInt64) ∧ LI z9.1.1 PS z9.1.2.1 z9.1.2.2.1 z9.1.2.2.2 k w9.1 w9.2 f u x := by
  refine sx_gen (tm := fun (w : (Nat → Int32) × (Nat → Int32)) => w.2 0) (J := fun (z : PV × (Nat → PV) × Nat × Nat) (w : (Nat → Int32) × (Nat → Int32)) => LI z.1 PS z.2.1 z.2.2.1 z.2.2.2 k w.1 w.2 f u x) hc hm ?_
  rcases restore_ST hI.1  with ⟨e1, e2⟩ |  ⟨r, PN', Ps', o', v', F', M', e1, e2, e3, e4⟩
  · exact Or.inl ⟨_, 1, _, e1, e2, (show upd M 0 (nI 1) 0 = nI 1 from upd_eq), rfl, by decide, LI_M hI _⟩
  · exact Or.inr ⟨_, _, _, e1, e2, e3.1, e4, XT_M hI.2 e3.2⟩
theorem sx_guestOf {PN PT PS : PV} {Ps : Nat → PV} {oh vh : Nat} {k u : Int32} {f F M x : Nat → Int32} {y1 y2 : Int32} {k9 b9 : Int32} {fo : Nat → Int64} {z9 : (Unit) × (Nat → Int64)} {w9 : (Nat → Int32)} (hI : LI PN PS Ps oh vh k F M f u x) (hc : (∃ c9 : Nat, fX6_guestOf PN y1 y2 = Sum.inl c9 ∧ k9 = (if c9 = 2 then 1 else (if c9 = 0 then 2 else 9)) ∧ z9 = ((), fo)) ∨ (∃ (r9 : Int32) (u9 : Unit), fX6_guestOf PN y1 y2 = Sum.inr (r9, u9) ∧ k9 = 0 ∧ z9 = (u9, vp_updL fo 0 r9.toInt64))) (hm : (b9, w9) = fX7_guestOf F M y1 y2) : w9 0 = k9 ∧ (k9 = 0 → z9.2 0 = b9.toInt64) ∧ LI PN PS Ps oh vh k F w9 f u x := by
  refine sx_gen (tm := fun (w : (Nat → Int32)) => w 0) (J := fun (z : Unit) (w : (Nat → Int32)) => LI PN PS Ps oh vh k F w f u x) hc hm ?_
  obtain ⟨G, T, L, hR⟩ := hI.1.1
  rcases guestOf_LK hR y1 y2 with (⟨e1, e2⟩ | ⟨r, e1, e2⟩) | (⟨e1, e2⟩ | ⟨r, e1, e2⟩)
  · exact Or.inl ⟨_, 1, _, e1, e2, (show upd M 0 (nI 1) 0 = nI 1 from upd_eq), rfl, by decide, LI_M hI _⟩
  · exact Or.inr ⟨_, _, _, e1, e2, (show upd M 0 0 0 = 0 from upd_eq), LI_M hI _⟩
  · exact Or.inl ⟨_, 2, _, e1, e2, (show upd M 0 (nI 2) 0 = nI 2 from upd_eq), rfl, by decide, LI_M hI _⟩
  · exact Or.inr ⟨_, _, _, e1, e2, (show upd M 0 0 0 = 0 from upd_eq), LI_M hI _⟩
theorem sx_tableOf {PN PT PS : PV} {Ps : Nat → PV} {oh vh : Nat} {k u : Int32} {f F M x : Nat → Int32} {y1 y2 : Int32} {k9 b9 : Int32} {fo : Nat → Int64} {z9 : (Unit) × (Nat → Int64)} {w9 : (Nat → Int32)} (hI : LI PN PS Ps oh vh k F M f u x) (hc : (∃ c9 : Nat, fX6_tableOf PN y1 y2 = Sum.inl c9 ∧ k9 = (if c9 = 2 then 1 else (if c9 = 0 then 2 else 9)) ∧ z9 = ((), fo)) ∨ (∃ (r9 : Int32) (u9 : Unit), fX6_tableOf PN y1 y2 = Sum.inr (r9, u9) ∧ k9 = 0 ∧ z9 = (u9, vp_updL fo 0 r9.toInt64))) (hm : (b9, w9) = fX7_tableOf F M y1 y2) : w9 0 = k9 ∧ (k9 = 0 → z9.2 0 = b9.toInt64) ∧ LI PN PS Ps oh vh k F w9 f u x := by
  refine sx_gen (tm := fun (w : (Nat → Int32)) => w 0) (J := fun (z : Unit) (w : (Nat → Int32)) => LI PN PS Ps oh vh k F w f u x) hc hm ?_
  obtain ⟨G, T, L, hR⟩ := hI.1.1
  rcases tableOf_LK hR y1 y2 with (⟨e1, e2⟩ | ⟨r, e1, e2⟩) | (⟨e1, e2⟩ | ⟨r, e1, e2⟩)
  · exact Or.inl ⟨_, 1, _, e1, e2, (show upd M 0 (nI 1) 0 = nI 1 from upd_eq), rfl, by decide, LI_M hI _⟩
  · exact Or.inr ⟨_, _, _, e1, e2, (show upd M 0 0 0 = 0 from upd_eq), LI_M hI _⟩
  · exact Or.inl ⟨_, 2, _, e1, e2, (show upd M 0 (nI 2) 0 = nI 2 from upd_eq), rfl, by decide, LI_M hI _⟩
  · exact Or.inr ⟨_, _, _, e1, e2, (show upd M 0 0 0 = 0 from upd_eq), LI_M hI _⟩
theorem sx_who {PN PT PS : PV} {Ps : Nat → PV} {oh vh : Nat} {k u : Int32} {f F M x : Nat → Int32} {y1 y2 : Int32} {k9 b9 : Int32} {fo : Nat → Int64} {z9 : (Unit) × (Nat → Int64)} {w9 : (Nat → Int32)} (hI : LI PN PS Ps oh vh k F M f u x) (hc : (∃ c9 : Nat, fX6_who PN y1 y2 = Sum.inl c9 ∧ k9 = (if c9 = 2 then 1 else 9) ∧ z9 = ((), fo)) ∨ (∃ (r9 : Int32) (u9 : Unit), fX6_who PN y1 y2 = Sum.inr (r9, u9) ∧ k9 = 0 ∧ z9 = (u9, vp_updL fo 0 r9.toInt64))) (hm : (b9, w9) = fX7_who F M y1 y2) : w9 0 = k9 ∧ (k9 = 0 → z9.2 0 = b9.toInt64) ∧ LI PN PS Ps oh vh k F w9 f u x := by
  refine sx_gen (tm := fun (w : (Nat → Int32)) => w 0) (J := fun (z : Unit) (w : (Nat → Int32)) => LI PN PS Ps oh vh k F w f u x) hc hm ?_
  obtain ⟨G, T, L, hR⟩ := hI.1.1
  rcases who_LK hR y1 y2 with ⟨e1, e2⟩ | ⟨r, e1, e2⟩
  · exact Or.inl ⟨_, 1, _, e1, e2, (show upd M 0 (nI 1) 0 = nI 1 from upd_eq), rfl, by decide, LI_M hI _⟩
  · exact Or.inr ⟨_, _, _, e1, e2, (show upd M 0 0 0 = 0 from upd_eq), LI_M hI _⟩
theorem sx_seated {PN PT PS : PV} {Ps : Nat → PV} {oh vh : Nat} {k u : Int32} {f F M x : Nat → Int32} {y1 : Int32} {k9 b9 : Int32} {fo : Nat → Int64} {z9 : (Unit) × (Nat → Int64)} {w9 : (Nat → Int32)} (hI : LI PN PS Ps oh vh k F M f u x) (hc : (∃ c9 : Nat, fX6_seated PN y1 = Sum.inl c9 ∧ k9 = (if c9 = 0 then 1 else 9) ∧ z9 = ((), fo)) ∨ (∃ (r9 : Int32) (u9 : Unit), fX6_seated PN y1 = Sum.inr (r9, u9) ∧ k9 = 0 ∧ z9 = (u9, vp_updL fo 0 r9.toInt64))) (hm : (b9, w9) = fX7_seated F M y1) : w9 0 = k9 ∧ (k9 = 0 → z9.2 0 = b9.toInt64) ∧ LI PN PS Ps oh vh k F w9 f u x := by
  refine sx_gen (tm := fun (w : (Nat → Int32)) => w 0) (J := fun (z : Unit) (w : (Nat → Int32)) => LI PN PS Ps oh vh k F w f u x) hc hm ?_
  obtain ⟨G, T, L, hR⟩ := hI.1.1
  rcases seated_LK hR y1 with ⟨e1, e2⟩ | ⟨r, e1, e2⟩
  · exact Or.inl ⟨_, 1, _, e1, e2, (show upd M 0 (nI 1) 0 = nI 1 from upd_eq), rfl, by decide, LI_M hI _⟩
  · exact Or.inr ⟨_, _, _, e1, e2, (show upd M 0 0 0 = 0 from upd_eq), LI_M hI _⟩
theorem sx_feudAt {PN PT PS : PV} {Ps : Nat → PV} {oh vh : Nat} {k u : Int32} {f F M x : Nat → Int32} {y1 : Int32} {k9 b9 : Int32} {fo : Nat → Int64} {z9 : (Unit) × (Nat → Int64)} {w9 : (Nat → Int32)} (hI : LI PN PS Ps oh vh k F M f u x) (hc : (∃ c9 : Nat, fX6_feudAt PN y1 = Sum.inl c9 ∧ k9 = (if c9 = 0 then 1 else 9) ∧ z9 = ((), fo)) ∨ (∃ (r9 : Int32) (u9 : Unit), fX6_feudAt PN y1 = Sum.inr (r9, u9) ∧ k9 = 0 ∧ z9 = (u9, vp_updL fo 0 r9.toInt64))) (hm : (b9, w9) = fX7_feudAt F M y1) : w9 0 = k9 ∧ (k9 = 0 → z9.2 0 = b9.toInt64) ∧ LI PN PS Ps oh vh k F w9 f u x := by
  refine sx_gen (tm := fun (w : (Nat → Int32)) => w 0) (J := fun (z : Unit) (w : (Nat → Int32)) => LI PN PS Ps oh vh k F w f u x) hc hm ?_
  obtain ⟨G, T, L, hR⟩ := hI.1.1
  rcases feudAt_LK hR y1 with ⟨e1, e2⟩ | ⟨r, e1, e2⟩
  · exact Or.inl ⟨_, 1, _, e1, e2, (show upd M 0 (nI 1) 0 = nI 1 from upd_eq), rfl, by decide, LI_M hI _⟩
  · exact Or.inr ⟨_, _, _, e1, e2, (show upd M 0 0 0 = 0 from upd_eq), LI_M hI _⟩
theorem sx_count {PN PT PS : PV} {Ps : Nat → PV} {oh vh : Nat} {k u : Int32} {f F M x : Nat → Int32} {y1 : Int32} {k9 b9 : Int32} {fo : Nat → Int64} {z9 : (Unit) × (Nat → Int64)} {w9 : (Nat → Int32)} (hI : LI PN PS Ps oh vh k F M f u x) (hc : (∃ c9 : Nat, fX6_count PN Ps oh vh y1 = Sum.inl c9 ∧ k9 = (if c9 = 0 then 1 else 9) ∧ z9 = ((), fo)) ∨ (∃ (r9 : Int32) (u9 : Unit), fX6_count PN Ps oh vh y1 = Sum.inr (r9, u9) ∧ k9 = 0 ∧ z9 = (u9, vp_updL fo 0 r9.toInt64))) (hm : (b9, w9) = fX7_count F M y1) : w9 0 = k9 ∧ (k9 = 0 → z9.2 0 = b9.toInt64) ∧ LI PN PS Ps oh vh k F w9 f u x := by
  refine sx_gen (tm := fun (w : (Nat → Int32)) => w 0) (J := fun (z : Unit) (w : (Nat → Int32)) => LI PN PS Ps oh vh k F w f u x) hc hm ?_
  obtain ⟨G, T, L, hR⟩ := hI.1.1
  rcases count_LK (Ps := Ps) (o := oh) hR hI.1.2.2.1 y1 with ⟨e1, e2⟩ | ⟨r, e1, e2⟩
  · exact Or.inl ⟨_, 1, _, e1, e2, (show upd M 0 (nI 1) 0 = nI 1 from upd_eq), rfl, by decide, LI_M hI _⟩
  · exact Or.inr ⟨_, _, _, e1, e2, (show upd M 0 0 0 = 0 from upd_eq), LI_M hI _⟩
theorem sx_whyNot {PN PT PS : PV} {Ps : Nat → PV} {oh vh : Nat} {k u : Int32} {f F M x : Nat → Int32} {y1 y2 y3 : Int32} {k9 b9 : Int32} {fo : Nat → Int64} {z9 : (Unit) × (Nat → Int64)} {w9 : (Nat → Int32)} (hI : LI PN PS Ps oh vh k F M f u x) (hc : (∃ c9 : Nat, fX6_whyNot PN y1 y2 y3 = Sum.inl c9 ∧ k9 = (if c9 = 2 then 1 else 9) ∧ z9 = ((), fo)) ∨ (∃ (r9 : Int32) (u9 : Unit), fX6_whyNot PN y1 y2 y3 = Sum.inr (r9, u9) ∧ k9 = 0 ∧ z9 = (u9, vp_updL fo 0 r9.toInt64))) (hm : (b9, w9) = fX7_whyNot F M y1 y2 y3) : w9 0 = k9 ∧ (k9 = 0 → z9.2 0 = b9.toInt64) ∧ LI PN PS Ps oh vh k F w9 f u x := by
  refine sx_gen (tm := fun (w : (Nat → Int32)) => w 0) (J := fun (z : Unit) (w : (Nat → Int32)) => LI PN PS Ps oh vh k F w f u x) hc hm ?_
  obtain ⟨G, T, L, hR⟩ := hI.1.1
  rcases whyNot_LK hR y1 y2 y3 with ⟨e1, e2⟩ | ⟨r, e1, e2⟩
  · exact Or.inl ⟨_, 1, _, e1, e2, (show upd M 0 (nI 1) 0 = nI 1 from upd_eq), rfl, by decide, LI_M hI _⟩
  · exact Or.inr ⟨_, _, _, e1, e2, (show upd M 0 0 0 = 0 from upd_eq), LI_M hI _⟩
theorem sx_ifSat {PN PT PS : PV} {Ps : Nat → PV} {oh vh : Nat} {k u : Int32} {f F M x : Nat → Int32} {y1 y2 y3 : Int32} {k9 b9 : Int32} {fo : Nat → Int64} {z9 : (Unit) × (Nat → Int64)} {w9 : (Nat → Int32)} (hI : LI PN PS Ps oh vh k F M f u x) (hc : (∃ c9 : Nat, fX6_ifSat PN y1 y2 y3 = Sum.inl c9 ∧ k9 = (if c9 = 2 then 1 else 9) ∧ z9 = ((), fo)) ∨ (∃ (r9 : Int32) (u9 : Unit), fX6_ifSat PN y1 y2 y3 = Sum.inr (r9, u9) ∧ k9 = 0 ∧ z9 = (u9, vp_updL fo 0 r9.toInt64))) (hm : (b9, w9) = fX7_ifSat F M y1 y2 y3) : w9 0 = k9 ∧ (k9 = 0 → z9.2 0 = b9.toInt64) ∧ LI PN PS Ps oh vh k F w9 f u x := by
  refine sx_gen (tm := fun (w : (Nat → Int32)) => w 0) (J := fun (z : Unit) (w : (Nat → Int32)) => LI PN PS Ps oh vh k F w f u x) hc hm ?_
  obtain ⟨G, T, L, hR⟩ := hI.1.1
  rcases ifSat_LK hR y1 y2 y3 with ⟨e1, e2⟩ | ⟨r, e1, e2⟩
  · exact Or.inl ⟨_, 1, _, e1, e2, (show upd M 0 (nI 1) 0 = nI 1 from upd_eq), rfl, by decide, LI_M hI _⟩
  · exact Or.inr ⟨_, _, _, e1, e2, (show upd M 0 0 0 = 0 from upd_eq), LI_M hI _⟩
theorem sx_bestSeat {PN PT PS : PV} {Ps : Nat → PV} {oh vh : Nat} {k u : Int32} {f F M x : Nat → Int32} {y1 : Int32} {k9 b9 : Int32} {fo : Nat → Int64} {z9 : (Unit) × (Nat → Int64)} {w9 : (Nat → Int32)} (hI : LI PN PS Ps oh vh k F M f u x) (hc : (∃ c9 : Nat, fX6_bestSeat PN y1 = Sum.inl c9 ∧ k9 = (if c9 = 2 then 1 else 9) ∧ z9 = ((), fo)) ∨ (∃ (r9 : Int32) (u9 : Unit), fX6_bestSeat PN y1 = Sum.inr (r9, u9) ∧ k9 = 0 ∧ z9 = (u9, vp_updL fo 0 r9.toInt64))) (hm : (b9, w9) = fX7_bestSeat F M y1) : w9 0 = k9 ∧ (k9 = 0 → z9.2 0 = b9.toInt64) ∧ LI PN PS Ps oh vh k F w9 f u x := by
  refine sx_gen (tm := fun (w : (Nat → Int32)) => w 0) (J := fun (z : Unit) (w : (Nat → Int32)) => LI PN PS Ps oh vh k F w f u x) hc hm ?_
  obtain ⟨G, T, L, hR⟩ := hI.1.1
  rcases bestSeat_LK hR y1 with ⟨e1, e2⟩ | ⟨r, e1, e2⟩
  · exact Or.inl ⟨_, 1, _, e1, e2, (show upd M 0 (nI 1) 0 = nI 1 from upd_eq), rfl, by decide, LI_M hI _⟩
  · exact Or.inr ⟨_, _, _, e1, e2, (show upd M 0 0 0 = 0 from upd_eq), LI_M hI _⟩
theorem sx_ifFeud {PN PT PS : PV} {Ps : Nat → PV} {oh vh : Nat} {k u : Int32} {f F M x : Nat → Int32} {y1 y2 : Int32} {k9 b9 : Int32} {fo : Nat → Int64} {z9 : (Unit) × (Nat → Int64)} {w9 : (Nat → Int32)} (hI : LI PN PS Ps oh vh k F M f u x) (hc : (∃ c9 : Nat, fX6_ifFeud PN y1 y2 = Sum.inl c9 ∧ k9 = (if c9 = 0 then 1 else 9) ∧ z9 = ((), fo)) ∨ (∃ (r9 : Int32) (u9 : Unit), fX6_ifFeud PN y1 y2 = Sum.inr (r9, u9) ∧ k9 = 0 ∧ z9 = (u9, vp_updL fo 0 r9.toInt64))) (hm : (b9, w9) = fX7_ifFeud F M y1 y2) : w9 0 = k9 ∧ (k9 = 0 → z9.2 0 = b9.toInt64) ∧ LI PN PS Ps oh vh k F w9 f u x := by
  refine sx_gen (tm := fun (w : (Nat → Int32)) => w 0) (J := fun (z : Unit) (w : (Nat → Int32)) => LI PN PS Ps oh vh k F w f u x) hc hm ?_
  obtain ⟨G, T, L, hR⟩ := hI.1.1
  rcases ifFeud_LK hR y1 y2 with ⟨e1, e2⟩ | ⟨r, e1, e2⟩
  · exact Or.inl ⟨_, 1, _, e1, e2, (show upd M 0 (nI 1) 0 = nI 1 from upd_eq), rfl, by decide, LI_M hI _⟩
  · exact Or.inr ⟨_, _, _, e1, e2, (show upd M 0 0 0 = 0 from upd_eq), LI_M hI _⟩
theorem sx_ifSeated {PN PT PS : PV} {Ps : Nat → PV} {oh vh : Nat} {k u : Int32} {f F M x : Nat → Int32} {y1 : Int32} {k9 b9 : Int32} {fo : Nat → Int64} {z9 : (PV) × (Nat → Int64)} {w9 : (Nat → Int32) × (Nat → Int32)} (hI : LI PN PS Ps oh vh k F M f u x) (hc : (∃ c9 : Nat, fX6_ifSeated PN PT y1 = Sum.inl c9 ∧ k9 = (if c9 = 0 then 1 else 9) ∧ z9 = (PT, fo)) ∨ (∃ (r9 : Int32) (u9 : PV), fX6_ifSeated PN PT y1 = Sum.inr (r9, u9) ∧ k9 = 0 ∧ z9 = (u9, vp_updL fo 0 r9.toInt64))) (hm : (b9, w9) = fX7_ifSeated F M y1) : w9.2 0 = k9 ∧ (k9 = 0 → z9.2 0 = b9.toInt64) ∧ LI PN PS Ps oh vh k w9.1 w9.2 f u x := by
  refine sx_gen (tm := fun (w : (Nat → Int32) × (Nat → Int32)) => w.2 0) (J := fun (z : PV) (w : (Nat → Int32) × (Nat → Int32)) => LI PN PS Ps oh vh k w.1 w.2 f u x) hc hm ?_
  obtain ⟨G, T, L, hR⟩ := hI.1.1
  rcases ifSeated_LK (PT := PT) hR y1 with ⟨e1, e2⟩ | ⟨r, PT', F', e1, e2, e3⟩
  · exact Or.inl ⟨_, 1, _, e1, e2, (show upd M 0 (nI 1) 0 = nI 1 from upd_eq), rfl, by decide, LI_M hI _⟩
  · exact Or.inr ⟨_, _, _, e1, e2, (show upd M 0 0 0 = 0 from upd_eq), LI_M ⟨ST_fr hI.1 e3, hI.2⟩ 0⟩
theorem sd_met {PN PT PS : PV} {Ps : Nat → PV} {oh vh : Nat} {k u : Int32} {f F M x : Nat → Int32} {b9 : UInt64} {w9 : (Nat → Int32)} (hI : LI PN PS Ps oh vh k F M f u x) (hm : (b9, w9) = fX7_met F M) : fX6_met PN = b9 ∧ LI PN PS Ps oh vh k F w9 f u x := by
  obtain ⟨G, T, L, hR⟩ := hI.1.1
  unfold fX7_met at hm
  cases hm
  exact ⟨share_eq hR, LI_M hI 0⟩
theorem sd_digest {PN PT PS : PV} {Ps : Nat → PV} {oh vh : Nat} {k u : Int32} {f F M x : Nat → Int32} {a9 b9 : Int64} {z9 : PV} {w9 : (Nat → Int32) × (Nat → Int32) × Int64} (hI : LI PN PS Ps oh vh k F M f u x) (ha : (a9, z9) = fX6_digest PN PT f u Ps oh vh) (hm : (b9, w9) = fX7_digest F x M) : a9 = b9 ∧ LI PN PS Ps oh vh k w9.1 w9.2.1 f u x := by
  obtain ⟨G, T, L, hR⟩ := hI.1.1
  obtain ⟨r, PT', F', e1, e2, e3⟩ := digest_ST (PT := PT) (Ps := Ps) (o := oh) hR hI.1.2.2.1 hI.2
  cases ha.trans e1
  cases hm.trans e2
  exact ⟨rfl, LI_M ⟨ST_fr hI.1 e3, hI.2⟩ 0⟩
