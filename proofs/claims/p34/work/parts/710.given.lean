/-! what the statement gives of the start, in the words of the walks. Mine. -/
theorem gv_nst : ∀ w ∈ lw_nst, w ∈ lw_tbl := by decide +kernel
theorem gv_row {s : State} {args : Array Value} {nm : String} {g : Nat → Int32} {A : Nat → Prop} (hA : ∀ a : Nat, a < s.heap.size → ¬ A a) (h1 : (Cond.arrayOf (.static RX6 nm "[I") .int).before args s = true) (h2 : (Cond.eq (.length (.static RX6 nm "[I")) (.int 4)).before args s = true) (h3 : ∀ j : Nat, j < 4 → (Cond.eq (.elem (.static RX6 nm "[I") (.int (Int32.ofNat j))) (.int (g j))).before args s = true) (h4 : (Cond.laysStatic RX6 nm "[I").before args s = true) (h5 : (Cond.initialized RX6).before args s = true) : ∃ t : Nat, va_Z RX6 nm "[I" (.ref t) A s s.heap ∧ va_T .int t 4 (fun k => .int (g k)) A s s.heap := by
  obtain ⟨t, e1, e2⟩ := va_Tof (tm := .static RX6 nm "[I") (N := 4) (f := fun k => .int (g k)) (A := A) (by decide) h1 (va_eqt h2) (fun j hj => va_eqt (h3 j hj)) hA
  exact ⟨t, va_Zof h4 h5 e1 hA, e2⟩
theorem law_given {p : Program} {s : State} {m : MethodId} {meth : Method} {c : Code} {b N : Nat} {xs : Nat → Int32} (C0 : lw_At p s m meth c b N xs) : ∃ (dC : Nat → ClassId) (dI : Nat → Nat → Nat) (cI cP : ClassId) (qL qG qF : Nat), LBd p s m c b N xs (fun q => s.heap.size ≤ q) dC dI cI cP qL qG ∧ xfv (fun q => s.heap.size ≤ q) cI qF s ∧ va_AO "SupperSeats$Plan" s := by
  obtain ⟨hx, hb, hr, hml, hown, hts, hX, hbl, hlocks, hgv⟩ := C0
  have hall : ∀ w ∈ lw_all, w.before #[Value.ref b] s = true := fun w h => hts w (List.mem_filter.mp h).1
  have hg := flat_of_before _ hgv
  have hA' : ∀ a : Nat, a < s.heap.size → ¬ (fun q : Nat => s.heap.size ≤ q) a := fun a h => Nat.not_le.mpr h
  obtain ⟨c0, i0, k0⟩ := u_known (C := RX0) (T := TX0) (N := 3) (n := 3) hall (fun w h => wX0 w h) (hall _ u_111)
  obtain ⟨c1, i1, k1⟩ := u_known (C := RX1) (T := TX1) (N := 2) (n := 2) hall (fun w h => wX1 w h) (hall _ u_30)
  obtain ⟨c2, i2, k2⟩ := u_known (C := RX2) (T := TX2) (N := 14) (n := 14) hall (fun w h => wX2 w h) (hall _ u_24)
  obtain ⟨c3, i3, k3⟩ := u_known (C := RX5) (T := TX5) (N := 1) (n := 1) hall (fun w h => wX5 w h) (hall _ u_130)
  obtain ⟨c4, i4, k4⟩ := u_known (C := RX6) (T := TX6) (N := 6) (n := 6) hall (fun w h => wX6 w h) (hall _ u_16)
  obtain ⟨dC, dI, hKc⟩ : ∃ (dC : Nat → ClassId) (dI : Nat → Nat → Nat), ∀ (k : Nat) (q : vw_C), vwCl[k]? = some q → u_Kn s q.1 q.2.1 q.2.2 (dC k) (dI k) := by
    refine ⟨fun k => if k = 0 then c0 else if k = 1 then c1 else if k = 2 then c2 else if k = 3 then c3 else c4, fun k => if k = 0 then i0 else if k = 1 then i1 else if k = 2 then i2 else if k = 3 then i3 else i4, ?_⟩
    intro k q hq
    match k, hq with
    | 0, hq => cases hq; exact k0
    | 1, hq => cases hq; exact k1
    | 2, hq => cases hq; exact k2
    | 3, hq => cases hq; exact k3
    | 4, hq => cases hq; exact k4
    | k + 5, hq => simp [vwCl] at hq
  obtain ⟨cI, kI, mI, a1, a2, a3⟩ := Cond.arrayClass_spec (hall _ u_45)
  obtain ⟨mP, cP, kP, p1, p2, p3, p4, p5⟩ := Cond.arrayOver_spec (hts (Cond.arrayOver (.object "SupperSeats$Plan")) (by decide +kernel))
  have arr : ∀ {cA : ClassId} {kA : Class} {cm : ClassId} {ty : FieldType}, s.vm.classes[cA]? = some kA → kA.kind = .array cm ty → ArrOfT s cA ty := fun e1 e2 n z => ⟨(fun j h => by cases h), _, e1, _, e2⟩
  have hK : va_K (dC, dI) vwCl [(cI, .int), (cP, .object "SupperSeats$Plan")] s := by
    refine ⟨hKc, fun k q hq => ?_⟩
    match k, hq with
    | 0, hq => cases hq; exact ⟨arr a2 a3, a1⟩
    | 1, hq => cases hq; exact ⟨arr p3 p4, kP, mP, p3, p4, p1, p5⟩
    | k + 2, hq => simp at hq
  have hn : nst s := fun w hw => va_Nw.of (nst_tab w hw) (hts w (gv_nst w hw))
  obtain ⟨qL, zL, tL⟩ := gv_row (args := #[Value.ref b]) (nm := "LEAST_VALUES") (g := fLV) hA' (hg _ (by decide +kernel)) (hg _ (by decide +kernel)) (fun j hj => by rcases (show j = 0 ∨ j = 1 ∨ j = 2 ∨ j = 3 by omega) with rfl | rfl | rfl | rfl <;> exact hg _ (by decide +kernel)) (hts _ (by decide +kernel)) (hall _ u_1)
  obtain ⟨qG, zG, tG⟩ := gv_row (args := #[Value.ref b]) (nm := "GREATEST_VALUES") (g := fGV) hA' (hg _ (by decide +kernel)) (hg _ (by decide +kernel)) (fun j hj => by rcases (show j = 0 ∨ j = 1 ∨ j = 2 ∨ j = 3 by omega) with rfl | rfl | rfl | rfl <;> exact hg _ (by decide +kernel)) (hts _ (by decide +kernel)) (hall _ u_1)
  obtain ⟨qF, zF, tF⟩ := gv_row (args := #[Value.ref b]) (nm := "FIRST_VALUES") (g := fFV) hA' (hg _ (by decide +kernel)) (hg _ (by decide +kernel)) (fun j hj => by rcases (show j = 0 ∨ j = 1 ∨ j = 2 ∨ j = 3 by omega) with rfl | rfl | rfl | rfl <;> exact hg _ (by decide +kernel)) (hts _ (by decide +kernel)) (hall _ u_1)
  refine ⟨dC, dI, cI, cP, qL, qG, qF, ⟨hx, hb, hml, hown, fun w hw => ?_, hX, hbl, Nat.not_le.mpr hbl, fun _ h => h, hK, hn, zL, zG, tL, tG, tL.out, tG.out, rfl⟩, ⟨zF, tF, tF.out, rfl⟩, va_AO.of (hts (Cond.arrayOver (.object "SupperSeats$Plan")) (by decide +kernel))⟩
  rcases List.mem_cons.mp hw with rfl | h
  · exact hall _ u_0
  · exact hall w h
