def fX6_needTwoFamilies (a : Int32) (b : Int32) : Int32 :=
  (if (fX6_isFamily a) = 0 then 1 else (if (fX6_isFamily b) = 0 then 1 else (if a = b then 1 else 0)))
abbrev rmX6_needTwoFamilies : Room := { frames := 6, cells := 1, slots := 6, locals := 90 }
set_option maxHeartbeats 4000000 in
set_option maxRecDepth 100000 in
theorem mX6_needTwoFamilies (l : Launch) (hst : l.stackTraces = false) (dC : Nat → ClassId) (dI : Nat → Nat → Nat)  (a : Int32) (b : Int32) : vx_Met l yX6_needTwoFamilies (ws_ yX6_needTwoFamilies cX6_needTwoFamilies 2 none) rmX6_needTwoFamilies (pcX (dC, dI) [] [] [.int a, .int b]) (va_Qv (fun _ : Unit => fX6_needTwoFamilies a b = 0) (fun _ t => va_P (dC, dI) vwCl [] t.heap) (adr [])) (vx_X (fun _ : Unit => ¬ fX6_needTwoFamilies a b = 0) (fun E _ t => E = xname 0 ∧ va_P (dC, dI) vwCl [] t.heap) (adr [])) 1 6 (adr []) := by
  refine vx_ofW (cc := cX6_needTwoFamilies) (maxL := 2) (ret := none) (by decide) rfl ?_
  intro p e s m args below meth c s₁ B hml hout hv
  obtain ⟨ha, hP, hK, hn, hD0, hX⟩ := hv
  have hx := B.exec
  have hb := B.bytes
  have hr := B.returns
  have hts0 := atoms_spec (ws := (ws_ yX6_needTwoFamilies cX6_needTwoFamilies 2 none)) B.pre
  have hts : ∀ w ∈ lw_all, w.before args s = true := fun w h => hts0 w (List.mem_cons_of_mem _ h)
  have hown : s.vm.findClass RX6 = some m.cls := findClass_of_methodNamed B.named
  have hlocks := B.notSynchronized
  have hD := adr_self hD0
  obtain ⟨A, hA⟩ : ∃ A, A = adr [] := ⟨_, rfl⟩
  rw [← hA] at hD hX
  have hS : va_S A s.heap s.heap [] := va_S.rf
  obtain ⟨Q, hQ⟩ : ∃ Q, Q = vx_MQ below (va_Qv (fun _ : Unit => fX6_needTwoFamilies a b = 0) (fun _ t => va_P (dC, dI) vwCl [] t.heap) (adr [])) (vx_X (fun _ : Unit => ¬ fX6_needTwoFamilies a b = 0) (fun E _ t => E = xname 0 ∧ va_P (dC, dI) vwCl [] t.heap) (adr [])) args s 1 6 (adr []) := ⟨_, rfl⟩
  rw [← hQ]
  rw [← hA] at hQ
  have hl := lv_entry ([.int a, .int b]) (n := 2) (Nat.le_of_ble_eq_true rfl)
  rw [ha, lg_entry_eq, ← ha]
  generalize (lg_sl ([.int a, .int b]) ++ List.replicate (2 - (lg_sl ([.int a, .int b])).length) Slot.unset).toArray = ls at hl ⊢
  have hl : lv_has ls 2 [(0, .int a), (1, .int b)] := hl
  show W p l e rmX6_needTwoFamilies s m args below meth c s.heap [] 0 0 Q (F0 m 0 ls [])
  have hF : fX6_needTwoFamilies a b = fX6_needTwoFamilies a b := rfl
  refine lv_iload_n hx hb dX6_needTwoFamilies_0 rfl (lv_at hl 0 rfl) ?_
  refine k_callb (W.runS (As := [.int a]) (rest := []) ⟨hx, hb, hml, hown, hts0⟩ (mX6_isFamily l dC dI  a) (va_cwS 1 hts0 (gi_S u_448 u_449 u_1 u_450) rfl rfl rfl (by decide +kernel) ⟨Nat.le_of_ble_eq_true rfl, Nat.le_of_ble_eq_true rfl⟩) (pcR_S (hP.sub (ws' := []) [] rfl) (hK.sub (tys' := []) [] rfl) hn) rfl rfl hl.1 rfl (lv_room (Nat.le_of_ble_eq_true rfl)) dX6_needTwoFamilies_1 ⟨Nat.le_of_ble_eq_true rfl, Nat.le_of_ble_eq_true rfl⟩) (fun br1 => ?_)
  refine lv_if_eq (tgt := 19) hx hb dX6_needTwoFamilies_4 (by decide) (fun c_4 => ?_) (fun c_4 => ?_)
  · have hF := hF.trans (if_pos c_4)
    rw [hQ]
    exact k_throwSW (cd := 0) (is := 298) (text := "a family is out of range, or both are the same") (by decide) hx hb hst hown hts hX hS (hl.1.trans hml.symm) (List.mem_of_getElem? (i := 23) rfl) dX6_needTwoFamilies_19 dX6_needTwoFamilies_22 dX6_needTwoFamilies_23 dX6_needTwoFamilies_26 dX6_needTwoFamilies_29 hout (Nat.le_of_ble_eq_true rfl) (Nat.le_of_ble_eq_true rfl) (Nat.le_of_ble_eq_true rfl) (Nat.le_of_ble_eq_true rfl) hlocks (xv_new hF hP hS) hS.2.2 (Nat.le_of_ble_eq_true rfl) (Nat.le_of_ble_eq_true rfl)
  have hF := hF.trans (if_neg c_4)
  refine lv_iload_n hx hb dX6_needTwoFamilies_7 rfl (lv_at hl 1 rfl) ?_
  refine k_callb (W.runS (As := [.int b]) (rest := []) ⟨hx, hb, hml, hown, hts0⟩ (mX6_isFamily l dC dI  b) (va_cwS 1 hts0 (gi_S u_448 u_449 u_1 u_450) rfl rfl rfl (by decide +kernel) ⟨Nat.le_of_ble_eq_true rfl, Nat.le_of_ble_eq_true rfl⟩) (pcR_S (hP.sub (ws' := []) [] rfl) (hK.sub (tys' := []) [] rfl) hn) rfl rfl hl.1 rfl (lv_room (Nat.le_of_ble_eq_true rfl)) dX6_needTwoFamilies_8 ⟨Nat.le_of_ble_eq_true rfl, Nat.le_of_ble_eq_true rfl⟩) (fun br8 => ?_)
  refine lv_if_eq (tgt := 19) hx hb dX6_needTwoFamilies_11 (by decide) (fun c_11 => ?_) (fun c_11 => ?_)
  · have hF := hF.trans (if_pos c_11)
    rw [hQ]
    exact k_throwSW (cd := 0) (is := 298) (text := "a family is out of range, or both are the same") (by decide) hx hb hst hown hts hX hS (hl.1.trans hml.symm) (List.mem_of_getElem? (i := 23) rfl) dX6_needTwoFamilies_19 dX6_needTwoFamilies_22 dX6_needTwoFamilies_23 dX6_needTwoFamilies_26 dX6_needTwoFamilies_29 hout (Nat.le_of_ble_eq_true rfl) (Nat.le_of_ble_eq_true rfl) (Nat.le_of_ble_eq_true rfl) (Nat.le_of_ble_eq_true rfl) hlocks (xv_new hF hP hS) hS.2.2 (Nat.le_of_ble_eq_true rfl) (Nat.le_of_ble_eq_true rfl)
  have hF := hF.trans (if_neg c_11)
  refine lv_iload_n hx hb dX6_needTwoFamilies_14 rfl (lv_at hl 0 rfl) ?_
  refine lv_iload_n hx hb dX6_needTwoFamilies_15 rfl (lv_at hl 1 rfl) ?_
  refine lv_icmp_ne (tgt := 30) hx hb dX6_needTwoFamilies_16 (by decide) (fun c_16 => ?_) (fun c_16 => ?_)
  · have hF := hF.trans (if_neg c_16)
    rw [hQ]
    refine vx_ret (W.widen (k := 1) (n := 6) (Nat.le_of_ble_eq_true rfl) (Nat.le_of_ble_eq_true rfl) ?_)
    exact W.vret hx hb hr (fun t ht hW => ⟨⟨(), rfl, hF, toH ht hP⟩, hS.F ht⟩) hS.2.2 dX6_needTwoFamilies_30
  have hF := hF.trans (if_pos c_16)
  rw [hQ]
  exact k_throwSW (cd := 0) (is := 298) (text := "a family is out of range, or both are the same") (by decide) hx hb hst hown hts hX hS (hl.1.trans hml.symm) (List.mem_of_getElem? (i := 23) rfl) dX6_needTwoFamilies_19 dX6_needTwoFamilies_22 dX6_needTwoFamilies_23 dX6_needTwoFamilies_26 dX6_needTwoFamilies_29 hout (Nat.le_of_ble_eq_true rfl) (Nat.le_of_ble_eq_true rfl) (Nat.le_of_ble_eq_true rfl) (Nat.le_of_ble_eq_true rfl) hlocks (xv_new hF hP hS) hS.2.2 (Nat.le_of_ble_eq_true rfl) (Nat.le_of_ble_eq_true rfl)

def fX6_needPlace (a : Int32) : Int32 :=
  (if 0 ≤ a then 0 else 1)
abbrev rmX6_needPlace : Room := { frames := 6, cells := 1, slots := 6, locals := 90 }
set_option maxHeartbeats 4000000 in
set_option maxRecDepth 100000 in
theorem mX6_needPlace (l : Launch) (hst : l.stackTraces = false) (dC : Nat → ClassId) (dI : Nat → Nat → Nat)  (a : Int32) : vx_Met l yX6_needPlace (ws_ yX6_needPlace cX6_needPlace 1 none) rmX6_needPlace (pcX (dC, dI) [] [] [.int a]) (va_Qv (fun _ : Unit => fX6_needPlace a = 0) (fun _ t => va_P (dC, dI) vwCl [] t.heap) (adr [])) (vx_X (fun _ : Unit => ¬ fX6_needPlace a = 0) (fun E _ t => E = xname 0 ∧ va_P (dC, dI) vwCl [] t.heap) (adr [])) 1 6 (adr []) := by
  refine vx_ofW (cc := cX6_needPlace) (maxL := 1) (ret := none) (by decide) rfl ?_
  intro p e s m args below meth c s₁ B hml hout hv
  obtain ⟨ha, hP, hK, hn, hD0, hX⟩ := hv
  have hx := B.exec
  have hb := B.bytes
  have hr := B.returns
  have hts0 := atoms_spec (ws := (ws_ yX6_needPlace cX6_needPlace 1 none)) B.pre
  have hts : ∀ w ∈ lw_all, w.before args s = true := fun w h => hts0 w (List.mem_cons_of_mem _ h)
  have hown : s.vm.findClass RX6 = some m.cls := findClass_of_methodNamed B.named
  have hlocks := B.notSynchronized
  have hD := adr_self hD0
  obtain ⟨A, hA⟩ : ∃ A, A = adr [] := ⟨_, rfl⟩
  rw [← hA] at hD hX
  have hS : va_S A s.heap s.heap [] := va_S.rf
  obtain ⟨Q, hQ⟩ : ∃ Q, Q = vx_MQ below (va_Qv (fun _ : Unit => fX6_needPlace a = 0) (fun _ t => va_P (dC, dI) vwCl [] t.heap) (adr [])) (vx_X (fun _ : Unit => ¬ fX6_needPlace a = 0) (fun E _ t => E = xname 0 ∧ va_P (dC, dI) vwCl [] t.heap) (adr [])) args s 1 6 (adr []) := ⟨_, rfl⟩
  rw [← hQ]
  rw [← hA] at hQ
  have hl := lv_entry ([.int a]) (n := 1) (Nat.le_of_ble_eq_true rfl)
  rw [ha, lg_entry_eq, ← ha]
  generalize (lg_sl ([.int a]) ++ List.replicate (1 - (lg_sl ([.int a])).length) Slot.unset).toArray = ls at hl ⊢
  have hl : lv_has ls 1 [(0, .int a)] := hl
  show W p l e rmX6_needPlace s m args below meth c s.heap [] 0 0 Q (F0 m 0 ls [])
  have hF : fX6_needPlace a = fX6_needPlace a := rfl
  refine lv_iload_n hx hb dX6_needPlace_0 rfl (lv_at hl 0 rfl) ?_
  refine lv_if_ge (tgt := 15) hx hb dX6_needPlace_1 (by decide) (fun c_1 => ?_) (fun c_1 => ?_)
  · have hF := hF.trans (if_pos c_1)
    rw [hQ]
    refine vx_ret (W.widen (k := 1) (n := 6) (Nat.le_of_ble_eq_true rfl) (Nat.le_of_ble_eq_true rfl) ?_)
    exact W.vret hx hb hr (fun t ht hW => ⟨⟨(), rfl, hF, toH ht hP⟩, hS.F ht⟩) hS.2.2 dX6_needPlace_15
  have hF := hF.trans (if_neg c_1)
  rw [hQ]
  exact k_throwSW (cd := 0) (is := 300) (text := "place is below 0") (by decide) hx hb hst hown hts hX hS (hl.1.trans hml.symm) (List.mem_of_getElem? (i := 24) rfl) dX6_needPlace_4 dX6_needPlace_7 dX6_needPlace_8 dX6_needPlace_11 dX6_needPlace_14 hout (Nat.le_of_ble_eq_true rfl) (Nat.le_of_ble_eq_true rfl) (Nat.le_of_ble_eq_true rfl) (Nat.le_of_ble_eq_true rfl) hlocks (xv_new hF hP hS) hS.2.2 (Nat.le_of_ble_eq_true rfl) (Nat.le_of_ble_eq_true rfl)

def fX6_needGuest (PN : PV) (g : Int32) : Int32 :=
  (if (fX2_isGuest PN g) = 0 then 1 else 0)
abbrev rmX6_needGuest : Room := { frames := 6, cells := 1, slots := 6, locals := 90 }
set_option maxHeartbeats 4000000 in
set_option maxRecDepth 100000 in
theorem mX6_needGuest (l : Launch) (hst : l.stackTraces = false) (dC : Nat → ClassId) (dI : Nat → Nat → Nat) (cI cP : ClassId) (a0 : Nat) (aN aT aS : Nat → Nat) (t0 t1 t2 h0 h1 : Nat) (pa : Nat → Nat → Nat) (PN PT PS : PV) (f : Nat → Int32) (u : Int32) (Ps : Nat → PV) (oh vh : Nat) (k : Int32) (g : Int32) : vx_Met l yX6_needGuest (ws_ yX6_needGuest cX6_needGuest 2 none) rmX6_needGuest (pcX (dC, dI) [(cI, .int), (cP, .object "SupperSeats$Plan")] (fW cI cP a0 aN aT aS t0 t1 t2 h0 h1 pa PN PT PS f u Ps oh vh k) [.ref a0, .int g]) (va_Qv (fun _ : Unit => fX6_needGuest PN g = 0) (fun _ t => va_P (dC, dI) vwCl (fW cI cP a0 aN aT aS t0 t1 t2 h0 h1 pa PN PT PS f u Ps oh vh k) t.heap) (adr (fW cI cP a0 aN aT aS t0 t1 t2 h0 h1 pa PN PT PS f u Ps oh vh k))) (vx_X (fun _ : Unit => ¬ fX6_needGuest PN g = 0) (fun E _ t => E = xname 2 ∧ va_P (dC, dI) vwCl (fW cI cP a0 aN aT aS t0 t1 t2 h0 h1 pa PN PT PS f u Ps oh vh k) t.heap) (adr (fW cI cP a0 aN aT aS t0 t1 t2 h0 h1 pa PN PT PS f u Ps oh vh k))) 1 6 (adr (fW cI cP a0 aN aT aS t0 t1 t2 h0 h1 pa PN PT PS f u Ps oh vh k)) := by
  refine vx_ofW (cc := cX6_needGuest) (maxL := 2) (ret := none) (by decide) rfl ?_
  intro p e s m args below meth c s₁ B hml hout hv
  obtain ⟨ha, hP, hK, hn, hD0, hX⟩ := hv
  have hx := B.exec
  have hb := B.bytes
  have hr := B.returns
  have hts0 := atoms_spec (ws := (ws_ yX6_needGuest cX6_needGuest 2 none)) B.pre
  have hts : ∀ w ∈ lw_all, w.before args s = true := fun w h => hts0 w (List.mem_cons_of_mem _ h)
  have hown : s.vm.findClass RX6 = some m.cls := findClass_of_methodNamed B.named
  have hlocks := B.notSynchronized
  have htX6 : ∀ w ∈ wsX60, w.before args s = true := fun w h => hts w (wX6 w h)
  have hD := adr_self hD0
  obtain ⟨A, hA⟩ : ∃ A, A = adr (fW cI cP a0 aN aT aS t0 t1 t2 h0 h1 pa PN PT PS f u Ps oh vh k) := ⟨_, rfl⟩
  rw [← hA] at hD hX
  have hS : va_S A s.heap s.heap [] := va_S.rf
  obtain ⟨Q, hQ⟩ : ∃ Q, Q = vx_MQ below (va_Qv (fun _ : Unit => fX6_needGuest PN g = 0) (fun _ t => va_P (dC, dI) vwCl (fW cI cP a0 aN aT aS t0 t1 t2 h0 h1 pa PN PT PS f u Ps oh vh k) t.heap) (adr (fW cI cP a0 aN aT aS t0 t1 t2 h0 h1 pa PN PT PS f u Ps oh vh k))) (vx_X (fun _ : Unit => ¬ fX6_needGuest PN g = 0) (fun E _ t => E = xname 2 ∧ va_P (dC, dI) vwCl (fW cI cP a0 aN aT aS t0 t1 t2 h0 h1 pa PN PT PS f u Ps oh vh k) t.heap) (adr (fW cI cP a0 aN aT aS t0 t1 t2 h0 h1 pa PN PT PS f u Ps oh vh k))) args s 1 6 (adr (fW cI cP a0 aN aT aS t0 t1 t2 h0 h1 pa PN PT PS f u Ps oh vh k)) := ⟨_, rfl⟩
  rw [← hQ]
  rw [← hA] at hQ
  have hl := lv_entry ([.ref a0, .int g]) (n := 2) (Nat.le_of_ble_eq_true rfl)
  rw [ha, lg_entry_eq, ← ha]
  generalize (lg_sl ([.ref a0, .int g]) ++ List.replicate (2 - (lg_sl ([.ref a0, .int g])).length) Slot.unset).toArray = ls at hl ⊢
  have hl : lv_has ls 2 [(0, .ref a0), (1, .int g)] := hl
  show W p l e rmX6_needGuest s m args below meth c s.heap [] 0 0 Q (F0 m 0 ls [])
  have hF : fX6_needGuest PN g = fX6_needGuest PN g := rfl
  refine lv_aload_n hx hb dX6_needGuest_0 rfl (lv_at hl 0 rfl) ?_
  refine va_get (D := (dC, dI)) (ci := 4) (v := .ref (aN 0)) (C := RX6) (T := TX6) (N := 6) hx hb htX6 (fun _ h => h) hown hK (fl_at hP 0 rfl) 0 rfl rfl 0 (by decide) (hts _ u_143) (fun _ h9 => h9) rfl dX6_needGuest_1 ?_
  refine lv_iload_n hx hb dX6_needGuest_4 rfl (lv_at hl 1 rfl) ?_
  refine k_callb (W.runV (As := [.int g]) (rest := []) ⟨hx, hb, hml, hown, hts0⟩ (mX2_isGuest l dC dI cI aN PN g) (cwV 1 hts0 (gi_V u_551 u_251 u_252 u_2 u_253) rfl rfl rfl (by decide +kernel) ⟨Nat.le_of_ble_eq_true rfl, Nat.le_of_ble_eq_true rfl⟩) (pcR_V (ci := 2) (q0 := 0) (fl_at hP 1 rfl) (hK.sub (tys' := [(cI, .int)]) [0] rfl) hn rfl rfl) rfl rfl hl.1 rfl (lv_room (Nat.le_of_ble_eq_true rfl)) dX6_needGuest_5 ⟨Nat.le_of_ble_eq_true rfl, Nat.le_of_ble_eq_true rfl⟩) (fun br5 => ?_)
  refine lv_if_ne (tgt := 22) hx hb dX6_needGuest_8 (by decide) (fun c_8 => ?_) (fun c_8 => ?_)
  · have hF := hF.trans (if_neg c_8)
    rw [hQ]
    refine vx_ret (W.widen (k := 1) (n := 6) (Nat.le_of_ble_eq_true rfl) (Nat.le_of_ble_eq_true rfl) ?_)
    exact W.vret hx hb hr (fun t ht hW => ⟨⟨(), rfl, hF, toH ht hP⟩, hS.F ht⟩) hS.2.2 dX6_needGuest_22
  have hF := hF.trans (if_pos c_8)
  rw [hQ]
  exact k_throwSW (cd := 2) (is := 305) (text := "no such guest") (by decide) hx hb hst hown hts hX hS (hl.1.trans hml.symm) (List.mem_of_getElem? (i := 25) rfl) dX6_needGuest_11 dX6_needGuest_14 dX6_needGuest_15 dX6_needGuest_18 dX6_needGuest_21 hout (Nat.le_of_ble_eq_true rfl) (Nat.le_of_ble_eq_true rfl) (Nat.le_of_ble_eq_true rfl) (Nat.le_of_ble_eq_true rfl) hlocks (xv_new hF hP hS) hS.2.2 (Nat.le_of_ble_eq_true rfl) (Nat.le_of_ble_eq_true rfl)

def fX6_needTable (PN : PV) (tb : Int32) : Int32 :=
  (if (fX2_isTable PN tb) = 0 then 1 else 0)
abbrev rmX6_needTable : Room := { frames := 6, cells := 1, slots := 6, locals := 90 }
set_option maxHeartbeats 4000000 in
set_option maxRecDepth 100000 in
theorem mX6_needTable (l : Launch) (hst : l.stackTraces = false) (dC : Nat → ClassId) (dI : Nat → Nat → Nat) (cI cP : ClassId) (a0 : Nat) (aN aT aS : Nat → Nat) (t0 t1 t2 h0 h1 : Nat) (pa : Nat → Nat → Nat) (PN PT PS : PV) (f : Nat → Int32) (u : Int32) (Ps : Nat → PV) (oh vh : Nat) (k : Int32) (tb : Int32) : vx_Met l yX6_needTable (ws_ yX6_needTable cX6_needTable 2 none) rmX6_needTable (pcX (dC, dI) [(cI, .int), (cP, .object "SupperSeats$Plan")] (fW cI cP a0 aN aT aS t0 t1 t2 h0 h1 pa PN PT PS f u Ps oh vh k) [.ref a0, .int tb]) (va_Qv (fun _ : Unit => fX6_needTable PN tb = 0) (fun _ t => va_P (dC, dI) vwCl (fW cI cP a0 aN aT aS t0 t1 t2 h0 h1 pa PN PT PS f u Ps oh vh k) t.heap) (adr (fW cI cP a0 aN aT aS t0 t1 t2 h0 h1 pa PN PT PS f u Ps oh vh k))) (vx_X (fun _ : Unit => ¬ fX6_needTable PN tb = 0) (fun E _ t => E = xname 2 ∧ va_P (dC, dI) vwCl (fW cI cP a0 aN aT aS t0 t1 t2 h0 h1 pa PN PT PS f u Ps oh vh k) t.heap) (adr (fW cI cP a0 aN aT aS t0 t1 t2 h0 h1 pa PN PT PS f u Ps oh vh k))) 1 6 (adr (fW cI cP a0 aN aT aS t0 t1 t2 h0 h1 pa PN PT PS f u Ps oh vh k)) := by
  refine vx_ofW (cc := cX6_needTable) (maxL := 2) (ret := none) (by decide) rfl ?_
  intro p e s m args below meth c s₁ B hml hout hv
  obtain ⟨ha, hP, hK, hn, hD0, hX⟩ := hv
  have hx := B.exec
  have hb := B.bytes
  have hr := B.returns
  have hts0 := atoms_spec (ws := (ws_ yX6_needTable cX6_needTable 2 none)) B.pre
  have hts : ∀ w ∈ lw_all, w.before args s = true := fun w h => hts0 w (List.mem_cons_of_mem _ h)
  have hown : s.vm.findClass RX6 = some m.cls := findClass_of_methodNamed B.named
  have hlocks := B.notSynchronized
  have htX6 : ∀ w ∈ wsX60, w.before args s = true := fun w h => hts w (wX6 w h)
  have hD := adr_self hD0
  obtain ⟨A, hA⟩ : ∃ A, A = adr (fW cI cP a0 aN aT aS t0 t1 t2 h0 h1 pa PN PT PS f u Ps oh vh k) := ⟨_, rfl⟩
  rw [← hA] at hD hX
  have hS : va_S A s.heap s.heap [] := va_S.rf
  obtain ⟨Q, hQ⟩ : ∃ Q, Q = vx_MQ below (va_Qv (fun _ : Unit => fX6_needTable PN tb = 0) (fun _ t => va_P (dC, dI) vwCl (fW cI cP a0 aN aT aS t0 t1 t2 h0 h1 pa PN PT PS f u Ps oh vh k) t.heap) (adr (fW cI cP a0 aN aT aS t0 t1 t2 h0 h1 pa PN PT PS f u Ps oh vh k))) (vx_X (fun _ : Unit => ¬ fX6_needTable PN tb = 0) (fun E _ t => E = xname 2 ∧ va_P (dC, dI) vwCl (fW cI cP a0 aN aT aS t0 t1 t2 h0 h1 pa PN PT PS f u Ps oh vh k) t.heap) (adr (fW cI cP a0 aN aT aS t0 t1 t2 h0 h1 pa PN PT PS f u Ps oh vh k))) args s 1 6 (adr (fW cI cP a0 aN aT aS t0 t1 t2 h0 h1 pa PN PT PS f u Ps oh vh k)) := ⟨_, rfl⟩
  rw [← hQ]
  rw [← hA] at hQ
  have hl := lv_entry ([.ref a0, .int tb]) (n := 2) (Nat.le_of_ble_eq_true rfl)
  rw [ha, lg_entry_eq, ← ha]
  generalize (lg_sl ([.ref a0, .int tb]) ++ List.replicate (2 - (lg_sl ([.ref a0, .int tb])).length) Slot.unset).toArray = ls at hl ⊢
  have hl : lv_has ls 2 [(0, .ref a0), (1, .int tb)] := hl
  show W p l e rmX6_needTable s m args below meth c s.heap [] 0 0 Q (F0 m 0 ls [])
  have hF : fX6_needTable PN tb = fX6_needTable PN tb := rfl
  refine lv_aload_n hx hb dX6_needTable_0 rfl (lv_at hl 0 rfl) ?_
  refine va_get (D := (dC, dI)) (ci := 4) (v := .ref (aN 0)) (C := RX6) (T := TX6) (N := 6) hx hb htX6 (fun _ h => h) hown hK (fl_at hP 0 rfl) 0 rfl rfl 0 (by decide) (hts _ u_143) (fun _ h9 => h9) rfl dX6_needTable_1 ?_
  refine lv_iload_n hx hb dX6_needTable_4 rfl (lv_at hl 1 rfl) ?_
  refine k_callb (W.runV (As := [.int tb]) (rest := []) ⟨hx, hb, hml, hown, hts0⟩ (mX2_isTable l dC dI cI aN PN tb) (cwV 1 hts0 (gi_V u_738 u_648 u_649 u_2 u_650) rfl rfl rfl (by decide +kernel) ⟨Nat.le_of_ble_eq_true rfl, Nat.le_of_ble_eq_true rfl⟩) (pcR_V (ci := 2) (q0 := 0) (fl_at hP 1 rfl) (hK.sub (tys' := [(cI, .int)]) [0] rfl) hn rfl rfl) rfl rfl hl.1 rfl (lv_room (Nat.le_of_ble_eq_true rfl)) dX6_needTable_5 ⟨Nat.le_of_ble_eq_true rfl, Nat.le_of_ble_eq_true rfl⟩) (fun br5 => ?_)
  refine lv_if_ne (tgt := 22) hx hb dX6_needTable_8 (by decide) (fun c_8 => ?_) (fun c_8 => ?_)
  · have hF := hF.trans (if_neg c_8)
    rw [hQ]
    refine vx_ret (W.widen (k := 1) (n := 6) (Nat.le_of_ble_eq_true rfl) (Nat.le_of_ble_eq_true rfl) ?_)
    exact W.vret hx hb hr (fun t ht hW => ⟨⟨(), rfl, hF, toH ht hP⟩, hS.F ht⟩) hS.2.2 dX6_needTable_22
  have hF := hF.trans (if_pos c_8)
  rw [hQ]
  exact k_throwSW (cd := 2) (is := 310) (text := "no such table") (by decide) hx hb hst hown hts hX hS (hl.1.trans hml.symm) (List.mem_of_getElem? (i := 26) rfl) dX6_needTable_11 dX6_needTable_14 dX6_needTable_15 dX6_needTable_18 dX6_needTable_21 hout (Nat.le_of_ble_eq_true rfl) (Nat.le_of_ble_eq_true rfl) (Nat.le_of_ble_eq_true rfl) (Nat.le_of_ble_eq_true rfl) hlocks (xv_new hF hP hS) hS.2.2 (Nat.le_of_ble_eq_true rfl) (Nat.le_of_ble_eq_true rfl)

def fX6_needSeat (PN : PV) (tb : Int32) (z : Int32) : Int32 :=
  (if (fX2_isSeat PN tb z) = 0 then 1 else 0)
abbrev rmX6_needSeat : Room := { frames := 6, cells := 1, slots := 6, locals := 90 }
set_option maxHeartbeats 4000000 in
set_option maxRecDepth 100000 in
theorem mX6_needSeat (l : Launch) (hst : l.stackTraces = false) (dC : Nat → ClassId) (dI : Nat → Nat → Nat) (cI cP : ClassId) (a0 : Nat) (aN aT aS : Nat → Nat) (t0 t1 t2 h0 h1 : Nat) (pa : Nat → Nat → Nat) (PN PT PS : PV) (f : Nat → Int32) (u : Int32) (Ps : Nat → PV) (oh vh : Nat) (k : Int32) (tb : Int32) (z : Int32) : vx_Met l yX6_needSeat (ws_ yX6_needSeat cX6_needSeat 3 none) rmX6_needSeat (pcX (dC, dI) [(cI, .int), (cP, .object "SupperSeats$Plan")] (fW cI cP a0 aN aT aS t0 t1 t2 h0 h1 pa PN PT PS f u Ps oh vh k) [.ref a0, .int tb, .int z]) (va_Qv (fun _ : Unit => fX6_needSeat PN tb z = 0) (fun _ t => va_P (dC, dI) vwCl (fW cI cP a0 aN aT aS t0 t1 t2 h0 h1 pa PN PT PS f u Ps oh vh k) t.heap) (adr (fW cI cP a0 aN aT aS t0 t1 t2 h0 h1 pa PN PT PS f u Ps oh vh k))) (vx_X (fun _ : Unit => ¬ fX6_needSeat PN tb z = 0) (fun E _ t => E = xname 2 ∧ va_P (dC, dI) vwCl (fW cI cP a0 aN aT aS t0 t1 t2 h0 h1 pa PN PT PS f u Ps oh vh k) t.heap) (adr (fW cI cP a0 aN aT aS t0 t1 t2 h0 h1 pa PN PT PS f u Ps oh vh k))) 1 6 (adr (fW cI cP a0 aN aT aS t0 t1 t2 h0 h1 pa PN PT PS f u Ps oh vh k)) := by
  refine vx_ofW (cc := cX6_needSeat) (maxL := 3) (ret := none) (by decide) rfl ?_
  intro p e s m args below meth c s₁ B hml hout hv
  obtain ⟨ha, hP, hK, hn, hD0, hX⟩ := hv
  have hx := B.exec
  have hb := B.bytes
  have hr := B.returns
  have hts0 := atoms_spec (ws := (ws_ yX6_needSeat cX6_needSeat 3 none)) B.pre
  have hts : ∀ w ∈ lw_all, w.before args s = true := fun w h => hts0 w (List.mem_cons_of_mem _ h)
  have hown : s.vm.findClass RX6 = some m.cls := findClass_of_methodNamed B.named
  have hlocks := B.notSynchronized
  have htX6 : ∀ w ∈ wsX60, w.before args s = true := fun w h => hts w (wX6 w h)
  have hD := adr_self hD0
  obtain ⟨A, hA⟩ : ∃ A, A = adr (fW cI cP a0 aN aT aS t0 t1 t2 h0 h1 pa PN PT PS f u Ps oh vh k) := ⟨_, rfl⟩
  rw [← hA] at hD hX
  have hS : va_S A s.heap s.heap [] := va_S.rf
  obtain ⟨Q, hQ⟩ : ∃ Q, Q = vx_MQ below (va_Qv (fun _ : Unit => fX6_needSeat PN tb z = 0) (fun _ t => va_P (dC, dI) vwCl (fW cI cP a0 aN aT aS t0 t1 t2 h0 h1 pa PN PT PS f u Ps oh vh k) t.heap) (adr (fW cI cP a0 aN aT aS t0 t1 t2 h0 h1 pa PN PT PS f u Ps oh vh k))) (vx_X (fun _ : Unit => ¬ fX6_needSeat PN tb z = 0) (fun E _ t => E = xname 2 ∧ va_P (dC, dI) vwCl (fW cI cP a0 aN aT aS t0 t1 t2 h0 h1 pa PN PT PS f u Ps oh vh k) t.heap) (adr (fW cI cP a0 aN aT aS t0 t1 t2 h0 h1 pa PN PT PS f u Ps oh vh k))) args s 1 6 (adr (fW cI cP a0 aN aT aS t0 t1 t2 h0 h1 pa PN PT PS f u Ps oh vh k)) := ⟨_, rfl⟩
  rw [← hQ]
  rw [← hA] at hQ
  have hl := lv_entry ([.ref a0, .int tb, .int z]) (n := 3) (Nat.le_of_ble_eq_true rfl)
  rw [ha, lg_entry_eq, ← ha]
  generalize (lg_sl ([.ref a0, .int tb, .int z]) ++ List.replicate (3 - (lg_sl ([.ref a0, .int tb, .int z])).length) Slot.unset).toArray = ls at hl ⊢
  have hl : lv_has ls 3 [(0, .ref a0), (1, .int tb), (2, .int z)] := hl
  show W p l e rmX6_needSeat s m args below meth c s.heap [] 0 0 Q (F0 m 0 ls [])
  have hF : fX6_needSeat PN tb z = fX6_needSeat PN tb z := rfl
  refine lv_aload_n hx hb dX6_needSeat_0 rfl (lv_at hl 0 rfl) ?_
  refine va_get (D := (dC, dI)) (ci := 4) (v := .ref (aN 0)) (C := RX6) (T := TX6) (N := 6) hx hb htX6 (fun _ h => h) hown hK (fl_at hP 0 rfl) 0 rfl rfl 0 (by decide) (hts _ u_143) (fun _ h9 => h9) rfl dX6_needSeat_1 ?_
  refine lv_iload_n hx hb dX6_needSeat_4 rfl (lv_at hl 1 rfl) ?_
  refine lv_iload_n hx hb dX6_needSeat_5 rfl (lv_at hl 2 rfl) ?_
  refine k_callb (W.runV (As := [.int tb, .int z]) (rest := []) ⟨hx, hb, hml, hown, hts0⟩ (mX2_isSeat l dC dI cI aN PN tb z) (cwV 2 hts0 (gi_V u_643 u_644 u_645 u_2 u_646) rfl rfl rfl (by decide +kernel) ⟨Nat.le_of_ble_eq_true rfl, Nat.le_of_ble_eq_true rfl⟩) (pcR_V (ci := 2) (q0 := 0) (fl_at hP 1 rfl) (hK.sub (tys' := [(cI, .int)]) [0] rfl) hn rfl rfl) rfl rfl hl.1 rfl (lv_room (Nat.le_of_ble_eq_true rfl)) dX6_needSeat_6 ⟨Nat.le_of_ble_eq_true rfl, Nat.le_of_ble_eq_true rfl⟩) (fun br6 => ?_)
  refine lv_if_ne (tgt := 23) hx hb dX6_needSeat_9 (by decide) (fun c_9 => ?_) (fun c_9 => ?_)
  · have hF := hF.trans (if_neg c_9)
    rw [hQ]
    refine vx_ret (W.widen (k := 1) (n := 6) (Nat.le_of_ble_eq_true rfl) (Nat.le_of_ble_eq_true rfl) ?_)
    exact W.vret hx hb hr (fun t ht hW => ⟨⟨(), rfl, hF, toH ht hP⟩, hS.F ht⟩) hS.2.2 dX6_needSeat_23
  have hF := hF.trans (if_pos c_9)
  rw [hQ]
  exact k_throwSW (cd := 2) (is := 315) (text := "no such table or seat") (by decide) hx hb hst hown hts hX hS (hl.1.trans hml.symm) (List.mem_of_getElem? (i := 27) rfl) dX6_needSeat_12 dX6_needSeat_15 dX6_needSeat_16 dX6_needSeat_19 dX6_needSeat_22 hout (Nat.le_of_ble_eq_true rfl) (Nat.le_of_ble_eq_true rfl) (Nat.le_of_ble_eq_true rfl) (Nat.le_of_ble_eq_true rfl) hlocks (xv_new hF hP hS) hS.2.2 (Nat.le_of_ble_eq_true rfl) (Nat.le_of_ble_eq_true rfl)

def fX6_needGuestAndSeat (PN : PV) (g : Int32) (tb : Int32) (z : Int32) : Int32 :=
  (if (fX6_needGuest PN g) = 0 then (if (fX6_needSeat PN tb z) = 0 then 0 else 1) else 1)
abbrev rmX6_needGuestAndSeat : Room := { frames := 7, cells := 2, slots := 12, locals := 112 }
set_option maxHeartbeats 4000000 in
set_option maxRecDepth 100000 in
theorem mX6_needGuestAndSeat (l : Launch) (hst : l.stackTraces = false) (dC : Nat → ClassId) (dI : Nat → Nat → Nat) (cI cP : ClassId) (a0 : Nat) (aN aT aS : Nat → Nat) (t0 t1 t2 h0 h1 : Nat) (pa : Nat → Nat → Nat) (PN PT PS : PV) (f : Nat → Int32) (u : Int32) (Ps : Nat → PV) (oh vh : Nat) (k : Int32) (g : Int32) (tb : Int32) (z : Int32) : vx_Met l yX6_needGuestAndSeat (ws_ yX6_needGuestAndSeat cX6_needGuestAndSeat 4 none) rmX6_needGuestAndSeat (pcX (dC, dI) [(cI, .int), (cP, .object "SupperSeats$Plan")] (fW cI cP a0 aN aT aS t0 t1 t2 h0 h1 pa PN PT PS f u Ps oh vh k) [.ref a0, .int g, .int tb, .int z]) (va_Qv (fun _ : Unit => fX6_needGuestAndSeat PN g tb z = 0) (fun _ t => va_P (dC, dI) vwCl (fW cI cP a0 aN aT aS t0 t1 t2 h0 h1 pa PN PT PS f u Ps oh vh k) t.heap) (adr (fW cI cP a0 aN aT aS t0 t1 t2 h0 h1 pa PN PT PS f u Ps oh vh k))) (vx_X (fun _ : Unit => ¬ fX6_needGuestAndSeat PN g tb z = 0) (fun E _ t => E = xname 2 ∧ va_P (dC, dI) vwCl (fW cI cP a0 aN aT aS t0 t1 t2 h0 h1 pa PN PT PS f u Ps oh vh k) t.heap) (adr (fW cI cP a0 aN aT aS t0 t1 t2 h0 h1 pa PN PT PS f u Ps oh vh k))) 2 12 (adr (fW cI cP a0 aN aT aS t0 t1 t2 h0 h1 pa PN PT PS f u Ps oh vh k)) := by
  refine vx_ofW (cc := cX6_needGuestAndSeat) (maxL := 4) (ret := none) (by decide) rfl ?_
  intro p e s m args below meth c s₁ B hml hout hv
  obtain ⟨ha, hP, hK, hn, hD0, hX⟩ := hv
  have hx := B.exec
  have hb := B.bytes
  have hr := B.returns
  have hts0 := atoms_spec (ws := (ws_ yX6_needGuestAndSeat cX6_needGuestAndSeat 4 none)) B.pre
  have hts : ∀ w ∈ lw_all, w.before args s = true := fun w h => hts0 w (List.mem_cons_of_mem _ h)
  have hown : s.vm.findClass RX6 = some m.cls := findClass_of_methodNamed B.named
  have hlocks := B.notSynchronized
  have hD := adr_self hD0
  obtain ⟨A, hA⟩ : ∃ A, A = adr (fW cI cP a0 aN aT aS t0 t1 t2 h0 h1 pa PN PT PS f u Ps oh vh k) := ⟨_, rfl⟩
  rw [← hA] at hD hX
  have hS : va_S A s.heap s.heap [] := va_S.rf
  obtain ⟨Q, hQ⟩ : ∃ Q, Q = vx_MQ below (va_Qv (fun _ : Unit => fX6_needGuestAndSeat PN g tb z = 0) (fun _ t => va_P (dC, dI) vwCl (fW cI cP a0 aN aT aS t0 t1 t2 h0 h1 pa PN PT PS f u Ps oh vh k) t.heap) (adr (fW cI cP a0 aN aT aS t0 t1 t2 h0 h1 pa PN PT PS f u Ps oh vh k))) (vx_X (fun _ : Unit => ¬ fX6_needGuestAndSeat PN g tb z = 0) (fun E _ t => E = xname 2 ∧ va_P (dC, dI) vwCl (fW cI cP a0 aN aT aS t0 t1 t2 h0 h1 pa PN PT PS f u Ps oh vh k) t.heap) (adr (fW cI cP a0 aN aT aS t0 t1 t2 h0 h1 pa PN PT PS f u Ps oh vh k))) args s 2 12 (adr (fW cI cP a0 aN aT aS t0 t1 t2 h0 h1 pa PN PT PS f u Ps oh vh k)) := ⟨_, rfl⟩
  rw [← hQ]
  rw [← hA] at hQ
  have hl := lv_entry ([.ref a0, .int g, .int tb, .int z]) (n := 4) (Nat.le_of_ble_eq_true rfl)
  rw [ha, lg_entry_eq, ← ha]
  generalize (lg_sl ([.ref a0, .int g, .int tb, .int z]) ++ List.replicate (4 - (lg_sl ([.ref a0, .int g, .int tb, .int z])).length) Slot.unset).toArray = ls at hl ⊢
  have hl : lv_has ls 4 [(0, .ref a0), (1, .int g), (2, .int tb), (3, .int z)] := hl
  show W p l e rmX6_needGuestAndSeat s m args below meth c s.heap [] 0 0 Q (F0 m 0 ls [])
  have hF : fX6_needGuestAndSeat PN g tb z = fX6_needGuestAndSeat PN g tb z := rfl
  refine lv_aload_n hx hb dX6_needGuestAndSeat_0 rfl (lv_at hl 0 rfl) ?_
  refine lv_iload_n hx hb dX6_needGuestAndSeat_1 rfl (lv_at hl 1 rfl) ?_
  refine k_need (F := (fX6_needGuest PN g)) (cd := 2) (vx_runV (As := [.int g]) (rest := []) ⟨hx, hb, hml, hown, hts0⟩ (mX6_needGuest l hst dC dI cI cP a0 aN aT aS t0 t1 t2 h0 h1 pa PN PT PS f u Ps oh vh k g) (cwV 1 hts0 (gi_V u_547 u_549 us_8 u_1 u_550) rfl rfl rfl (by decide +kernel) ⟨Nat.le_of_ble_eq_true rfl, Nat.le_of_ble_eq_true rfl⟩) (pcX_V (ci := 4) (q0 := 0) hP hK hn hD hX hS rfl rfl) rfl rfl hl.1 rfl (lv_room (Nat.le_of_ble_eq_true rfl)) dX6_needGuestAndSeat_2 ⟨Nat.le_of_ble_eq_true rfl, Nat.le_of_ble_eq_true rfl⟩) hS hD (fun c_2 ce9 q9 H locs hP hS he9 hv9 hc9 => ?_) (fun c_2 H locs hP hS => ?_)
  · have hF := hF.trans (if_neg c_2)
    rw [hQ]
    exact vx_out (fun x9 hx9 => (hout x9 hx9).elim) hlocks he9 hv9 hc9 (xv_out hF hP hS) hS.2.2 (Nat.le_of_ble_eq_true rfl) (Nat.le_of_ble_eq_true rfl)
  have hF := hF.trans (if_pos c_2)
  refine lv_aload_n hx hb dX6_needGuestAndSeat_5 rfl (lv_at hl 0 rfl) ?_
  refine lv_iload_n hx hb dX6_needGuestAndSeat_6 rfl (lv_at hl 2 rfl) ?_
  refine lv_iload_n hx hb dX6_needGuestAndSeat_7 rfl (lv_at hl 3 rfl) ?_
  refine k_need (F := (fX6_needSeat PN tb z)) (cd := 2) (vx_runV (As := [.int tb, .int z]) (rest := []) ⟨hx, hb, hml, hown, hts0⟩ (mX6_needSeat l hst dC dI cI cP a0 aN aT aS t0 t1 t2 h0 h1 pa PN PT PS f u Ps oh vh k tb z) (cwV 2 hts0 (gi_V u_639 u_641 us_10 u_1 u_642) rfl rfl rfl (by decide +kernel) ⟨Nat.le_of_ble_eq_true rfl, Nat.le_of_ble_eq_true rfl⟩) (pcX_V (ci := 4) (q0 := 0) hP hK hn hD hX hS rfl rfl) rfl rfl hl.1 rfl (lv_room (Nat.le_of_ble_eq_true rfl)) dX6_needGuestAndSeat_8 ⟨Nat.le_of_ble_eq_true rfl, Nat.le_of_ble_eq_true rfl⟩) hS hD (fun c_8 ce9 q9 H locs hP hS he9 hv9 hc9 => ?_) (fun c_8 H locs hP hS => ?_)
  · have hF := hF.trans (if_neg c_8)
    rw [hQ]
    exact vx_out (fun x9 hx9 => (hout x9 hx9).elim) hlocks he9 hv9 hc9 (xv_out hF hP hS) hS.2.2 (Nat.le_of_ble_eq_true rfl) (Nat.le_of_ble_eq_true rfl)
  have hF := hF.trans (if_pos c_8)
  rw [hQ]
  refine vx_ret (W.widen (k := 2) (n := 12) (Nat.le_of_ble_eq_true rfl) (Nat.le_of_ble_eq_true rfl) ?_)
  exact W.vret hx hb hr (fun t ht hW => ⟨⟨(), rfl, hF, toH ht hP⟩, hS.F ht⟩) hS.2.2 dX6_needGuestAndSeat_11
