def fX6_guest (PN : PV) (Ps : Nat → PV) (oh : Nat) (vh : Nat) (a : Int32) (b : Int32) : Nat ⊕ (Int32 × (PV × (Nat → PV) × Nat × Nat)) :=
  (if (fX6_isFamily a) = 0 then (Sum.inl 0) else (if b < 1 then (Sum.inl 0) else (if b ≤ 3 then (if (PN 10 0) < 16 then (bd (fX0_save Ps oh vh PN) (fun U57 => (bd2 (fX2_addGuest PN a b) (fun r66 U66 => (Sum.inr (r66, (U66, U57.1, U57.2.1, U57.2.2))))))) else (Sum.inl 1)) else (Sum.inl 0))))
abbrev rmX6_guest : Room := { frames := 6, cells := 1, slots := 6, locals := 104 }
set_option maxHeartbeats 4000000 in
set_option maxRecDepth 100000 in
theorem mX6_guest (l : Launch) (hst : l.stackTraces = false) (dC : Nat → ClassId) (dI : Nat → Nat → Nat) (cI cP : ClassId) (a0 : Nat) (aN aT aS : Nat → Nat) (t0 t1 t2 h0 h1 : Nat) (pa : Nat → Nat → Nat) (PN PT PS : PV) (f : Nat → Int32) (u : Int32) (Ps : Nat → PV) (oh vh : Nat) (k : Int32) (a : Int32) (b : Int32) (ho6 : oh < 6) (hv6 : vh ≤ 6) : vx_Met l yX6_guest (ws_ yX6_guest cX6_guest 3 (some .int)) rmX6_guest (pcX (dC, dI) [(cI, .int), (cP, .object "SupperSeats$Plan")] (fW cI cP a0 aN aT aS t0 t1 t2 h0 h1 pa PN PT PS f u Ps oh vh k) [.ref a0, .int a, .int b]) (va_Qi (fun (r9 : Int32) (u9 : PV × (Nat → PV) × Nat × Nat) => fX6_guest PN Ps oh vh a b = Sum.inr (r9, u9)) (fun u9 t => va_P (dC, dI) vwCl ((fun (v9 : PV × (Nat → PV) × Nat × Nat) => fW cI cP a0 aN aT aS t0 t1 t2 h0 h1 pa v9.1 PT PS f u v9.2.1 v9.2.2.1 v9.2.2.2 k) u9) t.heap) (adr (fW cI cP a0 aN aT aS t0 t1 t2 h0 h1 pa PN PT PS f u Ps oh vh k))) (vx_X (fun c9 : Nat => fX6_guest PN Ps oh vh a b = Sum.inl c9) (fun E c9 t => E = xname c9 ∧ va_P (dC, dI) vwCl (fW cI cP a0 aN aT aS t0 t1 t2 h0 h1 pa PN PT PS f u Ps oh vh k) t.heap) (adr (fW cI cP a0 aN aT aS t0 t1 t2 h0 h1 pa PN PT PS f u Ps oh vh k))) 1 6 (adr (fW cI cP a0 aN aT aS t0 t1 t2 h0 h1 pa PN PT PS f u Ps oh vh k)) := by
  refine vx_ofW (cc := cX6_guest) (maxL := 3) (ret := (some .int)) (by decide) rfl ?_
  intro p e s m args below meth c s₁ B hml hout hv
  obtain ⟨ha, hP, hK, hn, hD0, hX⟩ := hv
  have hx := B.exec
  have hb := B.bytes
  have hr := B.returns
  have hts0 := atoms_spec (ws := (ws_ yX6_guest cX6_guest 3 (some .int))) B.pre
  have hts : ∀ w ∈ lw_all, w.before args s = true := fun w h => hts0 w (List.mem_cons_of_mem _ h)
  have hown : s.vm.findClass RX6 = some m.cls := findClass_of_methodNamed B.named
  have hlocks := B.notSynchronized
  have htX6 : ∀ w ∈ wsX60, w.before args s = true := fun w h => hts w (wX6 w h)
  have htX2 : ∀ w ∈ wsX20, w.before args s = true := fun w h => hts w (wX2 w h)
  have hD := adr_self hD0
  obtain ⟨A, hA⟩ : ∃ A, A = adr (fW cI cP a0 aN aT aS t0 t1 t2 h0 h1 pa PN PT PS f u Ps oh vh k) := ⟨_, rfl⟩
  rw [← hA] at hD hX
  have hS : va_S A s.heap s.heap [] := va_S.rf
  obtain ⟨Q, hQ⟩ : ∃ Q, Q = vx_MQ below (va_Qi (fun (r9 : Int32) (u9 : PV × (Nat → PV) × Nat × Nat) => fX6_guest PN Ps oh vh a b = Sum.inr (r9, u9)) (fun u9 t => va_P (dC, dI) vwCl ((fun (v9 : PV × (Nat → PV) × Nat × Nat) => fW cI cP a0 aN aT aS t0 t1 t2 h0 h1 pa v9.1 PT PS f u v9.2.1 v9.2.2.1 v9.2.2.2 k) u9) t.heap) (adr (fW cI cP a0 aN aT aS t0 t1 t2 h0 h1 pa PN PT PS f u Ps oh vh k))) (vx_X (fun c9 : Nat => fX6_guest PN Ps oh vh a b = Sum.inl c9) (fun E c9 t => E = xname c9 ∧ va_P (dC, dI) vwCl (fW cI cP a0 aN aT aS t0 t1 t2 h0 h1 pa PN PT PS f u Ps oh vh k) t.heap) (adr (fW cI cP a0 aN aT aS t0 t1 t2 h0 h1 pa PN PT PS f u Ps oh vh k))) args s 1 6 (adr (fW cI cP a0 aN aT aS t0 t1 t2 h0 h1 pa PN PT PS f u Ps oh vh k)) := ⟨_, rfl⟩
  rw [← hQ]
  rw [← hA] at hQ
  have hl := lv_entry ([.ref a0, .int a, .int b]) (n := 3) (Nat.le_of_ble_eq_true rfl)
  rw [ha, lg_entry_eq, ← ha]
  generalize (lg_sl ([.ref a0, .int a, .int b]) ++ List.replicate (3 - (lg_sl ([.ref a0, .int a, .int b])).length) Slot.unset).toArray = ls at hl ⊢
  have hl : lv_has ls 3 [(0, .ref a0), (1, .int a), (2, .int b)] := hl
  show W p l e rmX6_guest s m args below meth c s.heap [] 0 0 Q (F0 m 0 ls [])
  have hF : fX6_guest PN Ps oh vh a b = fX6_guest PN Ps oh vh a b := rfl
  refine lv_iload_n hx hb dX6_guest_0 rfl (lv_at hl 1 rfl) ?_
  refine k_callb (W.runS (As := [.int a]) (rest := []) ⟨hx, hb, hml, hown, hts0⟩ (mX6_isFamily l dC dI  a) (va_cwS 1 hts0 (gi_S u_448 u_449 u_1 u_450) rfl rfl rfl (by decide +kernel) ⟨Nat.le_of_ble_eq_true rfl, Nat.le_of_ble_eq_true rfl⟩) (pcR_S (hP.sub (ws' := []) [] rfl) (hK.sub (tys' := []) [] rfl) hn) rfl rfl hl.1 rfl (lv_room (Nat.le_of_ble_eq_true rfl)) dX6_guest_1 ⟨Nat.le_of_ble_eq_true rfl, Nat.le_of_ble_eq_true rfl⟩) (fun br1 => ?_)
  refine lv_if_eq (tgt := 17) hx hb dX6_guest_4 (by decide) (fun c_4 => ?_) (fun c_4 => ?_)
  · have hF := hF.trans (if_pos c_4)
    rw [hQ]
    exact k_throwS (cd := 0) (is := 46) (text := "family or size is out of range") (by decide) hx hb hst hown hts hX hS (hl.1.trans hml.symm) (List.mem_of_getElem? (i := 0) rfl) dX6_guest_17 dX6_guest_20 dX6_guest_21 dX6_guest_23 dX6_guest_26 hout (Nat.le_of_ble_eq_true rfl) (Nat.le_of_ble_eq_true rfl) (Nat.le_of_ble_eq_true rfl) (Nat.le_of_ble_eq_true rfl) hlocks (xc_new hF hP hS) hS.2.2 (Nat.le_of_ble_eq_true rfl) (Nat.le_of_ble_eq_true rfl)
  have hF := hF.trans (if_neg c_4)
  refine lv_iload_n hx hb dX6_guest_7 rfl (lv_at hl 2 rfl) ?_
  refine lv_iconst (v := 1) hx hb dX6_guest_8 (by decide) ?_
  refine lv_icmp_lt (tgt := 17) hx hb dX6_guest_9 (by decide) (fun c_9 => ?_) (fun c_9 => ?_)
  · have hF := hF.trans (if_pos c_9)
    rw [hQ]
    exact k_throwS (cd := 0) (is := 46) (text := "family or size is out of range") (by decide) hx hb hst hown hts hX hS (hl.1.trans hml.symm) (List.mem_of_getElem? (i := 0) rfl) dX6_guest_17 dX6_guest_20 dX6_guest_21 dX6_guest_23 dX6_guest_26 hout (Nat.le_of_ble_eq_true rfl) (Nat.le_of_ble_eq_true rfl) (Nat.le_of_ble_eq_true rfl) (Nat.le_of_ble_eq_true rfl) hlocks (xc_new hF hP hS) hS.2.2 (Nat.le_of_ble_eq_true rfl) (Nat.le_of_ble_eq_true rfl)
  have hF := hF.trans (if_neg c_9)
  refine lv_iload_n hx hb dX6_guest_12 rfl (lv_at hl 2 rfl) ?_
  refine lv_iconst (v := 3) hx hb dX6_guest_13 (by decide) ?_
  refine lv_icmp_le (tgt := 27) hx hb dX6_guest_14 (by decide) (fun c_14 => ?_) (fun c_14 => ?_)
  · have hF := hF.trans (if_pos c_14)
    refine lv_aload_n hx hb dX6_guest_27 rfl (lv_at hl 0 rfl) ?_
    refine va_get (D := (dC, dI)) (ci := 4) (v := .ref (aN 0)) (C := RX6) (T := TX6) (N := 6) hx hb htX6 (fun _ h => h) hown hK (fl_at hP 0 rfl) 0 rfl rfl 0 (by decide) (hts _ u_143) (fun _ h9 => h9) rfl dX6_guest_28 ?_
    refine va_getN (D := (dC, dI)) (ci := 2) (v := .int (PN 10 0)) (C := RX2) (T := TX2) (N := 14) hx hb htX2 (fun _ h => h) hown hK (fl_at hP 1 rfl) 0 rfl rfl 10 (by decide) (va_Nw.use rfl (hn _ (List.mem_of_getElem? (i := 15) rfl))) (fun _ h9 => h9) rfl dX6_guest_31 ?_
    refine lv_bipush (v := 16) hx hb dX6_guest_34 (by decide) ?_
    refine lv_icmp_lt (tgt := 49) hx hb dX6_guest_36 (by decide) (fun c_36 => ?_) (fun c_36 => ?_)
    · have hF := hF.trans (if_pos c_36)
      refine lv_aload_n hx hb dX6_guest_49 rfl (lv_at hl 0 rfl) ?_
      refine va_get (D := (dC, dI)) (ci := 4) (v := .ref h0) (C := RX6) (T := TX6) (N := 6) hx hb htX6 (fun _ h => h) hown hK (fl_at hP 0 rfl) 0 rfl rfl 3 (by decide) (hts _ u_146) (fun _ h9 => h9) rfl dX6_guest_50 ?_
      refine lv_aload_n hx hb dX6_guest_53 rfl (lv_at hl 0 rfl) ?_
      refine va_get (D := (dC, dI)) (ci := 4) (v := .ref (aN 0)) (C := RX6) (T := TX6) (N := 6) hx hb htX6 (fun _ h => h) hown hK (fl_at hP 0 rfl) 0 rfl rfl 0 (by decide) (hts _ u_143) (fun _ h9 => h9) rfl dX6_guest_54 ?_
      refine k_bmutv (wc := [hW cI cP h0 h1 pa Ps (nI oh) (nI vh), pW cI aN PN]) (W1 := (fun (v : (Nat → PV) × Nat × Nat) => [hW cI cP h0 h1 pa v.1 (nI v.2.1) (nI v.2.2), pW cI aN PN])) (va_runV (As := [.ref (aN 0)]) (rest := []) ⟨hx, hb, hml, hown, hts0⟩ (mX0_save l dC dI cI cP h0 h1 pa Ps oh vh aN PN  (by first | omega | assumption) (by first | omega | assumption)) (cwV 1 hts0 (gi_V u_166 u_167 u_168 u_5 u_169) rfl rfl rfl (by decide +kernel) ⟨Nat.le_of_ble_eq_true rfl, Nat.le_of_ble_eq_true rfl⟩) (pcM_V (ci := 0) (q0 := 0) (fl_sub (wc := [hW cI cP h0 h1 pa Ps (nI oh) (nI vh), pW cI aN PN]) hP [5, 1] rfl) hK hn (fl_D (wc := [hW cI cP h0 h1 pa Ps (nI oh) (nI vh), pW cI aN PN]) hD [5, 1] (by decide) rfl) rfl rfl) rfl rfl hl.1 rfl (lv_room (Nat.le_of_ble_eq_true rfl)) dX6_guest_57 ⟨Nat.le_of_ble_eq_true rfl, Nat.le_of_ble_eq_true rfl⟩) hP hD hS [5, 1] (by decide) rfl (fun _ => rfl) (fun U57 H locs hU57 hP hD hS => ?_)
      have hP : va_P (dC, dI) vwCl (fW cI cP a0 aN aT aS t0 t1 t2 h0 h1 pa PN PT PS f u U57.1 U57.2.1 U57.2.2 k) H := hP
      have hD : va_D A (fW cI cP a0 aN aT aS t0 t1 t2 h0 h1 pa PN PT PS f u U57.1 U57.2.1 U57.2.2 k) := hD
      have hF := bd_at hF hU57
      refine lv_aload_n hx hb dX6_guest_60 rfl (lv_at hl 0 rfl) ?_
      refine va_get (D := (dC, dI)) (ci := 4) (v := .ref (aN 0)) (C := RX6) (T := TX6) (N := 6) hx hb htX6 (fun _ h => h) hown hK (fl_at hP 0 rfl) 0 rfl rfl 0 (by decide) (hts _ u_143) (fun _ h9 => h9) rfl dX6_guest_61 ?_
      refine lv_iload_n hx hb dX6_guest_64 rfl (lv_at hl 1 rfl) ?_
      refine lv_iload_n hx hb dX6_guest_65 rfl (lv_at hl 2 rfl) ?_
      refine k_bmuti (wc := [pW cI aN PN]) (W1 := (fun (v : PV) => [pW cI aN v])) (va_runV (As := [.int a, .int b]) (rest := []) ⟨hx, hb, hml, hown, hts0⟩ (mX2_addGuest l dC dI cI aN PN a b) (cwV 2 hts0 (gi_V u_535 u_536 u_537 u_2 u_538) rfl rfl rfl (by decide +kernel) ⟨Nat.le_of_ble_eq_true rfl, Nat.le_of_ble_eq_true rfl⟩) (pcM_V (ci := 2) (q0 := 0) (fl_at hP 1 rfl) (hK.sub (tys' := [(cI, .int)]) [0] rfl) hn (fl_D1 hD 1 rfl) rfl rfl) rfl rfl hl.1 rfl (lv_room (Nat.le_of_ble_eq_true rfl)) dX6_guest_66 ⟨Nat.le_of_ble_eq_true rfl, Nat.le_of_ble_eq_true rfl⟩) hP hD hS [1] (by decide) rfl (fun _ => rfl) (fun r66 U66 H locs hU66 hP hD hS => ?_)
      have hP : va_P (dC, dI) vwCl (fW cI cP a0 aN aT aS t0 t1 t2 h0 h1 pa U66 PT PS f u U57.1 U57.2.1 U57.2.2 k) H := hP
      have hD : va_D A (fW cI cP a0 aN aT aS t0 t1 t2 h0 h1 pa U66 PT PS f u U57.1 U57.2.1 U57.2.2 k) := hD
      have hF := bd2_at hF hU66
      rw [hQ]
      refine vx_ret (W.widen (k := 1) (n := 6) (Nat.le_of_ble_eq_true rfl) (Nat.le_of_ble_eq_true rfl) ?_)
      exact W.iret (v := r66) hx hb hr (fun t ht hW => ⟨⟨r66, (U66, U57.1, U57.2.1, U57.2.2), rfl, hF, toH ht hP⟩, hS.F ht⟩) hS.2.2 dX6_guest_69
    have hF := hF.trans (if_neg c_36)
    rw [hQ]
    exact k_throwS (cd := 1) (is := 57) (text := "there are 16 guests") (by decide) hx hb hst hown hts hX hS (hl.1.trans hml.symm) (List.mem_of_getElem? (i := 1) rfl) dX6_guest_39 dX6_guest_42 dX6_guest_43 dX6_guest_45 dX6_guest_48 hout (Nat.le_of_ble_eq_true rfl) (Nat.le_of_ble_eq_true rfl) (Nat.le_of_ble_eq_true rfl) (Nat.le_of_ble_eq_true rfl) hlocks (xc_new hF hP hS) hS.2.2 (Nat.le_of_ble_eq_true rfl) (Nat.le_of_ble_eq_true rfl)
  have hF := hF.trans (if_neg c_14)
  rw [hQ]
  exact k_throwS (cd := 0) (is := 46) (text := "family or size is out of range") (by decide) hx hb hst hown hts hX hS (hl.1.trans hml.symm) (List.mem_of_getElem? (i := 0) rfl) dX6_guest_17 dX6_guest_20 dX6_guest_21 dX6_guest_23 dX6_guest_26 hout (Nat.le_of_ble_eq_true rfl) (Nat.le_of_ble_eq_true rfl) (Nat.le_of_ble_eq_true rfl) (Nat.le_of_ble_eq_true rfl) hlocks (xc_new hF hP hS) hS.2.2 (Nat.le_of_ble_eq_true rfl) (Nat.le_of_ble_eq_true rfl)

def fX6_wish (PN : PV) (Ps : Nat → PV) (oh : Nat) (vh : Nat) (g : Int32) (h : Int32) : Nat ⊕ (Int32 × (PV × (Nat → PV) × Nat × Nat)) :=
  (if (fX6_needGuest PN g) = 0 then (if h = (-1) then (if h = g then (Sum.inl 0) else (bd (fX0_save Ps oh vh PN) (fun U38 => (bd (fX3_put 16 (PN 2) g h) (fun U62 => (Sum.inr ((fX3_at 16 (PN 2) g), ((rset PN 2 U62), U38.1, U38.2.1, U38.2.2)))))))) else (if (fX6_needGuest PN h) = 0 then (if h = g then (Sum.inl 0) else (bd (fX0_save Ps oh vh PN) (fun U38 => (bd (fX3_put 16 (PN 2) g h) (fun U62 => (Sum.inr ((fX3_at 16 (PN 2) g), ((rset PN 2 U62), U38.1, U38.2.1, U38.2.2)))))))) else (Sum.inl 2))) else (Sum.inl 2))
abbrev rmX6_wish : Room := { frames := 7, cells := 3, slots := 18, locals := 111 }
set_option maxHeartbeats 4000000 in
set_option maxRecDepth 100000 in
theorem mX6_wish (l : Launch) (hst : l.stackTraces = false) (dC : Nat → ClassId) (dI : Nat → Nat → Nat) (cI cP : ClassId) (a0 : Nat) (aN aT aS : Nat → Nat) (t0 t1 t2 h0 h1 : Nat) (pa : Nat → Nat → Nat) (PN PT PS : PV) (f : Nat → Int32) (u : Int32) (Ps : Nat → PV) (oh vh : Nat) (k : Int32) (g : Int32) (h : Int32) (ho6 : oh < 6) (hv6 : vh ≤ 6) : vx_Met l yX6_wish (ws_ yX6_wish cX6_wish 4 (some .int)) rmX6_wish (pcX (dC, dI) [(cI, .int), (cP, .object "SupperSeats$Plan")] (fW cI cP a0 aN aT aS t0 t1 t2 h0 h1 pa PN PT PS f u Ps oh vh k) [.ref a0, .int g, .int h]) (va_Qi (fun (r9 : Int32) (u9 : PV × (Nat → PV) × Nat × Nat) => fX6_wish PN Ps oh vh g h = Sum.inr (r9, u9)) (fun u9 t => va_P (dC, dI) vwCl ((fun (v9 : PV × (Nat → PV) × Nat × Nat) => fW cI cP a0 aN aT aS t0 t1 t2 h0 h1 pa v9.1 PT PS f u v9.2.1 v9.2.2.1 v9.2.2.2 k) u9) t.heap) (adr (fW cI cP a0 aN aT aS t0 t1 t2 h0 h1 pa PN PT PS f u Ps oh vh k))) (vx_X (fun c9 : Nat => fX6_wish PN Ps oh vh g h = Sum.inl c9) (fun E c9 t => E = xname c9 ∧ va_P (dC, dI) vwCl (fW cI cP a0 aN aT aS t0 t1 t2 h0 h1 pa PN PT PS f u Ps oh vh k) t.heap) (adr (fW cI cP a0 aN aT aS t0 t1 t2 h0 h1 pa PN PT PS f u Ps oh vh k))) 3 18 (adr (fW cI cP a0 aN aT aS t0 t1 t2 h0 h1 pa PN PT PS f u Ps oh vh k)) := by
  refine vx_ofW (cc := cX6_wish) (maxL := 4) (ret := (some .int)) (by decide) rfl ?_
  intro p e s m args below meth c s₁ B hml hout hv
  obtain ⟨ha, hP, hK, hn, hD0, hX⟩ := hv
  have hx := B.exec
  have hb := B.bytes
  have hr := B.returns
  have hts0 := atoms_spec (ws := (ws_ yX6_wish cX6_wish 4 (some .int))) B.pre
  have hts : ∀ w ∈ lw_all, w.before args s = true := fun w h => hts0 w (List.mem_cons_of_mem _ h)
  have hown : s.vm.findClass RX6 = some m.cls := findClass_of_methodNamed B.named
  have hlocks := B.notSynchronized
  have htX6 : ∀ w ∈ wsX60, w.before args s = true := fun w h => hts w (wX6 w h)
  have htX2 : ∀ w ∈ wsX20, w.before args s = true := fun w h => hts w (wX2 w h)
  have hD := adr_self hD0
  obtain ⟨A, hA⟩ : ∃ A, A = adr (fW cI cP a0 aN aT aS t0 t1 t2 h0 h1 pa PN PT PS f u Ps oh vh k) := ⟨_, rfl⟩
  rw [← hA] at hD hX
  have hS : va_S A s.heap s.heap [] := va_S.rf
  obtain ⟨Q, hQ⟩ : ∃ Q, Q = vx_MQ below (va_Qi (fun (r9 : Int32) (u9 : PV × (Nat → PV) × Nat × Nat) => fX6_wish PN Ps oh vh g h = Sum.inr (r9, u9)) (fun u9 t => va_P (dC, dI) vwCl ((fun (v9 : PV × (Nat → PV) × Nat × Nat) => fW cI cP a0 aN aT aS t0 t1 t2 h0 h1 pa v9.1 PT PS f u v9.2.1 v9.2.2.1 v9.2.2.2 k) u9) t.heap) (adr (fW cI cP a0 aN aT aS t0 t1 t2 h0 h1 pa PN PT PS f u Ps oh vh k))) (vx_X (fun c9 : Nat => fX6_wish PN Ps oh vh g h = Sum.inl c9) (fun E c9 t => E = xname c9 ∧ va_P (dC, dI) vwCl (fW cI cP a0 aN aT aS t0 t1 t2 h0 h1 pa PN PT PS f u Ps oh vh k) t.heap) (adr (fW cI cP a0 aN aT aS t0 t1 t2 h0 h1 pa PN PT PS f u Ps oh vh k))) args s 3 18 (adr (fW cI cP a0 aN aT aS t0 t1 t2 h0 h1 pa PN PT PS f u Ps oh vh k)) := ⟨_, rfl⟩
  rw [← hQ]
  rw [← hA] at hQ
  have hl := lv_entry ([.ref a0, .int g, .int h]) (n := 4) (Nat.le_of_ble_eq_true rfl)
  rw [ha, lg_entry_eq, ← ha]
  generalize (lg_sl ([.ref a0, .int g, .int h]) ++ List.replicate (4 - (lg_sl ([.ref a0, .int g, .int h])).length) Slot.unset).toArray = ls at hl ⊢
  have hl : lv_has ls 4 [(0, .ref a0), (1, .int g), (2, .int h)] := hl
  show W p l e rmX6_wish s m args below meth c s.heap [] 0 0 Q (F0 m 0 ls [])
  have hF : fX6_wish PN Ps oh vh g h = fX6_wish PN Ps oh vh g h := rfl
  refine lv_aload_n hx hb dX6_wish_0 rfl (lv_at hl 0 rfl) ?_
  refine lv_iload_n hx hb dX6_wish_1 rfl (lv_at hl 1 rfl) ?_
  refine k_need (F := (fX6_needGuest PN g)) (cd := 2) (vx_runV (As := [.int g]) (rest := []) ⟨hx, hb, hml, hown, hts0⟩ (mX6_needGuest l hst dC dI cI cP a0 aN aT aS t0 t1 t2 h0 h1 pa PN PT PS f u Ps oh vh k g) (cwV 1 hts0 (gi_V u_547 u_549 us_8 u_1 u_550) rfl rfl rfl (by decide +kernel) ⟨Nat.le_of_ble_eq_true rfl, Nat.le_of_ble_eq_true rfl⟩) (pcX_V (ci := 4) (q0 := 0) hP hK hn hD hX hS rfl rfl) rfl rfl hl.1 rfl (lv_room (Nat.le_of_ble_eq_true rfl)) dX6_wish_2 ⟨Nat.le_of_ble_eq_true rfl, Nat.le_of_ble_eq_true rfl⟩) hS hD (fun c_2 ce9 q9 H locs hP hS he9 hv9 hc9 => ?_) (fun c_2 H locs hP hS => ?_)
  · have hF := hF.trans (if_neg c_2)
    rw [hQ]
    exact vx_out (fun x9 hx9 => (hout x9 hx9).elim) hlocks he9 hv9 hc9 (xc_out hF hP hS) hS.2.2 (Nat.le_of_ble_eq_true rfl) (Nat.le_of_ble_eq_true rfl)
  have hF := hF.trans (if_pos c_2)
  refine lv_iload_n hx hb dX6_wish_5 rfl (lv_at hl 2 rfl) ?_
  refine lv_iconst (v := (-1)) hx hb dX6_wish_6 (by decide) ?_
  refine lv_icmp_eq (tgt := 15) hx hb dX6_wish_7 (by decide) (fun c_7 => ?_) (fun c_7 => ?_)
  · have hF := hF.trans (if_pos c_7)
    refine lv_iload_n hx hb dX6_wish_15 rfl (lv_at hl 2 rfl) ?_
    refine lv_iload_n hx hb dX6_wish_16 rfl (lv_at hl 1 rfl) ?_
    refine lv_icmp_ne (tgt := 30) hx hb dX6_wish_17 (by decide) (fun c_17 => ?_) (fun c_17 => ?_)
    · have hF := hF.trans (if_neg c_17)
      refine lv_aload_n hx hb dX6_wish_30 rfl (lv_at hl 0 rfl) ?_
      refine va_get (D := (dC, dI)) (ci := 4) (v := .ref h0) (C := RX6) (T := TX6) (N := 6) hx hb htX6 (fun _ h => h) hown hK (fl_at hP 0 rfl) 0 rfl rfl 3 (by decide) (hts _ u_146) (fun _ h9 => h9) rfl dX6_wish_31 ?_
      refine lv_aload_n hx hb dX6_wish_34 rfl (lv_at hl 0 rfl) ?_
      refine va_get (D := (dC, dI)) (ci := 4) (v := .ref (aN 0)) (C := RX6) (T := TX6) (N := 6) hx hb htX6 (fun _ h => h) hown hK (fl_at hP 0 rfl) 0 rfl rfl 0 (by decide) (hts _ u_143) (fun _ h9 => h9) rfl dX6_wish_35 ?_
      refine k_bmutv (wc := [hW cI cP h0 h1 pa Ps (nI oh) (nI vh), pW cI aN PN]) (W1 := (fun (v : (Nat → PV) × Nat × Nat) => [hW cI cP h0 h1 pa v.1 (nI v.2.1) (nI v.2.2), pW cI aN PN])) (va_runV (As := [.ref (aN 0)]) (rest := []) ⟨hx, hb, hml, hown, hts0⟩ (mX0_save l dC dI cI cP h0 h1 pa Ps oh vh aN PN  (by first | omega | assumption) (by first | omega | assumption)) (cwV 1 hts0 (gi_V u_166 u_167 u_168 u_5 u_169) rfl rfl rfl (by decide +kernel) ⟨Nat.le_of_ble_eq_true rfl, Nat.le_of_ble_eq_true rfl⟩) (pcM_V (ci := 0) (q0 := 0) (fl_sub (wc := [hW cI cP h0 h1 pa Ps (nI oh) (nI vh), pW cI aN PN]) hP [5, 1] rfl) hK hn (fl_D (wc := [hW cI cP h0 h1 pa Ps (nI oh) (nI vh), pW cI aN PN]) hD [5, 1] (by decide) rfl) rfl rfl) rfl rfl hl.1 rfl (lv_room (Nat.le_of_ble_eq_true rfl)) dX6_wish_38 ⟨Nat.le_of_ble_eq_true rfl, Nat.le_of_ble_eq_true rfl⟩) hP hD hS [5, 1] (by decide) rfl (fun _ => rfl) (fun U38 H locs hU38 hP hD hS => ?_)
      have hP : va_P (dC, dI) vwCl (fW cI cP a0 aN aT aS t0 t1 t2 h0 h1 pa PN PT PS f u U38.1 U38.2.1 U38.2.2 k) H := hP
      have hD : va_D A (fW cI cP a0 aN aT aS t0 t1 t2 h0 h1 pa PN PT PS f u U38.1 U38.2.1 U38.2.2 k) := hD
      have hF := bd_at hF hU38
      refine lv_aload_n hx hb dX6_wish_41 rfl (lv_at hl 0 rfl) ?_
      refine va_get (D := (dC, dI)) (ci := 4) (v := .ref (aN 0)) (C := RX6) (T := TX6) (N := 6) hx hb htX6 (fun _ h => h) hown hK (fl_at hP 0 rfl) 0 rfl rfl 0 (by decide) (hts _ u_143) (fun _ h9 => h9) rfl dX6_wish_42 ?_
      refine va_getN (D := (dC, dI)) (ci := 2) (v := .ref (aN 3)) (C := RX2) (T := TX2) (N := 14) hx hb htX2 (fun _ h => h) hown hK (fl_at hP 1 rfl) 0 rfl rfl 2 (by decide) (va_Nw.use rfl (hn _ (List.mem_of_getElem? (i := 4) rfl))) (fun _ h9 => h9) rfl dX6_wish_45 ?_
      refine lv_iload_n hx hb dX6_wish_48 rfl (lv_at hl 1 rfl) ?_
      refine k_calli (W.runS (As := [.ref (aN 3), .int g]) (rest := []) ⟨hx, hb, hml, hown, hts0⟩ (mX3_at l dC dI cI (aN 3) 16 (by decide) (PN 2) g) (va_cwS 2 hts0 (gi_S u_364 u_198 u_13 u_199) rfl rfl rfl (by decide +kernel) ⟨Nat.le_of_ble_eq_true rfl, Nat.le_of_ble_eq_true rfl⟩) (pcR_S ((fl_at hP 1 rfl).sub (ws' := aW cI (aN 3) 16 (PN 2)) [3] rfl) (hK.sub (tys' := [(cI, .int)]) [0] rfl) hn) rfl rfl hl.1 rfl (lv_room (Nat.le_of_ble_eq_true rfl)) dX6_wish_49 ⟨Nat.le_of_ble_eq_true rfl, Nat.le_of_ble_eq_true rfl⟩) ?_
      refine lv_istore_n (lv' := [(3, .int (fX3_at 16 (PN 2) g)), (0, .ref a0), (1, .int g), (2, .int h)]) hx hb dX6_wish_52 rfl hl (by decide) rfl (fun ls hl => ?_)
      refine lv_aload_n hx hb dX6_wish_53 rfl (lv_at hl 1 rfl) ?_
      refine va_get (D := (dC, dI)) (ci := 4) (v := .ref (aN 0)) (C := RX6) (T := TX6) (N := 6) hx hb htX6 (fun _ h => h) hown hK (fl_at hP 0 rfl) 0 rfl rfl 0 (by decide) (hts _ u_143) (fun _ h9 => h9) rfl dX6_wish_54 ?_
      refine va_getN (D := (dC, dI)) (ci := 2) (v := .ref (aN 3)) (C := RX2) (T := TX2) (N := 14) hx hb htX2 (fun _ h => h) hown hK (fl_at hP 1 rfl) 0 rfl rfl 2 (by decide) (va_Nw.use rfl (hn _ (List.mem_of_getElem? (i := 4) rfl))) (fun _ h9 => h9) rfl dX6_wish_57 ?_
      refine lv_iload_n hx hb dX6_wish_60 rfl (lv_at hl 2 rfl) ?_
      refine lv_iload_n hx hb dX6_wish_61 rfl (lv_at hl 3 rfl) ?_
      refine k_smutv (Wd := (fun (v : Nat → Int32) => aW cI (aN 3) 16 v)) (va_runS (As := [.ref (aN 3), .int g, .int h]) (rest := []) ⟨hx, hb, hml, hown, hts0⟩ (mX3_put l dC dI cI (aN 3) 16 (by decide) (PN 2) g h) (va_cwS 3 hts0 (gi_S u_569 u_270 u_13 u_271) rfl rfl rfl (by decide +kernel) ⟨Nat.le_of_ble_eq_true rfl, Nat.le_of_ble_eq_true rfl⟩) (pcM_S ((fl_at hP 1 rfl).sub (ws' := aW cI (aN 3) 16 (PN 2)) [3] rfl) (hK.sub (tys' := [(cI, .int)]) [0] rfl) hn ((fl_D1 hD 1 rfl).sub (ws' := aW cI (aN 3) 16 (PN 2)) [3] (by decide) rfl)) rfl rfl hl.1 rfl (lv_room (Nat.le_of_ble_eq_true rfl)) dX6_wish_62 ⟨Nat.le_of_ble_eq_true rfl, Nat.le_of_ble_eq_true rfl⟩) hP hD hS 1 rfl [3] rfl rfl (fun _ => rfl) (fun U62 H locs hU62 hP hD hS => ?_)
      have hP : va_P (dC, dI) vwCl (fW cI cP a0 aN aT aS t0 t1 t2 h0 h1 pa (rset PN 2 U62) PT PS f u U38.1 U38.2.1 U38.2.2 k) H := hP
      have hD : va_D A (fW cI cP a0 aN aT aS t0 t1 t2 h0 h1 pa (rset PN 2 U62) PT PS f u U38.1 U38.2.1 U38.2.2 k) := hD
      have hF := bd_at hF hU62
      refine lv_iload_n hx hb dX6_wish_65 rfl (lv_at hl 0 rfl) ?_
      rw [hQ]
      refine vx_ret (W.widen (k := 3) (n := 18) (Nat.le_of_ble_eq_true rfl) (Nat.le_of_ble_eq_true rfl) ?_)
      exact W.iret (v := (fX3_at 16 (PN 2) g)) hx hb hr (fun t ht hW => ⟨⟨(fX3_at 16 (PN 2) g), ((rset PN 2 U62), U38.1, U38.2.1, U38.2.2), rfl, hF, toH ht hP⟩, hS.F ht⟩) hS.2.2 dX6_wish_66
    have hF := hF.trans (if_pos c_17)
    rw [hQ]
    exact k_throwS (cd := 0) (is := 72) (text := "the friend is the guest") (by decide) hx hb hst hown hts hX hS (hl.1.trans hml.symm) (List.mem_of_getElem? (i := 2) rfl) dX6_wish_20 dX6_wish_23 dX6_wish_24 dX6_wish_26 dX6_wish_29 hout (Nat.le_of_ble_eq_true rfl) (Nat.le_of_ble_eq_true rfl) (Nat.le_of_ble_eq_true rfl) (Nat.le_of_ble_eq_true rfl) hlocks (xc_new hF hP hS) hS.2.2 (Nat.le_of_ble_eq_true rfl) (Nat.le_of_ble_eq_true rfl)
  have hF := hF.trans (if_neg c_7)
  refine lv_aload_n hx hb dX6_wish_10 rfl (lv_at hl 0 rfl) ?_
  refine lv_iload_n hx hb dX6_wish_11 rfl (lv_at hl 2 rfl) ?_
  refine k_need (F := (fX6_needGuest PN h)) (cd := 2) (vx_runV (As := [.int h]) (rest := []) ⟨hx, hb, hml, hown, hts0⟩ (mX6_needGuest l hst dC dI cI cP a0 aN aT aS t0 t1 t2 h0 h1 pa PN PT PS f u Ps oh vh k h) (cwV 1 hts0 (gi_V u_547 u_549 us_8 u_1 u_550) rfl rfl rfl (by decide +kernel) ⟨Nat.le_of_ble_eq_true rfl, Nat.le_of_ble_eq_true rfl⟩) (pcX_V (ci := 4) (q0 := 0) hP hK hn hD hX hS rfl rfl) rfl rfl hl.1 rfl (lv_room (Nat.le_of_ble_eq_true rfl)) dX6_wish_12 ⟨Nat.le_of_ble_eq_true rfl, Nat.le_of_ble_eq_true rfl⟩) hS hD (fun c_12 ce9 q9 H locs hP hS he9 hv9 hc9 => ?_) (fun c_12 H locs hP hS => ?_)
  · have hF := hF.trans (if_neg c_12)
    rw [hQ]
    exact vx_out (fun x9 hx9 => (hout x9 hx9).elim) hlocks he9 hv9 hc9 (xc_out hF hP hS) hS.2.2 (Nat.le_of_ble_eq_true rfl) (Nat.le_of_ble_eq_true rfl)
  have hF := hF.trans (if_pos c_12)
  refine lv_iload_n hx hb dX6_wish_15 rfl (lv_at hl 2 rfl) ?_
  refine lv_iload_n hx hb dX6_wish_16 rfl (lv_at hl 1 rfl) ?_
  refine lv_icmp_ne (tgt := 30) hx hb dX6_wish_17 (by decide) (fun c_17 => ?_) (fun c_17 => ?_)
  · have hF := hF.trans (if_neg c_17)
    refine lv_aload_n hx hb dX6_wish_30 rfl (lv_at hl 0 rfl) ?_
    refine va_get (D := (dC, dI)) (ci := 4) (v := .ref h0) (C := RX6) (T := TX6) (N := 6) hx hb htX6 (fun _ h => h) hown hK (fl_at hP 0 rfl) 0 rfl rfl 3 (by decide) (hts _ u_146) (fun _ h9 => h9) rfl dX6_wish_31 ?_
    refine lv_aload_n hx hb dX6_wish_34 rfl (lv_at hl 0 rfl) ?_
    refine va_get (D := (dC, dI)) (ci := 4) (v := .ref (aN 0)) (C := RX6) (T := TX6) (N := 6) hx hb htX6 (fun _ h => h) hown hK (fl_at hP 0 rfl) 0 rfl rfl 0 (by decide) (hts _ u_143) (fun _ h9 => h9) rfl dX6_wish_35 ?_
    refine k_bmutv (wc := [hW cI cP h0 h1 pa Ps (nI oh) (nI vh), pW cI aN PN]) (W1 := (fun (v : (Nat → PV) × Nat × Nat) => [hW cI cP h0 h1 pa v.1 (nI v.2.1) (nI v.2.2), pW cI aN PN])) (va_runV (As := [.ref (aN 0)]) (rest := []) ⟨hx, hb, hml, hown, hts0⟩ (mX0_save l dC dI cI cP h0 h1 pa Ps oh vh aN PN  (by first | omega | assumption) (by first | omega | assumption)) (cwV 1 hts0 (gi_V u_166 u_167 u_168 u_5 u_169) rfl rfl rfl (by decide +kernel) ⟨Nat.le_of_ble_eq_true rfl, Nat.le_of_ble_eq_true rfl⟩) (pcM_V (ci := 0) (q0 := 0) (fl_sub (wc := [hW cI cP h0 h1 pa Ps (nI oh) (nI vh), pW cI aN PN]) hP [5, 1] rfl) hK hn (fl_D (wc := [hW cI cP h0 h1 pa Ps (nI oh) (nI vh), pW cI aN PN]) hD [5, 1] (by decide) rfl) rfl rfl) rfl rfl hl.1 rfl (lv_room (Nat.le_of_ble_eq_true rfl)) dX6_wish_38 ⟨Nat.le_of_ble_eq_true rfl, Nat.le_of_ble_eq_true rfl⟩) hP hD hS [5, 1] (by decide) rfl (fun _ => rfl) (fun U38 H locs hU38 hP hD hS => ?_)
    have hP : va_P (dC, dI) vwCl (fW cI cP a0 aN aT aS t0 t1 t2 h0 h1 pa PN PT PS f u U38.1 U38.2.1 U38.2.2 k) H := hP
    have hD : va_D A (fW cI cP a0 aN aT aS t0 t1 t2 h0 h1 pa PN PT PS f u U38.1 U38.2.1 U38.2.2 k) := hD
    have hF := bd_at hF hU38
    refine lv_aload_n hx hb dX6_wish_41 rfl (lv_at hl 0 rfl) ?_
    refine va_get (D := (dC, dI)) (ci := 4) (v := .ref (aN 0)) (C := RX6) (T := TX6) (N := 6) hx hb htX6 (fun _ h => h) hown hK (fl_at hP 0 rfl) 0 rfl rfl 0 (by decide) (hts _ u_143) (fun _ h9 => h9) rfl dX6_wish_42 ?_
    refine va_getN (D := (dC, dI)) (ci := 2) (v := .ref (aN 3)) (C := RX2) (T := TX2) (N := 14) hx hb htX2 (fun _ h => h) hown hK (fl_at hP 1 rfl) 0 rfl rfl 2 (by decide) (va_Nw.use rfl (hn _ (List.mem_of_getElem? (i := 4) rfl))) (fun _ h9 => h9) rfl dX6_wish_45 ?_
    refine lv_iload_n hx hb dX6_wish_48 rfl (lv_at hl 1 rfl) ?_
    refine k_calli (W.runS (As := [.ref (aN 3), .int g]) (rest := []) ⟨hx, hb, hml, hown, hts0⟩ (mX3_at l dC dI cI (aN 3) 16 (by decide) (PN 2) g) (va_cwS 2 hts0 (gi_S u_364 u_198 u_13 u_199) rfl rfl rfl (by decide +kernel) ⟨Nat.le_of_ble_eq_true rfl, Nat.le_of_ble_eq_true rfl⟩) (pcR_S ((fl_at hP 1 rfl).sub (ws' := aW cI (aN 3) 16 (PN 2)) [3] rfl) (hK.sub (tys' := [(cI, .int)]) [0] rfl) hn) rfl rfl hl.1 rfl (lv_room (Nat.le_of_ble_eq_true rfl)) dX6_wish_49 ⟨Nat.le_of_ble_eq_true rfl, Nat.le_of_ble_eq_true rfl⟩) ?_
    refine lv_istore_n (lv' := [(3, .int (fX3_at 16 (PN 2) g)), (0, .ref a0), (1, .int g), (2, .int h)]) hx hb dX6_wish_52 rfl hl (by decide) rfl (fun ls hl => ?_)
    refine lv_aload_n hx hb dX6_wish_53 rfl (lv_at hl 1 rfl) ?_
    refine va_get (D := (dC, dI)) (ci := 4) (v := .ref (aN 0)) (C := RX6) (T := TX6) (N := 6) hx hb htX6 (fun _ h => h) hown hK (fl_at hP 0 rfl) 0 rfl rfl 0 (by decide) (hts _ u_143) (fun _ h9 => h9) rfl dX6_wish_54 ?_
    refine va_getN (D := (dC, dI)) (ci := 2) (v := .ref (aN 3)) (C := RX2) (T := TX2) (N := 14) hx hb htX2 (fun _ h => h) hown hK (fl_at hP 1 rfl) 0 rfl rfl 2 (by decide) (va_Nw.use rfl (hn _ (List.mem_of_getElem? (i := 4) rfl))) (fun _ h9 => h9) rfl dX6_wish_57 ?_
    refine lv_iload_n hx hb dX6_wish_60 rfl (lv_at hl 2 rfl) ?_
    refine lv_iload_n hx hb dX6_wish_61 rfl (lv_at hl 3 rfl) ?_
    refine k_smutv (Wd := (fun (v : Nat → Int32) => aW cI (aN 3) 16 v)) (va_runS (As := [.ref (aN 3), .int g, .int h]) (rest := []) ⟨hx, hb, hml, hown, hts0⟩ (mX3_put l dC dI cI (aN 3) 16 (by decide) (PN 2) g h) (va_cwS 3 hts0 (gi_S u_569 u_270 u_13 u_271) rfl rfl rfl (by decide +kernel) ⟨Nat.le_of_ble_eq_true rfl, Nat.le_of_ble_eq_true rfl⟩) (pcM_S ((fl_at hP 1 rfl).sub (ws' := aW cI (aN 3) 16 (PN 2)) [3] rfl) (hK.sub (tys' := [(cI, .int)]) [0] rfl) hn ((fl_D1 hD 1 rfl).sub (ws' := aW cI (aN 3) 16 (PN 2)) [3] (by decide) rfl)) rfl rfl hl.1 rfl (lv_room (Nat.le_of_ble_eq_true rfl)) dX6_wish_62 ⟨Nat.le_of_ble_eq_true rfl, Nat.le_of_ble_eq_true rfl⟩) hP hD hS 1 rfl [3] rfl rfl (fun _ => rfl) (fun U62 H locs hU62 hP hD hS => ?_)
    have hP : va_P (dC, dI) vwCl (fW cI cP a0 aN aT aS t0 t1 t2 h0 h1 pa (rset PN 2 U62) PT PS f u U38.1 U38.2.1 U38.2.2 k) H := hP
    have hD : va_D A (fW cI cP a0 aN aT aS t0 t1 t2 h0 h1 pa (rset PN 2 U62) PT PS f u U38.1 U38.2.1 U38.2.2 k) := hD
    have hF := bd_at hF hU62
    refine lv_iload_n hx hb dX6_wish_65 rfl (lv_at hl 0 rfl) ?_
    rw [hQ]
    refine vx_ret (W.widen (k := 3) (n := 18) (Nat.le_of_ble_eq_true rfl) (Nat.le_of_ble_eq_true rfl) ?_)
    exact W.iret (v := (fX3_at 16 (PN 2) g)) hx hb hr (fun t ht hW => ⟨⟨(fX3_at 16 (PN 2) g), ((rset PN 2 U62), U38.1, U38.2.1, U38.2.2), rfl, hF, toH ht hP⟩, hS.F ht⟩) hS.2.2 dX6_wish_66
  have hF := hF.trans (if_pos c_17)
  rw [hQ]
  exact k_throwS (cd := 0) (is := 72) (text := "the friend is the guest") (by decide) hx hb hst hown hts hX hS (hl.1.trans hml.symm) (List.mem_of_getElem? (i := 2) rfl) dX6_wish_20 dX6_wish_23 dX6_wish_24 dX6_wish_26 dX6_wish_29 hout (Nat.le_of_ble_eq_true rfl) (Nat.le_of_ble_eq_true rfl) (Nat.le_of_ble_eq_true rfl) (Nat.le_of_ble_eq_true rfl) hlocks (xc_new hF hP hS) hS.2.2 (Nat.le_of_ble_eq_true rfl) (Nat.le_of_ble_eq_true rfl)

def fX6_table (PN : PV) (Ps : Nat → PV) (oh : Nat) (vh : Nat) (n5 : Int32) : Nat ⊕ (Int32 × (PV × (Nat → PV) × Nat × Nat)) :=
  (if n5 < 3 then (Sum.inl 0) else (if n5 ≤ 8 then (if (PN 10 1) < 4 then (bd (fX0_save Ps oh vh PN) (fun U50 => (bd2 (fX2_addTable PN n5) (fun r58 U58 => (Sum.inr (r58, (U58, U50.1, U50.2.1, U50.2.2))))))) else (Sum.inl 1)) else (Sum.inl 0)))
abbrev rmX6_table : Room := { frames := 6, cells := 1, slots := 6, locals := 104 }
set_option maxHeartbeats 4000000 in
set_option maxRecDepth 100000 in
theorem mX6_table (l : Launch) (hst : l.stackTraces = false) (dC : Nat → ClassId) (dI : Nat → Nat → Nat) (cI cP : ClassId) (a0 : Nat) (aN aT aS : Nat → Nat) (t0 t1 t2 h0 h1 : Nat) (pa : Nat → Nat → Nat) (PN PT PS : PV) (f : Nat → Int32) (u : Int32) (Ps : Nat → PV) (oh vh : Nat) (k : Int32) (n5 : Int32) (ho6 : oh < 6) (hv6 : vh ≤ 6) : vx_Met l yX6_table (ws_ yX6_table cX6_table 2 (some .int)) rmX6_table (pcX (dC, dI) [(cI, .int), (cP, .object "SupperSeats$Plan")] (fW cI cP a0 aN aT aS t0 t1 t2 h0 h1 pa PN PT PS f u Ps oh vh k) [.ref a0, .int n5]) (va_Qi (fun (r9 : Int32) (u9 : PV × (Nat → PV) × Nat × Nat) => fX6_table PN Ps oh vh n5 = Sum.inr (r9, u9)) (fun u9 t => va_P (dC, dI) vwCl ((fun (v9 : PV × (Nat → PV) × Nat × Nat) => fW cI cP a0 aN aT aS t0 t1 t2 h0 h1 pa v9.1 PT PS f u v9.2.1 v9.2.2.1 v9.2.2.2 k) u9) t.heap) (adr (fW cI cP a0 aN aT aS t0 t1 t2 h0 h1 pa PN PT PS f u Ps oh vh k))) (vx_X (fun c9 : Nat => fX6_table PN Ps oh vh n5 = Sum.inl c9) (fun E c9 t => E = xname c9 ∧ va_P (dC, dI) vwCl (fW cI cP a0 aN aT aS t0 t1 t2 h0 h1 pa PN PT PS f u Ps oh vh k) t.heap) (adr (fW cI cP a0 aN aT aS t0 t1 t2 h0 h1 pa PN PT PS f u Ps oh vh k))) 1 6 (adr (fW cI cP a0 aN aT aS t0 t1 t2 h0 h1 pa PN PT PS f u Ps oh vh k)) := by
  refine vx_ofW (cc := cX6_table) (maxL := 2) (ret := (some .int)) (by decide) rfl ?_
  intro p e s m args below meth c s₁ B hml hout hv
  obtain ⟨ha, hP, hK, hn, hD0, hX⟩ := hv
  have hx := B.exec
  have hb := B.bytes
  have hr := B.returns
  have hts0 := atoms_spec (ws := (ws_ yX6_table cX6_table 2 (some .int))) B.pre
  have hts : ∀ w ∈ lw_all, w.before args s = true := fun w h => hts0 w (List.mem_cons_of_mem _ h)
  have hown : s.vm.findClass RX6 = some m.cls := findClass_of_methodNamed B.named
  have hlocks := B.notSynchronized
  have htX6 : ∀ w ∈ wsX60, w.before args s = true := fun w h => hts w (wX6 w h)
  have htX2 : ∀ w ∈ wsX20, w.before args s = true := fun w h => hts w (wX2 w h)
  have hD := adr_self hD0
  obtain ⟨A, hA⟩ : ∃ A, A = adr (fW cI cP a0 aN aT aS t0 t1 t2 h0 h1 pa PN PT PS f u Ps oh vh k) := ⟨_, rfl⟩
  rw [← hA] at hD hX
  have hS : va_S A s.heap s.heap [] := va_S.rf
  obtain ⟨Q, hQ⟩ : ∃ Q, Q = vx_MQ below (va_Qi (fun (r9 : Int32) (u9 : PV × (Nat → PV) × Nat × Nat) => fX6_table PN Ps oh vh n5 = Sum.inr (r9, u9)) (fun u9 t => va_P (dC, dI) vwCl ((fun (v9 : PV × (Nat → PV) × Nat × Nat) => fW cI cP a0 aN aT aS t0 t1 t2 h0 h1 pa v9.1 PT PS f u v9.2.1 v9.2.2.1 v9.2.2.2 k) u9) t.heap) (adr (fW cI cP a0 aN aT aS t0 t1 t2 h0 h1 pa PN PT PS f u Ps oh vh k))) (vx_X (fun c9 : Nat => fX6_table PN Ps oh vh n5 = Sum.inl c9) (fun E c9 t => E = xname c9 ∧ va_P (dC, dI) vwCl (fW cI cP a0 aN aT aS t0 t1 t2 h0 h1 pa PN PT PS f u Ps oh vh k) t.heap) (adr (fW cI cP a0 aN aT aS t0 t1 t2 h0 h1 pa PN PT PS f u Ps oh vh k))) args s 1 6 (adr (fW cI cP a0 aN aT aS t0 t1 t2 h0 h1 pa PN PT PS f u Ps oh vh k)) := ⟨_, rfl⟩
  rw [← hQ]
  rw [← hA] at hQ
  have hl := lv_entry ([.ref a0, .int n5]) (n := 2) (Nat.le_of_ble_eq_true rfl)
  rw [ha, lg_entry_eq, ← ha]
  generalize (lg_sl ([.ref a0, .int n5]) ++ List.replicate (2 - (lg_sl ([.ref a0, .int n5])).length) Slot.unset).toArray = ls at hl ⊢
  have hl : lv_has ls 2 [(0, .ref a0), (1, .int n5)] := hl
  show W p l e rmX6_table s m args below meth c s.heap [] 0 0 Q (F0 m 0 ls [])
  have hF : fX6_table PN Ps oh vh n5 = fX6_table PN Ps oh vh n5 := rfl
  refine lv_iload_n hx hb dX6_table_0 rfl (lv_at hl 1 rfl) ?_
  refine lv_iconst (v := 3) hx hb dX6_table_1 (by decide) ?_
  refine lv_icmp_lt (tgt := 11) hx hb dX6_table_2 (by decide) (fun c_2 => ?_) (fun c_2 => ?_)
  · have hF := hF.trans (if_pos c_2)
    rw [hQ]
    exact k_throwS (cd := 0) (is := 88) (text := "seats is out of range") (by decide) hx hb hst hown hts hX hS (hl.1.trans hml.symm) (List.mem_of_getElem? (i := 3) rfl) dX6_table_11 dX6_table_14 dX6_table_15 dX6_table_17 dX6_table_20 hout (Nat.le_of_ble_eq_true rfl) (Nat.le_of_ble_eq_true rfl) (Nat.le_of_ble_eq_true rfl) (Nat.le_of_ble_eq_true rfl) hlocks (xc_new hF hP hS) hS.2.2 (Nat.le_of_ble_eq_true rfl) (Nat.le_of_ble_eq_true rfl)
  have hF := hF.trans (if_neg c_2)
  refine lv_iload_n hx hb dX6_table_5 rfl (lv_at hl 1 rfl) ?_
  refine lv_bipush (v := 8) hx hb dX6_table_6 (by decide) ?_
  refine lv_icmp_le (tgt := 21) hx hb dX6_table_8 (by decide) (fun c_8 => ?_) (fun c_8 => ?_)
  · have hF := hF.trans (if_pos c_8)
    refine lv_aload_n hx hb dX6_table_21 rfl (lv_at hl 0 rfl) ?_
    refine va_get (D := (dC, dI)) (ci := 4) (v := .ref (aN 0)) (C := RX6) (T := TX6) (N := 6) hx hb htX6 (fun _ h => h) hown hK (fl_at hP 0 rfl) 0 rfl rfl 0 (by decide) (hts _ u_143) (fun _ h9 => h9) rfl dX6_table_22 ?_
    refine va_getN (D := (dC, dI)) (ci := 2) (v := .int (PN 10 1)) (C := RX2) (T := TX2) (N := 14) hx hb htX2 (fun _ h => h) hown hK (fl_at hP 1 rfl) 0 rfl rfl 11 (by decide) (va_Nw.use rfl (hn _ (List.mem_of_getElem? (i := 17) rfl))) (fun _ h9 => h9) rfl dX6_table_25 ?_
    refine lv_iconst (v := 4) hx hb dX6_table_28 (by decide) ?_
    refine lv_icmp_lt (tgt := 42) hx hb dX6_table_29 (by decide) (fun c_29 => ?_) (fun c_29 => ?_)
    · have hF := hF.trans (if_pos c_29)
      refine lv_aload_n hx hb dX6_table_42 rfl (lv_at hl 0 rfl) ?_
      refine va_get (D := (dC, dI)) (ci := 4) (v := .ref h0) (C := RX6) (T := TX6) (N := 6) hx hb htX6 (fun _ h => h) hown hK (fl_at hP 0 rfl) 0 rfl rfl 3 (by decide) (hts _ u_146) (fun _ h9 => h9) rfl dX6_table_43 ?_
      refine lv_aload_n hx hb dX6_table_46 rfl (lv_at hl 0 rfl) ?_
      refine va_get (D := (dC, dI)) (ci := 4) (v := .ref (aN 0)) (C := RX6) (T := TX6) (N := 6) hx hb htX6 (fun _ h => h) hown hK (fl_at hP 0 rfl) 0 rfl rfl 0 (by decide) (hts _ u_143) (fun _ h9 => h9) rfl dX6_table_47 ?_
      refine k_bmutv (wc := [hW cI cP h0 h1 pa Ps (nI oh) (nI vh), pW cI aN PN]) (W1 := (fun (v : (Nat → PV) × Nat × Nat) => [hW cI cP h0 h1 pa v.1 (nI v.2.1) (nI v.2.2), pW cI aN PN])) (va_runV (As := [.ref (aN 0)]) (rest := []) ⟨hx, hb, hml, hown, hts0⟩ (mX0_save l dC dI cI cP h0 h1 pa Ps oh vh aN PN  (by first | omega | assumption) (by first | omega | assumption)) (cwV 1 hts0 (gi_V u_166 u_167 u_168 u_5 u_169) rfl rfl rfl (by decide +kernel) ⟨Nat.le_of_ble_eq_true rfl, Nat.le_of_ble_eq_true rfl⟩) (pcM_V (ci := 0) (q0 := 0) (fl_sub (wc := [hW cI cP h0 h1 pa Ps (nI oh) (nI vh), pW cI aN PN]) hP [5, 1] rfl) hK hn (fl_D (wc := [hW cI cP h0 h1 pa Ps (nI oh) (nI vh), pW cI aN PN]) hD [5, 1] (by decide) rfl) rfl rfl) rfl rfl hl.1 rfl (lv_room (Nat.le_of_ble_eq_true rfl)) dX6_table_50 ⟨Nat.le_of_ble_eq_true rfl, Nat.le_of_ble_eq_true rfl⟩) hP hD hS [5, 1] (by decide) rfl (fun _ => rfl) (fun U50 H locs hU50 hP hD hS => ?_)
      have hP : va_P (dC, dI) vwCl (fW cI cP a0 aN aT aS t0 t1 t2 h0 h1 pa PN PT PS f u U50.1 U50.2.1 U50.2.2 k) H := hP
      have hD : va_D A (fW cI cP a0 aN aT aS t0 t1 t2 h0 h1 pa PN PT PS f u U50.1 U50.2.1 U50.2.2 k) := hD
      have hF := bd_at hF hU50
      refine lv_aload_n hx hb dX6_table_53 rfl (lv_at hl 0 rfl) ?_
      refine va_get (D := (dC, dI)) (ci := 4) (v := .ref (aN 0)) (C := RX6) (T := TX6) (N := 6) hx hb htX6 (fun _ h => h) hown hK (fl_at hP 0 rfl) 0 rfl rfl 0 (by decide) (hts _ u_143) (fun _ h9 => h9) rfl dX6_table_54 ?_
      refine lv_iload_n hx hb dX6_table_57 rfl (lv_at hl 1 rfl) ?_
      refine k_bmuti (wc := [pW cI aN PN]) (W1 := (fun (v : PV) => [pW cI aN v])) (va_runV (As := [.int n5]) (rest := []) ⟨hx, hb, hml, hown, hts0⟩ (mX2_addTable l dC dI cI aN PN n5) (cwV 1 hts0 (gi_V u_579 u_580 u_581 u_2 u_582) rfl rfl rfl (by decide +kernel) ⟨Nat.le_of_ble_eq_true rfl, Nat.le_of_ble_eq_true rfl⟩) (pcM_V (ci := 2) (q0 := 0) (fl_at hP 1 rfl) (hK.sub (tys' := [(cI, .int)]) [0] rfl) hn (fl_D1 hD 1 rfl) rfl rfl) rfl rfl hl.1 rfl (lv_room (Nat.le_of_ble_eq_true rfl)) dX6_table_58 ⟨Nat.le_of_ble_eq_true rfl, Nat.le_of_ble_eq_true rfl⟩) hP hD hS [1] (by decide) rfl (fun _ => rfl) (fun r58 U58 H locs hU58 hP hD hS => ?_)
      have hP : va_P (dC, dI) vwCl (fW cI cP a0 aN aT aS t0 t1 t2 h0 h1 pa U58 PT PS f u U50.1 U50.2.1 U50.2.2 k) H := hP
      have hD : va_D A (fW cI cP a0 aN aT aS t0 t1 t2 h0 h1 pa U58 PT PS f u U50.1 U50.2.1 U50.2.2 k) := hD
      have hF := bd2_at hF hU58
      rw [hQ]
      refine vx_ret (W.widen (k := 1) (n := 6) (Nat.le_of_ble_eq_true rfl) (Nat.le_of_ble_eq_true rfl) ?_)
      exact W.iret (v := r58) hx hb hr (fun t ht hW => ⟨⟨r58, (U58, U50.1, U50.2.1, U50.2.2), rfl, hF, toH ht hP⟩, hS.F ht⟩) hS.2.2 dX6_table_61
    have hF := hF.trans (if_neg c_29)
    rw [hQ]
    exact k_throwS (cd := 1) (is := 93) (text := "there are 4 tables") (by decide) hx hb hst hown hts hX hS (hl.1.trans hml.symm) (List.mem_of_getElem? (i := 4) rfl) dX6_table_32 dX6_table_35 dX6_table_36 dX6_table_38 dX6_table_41 hout (Nat.le_of_ble_eq_true rfl) (Nat.le_of_ble_eq_true rfl) (Nat.le_of_ble_eq_true rfl) (Nat.le_of_ble_eq_true rfl) hlocks (xc_new hF hP hS) hS.2.2 (Nat.le_of_ble_eq_true rfl) (Nat.le_of_ble_eq_true rfl)
  have hF := hF.trans (if_neg c_8)
  rw [hQ]
  exact k_throwS (cd := 0) (is := 88) (text := "seats is out of range") (by decide) hx hb hst hown hts hX hS (hl.1.trans hml.symm) (List.mem_of_getElem? (i := 3) rfl) dX6_table_11 dX6_table_14 dX6_table_15 dX6_table_17 dX6_table_20 hout (Nat.le_of_ble_eq_true rfl) (Nat.le_of_ble_eq_true rfl) (Nat.le_of_ble_eq_true rfl) (Nat.le_of_ble_eq_true rfl) hlocks (xc_new hF hP hS) hS.2.2 (Nat.le_of_ble_eq_true rfl) (Nat.le_of_ble_eq_true rfl)

def fX6_feud (PN : PV) (Ps : Nat → PV) (oh : Nat) (vh : Nat) (a : Int32) (b : Int32) : Nat ⊕ (Int32 × (PV × (Nat → PV) × Nat × Nat)) :=
  (if (fX6_needTwoFamilies a b) = 0 then (if (fX2_hasFeud PN a b) = 0 then (if (fX1_isFull 8 (PN 8) (PN 10 4)) = 0 then (bd (fX0_save Ps oh vh PN) (fun U48 => (bd2 (fX2_beginFeud PN a b) (fun r57 U57 => (Sum.inr (r57, (U57, U48.1, U48.2.1, U48.2.2))))))) else (Sum.inl 1)) else (Sum.inl 1)) else (Sum.inl 0))
abbrev rmX6_feud : Room := { frames := 7, cells := 2, slots := 12, locals := 119 }
set_option maxHeartbeats 4000000 in
set_option maxRecDepth 100000 in
theorem mX6_feud (l : Launch) (hst : l.stackTraces = false) (dC : Nat → ClassId) (dI : Nat → Nat → Nat) (cI cP : ClassId) (a0 : Nat) (aN aT aS : Nat → Nat) (t0 t1 t2 h0 h1 : Nat) (pa : Nat → Nat → Nat) (PN PT PS : PV) (f : Nat → Int32) (u : Int32) (Ps : Nat → PV) (oh vh : Nat) (k : Int32) (a : Int32) (b : Int32) (ho6 : oh < 6) (hv6 : vh ≤ 6) : vx_Met l yX6_feud (ws_ yX6_feud cX6_feud 3 (some .int)) rmX6_feud (pcX (dC, dI) [(cI, .int), (cP, .object "SupperSeats$Plan")] (fW cI cP a0 aN aT aS t0 t1 t2 h0 h1 pa PN PT PS f u Ps oh vh k) [.ref a0, .int a, .int b]) (va_Qi (fun (r9 : Int32) (u9 : PV × (Nat → PV) × Nat × Nat) => fX6_feud PN Ps oh vh a b = Sum.inr (r9, u9)) (fun u9 t => va_P (dC, dI) vwCl ((fun (v9 : PV × (Nat → PV) × Nat × Nat) => fW cI cP a0 aN aT aS t0 t1 t2 h0 h1 pa v9.1 PT PS f u v9.2.1 v9.2.2.1 v9.2.2.2 k) u9) t.heap) (adr (fW cI cP a0 aN aT aS t0 t1 t2 h0 h1 pa PN PT PS f u Ps oh vh k))) (vx_X (fun c9 : Nat => fX6_feud PN Ps oh vh a b = Sum.inl c9) (fun E c9 t => E = xname c9 ∧ va_P (dC, dI) vwCl (fW cI cP a0 aN aT aS t0 t1 t2 h0 h1 pa PN PT PS f u Ps oh vh k) t.heap) (adr (fW cI cP a0 aN aT aS t0 t1 t2 h0 h1 pa PN PT PS f u Ps oh vh k))) 2 12 (adr (fW cI cP a0 aN aT aS t0 t1 t2 h0 h1 pa PN PT PS f u Ps oh vh k)) := by
  refine vx_ofW (cc := cX6_feud) (maxL := 3) (ret := (some .int)) (by decide) rfl ?_
  intro p e s m args below meth c s₁ B hml hout hv
  obtain ⟨ha, hP, hK, hn, hD0, hX⟩ := hv
  have hx := B.exec
  have hb := B.bytes
  have hr := B.returns
  have hts0 := atoms_spec (ws := (ws_ yX6_feud cX6_feud 3 (some .int))) B.pre
  have hts : ∀ w ∈ lw_all, w.before args s = true := fun w h => hts0 w (List.mem_cons_of_mem _ h)
  have hown : s.vm.findClass RX6 = some m.cls := findClass_of_methodNamed B.named
  have hlocks := B.notSynchronized
  have htX6 : ∀ w ∈ wsX60, w.before args s = true := fun w h => hts w (wX6 w h)
  have htX2 : ∀ w ∈ wsX20, w.before args s = true := fun w h => hts w (wX2 w h)
  have hD := adr_self hD0
  obtain ⟨A, hA⟩ : ∃ A, A = adr (fW cI cP a0 aN aT aS t0 t1 t2 h0 h1 pa PN PT PS f u Ps oh vh k) := ⟨_, rfl⟩
  rw [← hA] at hD hX
  have hS : va_S A s.heap s.heap [] := va_S.rf
  obtain ⟨Q, hQ⟩ : ∃ Q, Q = vx_MQ below (va_Qi (fun (r9 : Int32) (u9 : PV × (Nat → PV) × Nat × Nat) => fX6_feud PN Ps oh vh a b = Sum.inr (r9, u9)) (fun u9 t => va_P (dC, dI) vwCl ((fun (v9 : PV × (Nat → PV) × Nat × Nat) => fW cI cP a0 aN aT aS t0 t1 t2 h0 h1 pa v9.1 PT PS f u v9.2.1 v9.2.2.1 v9.2.2.2 k) u9) t.heap) (adr (fW cI cP a0 aN aT aS t0 t1 t2 h0 h1 pa PN PT PS f u Ps oh vh k))) (vx_X (fun c9 : Nat => fX6_feud PN Ps oh vh a b = Sum.inl c9) (fun E c9 t => E = xname c9 ∧ va_P (dC, dI) vwCl (fW cI cP a0 aN aT aS t0 t1 t2 h0 h1 pa PN PT PS f u Ps oh vh k) t.heap) (adr (fW cI cP a0 aN aT aS t0 t1 t2 h0 h1 pa PN PT PS f u Ps oh vh k))) args s 2 12 (adr (fW cI cP a0 aN aT aS t0 t1 t2 h0 h1 pa PN PT PS f u Ps oh vh k)) := ⟨_, rfl⟩
  rw [← hQ]
  rw [← hA] at hQ
  have hl := lv_entry ([.ref a0, .int a, .int b]) (n := 3) (Nat.le_of_ble_eq_true rfl)
  rw [ha, lg_entry_eq, ← ha]
  generalize (lg_sl ([.ref a0, .int a, .int b]) ++ List.replicate (3 - (lg_sl ([.ref a0, .int a, .int b])).length) Slot.unset).toArray = ls at hl ⊢
  have hl : lv_has ls 3 [(0, .ref a0), (1, .int a), (2, .int b)] := hl
  show W p l e rmX6_feud s m args below meth c s.heap [] 0 0 Q (F0 m 0 ls [])
  have hF : fX6_feud PN Ps oh vh a b = fX6_feud PN Ps oh vh a b := rfl
  refine lv_iload_n hx hb dX6_feud_0 rfl (lv_at hl 1 rfl) ?_
  refine lv_iload_n hx hb dX6_feud_1 rfl (lv_at hl 2 rfl) ?_
  refine k_need0 (F := (fX6_needTwoFamilies a b)) (cd := 0) (vx_runS (As := [.int a, .int b]) (rest := []) ⟨hx, hb, hml, hown, hts0⟩ (mX6_needTwoFamilies l hst dC dI a b) (va_cwS 2 hts0 (gi_S u_590 u_591 u_1 u_592) rfl rfl rfl (by decide +kernel) ⟨Nat.le_of_ble_eq_true rfl, Nat.le_of_ble_eq_true rfl⟩) (pcX_S (hP.sub (ws' := []) [] rfl) (hK.sub (tys' := []) [] rfl) hn (D_nil (A := A)) hX hS) rfl rfl hl.1 rfl (lv_room (Nat.le_of_ble_eq_true rfl)) dX6_feud_2 ⟨Nat.le_of_ble_eq_true rfl, Nat.le_of_ble_eq_true rfl⟩) hS hP (fun c_2 ce9 q9 H locs hP hS he9 hv9 hc9 => ?_) (fun c_2 H locs hP hS => ?_)
  · have hF := hF.trans (if_neg c_2)
    rw [hQ]
    exact vx_out (fun x9 hx9 => (hout x9 hx9).elim) hlocks he9 hv9 hc9 (xc_out hF hP hS) hS.2.2 (Nat.le_of_ble_eq_true rfl) (Nat.le_of_ble_eq_true rfl)
  have hF := hF.trans (if_pos c_2)
  refine lv_aload_n hx hb dX6_feud_5 rfl (lv_at hl 0 rfl) ?_
  refine va_get (D := (dC, dI)) (ci := 4) (v := .ref (aN 0)) (C := RX6) (T := TX6) (N := 6) hx hb htX6 (fun _ h => h) hown hK (fl_at hP 0 rfl) 0 rfl rfl 0 (by decide) (hts _ u_143) (fun _ h9 => h9) rfl dX6_feud_6 ?_
  refine lv_iload_n hx hb dX6_feud_9 rfl (lv_at hl 1 rfl) ?_
  refine lv_iload_n hx hb dX6_feud_10 rfl (lv_at hl 2 rfl) ?_
  refine k_callb (W.runV (As := [.int a, .int b]) (rest := []) ⟨hx, hb, hml, hown, hts0⟩ (mX2_hasFeud l dC dI cI aN PN a b) (cwV 2 hts0 (gi_V u_594 u_413 u_414 u_2 u_415) rfl rfl rfl (by decide +kernel) ⟨Nat.le_of_ble_eq_true rfl, Nat.le_of_ble_eq_true rfl⟩) (pcR_V (ci := 2) (q0 := 0) (fl_at hP 1 rfl) (hK.sub (tys' := [(cI, .int)]) [0] rfl) hn rfl rfl) rfl rfl hl.1 rfl (lv_room (Nat.le_of_ble_eq_true rfl)) dX6_feud_11 ⟨Nat.le_of_ble_eq_true rfl, Nat.le_of_ble_eq_true rfl⟩) (fun br11 => ?_)
  refine lv_if_ne (tgt := 30) hx hb dX6_feud_14 (by decide) (fun c_14 => ?_) (fun c_14 => ?_)
  · have hF := hF.trans (if_neg c_14)
    rw [hQ]
    exact k_throwS (cd := 1) (is := 117) (text := "there is this feud already, or there are 8") (by decide) hx hb hst hown hts hX hS (hl.1.trans hml.symm) (List.mem_of_getElem? (i := 5) rfl) dX6_feud_30 dX6_feud_33 dX6_feud_34 dX6_feud_36 dX6_feud_39 hout (Nat.le_of_ble_eq_true rfl) (Nat.le_of_ble_eq_true rfl) (Nat.le_of_ble_eq_true rfl) (Nat.le_of_ble_eq_true rfl) hlocks (xc_new hF hP hS) hS.2.2 (Nat.le_of_ble_eq_true rfl) (Nat.le_of_ble_eq_true rfl)
  have hF := hF.trans (if_pos c_14)
  refine lv_aload_n hx hb dX6_feud_17 rfl (lv_at hl 0 rfl) ?_
  refine va_get (D := (dC, dI)) (ci := 4) (v := .ref (aN 0)) (C := RX6) (T := TX6) (N := 6) hx hb htX6 (fun _ h => h) hown hK (fl_at hP 0 rfl) 0 rfl rfl 0 (by decide) (hts _ u_143) (fun _ h9 => h9) rfl dX6_feud_18 ?_
  refine va_getN (D := (dC, dI)) (ci := 2) (v := .ref (aN 9)) (C := RX2) (T := TX2) (N := 14) hx hb htX2 (fun _ h => h) hown hK (fl_at hP 1 rfl) 0 rfl rfl 8 (by decide) (va_Nw.use rfl (hn _ (List.mem_of_getElem? (i := 12) rfl))) (fun _ h9 => h9) rfl dX6_feud_21 ?_
  refine k_callb (W.runV (As := []) (rest := []) ⟨hx, hb, hml, hown, hts0⟩ (mX1_isFull l dC dI cI (aN 9) (aN 10) 8 (by decide) (PN 8) (PN 10 4) ) (cwV 0 hts0 (gi_V u_595 u_283 u_284 u_3 u_285) rfl rfl rfl (by decide +kernel) ⟨Nat.le_of_ble_eq_true rfl, Nat.le_of_ble_eq_true rfl⟩) (pcR_V (ci := 1) (q0 := 0) ((fl_at hP 1 rfl).sub (ws' := lW cI (aN 9) (aN 10) 8 (PN 8) (PN 10 4)) [9, 10] rfl) (hK.sub (tys' := [(cI, .int)]) [0] rfl) hn rfl rfl) rfl rfl hl.1 rfl (lv_room (Nat.le_of_ble_eq_true rfl)) dX6_feud_24 ⟨Nat.le_of_ble_eq_true rfl, Nat.le_of_ble_eq_true rfl⟩) (fun br24 => ?_)
  refine lv_if_eq (tgt := 40) hx hb dX6_feud_27 (by decide) (fun c_27 => ?_) (fun c_27 => ?_)
  · have hF := hF.trans (if_pos c_27)
    refine lv_aload_n hx hb dX6_feud_40 rfl (lv_at hl 0 rfl) ?_
    refine va_get (D := (dC, dI)) (ci := 4) (v := .ref h0) (C := RX6) (T := TX6) (N := 6) hx hb htX6 (fun _ h => h) hown hK (fl_at hP 0 rfl) 0 rfl rfl 3 (by decide) (hts _ u_146) (fun _ h9 => h9) rfl dX6_feud_41 ?_
    refine lv_aload_n hx hb dX6_feud_44 rfl (lv_at hl 0 rfl) ?_
    refine va_get (D := (dC, dI)) (ci := 4) (v := .ref (aN 0)) (C := RX6) (T := TX6) (N := 6) hx hb htX6 (fun _ h => h) hown hK (fl_at hP 0 rfl) 0 rfl rfl 0 (by decide) (hts _ u_143) (fun _ h9 => h9) rfl dX6_feud_45 ?_
    refine k_bmutv (wc := [hW cI cP h0 h1 pa Ps (nI oh) (nI vh), pW cI aN PN]) (W1 := (fun (v : (Nat → PV) × Nat × Nat) => [hW cI cP h0 h1 pa v.1 (nI v.2.1) (nI v.2.2), pW cI aN PN])) (va_runV (As := [.ref (aN 0)]) (rest := []) ⟨hx, hb, hml, hown, hts0⟩ (mX0_save l dC dI cI cP h0 h1 pa Ps oh vh aN PN  (by first | omega | assumption) (by first | omega | assumption)) (cwV 1 hts0 (gi_V u_166 u_167 u_168 u_5 u_169) rfl rfl rfl (by decide +kernel) ⟨Nat.le_of_ble_eq_true rfl, Nat.le_of_ble_eq_true rfl⟩) (pcM_V (ci := 0) (q0 := 0) (fl_sub (wc := [hW cI cP h0 h1 pa Ps (nI oh) (nI vh), pW cI aN PN]) hP [5, 1] rfl) hK hn (fl_D (wc := [hW cI cP h0 h1 pa Ps (nI oh) (nI vh), pW cI aN PN]) hD [5, 1] (by decide) rfl) rfl rfl) rfl rfl hl.1 rfl (lv_room (Nat.le_of_ble_eq_true rfl)) dX6_feud_48 ⟨Nat.le_of_ble_eq_true rfl, Nat.le_of_ble_eq_true rfl⟩) hP hD hS [5, 1] (by decide) rfl (fun _ => rfl) (fun U48 H locs hU48 hP hD hS => ?_)
    have hP : va_P (dC, dI) vwCl (fW cI cP a0 aN aT aS t0 t1 t2 h0 h1 pa PN PT PS f u U48.1 U48.2.1 U48.2.2 k) H := hP
    have hD : va_D A (fW cI cP a0 aN aT aS t0 t1 t2 h0 h1 pa PN PT PS f u U48.1 U48.2.1 U48.2.2 k) := hD
    have hF := bd_at hF hU48
    refine lv_aload_n hx hb dX6_feud_51 rfl (lv_at hl 0 rfl) ?_
    refine va_get (D := (dC, dI)) (ci := 4) (v := .ref (aN 0)) (C := RX6) (T := TX6) (N := 6) hx hb htX6 (fun _ h => h) hown hK (fl_at hP 0 rfl) 0 rfl rfl 0 (by decide) (hts _ u_143) (fun _ h9 => h9) rfl dX6_feud_52 ?_
    refine lv_iload_n hx hb dX6_feud_55 rfl (lv_at hl 1 rfl) ?_
    refine lv_iload_n hx hb dX6_feud_56 rfl (lv_at hl 2 rfl) ?_
    refine k_bmuti (wc := [pW cI aN PN]) (W1 := (fun (v : PV) => [pW cI aN v])) (va_runV (As := [.int a, .int b]) (rest := []) ⟨hx, hb, hml, hown, hts0⟩ (mX2_beginFeud l dC dI cI aN PN a b) (cwV 2 hts0 (gi_V u_597 u_598 u_599 u_2 u_600) rfl rfl rfl (by decide +kernel) ⟨Nat.le_of_ble_eq_true rfl, Nat.le_of_ble_eq_true rfl⟩) (pcM_V (ci := 2) (q0 := 0) (fl_at hP 1 rfl) (hK.sub (tys' := [(cI, .int)]) [0] rfl) hn (fl_D1 hD 1 rfl) rfl rfl) rfl rfl hl.1 rfl (lv_room (Nat.le_of_ble_eq_true rfl)) dX6_feud_57 ⟨Nat.le_of_ble_eq_true rfl, Nat.le_of_ble_eq_true rfl⟩) hP hD hS [1] (by decide) rfl (fun _ => rfl) (fun r57 U57 H locs hU57 hP hD hS => ?_)
    have hP : va_P (dC, dI) vwCl (fW cI cP a0 aN aT aS t0 t1 t2 h0 h1 pa U57 PT PS f u U48.1 U48.2.1 U48.2.2 k) H := hP
    have hD : va_D A (fW cI cP a0 aN aT aS t0 t1 t2 h0 h1 pa U57 PT PS f u U48.1 U48.2.1 U48.2.2 k) := hD
    have hF := bd2_at hF hU57
    rw [hQ]
    refine vx_ret (W.widen (k := 2) (n := 12) (Nat.le_of_ble_eq_true rfl) (Nat.le_of_ble_eq_true rfl) ?_)
    exact W.iret (v := r57) hx hb hr (fun t ht hW => ⟨⟨r57, (U57, U48.1, U48.2.1, U48.2.2), rfl, hF, toH ht hP⟩, hS.F ht⟩) hS.2.2 dX6_feud_60
  have hF := hF.trans (if_neg c_27)
  rw [hQ]
  exact k_throwS (cd := 1) (is := 117) (text := "there is this feud already, or there are 8") (by decide) hx hb hst hown hts hX hS (hl.1.trans hml.symm) (List.mem_of_getElem? (i := 5) rfl) dX6_feud_30 dX6_feud_33 dX6_feud_34 dX6_feud_36 dX6_feud_39 hout (Nat.le_of_ble_eq_true rfl) (Nat.le_of_ble_eq_true rfl) (Nat.le_of_ble_eq_true rfl) (Nat.le_of_ble_eq_true rfl) hlocks (xc_new hF hP hS) hS.2.2 (Nat.le_of_ble_eq_true rfl) (Nat.le_of_ble_eq_true rfl)

def fX6_peace (PN : PV) (Ps : Nat → PV) (oh : Nat) (vh : Nat) (a : Int32) (b : Int32) : Nat ⊕ (Int32 × (PV × (Nat → PV) × Nat × Nat)) :=
  (if (fX6_needTwoFamilies a b) = 0 then (if (fX2_hasFeud PN a b) = 0 then (Sum.inl 1) else (bd (fX0_save Ps oh vh PN) (fun U35 => (bd (fX1_dropItem 8 (PN 8) (PN 10 4) (fX2_feudCode a b)) (fun U50 => (Sum.inr ((fX1_length 8 (U50.1) (U50.2)), ((sset (rset PN 8 U50.1) 4 U50.2), U35.1, U35.2.1, U35.2.2)))))))) else (Sum.inl 0))
abbrev rmX6_peace : Room := { frames := 7, cells := 2, slots := 12, locals := 111 }
set_option maxHeartbeats 4000000 in
set_option maxRecDepth 100000 in
theorem mX6_peace (l : Launch) (hst : l.stackTraces = false) (dC : Nat → ClassId) (dI : Nat → Nat → Nat) (cI cP : ClassId) (a0 : Nat) (aN aT aS : Nat → Nat) (t0 t1 t2 h0 h1 : Nat) (pa : Nat → Nat → Nat) (PN PT PS : PV) (f : Nat → Int32) (u : Int32) (Ps : Nat → PV) (oh vh : Nat) (k : Int32) (a : Int32) (b : Int32) (ho6 : oh < 6) (hv6 : vh ≤ 6) : vx_Met l yX6_peace (ws_ yX6_peace cX6_peace 3 (some .int)) rmX6_peace (pcX (dC, dI) [(cI, .int), (cP, .object "SupperSeats$Plan")] (fW cI cP a0 aN aT aS t0 t1 t2 h0 h1 pa PN PT PS f u Ps oh vh k) [.ref a0, .int a, .int b]) (va_Qi (fun (r9 : Int32) (u9 : PV × (Nat → PV) × Nat × Nat) => fX6_peace PN Ps oh vh a b = Sum.inr (r9, u9)) (fun u9 t => va_P (dC, dI) vwCl ((fun (v9 : PV × (Nat → PV) × Nat × Nat) => fW cI cP a0 aN aT aS t0 t1 t2 h0 h1 pa v9.1 PT PS f u v9.2.1 v9.2.2.1 v9.2.2.2 k) u9) t.heap) (adr (fW cI cP a0 aN aT aS t0 t1 t2 h0 h1 pa PN PT PS f u Ps oh vh k))) (vx_X (fun c9 : Nat => fX6_peace PN Ps oh vh a b = Sum.inl c9) (fun E c9 t => E = xname c9 ∧ va_P (dC, dI) vwCl (fW cI cP a0 aN aT aS t0 t1 t2 h0 h1 pa PN PT PS f u Ps oh vh k) t.heap) (adr (fW cI cP a0 aN aT aS t0 t1 t2 h0 h1 pa PN PT PS f u Ps oh vh k))) 2 12 (adr (fW cI cP a0 aN aT aS t0 t1 t2 h0 h1 pa PN PT PS f u Ps oh vh k)) := by
  refine vx_ofW (cc := cX6_peace) (maxL := 3) (ret := (some .int)) (by decide) rfl ?_
  intro p e s m args below meth c s₁ B hml hout hv
  obtain ⟨ha, hP, hK, hn, hD0, hX⟩ := hv
  have hx := B.exec
  have hb := B.bytes
  have hr := B.returns
  have hts0 := atoms_spec (ws := (ws_ yX6_peace cX6_peace 3 (some .int))) B.pre
  have hts : ∀ w ∈ lw_all, w.before args s = true := fun w h => hts0 w (List.mem_cons_of_mem _ h)
  have hown : s.vm.findClass RX6 = some m.cls := findClass_of_methodNamed B.named
  have hlocks := B.notSynchronized
  have htX6 : ∀ w ∈ wsX60, w.before args s = true := fun w h => hts w (wX6 w h)
  have htX2 : ∀ w ∈ wsX20, w.before args s = true := fun w h => hts w (wX2 w h)
  have hD := adr_self hD0
  obtain ⟨A, hA⟩ : ∃ A, A = adr (fW cI cP a0 aN aT aS t0 t1 t2 h0 h1 pa PN PT PS f u Ps oh vh k) := ⟨_, rfl⟩
  rw [← hA] at hD hX
  have hS : va_S A s.heap s.heap [] := va_S.rf
  obtain ⟨Q, hQ⟩ : ∃ Q, Q = vx_MQ below (va_Qi (fun (r9 : Int32) (u9 : PV × (Nat → PV) × Nat × Nat) => fX6_peace PN Ps oh vh a b = Sum.inr (r9, u9)) (fun u9 t => va_P (dC, dI) vwCl ((fun (v9 : PV × (Nat → PV) × Nat × Nat) => fW cI cP a0 aN aT aS t0 t1 t2 h0 h1 pa v9.1 PT PS f u v9.2.1 v9.2.2.1 v9.2.2.2 k) u9) t.heap) (adr (fW cI cP a0 aN aT aS t0 t1 t2 h0 h1 pa PN PT PS f u Ps oh vh k))) (vx_X (fun c9 : Nat => fX6_peace PN Ps oh vh a b = Sum.inl c9) (fun E c9 t => E = xname c9 ∧ va_P (dC, dI) vwCl (fW cI cP a0 aN aT aS t0 t1 t2 h0 h1 pa PN PT PS f u Ps oh vh k) t.heap) (adr (fW cI cP a0 aN aT aS t0 t1 t2 h0 h1 pa PN PT PS f u Ps oh vh k))) args s 2 12 (adr (fW cI cP a0 aN aT aS t0 t1 t2 h0 h1 pa PN PT PS f u Ps oh vh k)) := ⟨_, rfl⟩
  rw [← hQ]
  rw [← hA] at hQ
  have hl := lv_entry ([.ref a0, .int a, .int b]) (n := 3) (Nat.le_of_ble_eq_true rfl)
  rw [ha, lg_entry_eq, ← ha]
  generalize (lg_sl ([.ref a0, .int a, .int b]) ++ List.replicate (3 - (lg_sl ([.ref a0, .int a, .int b])).length) Slot.unset).toArray = ls at hl ⊢
  have hl : lv_has ls 3 [(0, .ref a0), (1, .int a), (2, .int b)] := hl
  show W p l e rmX6_peace s m args below meth c s.heap [] 0 0 Q (F0 m 0 ls [])
  have hF : fX6_peace PN Ps oh vh a b = fX6_peace PN Ps oh vh a b := rfl
  refine lv_iload_n hx hb dX6_peace_0 rfl (lv_at hl 1 rfl) ?_
  refine lv_iload_n hx hb dX6_peace_1 rfl (lv_at hl 2 rfl) ?_
  refine k_need0 (F := (fX6_needTwoFamilies a b)) (cd := 0) (vx_runS (As := [.int a, .int b]) (rest := []) ⟨hx, hb, hml, hown, hts0⟩ (mX6_needTwoFamilies l hst dC dI a b) (va_cwS 2 hts0 (gi_S u_590 u_591 u_1 u_592) rfl rfl rfl (by decide +kernel) ⟨Nat.le_of_ble_eq_true rfl, Nat.le_of_ble_eq_true rfl⟩) (pcX_S (hP.sub (ws' := []) [] rfl) (hK.sub (tys' := []) [] rfl) hn (D_nil (A := A)) hX hS) rfl rfl hl.1 rfl (lv_room (Nat.le_of_ble_eq_true rfl)) dX6_peace_2 ⟨Nat.le_of_ble_eq_true rfl, Nat.le_of_ble_eq_true rfl⟩) hS hP (fun c_2 ce9 q9 H locs hP hS he9 hv9 hc9 => ?_) (fun c_2 H locs hP hS => ?_)
  · have hF := hF.trans (if_neg c_2)
    rw [hQ]
    exact vx_out (fun x9 hx9 => (hout x9 hx9).elim) hlocks he9 hv9 hc9 (xc_out hF hP hS) hS.2.2 (Nat.le_of_ble_eq_true rfl) (Nat.le_of_ble_eq_true rfl)
  have hF := hF.trans (if_pos c_2)
  refine lv_aload_n hx hb dX6_peace_5 rfl (lv_at hl 0 rfl) ?_
  refine va_get (D := (dC, dI)) (ci := 4) (v := .ref (aN 0)) (C := RX6) (T := TX6) (N := 6) hx hb htX6 (fun _ h => h) hown hK (fl_at hP 0 rfl) 0 rfl rfl 0 (by decide) (hts _ u_143) (fun _ h9 => h9) rfl dX6_peace_6 ?_
  refine lv_iload_n hx hb dX6_peace_9 rfl (lv_at hl 1 rfl) ?_
  refine lv_iload_n hx hb dX6_peace_10 rfl (lv_at hl 2 rfl) ?_
  refine k_callb (W.runV (As := [.int a, .int b]) (rest := []) ⟨hx, hb, hml, hown, hts0⟩ (mX2_hasFeud l dC dI cI aN PN a b) (cwV 2 hts0 (gi_V u_594 u_413 u_414 u_2 u_415) rfl rfl rfl (by decide +kernel) ⟨Nat.le_of_ble_eq_true rfl, Nat.le_of_ble_eq_true rfl⟩) (pcR_V (ci := 2) (q0 := 0) (fl_at hP 1 rfl) (hK.sub (tys' := [(cI, .int)]) [0] rfl) hn rfl rfl) rfl rfl hl.1 rfl (lv_room (Nat.le_of_ble_eq_true rfl)) dX6_peace_11 ⟨Nat.le_of_ble_eq_true rfl, Nat.le_of_ble_eq_true rfl⟩) (fun br11 => ?_)
  refine lv_if_ne (tgt := 27) hx hb dX6_peace_14 (by decide) (fun c_14 => ?_) (fun c_14 => ?_)
  · have hF := hF.trans (if_neg c_14)
    refine lv_aload_n hx hb dX6_peace_27 rfl (lv_at hl 0 rfl) ?_
    refine va_get (D := (dC, dI)) (ci := 4) (v := .ref h0) (C := RX6) (T := TX6) (N := 6) hx hb htX6 (fun _ h => h) hown hK (fl_at hP 0 rfl) 0 rfl rfl 3 (by decide) (hts _ u_146) (fun _ h9 => h9) rfl dX6_peace_28 ?_
    refine lv_aload_n hx hb dX6_peace_31 rfl (lv_at hl 0 rfl) ?_
    refine va_get (D := (dC, dI)) (ci := 4) (v := .ref (aN 0)) (C := RX6) (T := TX6) (N := 6) hx hb htX6 (fun _ h => h) hown hK (fl_at hP 0 rfl) 0 rfl rfl 0 (by decide) (hts _ u_143) (fun _ h9 => h9) rfl dX6_peace_32 ?_
    refine k_bmutv (wc := [hW cI cP h0 h1 pa Ps (nI oh) (nI vh), pW cI aN PN]) (W1 := (fun (v : (Nat → PV) × Nat × Nat) => [hW cI cP h0 h1 pa v.1 (nI v.2.1) (nI v.2.2), pW cI aN PN])) (va_runV (As := [.ref (aN 0)]) (rest := []) ⟨hx, hb, hml, hown, hts0⟩ (mX0_save l dC dI cI cP h0 h1 pa Ps oh vh aN PN  (by first | omega | assumption) (by first | omega | assumption)) (cwV 1 hts0 (gi_V u_166 u_167 u_168 u_5 u_169) rfl rfl rfl (by decide +kernel) ⟨Nat.le_of_ble_eq_true rfl, Nat.le_of_ble_eq_true rfl⟩) (pcM_V (ci := 0) (q0 := 0) (fl_sub (wc := [hW cI cP h0 h1 pa Ps (nI oh) (nI vh), pW cI aN PN]) hP [5, 1] rfl) hK hn (fl_D (wc := [hW cI cP h0 h1 pa Ps (nI oh) (nI vh), pW cI aN PN]) hD [5, 1] (by decide) rfl) rfl rfl) rfl rfl hl.1 rfl (lv_room (Nat.le_of_ble_eq_true rfl)) dX6_peace_35 ⟨Nat.le_of_ble_eq_true rfl, Nat.le_of_ble_eq_true rfl⟩) hP hD hS [5, 1] (by decide) rfl (fun _ => rfl) (fun U35 H locs hU35 hP hD hS => ?_)
    have hP : va_P (dC, dI) vwCl (fW cI cP a0 aN aT aS t0 t1 t2 h0 h1 pa PN PT PS f u U35.1 U35.2.1 U35.2.2 k) H := hP
    have hD : va_D A (fW cI cP a0 aN aT aS t0 t1 t2 h0 h1 pa PN PT PS f u U35.1 U35.2.1 U35.2.2 k) := hD
    have hF := bd_at hF hU35
    refine lv_aload_n hx hb dX6_peace_38 rfl (lv_at hl 0 rfl) ?_
    refine va_get (D := (dC, dI)) (ci := 4) (v := .ref (aN 0)) (C := RX6) (T := TX6) (N := 6) hx hb htX6 (fun _ h => h) hown hK (fl_at hP 0 rfl) 0 rfl rfl 0 (by decide) (hts _ u_143) (fun _ h9 => h9) rfl dX6_peace_39 ?_
    refine va_getN (D := (dC, dI)) (ci := 2) (v := .ref (aN 9)) (C := RX2) (T := TX2) (N := 14) hx hb htX2 (fun _ h => h) hown hK (fl_at hP 1 rfl) 0 rfl rfl 8 (by decide) (va_Nw.use rfl (hn _ (List.mem_of_getElem? (i := 12) rfl))) (fun _ h9 => h9) rfl dX6_peace_42 ?_
    refine lv_iload_n hx hb dX6_peace_45 rfl (lv_at hl 1 rfl) ?_
    refine lv_iload_n hx hb dX6_peace_46 rfl (lv_at hl 2 rfl) ?_
    refine k_calli (W.runS (As := [.int a, .int b]) (rest := [.ref (aN 9)]) ⟨hx, hb, hml, hown, hts0⟩ (mX2_feudCode l dC dI  a b) (va_cwS 2 hts0 (gi_S u_613 u_417 u_2 u_418) rfl rfl rfl (by decide +kernel) ⟨Nat.le_of_ble_eq_true rfl, Nat.le_of_ble_eq_true rfl⟩) (pcR_S (hP.sub (ws' := []) [] rfl) (hK.sub (tys' := []) [] rfl) hn) rfl rfl hl.1 rfl (lv_room (Nat.le_of_ble_eq_true rfl)) dX6_peace_47 ⟨Nat.le_of_ble_eq_true rfl, Nat.le_of_ble_eq_true rfl⟩) ?_
    refine k_smutv (Wd := (fun (v : (Nat → Int32) × Int32) => lW cI (aN 9) (aN 10) 8 v.1 v.2)) (va_runV (As := [.int (fX2_feudCode a b)]) (rest := []) ⟨hx, hb, hml, hown, hts0⟩ (mX1_dropItem l dC dI cI (aN 9) (aN 10) 8 (by decide) (PN 8) (PN 10 4) (fX2_feudCode a b)) (cwV 1 hts0 (gi_V u_614 u_273 u_274 u_3 u_275) rfl rfl rfl (by decide +kernel) ⟨Nat.le_of_ble_eq_true rfl, Nat.le_of_ble_eq_true rfl⟩) (pcM_V (ci := 1) (q0 := 0) ((fl_at hP 1 rfl).sub (ws' := lW cI (aN 9) (aN 10) 8 (PN 8) (PN 10 4)) [9, 10] rfl) (hK.sub (tys' := [(cI, .int)]) [0] rfl) hn ((fl_D1 hD 1 rfl).sub (ws' := lW cI (aN 9) (aN 10) 8 (PN 8) (PN 10 4)) [9, 10] (by decide) rfl) rfl rfl) rfl rfl hl.1 rfl (lv_room (Nat.le_of_ble_eq_true rfl)) dX6_peace_50 ⟨Nat.le_of_ble_eq_true rfl, Nat.le_of_ble_eq_true rfl⟩) hP hD hS 1 rfl [9, 10] rfl rfl (fun _ => rfl) (fun U50 H locs hU50 hP hD hS => ?_)
    have hP : va_P (dC, dI) vwCl (fW cI cP a0 aN aT aS t0 t1 t2 h0 h1 pa (sset (rset PN 8 U50.1) 4 U50.2) PT PS f u U35.1 U35.2.1 U35.2.2 k) H := hP
    have hD : va_D A (fW cI cP a0 aN aT aS t0 t1 t2 h0 h1 pa (sset (rset PN 8 U50.1) 4 U50.2) PT PS f u U35.1 U35.2.1 U35.2.2 k) := hD
    have hF := bd_at hF hU50
    refine lv_aload_n hx hb dX6_peace_53 rfl (lv_at hl 0 rfl) ?_
    refine va_get (D := (dC, dI)) (ci := 4) (v := .ref (aN 0)) (C := RX6) (T := TX6) (N := 6) hx hb htX6 (fun _ h => h) hown hK (fl_at hP 0 rfl) 0 rfl rfl 0 (by decide) (hts _ u_143) (fun _ h9 => h9) rfl dX6_peace_54 ?_
    refine va_getN (D := (dC, dI)) (ci := 2) (v := .ref (aN 9)) (C := RX2) (T := TX2) (N := 14) hx hb htX2 (fun _ h => h) hown hK (fl_at hP 1 rfl) 0 rfl rfl 8 (by decide) (va_Nw.use rfl (hn _ (List.mem_of_getElem? (i := 12) rfl))) (fun _ h9 => h9) rfl dX6_peace_57 ?_
    refine k_calli (W.runV (As := []) (rest := []) ⟨hx, hb, hml, hown, hts0⟩ (mX1_length l dC dI cI (aN 9) (aN 10) 8 (by decide) (U50.1) (U50.2) ) (cwV 0 hts0 (gi_V u_290 u_224 u_225 u_3 u_226) rfl rfl rfl (by decide +kernel) ⟨Nat.le_of_ble_eq_true rfl, Nat.le_of_ble_eq_true rfl⟩) (pcR_V (ci := 1) (q0 := 0) ((fl_at hP 1 rfl).sub (ws' := lW cI (aN 9) (aN 10) 8 (U50.1) (U50.2)) [9, 10] rfl) (hK.sub (tys' := [(cI, .int)]) [0] rfl) hn rfl rfl) rfl rfl hl.1 rfl (lv_room (Nat.le_of_ble_eq_true rfl)) dX6_peace_60 ⟨Nat.le_of_ble_eq_true rfl, Nat.le_of_ble_eq_true rfl⟩) ?_
    rw [hQ]
    refine vx_ret (W.widen (k := 2) (n := 12) (Nat.le_of_ble_eq_true rfl) (Nat.le_of_ble_eq_true rfl) ?_)
    exact W.iret (v := (fX1_length 8 (U50.1) (U50.2))) hx hb hr (fun t ht hW => ⟨⟨(fX1_length 8 (U50.1) (U50.2)), ((sset (rset PN 8 U50.1) 4 U50.2), U35.1, U35.2.1, U35.2.2), rfl, hF, toH ht hP⟩, hS.F ht⟩) hS.2.2 dX6_peace_63
  have hF := hF.trans (if_pos c_14)
  rw [hQ]
  exact k_throwS (cd := 1) (is := 122) (text := "there is no such feud") (by decide) hx hb hst hown hts hX hS (hl.1.trans hml.symm) (List.mem_of_getElem? (i := 6) rfl) dX6_peace_17 dX6_peace_20 dX6_peace_21 dX6_peace_23 dX6_peace_26 hout (Nat.le_of_ble_eq_true rfl) (Nat.le_of_ble_eq_true rfl) (Nat.le_of_ble_eq_true rfl) (Nat.le_of_ble_eq_true rfl) hlocks (xc_new hF hP hS) hS.2.2 (Nat.le_of_ble_eq_true rfl) (Nat.le_of_ble_eq_true rfl)

def fX6_sit (PN : PV) (Ps : Nat → PV) (oh : Nat) (vh : Nat) (g : Int32) (tb : Int32) (z : Int32) : Nat ⊕ (Int32 × (PV × (Nat → PV) × Nat × Nat)) :=
  (if (fX6_needGuestAndSeat PN g tb z) = 0 then (if (fX2_reasonAgainst PN g tb z) = 0 then (bd (fX0_save Ps oh vh PN) (fun U38 => (bd (fX2_takeSeat PN g tb z) (fun U48 => (Sum.inr ((fX4_byGuests U48), (U48, U38.1, U38.2.1, U38.2.2))))))) else (Sum.inl 1)) else (Sum.inl 2))
abbrev rmX6_sit : Room := { frames := 8, cells := 3, slots := 18, locals := 135 }
set_option maxHeartbeats 4000000 in
set_option maxRecDepth 100000 in
theorem mX6_sit (l : Launch) (hst : l.stackTraces = false) (dC : Nat → ClassId) (dI : Nat → Nat → Nat) (cI cP : ClassId) (a0 : Nat) (aN aT aS : Nat → Nat) (t0 t1 t2 h0 h1 : Nat) (pa : Nat → Nat → Nat) (PN PT PS : PV) (f : Nat → Int32) (u : Int32) (Ps : Nat → PV) (oh vh : Nat) (k : Int32) (g : Int32) (tb : Int32) (z : Int32) (ho6 : oh < 6) (hv6 : vh ≤ 6) : vx_Met l yX6_sit (ws_ yX6_sit cX6_sit 4 (some .int)) rmX6_sit (pcX (dC, dI) [(cI, .int), (cP, .object "SupperSeats$Plan")] (fW cI cP a0 aN aT aS t0 t1 t2 h0 h1 pa PN PT PS f u Ps oh vh k) [.ref a0, .int g, .int tb, .int z]) (va_Qi (fun (r9 : Int32) (u9 : PV × (Nat → PV) × Nat × Nat) => fX6_sit PN Ps oh vh g tb z = Sum.inr (r9, u9)) (fun u9 t => va_P (dC, dI) vwCl ((fun (v9 : PV × (Nat → PV) × Nat × Nat) => fW cI cP a0 aN aT aS t0 t1 t2 h0 h1 pa v9.1 PT PS f u v9.2.1 v9.2.2.1 v9.2.2.2 k) u9) t.heap) (adr (fW cI cP a0 aN aT aS t0 t1 t2 h0 h1 pa PN PT PS f u Ps oh vh k))) (vx_X (fun c9 : Nat => fX6_sit PN Ps oh vh g tb z = Sum.inl c9) (fun E c9 t => E = xname c9 ∧ va_P (dC, dI) vwCl (fW cI cP a0 aN aT aS t0 t1 t2 h0 h1 pa PN PT PS f u Ps oh vh k) t.heap) (adr (fW cI cP a0 aN aT aS t0 t1 t2 h0 h1 pa PN PT PS f u Ps oh vh k))) 3 18 (adr (fW cI cP a0 aN aT aS t0 t1 t2 h0 h1 pa PN PT PS f u Ps oh vh k)) := by
  refine vx_ofW (cc := cX6_sit) (maxL := 4) (ret := (some .int)) (by decide) rfl ?_
  intro p e s m args below meth c s₁ B hml hout hv
  obtain ⟨ha, hP, hK, hn, hD0, hX⟩ := hv
  have hx := B.exec
  have hb := B.bytes
  have hr := B.returns
  have hts0 := atoms_spec (ws := (ws_ yX6_sit cX6_sit 4 (some .int))) B.pre
  have hts : ∀ w ∈ lw_all, w.before args s = true := fun w h => hts0 w (List.mem_cons_of_mem _ h)
  have hown : s.vm.findClass RX6 = some m.cls := findClass_of_methodNamed B.named
  have hlocks := B.notSynchronized
  have htX6 : ∀ w ∈ wsX60, w.before args s = true := fun w h => hts w (wX6 w h)
  have hD := adr_self hD0
  obtain ⟨A, hA⟩ : ∃ A, A = adr (fW cI cP a0 aN aT aS t0 t1 t2 h0 h1 pa PN PT PS f u Ps oh vh k) := ⟨_, rfl⟩
  rw [← hA] at hD hX
  have hS : va_S A s.heap s.heap [] := va_S.rf
  obtain ⟨Q, hQ⟩ : ∃ Q, Q = vx_MQ below (va_Qi (fun (r9 : Int32) (u9 : PV × (Nat → PV) × Nat × Nat) => fX6_sit PN Ps oh vh g tb z = Sum.inr (r9, u9)) (fun u9 t => va_P (dC, dI) vwCl ((fun (v9 : PV × (Nat → PV) × Nat × Nat) => fW cI cP a0 aN aT aS t0 t1 t2 h0 h1 pa v9.1 PT PS f u v9.2.1 v9.2.2.1 v9.2.2.2 k) u9) t.heap) (adr (fW cI cP a0 aN aT aS t0 t1 t2 h0 h1 pa PN PT PS f u Ps oh vh k))) (vx_X (fun c9 : Nat => fX6_sit PN Ps oh vh g tb z = Sum.inl c9) (fun E c9 t => E = xname c9 ∧ va_P (dC, dI) vwCl (fW cI cP a0 aN aT aS t0 t1 t2 h0 h1 pa PN PT PS f u Ps oh vh k) t.heap) (adr (fW cI cP a0 aN aT aS t0 t1 t2 h0 h1 pa PN PT PS f u Ps oh vh k))) args s 3 18 (adr (fW cI cP a0 aN aT aS t0 t1 t2 h0 h1 pa PN PT PS f u Ps oh vh k)) := ⟨_, rfl⟩
  rw [← hQ]
  rw [← hA] at hQ
  have hl := lv_entry ([.ref a0, .int g, .int tb, .int z]) (n := 4) (Nat.le_of_ble_eq_true rfl)
  rw [ha, lg_entry_eq, ← ha]
  generalize (lg_sl ([.ref a0, .int g, .int tb, .int z]) ++ List.replicate (4 - (lg_sl ([.ref a0, .int g, .int tb, .int z])).length) Slot.unset).toArray = ls at hl ⊢
  have hl : lv_has ls 4 [(0, .ref a0), (1, .int g), (2, .int tb), (3, .int z)] := hl
  show W p l e rmX6_sit s m args below meth c s.heap [] 0 0 Q (F0 m 0 ls [])
  have hF : fX6_sit PN Ps oh vh g tb z = fX6_sit PN Ps oh vh g tb z := rfl
  refine lv_aload_n hx hb dX6_sit_0 rfl (lv_at hl 0 rfl) ?_
  refine lv_iload_n hx hb dX6_sit_1 rfl (lv_at hl 1 rfl) ?_
  refine lv_iload_n hx hb dX6_sit_2 rfl (lv_at hl 2 rfl) ?_
  refine lv_iload_n hx hb dX6_sit_3 rfl (lv_at hl 3 rfl) ?_
  refine k_need (F := (fX6_needGuestAndSeat PN g tb z)) (cd := 2) (vx_runV (As := [.int g, .int tb, .int z]) (rest := []) ⟨hx, hb, hml, hown, hts0⟩ (mX6_needGuestAndSeat l hst dC dI cI cP a0 aN aT aS t0 t1 t2 h0 h1 pa PN PT PS f u Ps oh vh k g tb z) (cwV 3 hts0 (gi_V u_635 u_637 us_9 u_1 u_638) rfl rfl rfl (by decide +kernel) ⟨Nat.le_of_ble_eq_true rfl, Nat.le_of_ble_eq_true rfl⟩) (pcX_V (ci := 4) (q0 := 0) hP hK hn hD hX hS rfl rfl) rfl rfl hl.1 rfl (lv_room (Nat.le_of_ble_eq_true rfl)) dX6_sit_4 ⟨Nat.le_of_ble_eq_true rfl, Nat.le_of_ble_eq_true rfl⟩) hS hD (fun c_4 ce9 q9 H locs hP hS he9 hv9 hc9 => ?_) (fun c_4 H locs hP hS => ?_)
  · have hF := hF.trans (if_neg c_4)
    rw [hQ]
    exact vx_out (fun x9 hx9 => (hout x9 hx9).elim) hlocks he9 hv9 hc9 (xc_out hF hP hS) hS.2.2 (Nat.le_of_ble_eq_true rfl) (Nat.le_of_ble_eq_true rfl)
  have hF := hF.trans (if_pos c_4)
  refine lv_aload_n hx hb dX6_sit_7 rfl (lv_at hl 0 rfl) ?_
  refine va_get (D := (dC, dI)) (ci := 4) (v := .ref (aN 0)) (C := RX6) (T := TX6) (N := 6) hx hb htX6 (fun _ h => h) hown hK (fl_at hP 0 rfl) 0 rfl rfl 0 (by decide) (hts _ u_143) (fun _ h9 => h9) rfl dX6_sit_8 ?_
  refine lv_iload_n hx hb dX6_sit_11 rfl (lv_at hl 1 rfl) ?_
  refine lv_iload_n hx hb dX6_sit_12 rfl (lv_at hl 2 rfl) ?_
  refine lv_iload_n hx hb dX6_sit_13 rfl (lv_at hl 3 rfl) ?_
  refine k_calli (W.runV (As := [.int g, .int tb, .int z]) (rest := []) ⟨hx, hb, hml, hown, hts0⟩ (mX2_reasonAgainst l dC dI cI aN PN g tb z) (cwV 3 hts0 (gi_V u_652 u_209 u_210 u_2 u_211) rfl rfl rfl (by decide +kernel) ⟨Nat.le_of_ble_eq_true rfl, Nat.le_of_ble_eq_true rfl⟩) (pcR_V (ci := 2) (q0 := 0) (fl_at hP 1 rfl) (hK.sub (tys' := [(cI, .int)]) [0] rfl) hn rfl rfl) rfl rfl hl.1 rfl (lv_room (Nat.le_of_ble_eq_true rfl)) dX6_sit_14 ⟨Nat.le_of_ble_eq_true rfl, Nat.le_of_ble_eq_true rfl⟩) ?_
  refine lv_if_eq (tgt := 30) hx hb dX6_sit_17 (by decide) (fun c_17 => ?_) (fun c_17 => ?_)
  · have hF := hF.trans (if_pos c_17)
    refine lv_aload_n hx hb dX6_sit_30 rfl (lv_at hl 0 rfl) ?_
    refine va_get (D := (dC, dI)) (ci := 4) (v := .ref h0) (C := RX6) (T := TX6) (N := 6) hx hb htX6 (fun _ h => h) hown hK (fl_at hP 0 rfl) 0 rfl rfl 3 (by decide) (hts _ u_146) (fun _ h9 => h9) rfl dX6_sit_31 ?_
    refine lv_aload_n hx hb dX6_sit_34 rfl (lv_at hl 0 rfl) ?_
    refine va_get (D := (dC, dI)) (ci := 4) (v := .ref (aN 0)) (C := RX6) (T := TX6) (N := 6) hx hb htX6 (fun _ h => h) hown hK (fl_at hP 0 rfl) 0 rfl rfl 0 (by decide) (hts _ u_143) (fun _ h9 => h9) rfl dX6_sit_35 ?_
    refine k_bmutv (wc := [hW cI cP h0 h1 pa Ps (nI oh) (nI vh), pW cI aN PN]) (W1 := (fun (v : (Nat → PV) × Nat × Nat) => [hW cI cP h0 h1 pa v.1 (nI v.2.1) (nI v.2.2), pW cI aN PN])) (va_runV (As := [.ref (aN 0)]) (rest := []) ⟨hx, hb, hml, hown, hts0⟩ (mX0_save l dC dI cI cP h0 h1 pa Ps oh vh aN PN  (by first | omega | assumption) (by first | omega | assumption)) (cwV 1 hts0 (gi_V u_166 u_167 u_168 u_5 u_169) rfl rfl rfl (by decide +kernel) ⟨Nat.le_of_ble_eq_true rfl, Nat.le_of_ble_eq_true rfl⟩) (pcM_V (ci := 0) (q0 := 0) (fl_sub (wc := [hW cI cP h0 h1 pa Ps (nI oh) (nI vh), pW cI aN PN]) hP [5, 1] rfl) hK hn (fl_D (wc := [hW cI cP h0 h1 pa Ps (nI oh) (nI vh), pW cI aN PN]) hD [5, 1] (by decide) rfl) rfl rfl) rfl rfl hl.1 rfl (lv_room (Nat.le_of_ble_eq_true rfl)) dX6_sit_38 ⟨Nat.le_of_ble_eq_true rfl, Nat.le_of_ble_eq_true rfl⟩) hP hD hS [5, 1] (by decide) rfl (fun _ => rfl) (fun U38 H locs hU38 hP hD hS => ?_)
    have hP : va_P (dC, dI) vwCl (fW cI cP a0 aN aT aS t0 t1 t2 h0 h1 pa PN PT PS f u U38.1 U38.2.1 U38.2.2 k) H := hP
    have hD : va_D A (fW cI cP a0 aN aT aS t0 t1 t2 h0 h1 pa PN PT PS f u U38.1 U38.2.1 U38.2.2 k) := hD
    have hF := bd_at hF hU38
    refine lv_aload_n hx hb dX6_sit_41 rfl (lv_at hl 0 rfl) ?_
    refine va_get (D := (dC, dI)) (ci := 4) (v := .ref (aN 0)) (C := RX6) (T := TX6) (N := 6) hx hb htX6 (fun _ h => h) hown hK (fl_at hP 0 rfl) 0 rfl rfl 0 (by decide) (hts _ u_143) (fun _ h9 => h9) rfl dX6_sit_42 ?_
    refine lv_iload_n hx hb dX6_sit_45 rfl (lv_at hl 1 rfl) ?_
    refine lv_iload_n hx hb dX6_sit_46 rfl (lv_at hl 2 rfl) ?_
    refine lv_iload_n hx hb dX6_sit_47 rfl (lv_at hl 3 rfl) ?_
    refine k_bmutv (wc := [pW cI aN PN]) (W1 := (fun (v : PV) => [pW cI aN v])) (va_runV (As := [.int g, .int tb, .int z]) (rest := []) ⟨hx, hb, hml, hown, hts0⟩ (mX2_takeSeat l dC dI cI aN PN g tb z) (cwV 3 hts0 (gi_V u_654 u_262 u_263 u_2 u_264) rfl rfl rfl (by decide +kernel) ⟨Nat.le_of_ble_eq_true rfl, Nat.le_of_ble_eq_true rfl⟩) (pcM_V (ci := 2) (q0 := 0) (fl_at hP 1 rfl) (hK.sub (tys' := [(cI, .int)]) [0] rfl) hn (fl_D1 hD 1 rfl) rfl rfl) rfl rfl hl.1 rfl (lv_room (Nat.le_of_ble_eq_true rfl)) dX6_sit_48 ⟨Nat.le_of_ble_eq_true rfl, Nat.le_of_ble_eq_true rfl⟩) hP hD hS [1] (by decide) rfl (fun _ => rfl) (fun U48 H locs hU48 hP hD hS => ?_)
    have hP : va_P (dC, dI) vwCl (fW cI cP a0 aN aT aS t0 t1 t2 h0 h1 pa U48 PT PS f u U38.1 U38.2.1 U38.2.2 k) H := hP
    have hD : va_D A (fW cI cP a0 aN aT aS t0 t1 t2 h0 h1 pa U48 PT PS f u U38.1 U38.2.1 U38.2.2 k) := hD
    have hF := bd_at hF hU48
    refine lv_aload_n hx hb dX6_sit_51 rfl (lv_at hl 0 rfl) ?_
    refine va_get (D := (dC, dI)) (ci := 4) (v := .ref (aN 0)) (C := RX6) (T := TX6) (N := 6) hx hb htX6 (fun _ h => h) hown hK (fl_at hP 0 rfl) 0 rfl rfl 0 (by decide) (hts _ u_143) (fun _ h9 => h9) rfl dX6_sit_52 ?_
    refine k_calli (W.runS (As := [.ref (aN 0)]) (rest := []) ⟨hx, hb, hml, hown, hts0⟩ (mX4_byGuests l dC dI cI aN U48 ) (va_cwS 1 hts0 (gi_S u_346 u_347 u_15 u_348) rfl rfl rfl (by decide +kernel) ⟨Nat.le_of_ble_eq_true rfl, Nat.le_of_ble_eq_true rfl⟩) (pcR_S (fl_at hP 1 rfl) (hK.sub (tys' := [(cI, .int)]) [0] rfl) hn) rfl rfl hl.1 rfl (lv_room (Nat.le_of_ble_eq_true rfl)) dX6_sit_55 ⟨Nat.le_of_ble_eq_true rfl, Nat.le_of_ble_eq_true rfl⟩) ?_
    rw [hQ]
    refine vx_ret (W.widen (k := 3) (n := 18) (Nat.le_of_ble_eq_true rfl) (Nat.le_of_ble_eq_true rfl) ?_)
    exact W.iret (v := (fX4_byGuests U48)) hx hb hr (fun t ht hW => ⟨⟨(fX4_byGuests U48), (U48, U38.1, U38.2.1, U38.2.2), rfl, hF, toH ht hP⟩, hS.F ht⟩) hS.2.2 dX6_sit_58
  have hF := hF.trans (if_neg c_17)
  rw [hQ]
  exact k_throwS (cd := 1) (is := 158) (text := "the guest cannot take the seat") (by decide) hx hb hst hown hts hX hS (hl.1.trans hml.symm) (List.mem_of_getElem? (i := 9) rfl) dX6_sit_20 dX6_sit_23 dX6_sit_24 dX6_sit_26 dX6_sit_29 hout (Nat.le_of_ble_eq_true rfl) (Nat.le_of_ble_eq_true rfl) (Nat.le_of_ble_eq_true rfl) (Nat.le_of_ble_eq_true rfl) hlocks (xc_new hF hP hS) hS.2.2 (Nat.le_of_ble_eq_true rfl) (Nat.le_of_ble_eq_true rfl)

def fX6_rise (PN : PV) (Ps : Nat → PV) (oh : Nat) (vh : Nat) (g : Int32) : Nat ⊕ (Int32 × (PV × (Nat → PV) × Nat × Nat)) :=
  (if (fX6_needGuest PN g) = 0 then (if (fX2_isSitting PN g) = 0 then (Sum.inl 1) else (bd (fX0_save Ps oh vh PN) (fun U34 => (bd (fX2_standUp PN g) (fun U42 => (Sum.inr ((fX4_byGuests U42), (U42, U34.1, U34.2.1, U34.2.2)))))))) else (Sum.inl 2))
abbrev rmX6_rise : Room := { frames := 7, cells := 2, slots := 12, locals := 130 }
set_option maxHeartbeats 4000000 in
set_option maxRecDepth 100000 in
theorem mX6_rise (l : Launch) (hst : l.stackTraces = false) (dC : Nat → ClassId) (dI : Nat → Nat → Nat) (cI cP : ClassId) (a0 : Nat) (aN aT aS : Nat → Nat) (t0 t1 t2 h0 h1 : Nat) (pa : Nat → Nat → Nat) (PN PT PS : PV) (f : Nat → Int32) (u : Int32) (Ps : Nat → PV) (oh vh : Nat) (k : Int32) (g : Int32) (ho6 : oh < 6) (hv6 : vh ≤ 6) : vx_Met l yX6_rise (ws_ yX6_rise cX6_rise 2 (some .int)) rmX6_rise (pcX (dC, dI) [(cI, .int), (cP, .object "SupperSeats$Plan")] (fW cI cP a0 aN aT aS t0 t1 t2 h0 h1 pa PN PT PS f u Ps oh vh k) [.ref a0, .int g]) (va_Qi (fun (r9 : Int32) (u9 : PV × (Nat → PV) × Nat × Nat) => fX6_rise PN Ps oh vh g = Sum.inr (r9, u9)) (fun u9 t => va_P (dC, dI) vwCl ((fun (v9 : PV × (Nat → PV) × Nat × Nat) => fW cI cP a0 aN aT aS t0 t1 t2 h0 h1 pa v9.1 PT PS f u v9.2.1 v9.2.2.1 v9.2.2.2 k) u9) t.heap) (adr (fW cI cP a0 aN aT aS t0 t1 t2 h0 h1 pa PN PT PS f u Ps oh vh k))) (vx_X (fun c9 : Nat => fX6_rise PN Ps oh vh g = Sum.inl c9) (fun E c9 t => E = xname c9 ∧ va_P (dC, dI) vwCl (fW cI cP a0 aN aT aS t0 t1 t2 h0 h1 pa PN PT PS f u Ps oh vh k) t.heap) (adr (fW cI cP a0 aN aT aS t0 t1 t2 h0 h1 pa PN PT PS f u Ps oh vh k))) 2 12 (adr (fW cI cP a0 aN aT aS t0 t1 t2 h0 h1 pa PN PT PS f u Ps oh vh k)) := by
  refine vx_ofW (cc := cX6_rise) (maxL := 2) (ret := (some .int)) (by decide) rfl ?_
  intro p e s m args below meth c s₁ B hml hout hv
  obtain ⟨ha, hP, hK, hn, hD0, hX⟩ := hv
  have hx := B.exec
  have hb := B.bytes
  have hr := B.returns
  have hts0 := atoms_spec (ws := (ws_ yX6_rise cX6_rise 2 (some .int))) B.pre
  have hts : ∀ w ∈ lw_all, w.before args s = true := fun w h => hts0 w (List.mem_cons_of_mem _ h)
  have hown : s.vm.findClass RX6 = some m.cls := findClass_of_methodNamed B.named
  have hlocks := B.notSynchronized
  have htX6 : ∀ w ∈ wsX60, w.before args s = true := fun w h => hts w (wX6 w h)
  have hD := adr_self hD0
  obtain ⟨A, hA⟩ : ∃ A, A = adr (fW cI cP a0 aN aT aS t0 t1 t2 h0 h1 pa PN PT PS f u Ps oh vh k) := ⟨_, rfl⟩
  rw [← hA] at hD hX
  have hS : va_S A s.heap s.heap [] := va_S.rf
  obtain ⟨Q, hQ⟩ : ∃ Q, Q = vx_MQ below (va_Qi (fun (r9 : Int32) (u9 : PV × (Nat → PV) × Nat × Nat) => fX6_rise PN Ps oh vh g = Sum.inr (r9, u9)) (fun u9 t => va_P (dC, dI) vwCl ((fun (v9 : PV × (Nat → PV) × Nat × Nat) => fW cI cP a0 aN aT aS t0 t1 t2 h0 h1 pa v9.1 PT PS f u v9.2.1 v9.2.2.1 v9.2.2.2 k) u9) t.heap) (adr (fW cI cP a0 aN aT aS t0 t1 t2 h0 h1 pa PN PT PS f u Ps oh vh k))) (vx_X (fun c9 : Nat => fX6_rise PN Ps oh vh g = Sum.inl c9) (fun E c9 t => E = xname c9 ∧ va_P (dC, dI) vwCl (fW cI cP a0 aN aT aS t0 t1 t2 h0 h1 pa PN PT PS f u Ps oh vh k) t.heap) (adr (fW cI cP a0 aN aT aS t0 t1 t2 h0 h1 pa PN PT PS f u Ps oh vh k))) args s 2 12 (adr (fW cI cP a0 aN aT aS t0 t1 t2 h0 h1 pa PN PT PS f u Ps oh vh k)) := ⟨_, rfl⟩
  rw [← hQ]
  rw [← hA] at hQ
  have hl := lv_entry ([.ref a0, .int g]) (n := 2) (Nat.le_of_ble_eq_true rfl)
  rw [ha, lg_entry_eq, ← ha]
  generalize (lg_sl ([.ref a0, .int g]) ++ List.replicate (2 - (lg_sl ([.ref a0, .int g])).length) Slot.unset).toArray = ls at hl ⊢
  have hl : lv_has ls 2 [(0, .ref a0), (1, .int g)] := hl
  show W p l e rmX6_rise s m args below meth c s.heap [] 0 0 Q (F0 m 0 ls [])
  have hF : fX6_rise PN Ps oh vh g = fX6_rise PN Ps oh vh g := rfl
  refine lv_aload_n hx hb dX6_rise_0 rfl (lv_at hl 0 rfl) ?_
  refine lv_iload_n hx hb dX6_rise_1 rfl (lv_at hl 1 rfl) ?_
  refine k_need (F := (fX6_needGuest PN g)) (cd := 2) (vx_runV (As := [.int g]) (rest := []) ⟨hx, hb, hml, hown, hts0⟩ (mX6_needGuest l hst dC dI cI cP a0 aN aT aS t0 t1 t2 h0 h1 pa PN PT PS f u Ps oh vh k g) (cwV 1 hts0 (gi_V u_547 u_549 us_8 u_1 u_550) rfl rfl rfl (by decide +kernel) ⟨Nat.le_of_ble_eq_true rfl, Nat.le_of_ble_eq_true rfl⟩) (pcX_V (ci := 4) (q0 := 0) hP hK hn hD hX hS rfl rfl) rfl rfl hl.1 rfl (lv_room (Nat.le_of_ble_eq_true rfl)) dX6_rise_2 ⟨Nat.le_of_ble_eq_true rfl, Nat.le_of_ble_eq_true rfl⟩) hS hD (fun c_2 ce9 q9 H locs hP hS he9 hv9 hc9 => ?_) (fun c_2 H locs hP hS => ?_)
  · have hF := hF.trans (if_neg c_2)
    rw [hQ]
    exact vx_out (fun x9 hx9 => (hout x9 hx9).elim) hlocks he9 hv9 hc9 (xc_out hF hP hS) hS.2.2 (Nat.le_of_ble_eq_true rfl) (Nat.le_of_ble_eq_true rfl)
  have hF := hF.trans (if_pos c_2)
  refine lv_aload_n hx hb dX6_rise_5 rfl (lv_at hl 0 rfl) ?_
  refine va_get (D := (dC, dI)) (ci := 4) (v := .ref (aN 0)) (C := RX6) (T := TX6) (N := 6) hx hb htX6 (fun _ h => h) hown hK (fl_at hP 0 rfl) 0 rfl rfl 0 (by decide) (hts _ u_143) (fun _ h9 => h9) rfl dX6_rise_6 ?_
  refine lv_iload_n hx hb dX6_rise_9 rfl (lv_at hl 1 rfl) ?_
  refine k_callb (W.runV (As := [.int g]) (rest := []) ⟨hx, hb, hml, hown, hts0⟩ (mX2_isSitting l dC dI cI aN PN g) (cwV 1 hts0 (gi_V u_662 u_194 u_195 u_2 u_196) rfl rfl rfl (by decide +kernel) ⟨Nat.le_of_ble_eq_true rfl, Nat.le_of_ble_eq_true rfl⟩) (pcR_V (ci := 2) (q0 := 0) (fl_at hP 1 rfl) (hK.sub (tys' := [(cI, .int)]) [0] rfl) hn rfl rfl) rfl rfl hl.1 rfl (lv_room (Nat.le_of_ble_eq_true rfl)) dX6_rise_10 ⟨Nat.le_of_ble_eq_true rfl, Nat.le_of_ble_eq_true rfl⟩) (fun br10 => ?_)
  refine lv_if_ne (tgt := 26) hx hb dX6_rise_13 (by decide) (fun c_13 => ?_) (fun c_13 => ?_)
  · have hF := hF.trans (if_neg c_13)
    refine lv_aload_n hx hb dX6_rise_26 rfl (lv_at hl 0 rfl) ?_
    refine va_get (D := (dC, dI)) (ci := 4) (v := .ref h0) (C := RX6) (T := TX6) (N := 6) hx hb htX6 (fun _ h => h) hown hK (fl_at hP 0 rfl) 0 rfl rfl 3 (by decide) (hts _ u_146) (fun _ h9 => h9) rfl dX6_rise_27 ?_
    refine lv_aload_n hx hb dX6_rise_30 rfl (lv_at hl 0 rfl) ?_
    refine va_get (D := (dC, dI)) (ci := 4) (v := .ref (aN 0)) (C := RX6) (T := TX6) (N := 6) hx hb htX6 (fun _ h => h) hown hK (fl_at hP 0 rfl) 0 rfl rfl 0 (by decide) (hts _ u_143) (fun _ h9 => h9) rfl dX6_rise_31 ?_
    refine k_bmutv (wc := [hW cI cP h0 h1 pa Ps (nI oh) (nI vh), pW cI aN PN]) (W1 := (fun (v : (Nat → PV) × Nat × Nat) => [hW cI cP h0 h1 pa v.1 (nI v.2.1) (nI v.2.2), pW cI aN PN])) (va_runV (As := [.ref (aN 0)]) (rest := []) ⟨hx, hb, hml, hown, hts0⟩ (mX0_save l dC dI cI cP h0 h1 pa Ps oh vh aN PN  (by first | omega | assumption) (by first | omega | assumption)) (cwV 1 hts0 (gi_V u_166 u_167 u_168 u_5 u_169) rfl rfl rfl (by decide +kernel) ⟨Nat.le_of_ble_eq_true rfl, Nat.le_of_ble_eq_true rfl⟩) (pcM_V (ci := 0) (q0 := 0) (fl_sub (wc := [hW cI cP h0 h1 pa Ps (nI oh) (nI vh), pW cI aN PN]) hP [5, 1] rfl) hK hn (fl_D (wc := [hW cI cP h0 h1 pa Ps (nI oh) (nI vh), pW cI aN PN]) hD [5, 1] (by decide) rfl) rfl rfl) rfl rfl hl.1 rfl (lv_room (Nat.le_of_ble_eq_true rfl)) dX6_rise_34 ⟨Nat.le_of_ble_eq_true rfl, Nat.le_of_ble_eq_true rfl⟩) hP hD hS [5, 1] (by decide) rfl (fun _ => rfl) (fun U34 H locs hU34 hP hD hS => ?_)
    have hP : va_P (dC, dI) vwCl (fW cI cP a0 aN aT aS t0 t1 t2 h0 h1 pa PN PT PS f u U34.1 U34.2.1 U34.2.2 k) H := hP
    have hD : va_D A (fW cI cP a0 aN aT aS t0 t1 t2 h0 h1 pa PN PT PS f u U34.1 U34.2.1 U34.2.2 k) := hD
    have hF := bd_at hF hU34
    refine lv_aload_n hx hb dX6_rise_37 rfl (lv_at hl 0 rfl) ?_
    refine va_get (D := (dC, dI)) (ci := 4) (v := .ref (aN 0)) (C := RX6) (T := TX6) (N := 6) hx hb htX6 (fun _ h => h) hown hK (fl_at hP 0 rfl) 0 rfl rfl 0 (by decide) (hts _ u_143) (fun _ h9 => h9) rfl dX6_rise_38 ?_
    refine lv_iload_n hx hb dX6_rise_41 rfl (lv_at hl 1 rfl) ?_
    refine k_bmutv (wc := [pW cI aN PN]) (W1 := (fun (v : PV) => [pW cI aN v])) (va_runV (As := [.int g]) (rest := []) ⟨hx, hb, hml, hown, hts0⟩ (mX2_standUp l dC dI cI aN PN g) (cwV 1 hts0 (gi_V u_664 u_266 u_267 u_2 u_268) rfl rfl rfl (by decide +kernel) ⟨Nat.le_of_ble_eq_true rfl, Nat.le_of_ble_eq_true rfl⟩) (pcM_V (ci := 2) (q0 := 0) (fl_at hP 1 rfl) (hK.sub (tys' := [(cI, .int)]) [0] rfl) hn (fl_D1 hD 1 rfl) rfl rfl) rfl rfl hl.1 rfl (lv_room (Nat.le_of_ble_eq_true rfl)) dX6_rise_42 ⟨Nat.le_of_ble_eq_true rfl, Nat.le_of_ble_eq_true rfl⟩) hP hD hS [1] (by decide) rfl (fun _ => rfl) (fun U42 H locs hU42 hP hD hS => ?_)
    have hP : va_P (dC, dI) vwCl (fW cI cP a0 aN aT aS t0 t1 t2 h0 h1 pa U42 PT PS f u U34.1 U34.2.1 U34.2.2 k) H := hP
    have hD : va_D A (fW cI cP a0 aN aT aS t0 t1 t2 h0 h1 pa U42 PT PS f u U34.1 U34.2.1 U34.2.2 k) := hD
    have hF := bd_at hF hU42
    refine lv_aload_n hx hb dX6_rise_45 rfl (lv_at hl 0 rfl) ?_
    refine va_get (D := (dC, dI)) (ci := 4) (v := .ref (aN 0)) (C := RX6) (T := TX6) (N := 6) hx hb htX6 (fun _ h => h) hown hK (fl_at hP 0 rfl) 0 rfl rfl 0 (by decide) (hts _ u_143) (fun _ h9 => h9) rfl dX6_rise_46 ?_
    refine k_calli (W.runS (As := [.ref (aN 0)]) (rest := []) ⟨hx, hb, hml, hown, hts0⟩ (mX4_byGuests l dC dI cI aN U42 ) (va_cwS 1 hts0 (gi_S u_346 u_347 u_15 u_348) rfl rfl rfl (by decide +kernel) ⟨Nat.le_of_ble_eq_true rfl, Nat.le_of_ble_eq_true rfl⟩) (pcR_S (fl_at hP 1 rfl) (hK.sub (tys' := [(cI, .int)]) [0] rfl) hn) rfl rfl hl.1 rfl (lv_room (Nat.le_of_ble_eq_true rfl)) dX6_rise_49 ⟨Nat.le_of_ble_eq_true rfl, Nat.le_of_ble_eq_true rfl⟩) ?_
    rw [hQ]
    refine vx_ret (W.widen (k := 2) (n := 12) (Nat.le_of_ble_eq_true rfl) (Nat.le_of_ble_eq_true rfl) ?_)
    exact W.iret (v := (fX4_byGuests U42)) hx hb hr (fun t ht hW => ⟨⟨(fX4_byGuests U42), (U42, U34.1, U34.2.1, U34.2.2), rfl, hF, toH ht hP⟩, hS.F ht⟩) hS.2.2 dX6_rise_52
  have hF := hF.trans (if_pos c_13)
  rw [hQ]
  exact k_throwS (cd := 1) (is := 172) (text := "the guest stands") (by decide) hx hb hst hown hts hX hS (hl.1.trans hml.symm) (List.mem_of_getElem? (i := 10) rfl) dX6_rise_16 dX6_rise_19 dX6_rise_20 dX6_rise_22 dX6_rise_25 hout (Nat.le_of_ble_eq_true rfl) (Nat.le_of_ble_eq_true rfl) (Nat.le_of_ble_eq_true rfl) (Nat.le_of_ble_eq_true rfl) hlocks (xc_new hF hP hS) hS.2.2 (Nat.le_of_ble_eq_true rfl) (Nat.le_of_ble_eq_true rfl)

def fX6_swap (PN : PV) (PT : PV) (Ps : Nat → PV) (oh : Nat) (vh : Nat) (g : Int32) (h : Int32) : Nat ⊕ (Int32 × (PV × PV × (Nat → PV) × Nat × Nat)) :=
  (if (fX6_needGuest PN g) = 0 then (if (fX6_needGuest PN h) = 0 then (if g = h then (Sum.inl 0) else (bd (fX2_copyFrom PT PN) (fun U33 => (bd2 (fX2_exchange U33 g h) (fun r42 U42 => (if r42 = 0 then (Sum.inl 1) else (bd (fX0_save Ps oh vh PN) (fun U66 => (bd (fX2_copyFrom PN U42) (fun U77 => (Sum.inr ((fX4_byGuests U77), (U77, U42, U66.1, U66.2.1, U66.2.2))))))))))))) else (Sum.inl 2)) else (Sum.inl 2))
abbrev rmX6_swap : Room := { frames := 7, cells := 3, slots := 18, locals := 130 }
set_option maxHeartbeats 4000000 in
set_option maxRecDepth 100000 in
theorem mX6_swap (l : Launch) (hst : l.stackTraces = false) (dC : Nat → ClassId) (dI : Nat → Nat → Nat) (cI cP : ClassId) (a0 : Nat) (aN aT aS : Nat → Nat) (t0 t1 t2 h0 h1 : Nat) (pa : Nat → Nat → Nat) (PN PT PS : PV) (f : Nat → Int32) (u : Int32) (Ps : Nat → PV) (oh vh : Nat) (k : Int32) (g : Int32) (h : Int32) (ho6 : oh < 6) (hv6 : vh ≤ 6) : vx_Met l yX6_swap (ws_ yX6_swap cX6_swap 3 (some .int)) rmX6_swap (pcX (dC, dI) [(cI, .int), (cP, .object "SupperSeats$Plan")] (fW cI cP a0 aN aT aS t0 t1 t2 h0 h1 pa PN PT PS f u Ps oh vh k) [.ref a0, .int g, .int h]) (va_Qi (fun (r9 : Int32) (u9 : PV × PV × (Nat → PV) × Nat × Nat) => fX6_swap PN PT Ps oh vh g h = Sum.inr (r9, u9)) (fun u9 t => va_P (dC, dI) vwCl ((fun (v9 : PV × PV × (Nat → PV) × Nat × Nat) => fW cI cP a0 aN aT aS t0 t1 t2 h0 h1 pa v9.1 v9.2.1 PS f u v9.2.2.1 v9.2.2.2.1 v9.2.2.2.2 k) u9) t.heap) (adr (fW cI cP a0 aN aT aS t0 t1 t2 h0 h1 pa PN PT PS f u Ps oh vh k))) (vx_X (fun c9 : Nat => fX6_swap PN PT Ps oh vh g h = Sum.inl c9) (fun E c9 t => E = xname c9 ∧ ∃ P9 : PV, va_P (dC, dI) vwCl ((fun P9 : PV => fW cI cP a0 aN aT aS t0 t1 t2 h0 h1 pa PN P9 PS f u Ps oh vh k) P9) t.heap) (adr (fW cI cP a0 aN aT aS t0 t1 t2 h0 h1 pa PN PT PS f u Ps oh vh k))) 3 18 (adr (fW cI cP a0 aN aT aS t0 t1 t2 h0 h1 pa PN PT PS f u Ps oh vh k)) := by
  refine vx_ofW (cc := cX6_swap) (maxL := 3) (ret := (some .int)) (by decide) rfl ?_
  intro p e s m args below meth c s₁ B hml hout hv
  obtain ⟨ha, hP, hK, hn, hD0, hX⟩ := hv
  have hx := B.exec
  have hb := B.bytes
  have hr := B.returns
  have hts0 := atoms_spec (ws := (ws_ yX6_swap cX6_swap 3 (some .int))) B.pre
  have hts : ∀ w ∈ lw_all, w.before args s = true := fun w h => hts0 w (List.mem_cons_of_mem _ h)
  have hown : s.vm.findClass RX6 = some m.cls := findClass_of_methodNamed B.named
  have hlocks := B.notSynchronized
  have htX6 : ∀ w ∈ wsX60, w.before args s = true := fun w h => hts w (wX6 w h)
  have hD := adr_self hD0
  obtain ⟨A, hA⟩ : ∃ A, A = adr (fW cI cP a0 aN aT aS t0 t1 t2 h0 h1 pa PN PT PS f u Ps oh vh k) := ⟨_, rfl⟩
  rw [← hA] at hD hX
  have hS : va_S A s.heap s.heap [] := va_S.rf
  obtain ⟨Q, hQ⟩ : ∃ Q, Q = vx_MQ below (va_Qi (fun (r9 : Int32) (u9 : PV × PV × (Nat → PV) × Nat × Nat) => fX6_swap PN PT Ps oh vh g h = Sum.inr (r9, u9)) (fun u9 t => va_P (dC, dI) vwCl ((fun (v9 : PV × PV × (Nat → PV) × Nat × Nat) => fW cI cP a0 aN aT aS t0 t1 t2 h0 h1 pa v9.1 v9.2.1 PS f u v9.2.2.1 v9.2.2.2.1 v9.2.2.2.2 k) u9) t.heap) (adr (fW cI cP a0 aN aT aS t0 t1 t2 h0 h1 pa PN PT PS f u Ps oh vh k))) (vx_X (fun c9 : Nat => fX6_swap PN PT Ps oh vh g h = Sum.inl c9) (fun E c9 t => E = xname c9 ∧ ∃ P9 : PV, va_P (dC, dI) vwCl ((fun P9 : PV => fW cI cP a0 aN aT aS t0 t1 t2 h0 h1 pa PN P9 PS f u Ps oh vh k) P9) t.heap) (adr (fW cI cP a0 aN aT aS t0 t1 t2 h0 h1 pa PN PT PS f u Ps oh vh k))) args s 3 18 (adr (fW cI cP a0 aN aT aS t0 t1 t2 h0 h1 pa PN PT PS f u Ps oh vh k)) := ⟨_, rfl⟩
  rw [← hQ]
  rw [← hA] at hQ
  have hl := lv_entry ([.ref a0, .int g, .int h]) (n := 3) (Nat.le_of_ble_eq_true rfl)
  rw [ha, lg_entry_eq, ← ha]
  generalize (lg_sl ([.ref a0, .int g, .int h]) ++ List.replicate (3 - (lg_sl ([.ref a0, .int g, .int h])).length) Slot.unset).toArray = ls at hl ⊢
  have hl : lv_has ls 3 [(0, .ref a0), (1, .int g), (2, .int h)] := hl
  show W p l e rmX6_swap s m args below meth c s.heap [] 0 0 Q (F0 m 0 ls [])
  have hF : fX6_swap PN PT Ps oh vh g h = fX6_swap PN PT Ps oh vh g h := rfl
  refine lv_aload_n hx hb dX6_swap_0 rfl (lv_at hl 0 rfl) ?_
  refine lv_iload_n hx hb dX6_swap_1 rfl (lv_at hl 1 rfl) ?_
  refine k_need (F := (fX6_needGuest PN g)) (cd := 2) (vx_runV (As := [.int g]) (rest := []) ⟨hx, hb, hml, hown, hts0⟩ (mX6_needGuest l hst dC dI cI cP a0 aN aT aS t0 t1 t2 h0 h1 pa PN PT PS f u Ps oh vh k g) (cwV 1 hts0 (gi_V u_547 u_549 us_8 u_1 u_550) rfl rfl rfl (by decide +kernel) ⟨Nat.le_of_ble_eq_true rfl, Nat.le_of_ble_eq_true rfl⟩) (pcX_V (ci := 4) (q0 := 0) hP hK hn hD hX hS rfl rfl) rfl rfl hl.1 rfl (lv_room (Nat.le_of_ble_eq_true rfl)) dX6_swap_2 ⟨Nat.le_of_ble_eq_true rfl, Nat.le_of_ble_eq_true rfl⟩) hS hD (fun c_2 ce9 q9 H locs hP hS he9 hv9 hc9 => ?_) (fun c_2 H locs hP hS => ?_)
  · have hF := hF.trans (if_neg c_2)
    rw [hQ]
    exact vx_out (fun x9 hx9 => (hout x9 hx9).elim) hlocks he9 hv9 hc9 (xt_out (wT := (fun P9 : PV => fW cI cP a0 aN aT aS t0 t1 t2 h0 h1 pa PN P9 PS f u Ps oh vh k)) PT hF hP hS) hS.2.2 (Nat.le_of_ble_eq_true rfl) (Nat.le_of_ble_eq_true rfl)
  have hF := hF.trans (if_pos c_2)
  refine lv_aload_n hx hb dX6_swap_5 rfl (lv_at hl 0 rfl) ?_
  refine lv_iload_n hx hb dX6_swap_6 rfl (lv_at hl 2 rfl) ?_
  refine k_need (F := (fX6_needGuest PN h)) (cd := 2) (vx_runV (As := [.int h]) (rest := []) ⟨hx, hb, hml, hown, hts0⟩ (mX6_needGuest l hst dC dI cI cP a0 aN aT aS t0 t1 t2 h0 h1 pa PN PT PS f u Ps oh vh k h) (cwV 1 hts0 (gi_V u_547 u_549 us_8 u_1 u_550) rfl rfl rfl (by decide +kernel) ⟨Nat.le_of_ble_eq_true rfl, Nat.le_of_ble_eq_true rfl⟩) (pcX_V (ci := 4) (q0 := 0) hP hK hn hD hX hS rfl rfl) rfl rfl hl.1 rfl (lv_room (Nat.le_of_ble_eq_true rfl)) dX6_swap_7 ⟨Nat.le_of_ble_eq_true rfl, Nat.le_of_ble_eq_true rfl⟩) hS hD (fun c_7 ce9 q9 H locs hP hS he9 hv9 hc9 => ?_) (fun c_7 H locs hP hS => ?_)
  · have hF := hF.trans (if_neg c_7)
    rw [hQ]
    exact vx_out (fun x9 hx9 => (hout x9 hx9).elim) hlocks he9 hv9 hc9 (xt_out (wT := (fun P9 : PV => fW cI cP a0 aN aT aS t0 t1 t2 h0 h1 pa PN P9 PS f u Ps oh vh k)) PT hF hP hS) hS.2.2 (Nat.le_of_ble_eq_true rfl) (Nat.le_of_ble_eq_true rfl)
  have hF := hF.trans (if_pos c_7)
  refine lv_iload_n hx hb dX6_swap_10 rfl (lv_at hl 1 rfl) ?_
  refine lv_iload_n hx hb dX6_swap_11 rfl (lv_at hl 2 rfl) ?_
  refine lv_icmp_ne (tgt := 25) hx hb dX6_swap_12 (by decide) (fun c_12 => ?_) (fun c_12 => ?_)
  · have hF := hF.trans (if_neg c_12)
    refine lv_aload_n hx hb dX6_swap_25 rfl (lv_at hl 0 rfl) ?_
    refine va_get (D := (dC, dI)) (ci := 4) (v := .ref (aT 0)) (C := RX6) (T := TX6) (N := 6) hx hb htX6 (fun _ h => h) hown hK (fl_at hP 0 rfl) 0 rfl rfl 1 (by decide) (hts _ u_144) (fun _ h9 => h9) rfl dX6_swap_26 ?_
    refine lv_aload_n hx hb dX6_swap_29 rfl (lv_at hl 0 rfl) ?_
    refine va_get (D := (dC, dI)) (ci := 4) (v := .ref (aN 0)) (C := RX6) (T := TX6) (N := 6) hx hb htX6 (fun _ h => h) hown hK (fl_at hP 0 rfl) 0 rfl rfl 0 (by decide) (hts _ u_143) (fun _ h9 => h9) rfl dX6_swap_30 ?_
    refine k_bmutv (wc := [pW cI aT PT, pW cI aN PN]) (W1 := (fun (v : PV) => [pW cI aT v, pW cI aN PN])) (va_runV (As := [.ref (aN 0)]) (rest := []) ⟨hx, hb, hml, hown, hts0⟩ (mX2_copyFrom l dC dI cI aT PT aN PN ) (cwV 1 hts0 (gi_V u_321 u_175 u_176 u_2 u_177) rfl rfl rfl (by decide +kernel) ⟨Nat.le_of_ble_eq_true rfl, Nat.le_of_ble_eq_true rfl⟩) (pcM_V (ci := 2) (q0 := 0) (fl_sub (wc := [pW cI aT PT, pW cI aN PN]) hP [2, 1] rfl) (hK.sub (tys' := [(cI, .int)]) [0] rfl) hn (fl_D (wc := [pW cI aT PT, pW cI aN PN]) hD [2, 1] (by decide) rfl) rfl rfl) rfl rfl hl.1 rfl (lv_room (Nat.le_of_ble_eq_true rfl)) dX6_swap_33 ⟨Nat.le_of_ble_eq_true rfl, Nat.le_of_ble_eq_true rfl⟩) hP hD hS [2, 1] (by decide) rfl (fun _ => rfl) (fun U33 H locs hU33 hP hD hS => ?_)
    have hP : va_P (dC, dI) vwCl (fW cI cP a0 aN aT aS t0 t1 t2 h0 h1 pa PN U33 PS f u Ps oh vh k) H := hP
    have hD : va_D A (fW cI cP a0 aN aT aS t0 t1 t2 h0 h1 pa PN U33 PS f u Ps oh vh k) := hD
    have hF := bd_at hF hU33
    refine lv_aload_n hx hb dX6_swap_36 rfl (lv_at hl 0 rfl) ?_
    refine va_get (D := (dC, dI)) (ci := 4) (v := .ref (aT 0)) (C := RX6) (T := TX6) (N := 6) hx hb htX6 (fun _ h => h) hown hK (fl_at hP 0 rfl) 0 rfl rfl 1 (by decide) (hts _ u_144) (fun _ h9 => h9) rfl dX6_swap_37 ?_
    refine lv_iload_n hx hb dX6_swap_40 rfl (lv_at hl 1 rfl) ?_
    refine lv_iload_n hx hb dX6_swap_41 rfl (lv_at hl 2 rfl) ?_
    refine k_bmuti (wc := [pW cI aT U33]) (W1 := (fun (v : PV) => [pW cI aT v])) (va_runV (As := [.int g, .int h]) (rest := []) ⟨hx, hb, hml, hown, hts0⟩ (mX2_exchange l dC dI cI aT U33 g h) (cwV 2 hts0 (gi_V u_673 u_674 u_675 u_2 u_676) rfl rfl rfl (by decide +kernel) ⟨Nat.le_of_ble_eq_true rfl, Nat.le_of_ble_eq_true rfl⟩) (pcM_V (ci := 2) (q0 := 0) (fl_at hP 2 rfl) (hK.sub (tys' := [(cI, .int)]) [0] rfl) hn (fl_D1 hD 2 rfl) rfl rfl) rfl rfl hl.1 rfl (lv_room (Nat.le_of_ble_eq_true rfl)) dX6_swap_42 ⟨Nat.le_of_ble_eq_true rfl, Nat.le_of_ble_eq_true rfl⟩) hP hD hS [2] (by decide) rfl (fun _ => rfl) (fun r42 U42 H locs hU42 hP hD hS => ?_)
    obtain ⟨hU42, br42⟩ := hU42
    have hP : va_P (dC, dI) vwCl (fW cI cP a0 aN aT aS t0 t1 t2 h0 h1 pa PN U42 PS f u Ps oh vh k) H := hP
    have hD : va_D A (fW cI cP a0 aN aT aS t0 t1 t2 h0 h1 pa PN U42 PS f u Ps oh vh k) := hD
    have hF := bd2_at hF hU42
    refine lv_if_ne (tgt := 58) hx hb dX6_swap_45 (by decide) (fun c_45 => ?_) (fun c_45 => ?_)
    · have hF := hF.trans (if_neg c_45)
      refine lv_aload_n hx hb dX6_swap_58 rfl (lv_at hl 0 rfl) ?_
      refine va_get (D := (dC, dI)) (ci := 4) (v := .ref h0) (C := RX6) (T := TX6) (N := 6) hx hb htX6 (fun _ h => h) hown hK (fl_at hP 0 rfl) 0 rfl rfl 3 (by decide) (hts _ u_146) (fun _ h9 => h9) rfl dX6_swap_59 ?_
      refine lv_aload_n hx hb dX6_swap_62 rfl (lv_at hl 0 rfl) ?_
      refine va_get (D := (dC, dI)) (ci := 4) (v := .ref (aN 0)) (C := RX6) (T := TX6) (N := 6) hx hb htX6 (fun _ h => h) hown hK (fl_at hP 0 rfl) 0 rfl rfl 0 (by decide) (hts _ u_143) (fun _ h9 => h9) rfl dX6_swap_63 ?_
      refine k_bmutv (wc := [hW cI cP h0 h1 pa Ps (nI oh) (nI vh), pW cI aN PN]) (W1 := (fun (v : (Nat → PV) × Nat × Nat) => [hW cI cP h0 h1 pa v.1 (nI v.2.1) (nI v.2.2), pW cI aN PN])) (va_runV (As := [.ref (aN 0)]) (rest := []) ⟨hx, hb, hml, hown, hts0⟩ (mX0_save l dC dI cI cP h0 h1 pa Ps oh vh aN PN  (by first | omega | assumption) (by first | omega | assumption)) (cwV 1 hts0 (gi_V u_166 u_167 u_168 u_5 u_169) rfl rfl rfl (by decide +kernel) ⟨Nat.le_of_ble_eq_true rfl, Nat.le_of_ble_eq_true rfl⟩) (pcM_V (ci := 0) (q0 := 0) (fl_sub (wc := [hW cI cP h0 h1 pa Ps (nI oh) (nI vh), pW cI aN PN]) hP [5, 1] rfl) hK hn (fl_D (wc := [hW cI cP h0 h1 pa Ps (nI oh) (nI vh), pW cI aN PN]) hD [5, 1] (by decide) rfl) rfl rfl) rfl rfl hl.1 rfl (lv_room (Nat.le_of_ble_eq_true rfl)) dX6_swap_66 ⟨Nat.le_of_ble_eq_true rfl, Nat.le_of_ble_eq_true rfl⟩) hP hD hS [5, 1] (by decide) rfl (fun _ => rfl) (fun U66 H locs hU66 hP hD hS => ?_)
      have hP : va_P (dC, dI) vwCl (fW cI cP a0 aN aT aS t0 t1 t2 h0 h1 pa PN U42 PS f u U66.1 U66.2.1 U66.2.2 k) H := hP
      have hD : va_D A (fW cI cP a0 aN aT aS t0 t1 t2 h0 h1 pa PN U42 PS f u U66.1 U66.2.1 U66.2.2 k) := hD
      have hF := bd_at hF hU66
      refine lv_aload_n hx hb dX6_swap_69 rfl (lv_at hl 0 rfl) ?_
      refine va_get (D := (dC, dI)) (ci := 4) (v := .ref (aN 0)) (C := RX6) (T := TX6) (N := 6) hx hb htX6 (fun _ h => h) hown hK (fl_at hP 0 rfl) 0 rfl rfl 0 (by decide) (hts _ u_143) (fun _ h9 => h9) rfl dX6_swap_70 ?_
      refine lv_aload_n hx hb dX6_swap_73 rfl (lv_at hl 0 rfl) ?_
      refine va_get (D := (dC, dI)) (ci := 4) (v := .ref (aT 0)) (C := RX6) (T := TX6) (N := 6) hx hb htX6 (fun _ h => h) hown hK (fl_at hP 0 rfl) 0 rfl rfl 1 (by decide) (hts _ u_144) (fun _ h9 => h9) rfl dX6_swap_74 ?_
      refine k_bmutv (wc := [pW cI aN PN, pW cI aT U42]) (W1 := (fun (v : PV) => [pW cI aN v, pW cI aT U42])) (va_runV (As := [.ref (aT 0)]) (rest := []) ⟨hx, hb, hml, hown, hts0⟩ (mX2_copyFrom l dC dI cI aN PN aT U42 ) (cwV 1 hts0 (gi_V u_321 u_175 u_176 u_2 u_177) rfl rfl rfl (by decide +kernel) ⟨Nat.le_of_ble_eq_true rfl, Nat.le_of_ble_eq_true rfl⟩) (pcM_V (ci := 2) (q0 := 0) (fl_sub (wc := [pW cI aN PN, pW cI aT U42]) hP [1, 2] rfl) (hK.sub (tys' := [(cI, .int)]) [0] rfl) hn (fl_D (wc := [pW cI aN PN, pW cI aT U42]) hD [1, 2] (by decide) rfl) rfl rfl) rfl rfl hl.1 rfl (lv_room (Nat.le_of_ble_eq_true rfl)) dX6_swap_77 ⟨Nat.le_of_ble_eq_true rfl, Nat.le_of_ble_eq_true rfl⟩) hP hD hS [1, 2] (by decide) rfl (fun _ => rfl) (fun U77 H locs hU77 hP hD hS => ?_)
      have hP : va_P (dC, dI) vwCl (fW cI cP a0 aN aT aS t0 t1 t2 h0 h1 pa U77 U42 PS f u U66.1 U66.2.1 U66.2.2 k) H := hP
      have hD : va_D A (fW cI cP a0 aN aT aS t0 t1 t2 h0 h1 pa U77 U42 PS f u U66.1 U66.2.1 U66.2.2 k) := hD
      have hF := bd_at hF hU77
      refine lv_aload_n hx hb dX6_swap_80 rfl (lv_at hl 0 rfl) ?_
      refine va_get (D := (dC, dI)) (ci := 4) (v := .ref (aN 0)) (C := RX6) (T := TX6) (N := 6) hx hb htX6 (fun _ h => h) hown hK (fl_at hP 0 rfl) 0 rfl rfl 0 (by decide) (hts _ u_143) (fun _ h9 => h9) rfl dX6_swap_81 ?_
      refine k_calli (W.runS (As := [.ref (aN 0)]) (rest := []) ⟨hx, hb, hml, hown, hts0⟩ (mX4_byGuests l dC dI cI aN U77 ) (va_cwS 1 hts0 (gi_S u_346 u_347 u_15 u_348) rfl rfl rfl (by decide +kernel) ⟨Nat.le_of_ble_eq_true rfl, Nat.le_of_ble_eq_true rfl⟩) (pcR_S (fl_at hP 1 rfl) (hK.sub (tys' := [(cI, .int)]) [0] rfl) hn) rfl rfl hl.1 rfl (lv_room (Nat.le_of_ble_eq_true rfl)) dX6_swap_84 ⟨Nat.le_of_ble_eq_true rfl, Nat.le_of_ble_eq_true rfl⟩) ?_
      rw [hQ]
      refine vx_ret (W.widen (k := 3) (n := 18) (Nat.le_of_ble_eq_true rfl) (Nat.le_of_ble_eq_true rfl) ?_)
      exact W.iret (v := (fX4_byGuests U77)) hx hb hr (fun t ht hW => ⟨⟨(fX4_byGuests U77), (U77, U42, U66.1, U66.2.1, U66.2.2), rfl, hF, toH ht hP⟩, hS.F ht⟩) hS.2.2 dX6_swap_87
    have hF := hF.trans (if_pos c_45)
    rw [hQ]
    exact k_throwS (cd := 1) (is := 185) (text := "one of both stands, or cannot take the seat") (by decide) hx hb hst hown hts hX hS (hl.1.trans hml.symm) (List.mem_of_getElem? (i := 12) rfl) dX6_swap_48 dX6_swap_51 dX6_swap_52 dX6_swap_54 dX6_swap_57 hout (Nat.le_of_ble_eq_true rfl) (Nat.le_of_ble_eq_true rfl) (Nat.le_of_ble_eq_true rfl) (Nat.le_of_ble_eq_true rfl) hlocks (xt_new (wT := (fun P9 : PV => fW cI cP a0 aN aT aS t0 t1 t2 h0 h1 pa PN P9 PS f u Ps oh vh k)) U42 hF hP hS) hS.2.2 (Nat.le_of_ble_eq_true rfl) (Nat.le_of_ble_eq_true rfl)
  have hF := hF.trans (if_pos c_12)
  rw [hQ]
  exact k_throwS (cd := 0) (is := 177) (text := "both are the same") (by decide) hx hb hst hown hts hX hS (hl.1.trans hml.symm) (List.mem_of_getElem? (i := 11) rfl) dX6_swap_15 dX6_swap_18 dX6_swap_19 dX6_swap_21 dX6_swap_24 hout (Nat.le_of_ble_eq_true rfl) (Nat.le_of_ble_eq_true rfl) (Nat.le_of_ble_eq_true rfl) (Nat.le_of_ble_eq_true rfl) hlocks (xt_new (wT := (fun P9 : PV => fW cI cP a0 aN aT aS t0 t1 t2 h0 h1 pa PN P9 PS f u Ps oh vh k)) PT hF hP hS) hS.2.2 (Nat.le_of_ble_eq_true rfl) (Nat.le_of_ble_eq_true rfl)

def fX6_restore (PN : PV) (PS : PV) (Ps : Nat → PV) (oh : Nat) (vh : Nat) (k : Int32) : Nat ⊕ (Int32 × (PV × (Nat → PV) × Nat × Nat)) :=
  (if k = 0 then (Sum.inl 1) else (bd (fX0_save Ps oh vh PN) (fun U25 => (bd (fX2_copyFrom PN PS) (fun U36 => (Sum.inr ((fX1_length 16 (U36 9) (U36 10 5)), (U36, U25.1, U25.2.1, U25.2.2))))))))
abbrev rmX6_restore : Room := { frames := 6, cells := 1, slots := 6, locals := 104 }
set_option maxHeartbeats 4000000 in
set_option maxRecDepth 100000 in
theorem mX6_restore (l : Launch) (hst : l.stackTraces = false) (dC : Nat → ClassId) (dI : Nat → Nat → Nat) (cI cP : ClassId) (a0 : Nat) (aN aT aS : Nat → Nat) (t0 t1 t2 h0 h1 : Nat) (pa : Nat → Nat → Nat) (PN PT PS : PV) (f : Nat → Int32) (u : Int32) (Ps : Nat → PV) (oh vh : Nat) (k : Int32) (ho6 : oh < 6) (hv6 : vh ≤ 6) : vx_Met l yX6_restore (ws_ yX6_restore cX6_restore 1 (some .int)) rmX6_restore (pcX (dC, dI) [(cI, .int), (cP, .object "SupperSeats$Plan")] (fW cI cP a0 aN aT aS t0 t1 t2 h0 h1 pa PN PT PS f u Ps oh vh k) [.ref a0]) (va_Qi (fun (r9 : Int32) (u9 : PV × (Nat → PV) × Nat × Nat) => fX6_restore PN PS Ps oh vh k = Sum.inr (r9, u9)) (fun u9 t => va_P (dC, dI) vwCl ((fun (v9 : PV × (Nat → PV) × Nat × Nat) => fW cI cP a0 aN aT aS t0 t1 t2 h0 h1 pa v9.1 PT PS f u v9.2.1 v9.2.2.1 v9.2.2.2 k) u9) t.heap) (adr (fW cI cP a0 aN aT aS t0 t1 t2 h0 h1 pa PN PT PS f u Ps oh vh k))) (vx_X (fun c9 : Nat => fX6_restore PN PS Ps oh vh k = Sum.inl c9) (fun E c9 t => E = xname c9 ∧ va_P (dC, dI) vwCl (fW cI cP a0 aN aT aS t0 t1 t2 h0 h1 pa PN PT PS f u Ps oh vh k) t.heap) (adr (fW cI cP a0 aN aT aS t0 t1 t2 h0 h1 pa PN PT PS f u Ps oh vh k))) 1 6 (adr (fW cI cP a0 aN aT aS t0 t1 t2 h0 h1 pa PN PT PS f u Ps oh vh k)) := by
  refine vx_ofW (cc := cX6_restore) (maxL := 1) (ret := (some .int)) (by decide) rfl ?_
  intro p e s m args below meth c s₁ B hml hout hv
  obtain ⟨ha, hP, hK, hn, hD0, hX⟩ := hv
  have hx := B.exec
  have hb := B.bytes
  have hr := B.returns
  have hts0 := atoms_spec (ws := (ws_ yX6_restore cX6_restore 1 (some .int))) B.pre
  have hts : ∀ w ∈ lw_all, w.before args s = true := fun w h => hts0 w (List.mem_cons_of_mem _ h)
  have hown : s.vm.findClass RX6 = some m.cls := findClass_of_methodNamed B.named
  have hlocks := B.notSynchronized
  have htX6 : ∀ w ∈ wsX60, w.before args s = true := fun w h => hts w (wX6 w h)
  have htX2 : ∀ w ∈ wsX20, w.before args s = true := fun w h => hts w (wX2 w h)
  have hD := adr_self hD0
  obtain ⟨A, hA⟩ : ∃ A, A = adr (fW cI cP a0 aN aT aS t0 t1 t2 h0 h1 pa PN PT PS f u Ps oh vh k) := ⟨_, rfl⟩
  rw [← hA] at hD hX
  have hS : va_S A s.heap s.heap [] := va_S.rf
  obtain ⟨Q, hQ⟩ : ∃ Q, Q = vx_MQ below (va_Qi (fun (r9 : Int32) (u9 : PV × (Nat → PV) × Nat × Nat) => fX6_restore PN PS Ps oh vh k = Sum.inr (r9, u9)) (fun u9 t => va_P (dC, dI) vwCl ((fun (v9 : PV × (Nat → PV) × Nat × Nat) => fW cI cP a0 aN aT aS t0 t1 t2 h0 h1 pa v9.1 PT PS f u v9.2.1 v9.2.2.1 v9.2.2.2 k) u9) t.heap) (adr (fW cI cP a0 aN aT aS t0 t1 t2 h0 h1 pa PN PT PS f u Ps oh vh k))) (vx_X (fun c9 : Nat => fX6_restore PN PS Ps oh vh k = Sum.inl c9) (fun E c9 t => E = xname c9 ∧ va_P (dC, dI) vwCl (fW cI cP a0 aN aT aS t0 t1 t2 h0 h1 pa PN PT PS f u Ps oh vh k) t.heap) (adr (fW cI cP a0 aN aT aS t0 t1 t2 h0 h1 pa PN PT PS f u Ps oh vh k))) args s 1 6 (adr (fW cI cP a0 aN aT aS t0 t1 t2 h0 h1 pa PN PT PS f u Ps oh vh k)) := ⟨_, rfl⟩
  rw [← hQ]
  rw [← hA] at hQ
  have hl := lv_entry ([.ref a0]) (n := 1) (Nat.le_of_ble_eq_true rfl)
  rw [ha, lg_entry_eq, ← ha]
  generalize (lg_sl ([.ref a0]) ++ List.replicate (1 - (lg_sl ([.ref a0])).length) Slot.unset).toArray = ls at hl ⊢
  have hl : lv_has ls 1 [(0, .ref a0)] := hl
  show W p l e rmX6_restore s m args below meth c s.heap [] 0 0 Q (F0 m 0 ls [])
  have hF : fX6_restore PN PS Ps oh vh k = fX6_restore PN PS Ps oh vh k := rfl
  refine lv_aload_n hx hb dX6_restore_0 rfl (lv_at hl 0 rfl) ?_
  refine va_get (D := (dC, dI)) (ci := 4) (v := .int k) (C := RX6) (T := TX6) (N := 6) hx hb htX6 (fun _ h => h) hown hK (fl_at hP 0 rfl) 0 rfl rfl 5 (by decide) (hts _ u_148) (fun _ h9 => h9) rfl dX6_restore_1 ?_
  refine lv_if_ne (tgt := 17) hx hb dX6_restore_4 (by decide) (fun c_4 => ?_) (fun c_4 => ?_)
  · have hF := hF.trans (if_neg c_4)
    refine lv_aload_n hx hb dX6_restore_17 rfl (lv_at hl 0 rfl) ?_
    refine va_get (D := (dC, dI)) (ci := 4) (v := .ref h0) (C := RX6) (T := TX6) (N := 6) hx hb htX6 (fun _ h => h) hown hK (fl_at hP 0 rfl) 0 rfl rfl 3 (by decide) (hts _ u_146) (fun _ h9 => h9) rfl dX6_restore_18 ?_
    refine lv_aload_n hx hb dX6_restore_21 rfl (lv_at hl 0 rfl) ?_
    refine va_get (D := (dC, dI)) (ci := 4) (v := .ref (aN 0)) (C := RX6) (T := TX6) (N := 6) hx hb htX6 (fun _ h => h) hown hK (fl_at hP 0 rfl) 0 rfl rfl 0 (by decide) (hts _ u_143) (fun _ h9 => h9) rfl dX6_restore_22 ?_
    refine k_bmutv (wc := [hW cI cP h0 h1 pa Ps (nI oh) (nI vh), pW cI aN PN]) (W1 := (fun (v : (Nat → PV) × Nat × Nat) => [hW cI cP h0 h1 pa v.1 (nI v.2.1) (nI v.2.2), pW cI aN PN])) (va_runV (As := [.ref (aN 0)]) (rest := []) ⟨hx, hb, hml, hown, hts0⟩ (mX0_save l dC dI cI cP h0 h1 pa Ps oh vh aN PN  (by first | omega | assumption) (by first | omega | assumption)) (cwV 1 hts0 (gi_V u_166 u_167 u_168 u_5 u_169) rfl rfl rfl (by decide +kernel) ⟨Nat.le_of_ble_eq_true rfl, Nat.le_of_ble_eq_true rfl⟩) (pcM_V (ci := 0) (q0 := 0) (fl_sub (wc := [hW cI cP h0 h1 pa Ps (nI oh) (nI vh), pW cI aN PN]) hP [5, 1] rfl) hK hn (fl_D (wc := [hW cI cP h0 h1 pa Ps (nI oh) (nI vh), pW cI aN PN]) hD [5, 1] (by decide) rfl) rfl rfl) rfl rfl hl.1 rfl (lv_room (Nat.le_of_ble_eq_true rfl)) dX6_restore_25 ⟨Nat.le_of_ble_eq_true rfl, Nat.le_of_ble_eq_true rfl⟩) hP hD hS [5, 1] (by decide) rfl (fun _ => rfl) (fun U25 H locs hU25 hP hD hS => ?_)
    have hP : va_P (dC, dI) vwCl (fW cI cP a0 aN aT aS t0 t1 t2 h0 h1 pa PN PT PS f u U25.1 U25.2.1 U25.2.2 k) H := hP
    have hD : va_D A (fW cI cP a0 aN aT aS t0 t1 t2 h0 h1 pa PN PT PS f u U25.1 U25.2.1 U25.2.2 k) := hD
    have hF := bd_at hF hU25
    refine lv_aload_n hx hb dX6_restore_28 rfl (lv_at hl 0 rfl) ?_
    refine va_get (D := (dC, dI)) (ci := 4) (v := .ref (aN 0)) (C := RX6) (T := TX6) (N := 6) hx hb htX6 (fun _ h => h) hown hK (fl_at hP 0 rfl) 0 rfl rfl 0 (by decide) (hts _ u_143) (fun _ h9 => h9) rfl dX6_restore_29 ?_
    refine lv_aload_n hx hb dX6_restore_32 rfl (lv_at hl 0 rfl) ?_
    refine va_get (D := (dC, dI)) (ci := 4) (v := .ref (aS 0)) (C := RX6) (T := TX6) (N := 6) hx hb htX6 (fun _ h => h) hown hK (fl_at hP 0 rfl) 0 rfl rfl 2 (by decide) (hts _ u_145) (fun _ h9 => h9) rfl dX6_restore_33 ?_
    refine k_bmutv (wc := [pW cI aN PN, pW cI aS PS]) (W1 := (fun (v : PV) => [pW cI aN v, pW cI aS PS])) (va_runV (As := [.ref (aS 0)]) (rest := []) ⟨hx, hb, hml, hown, hts0⟩ (mX2_copyFrom l dC dI cI aN PN aS PS ) (cwV 1 hts0 (gi_V u_321 u_175 u_176 u_2 u_177) rfl rfl rfl (by decide +kernel) ⟨Nat.le_of_ble_eq_true rfl, Nat.le_of_ble_eq_true rfl⟩) (pcM_V (ci := 2) (q0 := 0) (fl_sub (wc := [pW cI aN PN, pW cI aS PS]) hP [1, 3] rfl) (hK.sub (tys' := [(cI, .int)]) [0] rfl) hn (fl_D (wc := [pW cI aN PN, pW cI aS PS]) hD [1, 3] (by decide) rfl) rfl rfl) rfl rfl hl.1 rfl (lv_room (Nat.le_of_ble_eq_true rfl)) dX6_restore_36 ⟨Nat.le_of_ble_eq_true rfl, Nat.le_of_ble_eq_true rfl⟩) hP hD hS [1, 3] (by decide) rfl (fun _ => rfl) (fun U36 H locs hU36 hP hD hS => ?_)
    have hP : va_P (dC, dI) vwCl (fW cI cP a0 aN aT aS t0 t1 t2 h0 h1 pa U36 PT PS f u U25.1 U25.2.1 U25.2.2 k) H := hP
    have hD : va_D A (fW cI cP a0 aN aT aS t0 t1 t2 h0 h1 pa U36 PT PS f u U25.1 U25.2.1 U25.2.2 k) := hD
    have hF := bd_at hF hU36
    refine lv_aload_n hx hb dX6_restore_39 rfl (lv_at hl 0 rfl) ?_
    refine va_get (D := (dC, dI)) (ci := 4) (v := .ref (aN 0)) (C := RX6) (T := TX6) (N := 6) hx hb htX6 (fun _ h => h) hown hK (fl_at hP 0 rfl) 0 rfl rfl 0 (by decide) (hts _ u_143) (fun _ h9 => h9) rfl dX6_restore_40 ?_
    refine va_getN (D := (dC, dI)) (ci := 2) (v := .ref (aN 11)) (C := RX2) (T := TX2) (N := 14) hx hb htX2 (fun _ h => h) hown hK (fl_at hP 1 rfl) 0 rfl rfl 9 (by decide) (va_Nw.use rfl (hn _ (List.mem_of_getElem? (i := 13) rfl))) (fun _ h9 => h9) rfl dX6_restore_43 ?_
    refine k_calli (W.runV (As := []) (rest := []) ⟨hx, hb, hml, hown, hts0⟩ (mX1_length l dC dI cI (aN 11) (aN 12) 16 (by decide) (U36 9) (U36 10 5) ) (cwV 0 hts0 (gi_V u_290 u_224 u_225 u_3 u_226) rfl rfl rfl (by decide +kernel) ⟨Nat.le_of_ble_eq_true rfl, Nat.le_of_ble_eq_true rfl⟩) (pcR_V (ci := 1) (q0 := 0) ((fl_at hP 1 rfl).sub (ws' := lW cI (aN 11) (aN 12) 16 (U36 9) (U36 10 5)) [11, 12] rfl) (hK.sub (tys' := [(cI, .int)]) [0] rfl) hn rfl rfl) rfl rfl hl.1 rfl (lv_room (Nat.le_of_ble_eq_true rfl)) dX6_restore_46 ⟨Nat.le_of_ble_eq_true rfl, Nat.le_of_ble_eq_true rfl⟩) ?_
    rw [hQ]
    refine vx_ret (W.widen (k := 1) (n := 6) (Nat.le_of_ble_eq_true rfl) (Nat.le_of_ble_eq_true rfl) ?_)
    exact W.iret (v := (fX1_length 16 (U36 9) (U36 10 5))) hx hb hr (fun t ht hW => ⟨⟨(fX1_length 16 (U36 9) (U36 10 5)), (U36, U25.1, U25.2.1, U25.2.2), rfl, hF, toH ht hP⟩, hS.F ht⟩) hS.2.2 dX6_restore_49
  have hF := hF.trans (if_pos c_4)
  rw [hQ]
  exact k_throwS (cd := 1) (is := 231) (text := "there is no snapshot") (by decide) hx hb hst hown hts hX hS (hl.1.trans hml.symm) (List.mem_of_getElem? (i := 18) rfl) dX6_restore_7 dX6_restore_10 dX6_restore_11 dX6_restore_13 dX6_restore_16 hout (Nat.le_of_ble_eq_true rfl) (Nat.le_of_ble_eq_true rfl) (Nat.le_of_ble_eq_true rfl) (Nat.le_of_ble_eq_true rfl) hlocks (xc_new hF hP hS) hS.2.2 (Nat.le_of_ble_eq_true rfl) (Nat.le_of_ble_eq_true rfl)

def fX6_undo (PN : PV) (Ps : Nat → PV) (oh : Nat) (vh : Nat) : Nat ⊕ (Int32 × (PV × Nat)) :=
  (if (fX0_length Ps oh vh) = 0 then (Sum.inl 1) else (bd (fX0_takeLatest Ps oh vh PN) (fun U28 => (Sum.inr ((fX0_length Ps oh U28.2), (U28.1, U28.2))))))
abbrev rmX6_undo : Room := { frames := 6, cells := 1, slots := 6, locals := 104 }
set_option maxHeartbeats 4000000 in
set_option maxRecDepth 100000 in
theorem mX6_undo (l : Launch) (hst : l.stackTraces = false) (dC : Nat → ClassId) (dI : Nat → Nat → Nat) (cI cP : ClassId) (a0 : Nat) (aN aT aS : Nat → Nat) (t0 t1 t2 h0 h1 : Nat) (pa : Nat → Nat → Nat) (PN PT PS : PV) (f : Nat → Int32) (u : Int32) (Ps : Nat → PV) (oh vh : Nat) (k : Int32) (ho6 : oh < 6) (hv6 : vh ≤ 6) : vx_Met l yX6_undo (ws_ yX6_undo cX6_undo 1 (some .int)) rmX6_undo (pcX (dC, dI) [(cI, .int), (cP, .object "SupperSeats$Plan")] (fW cI cP a0 aN aT aS t0 t1 t2 h0 h1 pa PN PT PS f u Ps oh vh k) [.ref a0]) (va_Qi (fun (r9 : Int32) (u9 : PV × Nat) => fX6_undo PN Ps oh vh = Sum.inr (r9, u9)) (fun u9 t => va_P (dC, dI) vwCl ((fun (v9 : PV × Nat) => fW cI cP a0 aN aT aS t0 t1 t2 h0 h1 pa v9.1 PT PS f u Ps oh v9.2 k) u9) t.heap) (adr (fW cI cP a0 aN aT aS t0 t1 t2 h0 h1 pa PN PT PS f u Ps oh vh k))) (vx_X (fun c9 : Nat => fX6_undo PN Ps oh vh = Sum.inl c9) (fun E c9 t => E = xname c9 ∧ va_P (dC, dI) vwCl (fW cI cP a0 aN aT aS t0 t1 t2 h0 h1 pa PN PT PS f u Ps oh vh k) t.heap) (adr (fW cI cP a0 aN aT aS t0 t1 t2 h0 h1 pa PN PT PS f u Ps oh vh k))) 1 6 (adr (fW cI cP a0 aN aT aS t0 t1 t2 h0 h1 pa PN PT PS f u Ps oh vh k)) := by
  refine vx_ofW (cc := cX6_undo) (maxL := 1) (ret := (some .int)) (by decide) rfl ?_
  intro p e s m args below meth c s₁ B hml hout hv
  obtain ⟨ha, hP, hK, hn, hD0, hX⟩ := hv
  have hx := B.exec
  have hb := B.bytes
  have hr := B.returns
  have hts0 := atoms_spec (ws := (ws_ yX6_undo cX6_undo 1 (some .int))) B.pre
  have hts : ∀ w ∈ lw_all, w.before args s = true := fun w h => hts0 w (List.mem_cons_of_mem _ h)
  have hown : s.vm.findClass RX6 = some m.cls := findClass_of_methodNamed B.named
  have hlocks := B.notSynchronized
  have htX6 : ∀ w ∈ wsX60, w.before args s = true := fun w h => hts w (wX6 w h)
  have hD := adr_self hD0
  obtain ⟨A, hA⟩ : ∃ A, A = adr (fW cI cP a0 aN aT aS t0 t1 t2 h0 h1 pa PN PT PS f u Ps oh vh k) := ⟨_, rfl⟩
  rw [← hA] at hD hX
  have hS : va_S A s.heap s.heap [] := va_S.rf
  obtain ⟨Q, hQ⟩ : ∃ Q, Q = vx_MQ below (va_Qi (fun (r9 : Int32) (u9 : PV × Nat) => fX6_undo PN Ps oh vh = Sum.inr (r9, u9)) (fun u9 t => va_P (dC, dI) vwCl ((fun (v9 : PV × Nat) => fW cI cP a0 aN aT aS t0 t1 t2 h0 h1 pa v9.1 PT PS f u Ps oh v9.2 k) u9) t.heap) (adr (fW cI cP a0 aN aT aS t0 t1 t2 h0 h1 pa PN PT PS f u Ps oh vh k))) (vx_X (fun c9 : Nat => fX6_undo PN Ps oh vh = Sum.inl c9) (fun E c9 t => E = xname c9 ∧ va_P (dC, dI) vwCl (fW cI cP a0 aN aT aS t0 t1 t2 h0 h1 pa PN PT PS f u Ps oh vh k) t.heap) (adr (fW cI cP a0 aN aT aS t0 t1 t2 h0 h1 pa PN PT PS f u Ps oh vh k))) args s 1 6 (adr (fW cI cP a0 aN aT aS t0 t1 t2 h0 h1 pa PN PT PS f u Ps oh vh k)) := ⟨_, rfl⟩
  rw [← hQ]
  rw [← hA] at hQ
  have hl := lv_entry ([.ref a0]) (n := 1) (Nat.le_of_ble_eq_true rfl)
  rw [ha, lg_entry_eq, ← ha]
  generalize (lg_sl ([.ref a0]) ++ List.replicate (1 - (lg_sl ([.ref a0])).length) Slot.unset).toArray = ls at hl ⊢
  have hl : lv_has ls 1 [(0, .ref a0)] := hl
  show W p l e rmX6_undo s m args below meth c s.heap [] 0 0 Q (F0 m 0 ls [])
  have hF : fX6_undo PN Ps oh vh = fX6_undo PN Ps oh vh := rfl
  refine lv_aload_n hx hb dX6_undo_0 rfl (lv_at hl 0 rfl) ?_
  refine va_get (D := (dC, dI)) (ci := 4) (v := .ref h0) (C := RX6) (T := TX6) (N := 6) hx hb htX6 (fun _ h => h) hown hK (fl_at hP 0 rfl) 0 rfl rfl 3 (by decide) (hts _ u_146) (fun _ h9 => h9) rfl dX6_undo_1 ?_
  refine k_calli (W.runV (As := []) (rest := []) ⟨hx, hb, hml, hown, hts0⟩ (mX0_length l dC dI cI cP h0 h1 pa Ps oh vh ) (cwV 0 hts0 (gi_V u_360 u_361 u_362 u_5 u_363) rfl rfl rfl (by decide +kernel) ⟨Nat.le_of_ble_eq_true rfl, Nat.le_of_ble_eq_true rfl⟩) (pcR_V (ci := 0) (q0 := 0) (fl_at hP 5 rfl) hK hn rfl rfl) rfl rfl hl.1 rfl (lv_room (Nat.le_of_ble_eq_true rfl)) dX6_undo_4 ⟨Nat.le_of_ble_eq_true rfl, Nat.le_of_ble_eq_true rfl⟩) ?_
  refine lv_if_ne (tgt := 20) hx hb dX6_undo_7 (by decide) (fun c_7 => ?_) (fun c_7 => ?_)
  · have hF := hF.trans (if_neg c_7)
    refine lv_aload_n hx hb dX6_undo_20 rfl (lv_at hl 0 rfl) ?_
    refine va_get (D := (dC, dI)) (ci := 4) (v := .ref h0) (C := RX6) (T := TX6) (N := 6) hx hb htX6 (fun _ h => h) hown hK (fl_at hP 0 rfl) 0 rfl rfl 3 (by decide) (hts _ u_146) (fun _ h9 => h9) rfl dX6_undo_21 ?_
    refine lv_aload_n hx hb dX6_undo_24 rfl (lv_at hl 0 rfl) ?_
    refine va_get (D := (dC, dI)) (ci := 4) (v := .ref (aN 0)) (C := RX6) (T := TX6) (N := 6) hx hb htX6 (fun _ h => h) hown hK (fl_at hP 0 rfl) 0 rfl rfl 0 (by decide) (hts _ u_143) (fun _ h9 => h9) rfl dX6_undo_25 ?_
    refine k_bmutv (wc := [hW cI cP h0 h1 pa Ps (nI oh) (nI vh), pW cI aN PN]) (W1 := (fun (v : PV × Nat) => [hW cI cP h0 h1 pa Ps (nI oh) (nI v.2), pW cI aN v.1])) (va_runV (As := [.ref (aN 0)]) (rest := []) ⟨hx, hb, hml, hown, hts0⟩ (mX0_takeLatest l dC dI cI cP h0 h1 pa Ps oh vh aN PN  (by first | omega | assumption) (by first | omega | assumption)) (cwV 1 hts0 (gi_V u_749 u_750 u_751 u_5 u_752) rfl rfl rfl (by decide +kernel) ⟨Nat.le_of_ble_eq_true rfl, Nat.le_of_ble_eq_true rfl⟩) (pcM_V (ci := 0) (q0 := 0) (fl_sub (wc := [hW cI cP h0 h1 pa Ps (nI oh) (nI vh), pW cI aN PN]) hP [5, 1] rfl) hK hn (fl_D (wc := [hW cI cP h0 h1 pa Ps (nI oh) (nI vh), pW cI aN PN]) hD [5, 1] (by decide) rfl) rfl rfl) rfl rfl hl.1 rfl (lv_room (Nat.le_of_ble_eq_true rfl)) dX6_undo_28 ⟨Nat.le_of_ble_eq_true rfl, Nat.le_of_ble_eq_true rfl⟩) hP hD hS [5, 1] (by decide) rfl (fun _ => rfl) (fun U28 H locs hU28 hP hD hS => ?_)
    have hP : va_P (dC, dI) vwCl (fW cI cP a0 aN aT aS t0 t1 t2 h0 h1 pa U28.1 PT PS f u Ps oh U28.2 k) H := hP
    have hD : va_D A (fW cI cP a0 aN aT aS t0 t1 t2 h0 h1 pa U28.1 PT PS f u Ps oh U28.2 k) := hD
    have hF := bd_at hF hU28
    refine lv_aload_n hx hb dX6_undo_31 rfl (lv_at hl 0 rfl) ?_
    refine va_get (D := (dC, dI)) (ci := 4) (v := .ref h0) (C := RX6) (T := TX6) (N := 6) hx hb htX6 (fun _ h => h) hown hK (fl_at hP 0 rfl) 0 rfl rfl 3 (by decide) (hts _ u_146) (fun _ h9 => h9) rfl dX6_undo_32 ?_
    refine k_calli (W.runV (As := []) (rest := []) ⟨hx, hb, hml, hown, hts0⟩ (mX0_length l dC dI cI cP h0 h1 pa Ps oh U28.2 ) (cwV 0 hts0 (gi_V u_360 u_361 u_362 u_5 u_363) rfl rfl rfl (by decide +kernel) ⟨Nat.le_of_ble_eq_true rfl, Nat.le_of_ble_eq_true rfl⟩) (pcR_V (ci := 0) (q0 := 0) (fl_at hP 5 rfl) hK hn rfl rfl) rfl rfl hl.1 rfl (lv_room (Nat.le_of_ble_eq_true rfl)) dX6_undo_35 ⟨Nat.le_of_ble_eq_true rfl, Nat.le_of_ble_eq_true rfl⟩) ?_
    rw [hQ]
    refine vx_ret (W.widen (k := 1) (n := 6) (Nat.le_of_ble_eq_true rfl) (Nat.le_of_ble_eq_true rfl) ?_)
    exact W.iret (v := (fX0_length Ps oh U28.2)) hx hb hr (fun t ht hW => ⟨⟨(fX0_length Ps oh U28.2), (U28.1, U28.2), rfl, hF, toH ht hP⟩, hS.F ht⟩) hS.2.2 dX6_undo_38
  have hF := hF.trans (if_pos c_7)
  rw [hQ]
  exact k_throwS (cd := 1) (is := 223) (text := "there is no saved state") (by decide) hx hb hst hown hts hX hS (hl.1.trans hml.symm) (List.mem_of_getElem? (i := 17) rfl) dX6_undo_10 dX6_undo_13 dX6_undo_14 dX6_undo_16 dX6_undo_19 hout (Nat.le_of_ble_eq_true rfl) (Nat.le_of_ble_eq_true rfl) (Nat.le_of_ble_eq_true rfl) (Nat.le_of_ble_eq_true rfl) hlocks (xc_new hF hP hS) hS.2.2 (Nat.le_of_ble_eq_true rfl) (Nat.le_of_ble_eq_true rfl)

def fX6_append (f : Nat → Int32) (u : Int32) (a : Int32) : Nat ⊕ (Int32 × ((Nat → Int32) × Int32)) :=
  (if a < 33 then (Sum.inl 0) else (if a ≤ 126 then (if (fX1_isFull 60 f u) = 0 then (bd (fX1_addLast 60 f u a) (fun U53 => (Sum.inr ((fX1_length 60 U53.1 U53.2), (U53.1, U53.2))))) else (Sum.inl 1)) else (Sum.inl 0)))
abbrev rmX6_append : Room := { frames := 6, cells := 1, slots := 6, locals := 90 }
set_option maxHeartbeats 4000000 in
set_option maxRecDepth 100000 in
theorem mX6_append (l : Launch) (hst : l.stackTraces = false) (dC : Nat → ClassId) (dI : Nat → Nat → Nat) (cI cP : ClassId) (a0 : Nat) (aN aT aS : Nat → Nat) (t0 t1 t2 h0 h1 : Nat) (pa : Nat → Nat → Nat) (PN PT PS : PV) (f : Nat → Int32) (u : Int32) (Ps : Nat → PV) (oh vh : Nat) (k : Int32) (a : Int32) : vx_Met l yX6_append (ws_ yX6_append cX6_append 2 (some .int)) rmX6_append (pcX (dC, dI) [(cI, .int), (cP, .object "SupperSeats$Plan")] (fW cI cP a0 aN aT aS t0 t1 t2 h0 h1 pa PN PT PS f u Ps oh vh k) [.ref a0, .int a]) (va_Qi (fun (r9 : Int32) (u9 : (Nat → Int32) × Int32) => fX6_append f u a = Sum.inr (r9, u9)) (fun u9 t => va_P (dC, dI) vwCl ((fun (v9 : (Nat → Int32) × Int32) => fW cI cP a0 aN aT aS t0 t1 t2 h0 h1 pa PN PT PS v9.1 v9.2 Ps oh vh k) u9) t.heap) (adr (fW cI cP a0 aN aT aS t0 t1 t2 h0 h1 pa PN PT PS f u Ps oh vh k))) (vx_X (fun c9 : Nat => fX6_append f u a = Sum.inl c9) (fun E c9 t => E = xname c9 ∧ va_P (dC, dI) vwCl (fW cI cP a0 aN aT aS t0 t1 t2 h0 h1 pa PN PT PS f u Ps oh vh k) t.heap) (adr (fW cI cP a0 aN aT aS t0 t1 t2 h0 h1 pa PN PT PS f u Ps oh vh k))) 1 6 (adr (fW cI cP a0 aN aT aS t0 t1 t2 h0 h1 pa PN PT PS f u Ps oh vh k)) := by
  refine vx_ofW (cc := cX6_append) (maxL := 2) (ret := (some .int)) (by decide) rfl ?_
  intro p e s m args below meth c s₁ B hml hout hv
  obtain ⟨ha, hP, hK, hn, hD0, hX⟩ := hv
  have hx := B.exec
  have hb := B.bytes
  have hr := B.returns
  have hts0 := atoms_spec (ws := (ws_ yX6_append cX6_append 2 (some .int))) B.pre
  have hts : ∀ w ∈ lw_all, w.before args s = true := fun w h => hts0 w (List.mem_cons_of_mem _ h)
  have hown : s.vm.findClass RX6 = some m.cls := findClass_of_methodNamed B.named
  have hlocks := B.notSynchronized
  have htX6 : ∀ w ∈ wsX60, w.before args s = true := fun w h => hts w (wX6 w h)
  have htX5 : ∀ w ∈ wsX50, w.before args s = true := fun w h => hts w (wX5 w h)
  have hD := adr_self hD0
  obtain ⟨A, hA⟩ : ∃ A, A = adr (fW cI cP a0 aN aT aS t0 t1 t2 h0 h1 pa PN PT PS f u Ps oh vh k) := ⟨_, rfl⟩
  rw [← hA] at hD hX
  have hS : va_S A s.heap s.heap [] := va_S.rf
  obtain ⟨Q, hQ⟩ : ∃ Q, Q = vx_MQ below (va_Qi (fun (r9 : Int32) (u9 : (Nat → Int32) × Int32) => fX6_append f u a = Sum.inr (r9, u9)) (fun u9 t => va_P (dC, dI) vwCl ((fun (v9 : (Nat → Int32) × Int32) => fW cI cP a0 aN aT aS t0 t1 t2 h0 h1 pa PN PT PS v9.1 v9.2 Ps oh vh k) u9) t.heap) (adr (fW cI cP a0 aN aT aS t0 t1 t2 h0 h1 pa PN PT PS f u Ps oh vh k))) (vx_X (fun c9 : Nat => fX6_append f u a = Sum.inl c9) (fun E c9 t => E = xname c9 ∧ va_P (dC, dI) vwCl (fW cI cP a0 aN aT aS t0 t1 t2 h0 h1 pa PN PT PS f u Ps oh vh k) t.heap) (adr (fW cI cP a0 aN aT aS t0 t1 t2 h0 h1 pa PN PT PS f u Ps oh vh k))) args s 1 6 (adr (fW cI cP a0 aN aT aS t0 t1 t2 h0 h1 pa PN PT PS f u Ps oh vh k)) := ⟨_, rfl⟩
  rw [← hQ]
  rw [← hA] at hQ
  have hl := lv_entry ([.ref a0, .int a]) (n := 2) (Nat.le_of_ble_eq_true rfl)
  rw [ha, lg_entry_eq, ← ha]
  generalize (lg_sl ([.ref a0, .int a]) ++ List.replicate (2 - (lg_sl ([.ref a0, .int a])).length) Slot.unset).toArray = ls at hl ⊢
  have hl : lv_has ls 2 [(0, .ref a0), (1, .int a)] := hl
  show W p l e rmX6_append s m args below meth c s.heap [] 0 0 Q (F0 m 0 ls [])
  have hF : fX6_append f u a = fX6_append f u a := rfl
  refine lv_iload_n hx hb dX6_append_0 rfl (lv_at hl 1 rfl) ?_
  refine lv_bipush (v := 33) hx hb dX6_append_1 (by decide) ?_
  refine lv_icmp_lt (tgt := 12) hx hb dX6_append_3 (by decide) (fun c_3 => ?_) (fun c_3 => ?_)
  · have hF := hF.trans (if_pos c_3)
    rw [hQ]
    exact k_throwS (cd := 0) (is := 190) (text := "code is not 33 to 126") (by decide) hx hb hst hown hts hX hS (hl.1.trans hml.symm) (List.mem_of_getElem? (i := 13) rfl) dX6_append_12 dX6_append_15 dX6_append_16 dX6_append_18 dX6_append_21 hout (Nat.le_of_ble_eq_true rfl) (Nat.le_of_ble_eq_true rfl) (Nat.le_of_ble_eq_true rfl) (Nat.le_of_ble_eq_true rfl) hlocks (xc_new hF hP hS) hS.2.2 (Nat.le_of_ble_eq_true rfl) (Nat.le_of_ble_eq_true rfl)
  have hF := hF.trans (if_neg c_3)
  refine lv_iload_n hx hb dX6_append_6 rfl (lv_at hl 1 rfl) ?_
  refine lv_bipush (v := 126) hx hb dX6_append_7 (by decide) ?_
  refine lv_icmp_le (tgt := 22) hx hb dX6_append_9 (by decide) (fun c_9 => ?_) (fun c_9 => ?_)
  · have hF := hF.trans (if_pos c_9)
    refine lv_aload_n hx hb dX6_append_22 rfl (lv_at hl 0 rfl) ?_
    refine va_get (D := (dC, dI)) (ci := 4) (v := .ref t0) (C := RX6) (T := TX6) (N := 6) hx hb htX6 (fun _ h => h) hown hK (fl_at hP 0 rfl) 0 rfl rfl 4 (by decide) (hts _ u_147) (fun _ h9 => h9) rfl dX6_append_23 ?_
    refine va_getN (D := (dC, dI)) (ci := 3) (v := .ref t1) (C := RX5) (T := TX5) (N := 1) hx hb htX5 (fun _ h => h) hown hK (fl_at hP 4 rfl) 0 rfl rfl 0 (by decide) (va_Nw.use rfl (hn _ (List.mem_of_getElem? (i := 21) rfl))) (fun _ h9 => h9) rfl dX6_append_26 ?_
    refine k_callb (W.runV (As := []) (rest := []) ⟨hx, hb, hml, hown, hts0⟩ (mX1_isFull l dC dI cI t1 t2 60 (by decide) f u ) (cwV 0 hts0 (gi_V u_595 u_283 u_284 u_3 u_285) rfl rfl rfl (by decide +kernel) ⟨Nat.le_of_ble_eq_true rfl, Nat.le_of_ble_eq_true rfl⟩) (pcR_V (ci := 1) (q0 := 0) ((fl_at hP 4 rfl).sub (ws' := lW cI t1 t2 60 f u) [1, 2] rfl) (hK.sub (tys' := [(cI, .int)]) [0] rfl) hn rfl rfl) rfl rfl hl.1 rfl (lv_room (Nat.le_of_ble_eq_true rfl)) dX6_append_29 ⟨Nat.le_of_ble_eq_true rfl, Nat.le_of_ble_eq_true rfl⟩) (fun br29 => ?_)
    refine lv_if_eq (tgt := 45) hx hb dX6_append_32 (by decide) (fun c_32 => ?_) (fun c_32 => ?_)
    · have hF := hF.trans (if_pos c_32)
      refine lv_aload_n hx hb dX6_append_45 rfl (lv_at hl 0 rfl) ?_
      refine va_get (D := (dC, dI)) (ci := 4) (v := .ref t0) (C := RX6) (T := TX6) (N := 6) hx hb htX6 (fun _ h => h) hown hK (fl_at hP 0 rfl) 0 rfl rfl 4 (by decide) (hts _ u_147) (fun _ h9 => h9) rfl dX6_append_46 ?_
      refine va_getN (D := (dC, dI)) (ci := 3) (v := .ref t1) (C := RX5) (T := TX5) (N := 1) hx hb htX5 (fun _ h => h) hown hK (fl_at hP 4 rfl) 0 rfl rfl 0 (by decide) (va_Nw.use rfl (hn _ (List.mem_of_getElem? (i := 21) rfl))) (fun _ h9 => h9) rfl dX6_append_49 ?_
      refine lv_iload_n hx hb dX6_append_52 rfl (lv_at hl 1 rfl) ?_
      refine k_smutv (Wd := (fun (v : (Nat → Int32) × Int32) => lW cI t1 t2 60 v.1 v.2)) (va_runV (As := [.int a]) (rest := []) ⟨hx, hb, hml, hown, hts0⟩ (mX1_addLast l dC dI cI t1 t2 60 (by decide) f u a) (cwV 1 hts0 (gi_V u_693 u_279 u_280 u_3 u_281) rfl rfl rfl (by decide +kernel) ⟨Nat.le_of_ble_eq_true rfl, Nat.le_of_ble_eq_true rfl⟩) (pcM_V (ci := 1) (q0 := 0) ((fl_at hP 4 rfl).sub (ws' := lW cI t1 t2 60 f u) [1, 2] rfl) (hK.sub (tys' := [(cI, .int)]) [0] rfl) hn ((fl_D1 hD 4 rfl).sub (ws' := lW cI t1 t2 60 f u) [1, 2] (by decide) rfl) rfl rfl) rfl rfl hl.1 rfl (lv_room (Nat.le_of_ble_eq_true rfl)) dX6_append_53 ⟨Nat.le_of_ble_eq_true rfl, Nat.le_of_ble_eq_true rfl⟩) hP hD hS 4 rfl [1, 2] rfl rfl (fun _ => rfl) (fun U53 H locs hU53 hP hD hS => ?_)
      have hP : va_P (dC, dI) vwCl (fW cI cP a0 aN aT aS t0 t1 t2 h0 h1 pa PN PT PS U53.1 U53.2 Ps oh vh k) H := hP
      have hD : va_D A (fW cI cP a0 aN aT aS t0 t1 t2 h0 h1 pa PN PT PS U53.1 U53.2 Ps oh vh k) := hD
      have hF := bd_at hF hU53
      refine lv_aload_n hx hb dX6_append_56 rfl (lv_at hl 0 rfl) ?_
      refine va_get (D := (dC, dI)) (ci := 4) (v := .ref t0) (C := RX6) (T := TX6) (N := 6) hx hb htX6 (fun _ h => h) hown hK (fl_at hP 0 rfl) 0 rfl rfl 4 (by decide) (hts _ u_147) (fun _ h9 => h9) rfl dX6_append_57 ?_
      refine va_getN (D := (dC, dI)) (ci := 3) (v := .ref t1) (C := RX5) (T := TX5) (N := 1) hx hb htX5 (fun _ h => h) hown hK (fl_at hP 4 rfl) 0 rfl rfl 0 (by decide) (va_Nw.use rfl (hn _ (List.mem_of_getElem? (i := 21) rfl))) (fun _ h9 => h9) rfl dX6_append_60 ?_
      refine k_calli (W.runV (As := []) (rest := []) ⟨hx, hb, hml, hown, hts0⟩ (mX1_length l dC dI cI t1 t2 60 (by decide) U53.1 U53.2 ) (cwV 0 hts0 (gi_V u_290 u_224 u_225 u_3 u_226) rfl rfl rfl (by decide +kernel) ⟨Nat.le_of_ble_eq_true rfl, Nat.le_of_ble_eq_true rfl⟩) (pcR_V (ci := 1) (q0 := 0) ((fl_at hP 4 rfl).sub (ws' := lW cI t1 t2 60 U53.1 U53.2) [1, 2] rfl) (hK.sub (tys' := [(cI, .int)]) [0] rfl) hn rfl rfl) rfl rfl hl.1 rfl (lv_room (Nat.le_of_ble_eq_true rfl)) dX6_append_63 ⟨Nat.le_of_ble_eq_true rfl, Nat.le_of_ble_eq_true rfl⟩) ?_
      rw [hQ]
      refine vx_ret (W.widen (k := 1) (n := 6) (Nat.le_of_ble_eq_true rfl) (Nat.le_of_ble_eq_true rfl) ?_)
      exact W.iret (v := (fX1_length 60 U53.1 U53.2)) hx hb hr (fun t ht hW => ⟨⟨(fX1_length 60 U53.1 U53.2), (U53.1, U53.2), rfl, hF, toH ht hP⟩, hS.F ht⟩) hS.2.2 dX6_append_66
    have hF := hF.trans (if_neg c_32)
    rw [hQ]
    exact k_throwS (cd := 1) (is := 195) (text := "the buffer has 60 characters") (by decide) hx hb hst hown hts hX hS (hl.1.trans hml.symm) (List.mem_of_getElem? (i := 14) rfl) dX6_append_35 dX6_append_38 dX6_append_39 dX6_append_41 dX6_append_44 hout (Nat.le_of_ble_eq_true rfl) (Nat.le_of_ble_eq_true rfl) (Nat.le_of_ble_eq_true rfl) (Nat.le_of_ble_eq_true rfl) hlocks (xc_new hF hP hS) hS.2.2 (Nat.le_of_ble_eq_true rfl) (Nat.le_of_ble_eq_true rfl)
  have hF := hF.trans (if_neg c_9)
  rw [hQ]
  exact k_throwS (cd := 0) (is := 190) (text := "code is not 33 to 126") (by decide) hx hb hst hown hts hX hS (hl.1.trans hml.symm) (List.mem_of_getElem? (i := 13) rfl) dX6_append_12 dX6_append_15 dX6_append_16 dX6_append_18 dX6_append_21 hout (Nat.le_of_ble_eq_true rfl) (Nat.le_of_ble_eq_true rfl) (Nat.le_of_ble_eq_true rfl) (Nat.le_of_ble_eq_true rfl) hlocks (xc_new hF hP hS) hS.2.2 (Nat.le_of_ble_eq_true rfl) (Nat.le_of_ble_eq_true rfl)

def fX6_seats (PN : PV) (f : Nat → Int32) (u : Int32) (Ps : Nat → PV) (oh : Nat) (vh : Nat) : Nat ⊕ (Int32 × (PV × (Nat → Int32) × Int32 × (Nat → PV) × Nat × Nat)) :=
  (if (fX5_isComplete f u) = 0 then (Sum.inl 0) else (bd (fX0_save Ps oh vh PN) (fun U28 => (bd2 (fX5_doParts f u PN) (fun r39 U39 => (bd (fX1_dropAll 60 f u) (fun U50 => (Sum.inr (r39, (U39, U50.1, U50.2, U28.1, U28.2.1, U28.2.2))))))))))
abbrev rmX6_seats : Room := { frames := 6, cells := 1, slots := 6, locals := 148 }
set_option maxHeartbeats 4000000 in
set_option maxRecDepth 100000 in
theorem mX6_seats (l : Launch) (hst : l.stackTraces = false) (dC : Nat → ClassId) (dI : Nat → Nat → Nat) (cI cP : ClassId) (a0 : Nat) (aN aT aS : Nat → Nat) (t0 t1 t2 h0 h1 : Nat) (pa : Nat → Nat → Nat) (PN PT PS : PV) (f : Nat → Int32) (u : Int32) (Ps : Nat → PV) (oh vh : Nat) (k : Int32) (ho6 : oh < 6) (hv6 : vh ≤ 6) (hu : u = nI u.toNatClampNeg) (hu2 : u.toNatClampNeg ≤ 60) : vx_Met l yX6_seats (ws_ yX6_seats cX6_seats 2 (some .int)) rmX6_seats (pcX (dC, dI) [(cI, .int), (cP, .object "SupperSeats$Plan")] (fW cI cP a0 aN aT aS t0 t1 t2 h0 h1 pa PN PT PS f u Ps oh vh k) [.ref a0]) (va_Qi (fun (r9 : Int32) (u9 : PV × (Nat → Int32) × Int32 × (Nat → PV) × Nat × Nat) => fX6_seats PN f u Ps oh vh = Sum.inr (r9, u9)) (fun u9 t => va_P (dC, dI) vwCl ((fun (v9 : PV × (Nat → Int32) × Int32 × (Nat → PV) × Nat × Nat) => fW cI cP a0 aN aT aS t0 t1 t2 h0 h1 pa v9.1 PT PS v9.2.1 v9.2.2.1 v9.2.2.2.1 v9.2.2.2.2.1 v9.2.2.2.2.2 k) u9) t.heap) (adr (fW cI cP a0 aN aT aS t0 t1 t2 h0 h1 pa PN PT PS f u Ps oh vh k))) (vx_X (fun c9 : Nat => fX6_seats PN f u Ps oh vh = Sum.inl c9) (fun E c9 t => E = xname c9 ∧ va_P (dC, dI) vwCl (fW cI cP a0 aN aT aS t0 t1 t2 h0 h1 pa PN PT PS f u Ps oh vh k) t.heap) (adr (fW cI cP a0 aN aT aS t0 t1 t2 h0 h1 pa PN PT PS f u Ps oh vh k))) 1 6 (adr (fW cI cP a0 aN aT aS t0 t1 t2 h0 h1 pa PN PT PS f u Ps oh vh k)) := by
  refine vx_ofW (cc := cX6_seats) (maxL := 2) (ret := (some .int)) (by decide) rfl ?_
  intro p e s m args below meth c s₁ B hml hout hv
  obtain ⟨ha, hP, hK, hn, hD0, hX⟩ := hv
  have hx := B.exec
  have hb := B.bytes
  have hr := B.returns
  have hts0 := atoms_spec (ws := (ws_ yX6_seats cX6_seats 2 (some .int))) B.pre
  have hts : ∀ w ∈ lw_all, w.before args s = true := fun w h => hts0 w (List.mem_cons_of_mem _ h)
  have hown : s.vm.findClass RX6 = some m.cls := findClass_of_methodNamed B.named
  have hlocks := B.notSynchronized
  have htX6 : ∀ w ∈ wsX60, w.before args s = true := fun w h => hts w (wX6 w h)
  have htX5 : ∀ w ∈ wsX50, w.before args s = true := fun w h => hts w (wX5 w h)
  have hD := adr_self hD0
  obtain ⟨A, hA⟩ : ∃ A, A = adr (fW cI cP a0 aN aT aS t0 t1 t2 h0 h1 pa PN PT PS f u Ps oh vh k) := ⟨_, rfl⟩
  rw [← hA] at hD hX
  have hS : va_S A s.heap s.heap [] := va_S.rf
  obtain ⟨Q, hQ⟩ : ∃ Q, Q = vx_MQ below (va_Qi (fun (r9 : Int32) (u9 : PV × (Nat → Int32) × Int32 × (Nat → PV) × Nat × Nat) => fX6_seats PN f u Ps oh vh = Sum.inr (r9, u9)) (fun u9 t => va_P (dC, dI) vwCl ((fun (v9 : PV × (Nat → Int32) × Int32 × (Nat → PV) × Nat × Nat) => fW cI cP a0 aN aT aS t0 t1 t2 h0 h1 pa v9.1 PT PS v9.2.1 v9.2.2.1 v9.2.2.2.1 v9.2.2.2.2.1 v9.2.2.2.2.2 k) u9) t.heap) (adr (fW cI cP a0 aN aT aS t0 t1 t2 h0 h1 pa PN PT PS f u Ps oh vh k))) (vx_X (fun c9 : Nat => fX6_seats PN f u Ps oh vh = Sum.inl c9) (fun E c9 t => E = xname c9 ∧ va_P (dC, dI) vwCl (fW cI cP a0 aN aT aS t0 t1 t2 h0 h1 pa PN PT PS f u Ps oh vh k) t.heap) (adr (fW cI cP a0 aN aT aS t0 t1 t2 h0 h1 pa PN PT PS f u Ps oh vh k))) args s 1 6 (adr (fW cI cP a0 aN aT aS t0 t1 t2 h0 h1 pa PN PT PS f u Ps oh vh k)) := ⟨_, rfl⟩
  rw [← hQ]
  rw [← hA] at hQ
  have hl := lv_entry ([.ref a0]) (n := 2) (Nat.le_of_ble_eq_true rfl)
  rw [ha, lg_entry_eq, ← ha]
  generalize (lg_sl ([.ref a0]) ++ List.replicate (2 - (lg_sl ([.ref a0])).length) Slot.unset).toArray = ls at hl ⊢
  have hl : lv_has ls 2 [(0, .ref a0)] := hl
  show W p l e rmX6_seats s m args below meth c s.heap [] 0 0 Q (F0 m 0 ls [])
  have hF : fX6_seats PN f u Ps oh vh = fX6_seats PN f u Ps oh vh := rfl
  refine lv_aload_n hx hb dX6_seats_0 rfl (lv_at hl 0 rfl) ?_
  refine va_get (D := (dC, dI)) (ci := 4) (v := .ref t0) (C := RX6) (T := TX6) (N := 6) hx hb htX6 (fun _ h => h) hown hK (fl_at hP 0 rfl) 0 rfl rfl 4 (by decide) (hts _ u_147) (fun _ h9 => h9) rfl dX6_seats_1 ?_
  refine k_callb (W.runV (As := []) (rest := []) ⟨hx, hb, hml, hown, hts0⟩ (mX5_isComplete l dC dI cI t0 t1 t2 f u ) (cwV 0 hts0 (gi_V u_701 u_702 u_703 u_6 u_704) rfl rfl rfl (by decide +kernel) ⟨Nat.le_of_ble_eq_true rfl, Nat.le_of_ble_eq_true rfl⟩) (pcR_V (ci := 3) (q0 := 0) (fl_at hP 4 rfl) (hK.sub (tys' := [(cI, .int)]) [0] rfl) hn rfl rfl) rfl rfl hl.1 rfl (lv_room (Nat.le_of_ble_eq_true rfl)) dX6_seats_4 ⟨Nat.le_of_ble_eq_true rfl, Nat.le_of_ble_eq_true rfl⟩) (fun br4 => ?_)
  refine lv_if_ne (tgt := 20) hx hb dX6_seats_7 (by decide) (fun c_7 => ?_) (fun c_7 => ?_)
  · have hF := hF.trans (if_neg c_7)
    refine lv_aload_n hx hb dX6_seats_20 rfl (lv_at hl 0 rfl) ?_
    refine va_get (D := (dC, dI)) (ci := 4) (v := .ref h0) (C := RX6) (T := TX6) (N := 6) hx hb htX6 (fun _ h => h) hown hK (fl_at hP 0 rfl) 0 rfl rfl 3 (by decide) (hts _ u_146) (fun _ h9 => h9) rfl dX6_seats_21 ?_
    refine lv_aload_n hx hb dX6_seats_24 rfl (lv_at hl 0 rfl) ?_
    refine va_get (D := (dC, dI)) (ci := 4) (v := .ref (aN 0)) (C := RX6) (T := TX6) (N := 6) hx hb htX6 (fun _ h => h) hown hK (fl_at hP 0 rfl) 0 rfl rfl 0 (by decide) (hts _ u_143) (fun _ h9 => h9) rfl dX6_seats_25 ?_
    refine k_bmutv (wc := [hW cI cP h0 h1 pa Ps (nI oh) (nI vh), pW cI aN PN]) (W1 := (fun (v : (Nat → PV) × Nat × Nat) => [hW cI cP h0 h1 pa v.1 (nI v.2.1) (nI v.2.2), pW cI aN PN])) (va_runV (As := [.ref (aN 0)]) (rest := []) ⟨hx, hb, hml, hown, hts0⟩ (mX0_save l dC dI cI cP h0 h1 pa Ps oh vh aN PN  (by first | omega | assumption) (by first | omega | assumption)) (cwV 1 hts0 (gi_V u_166 u_167 u_168 u_5 u_169) rfl rfl rfl (by decide +kernel) ⟨Nat.le_of_ble_eq_true rfl, Nat.le_of_ble_eq_true rfl⟩) (pcM_V (ci := 0) (q0 := 0) (fl_sub (wc := [hW cI cP h0 h1 pa Ps (nI oh) (nI vh), pW cI aN PN]) hP [5, 1] rfl) hK hn (fl_D (wc := [hW cI cP h0 h1 pa Ps (nI oh) (nI vh), pW cI aN PN]) hD [5, 1] (by decide) rfl) rfl rfl) rfl rfl hl.1 rfl (lv_room (Nat.le_of_ble_eq_true rfl)) dX6_seats_28 ⟨Nat.le_of_ble_eq_true rfl, Nat.le_of_ble_eq_true rfl⟩) hP hD hS [5, 1] (by decide) rfl (fun _ => rfl) (fun U28 H locs hU28 hP hD hS => ?_)
    have hP : va_P (dC, dI) vwCl (fW cI cP a0 aN aT aS t0 t1 t2 h0 h1 pa PN PT PS f u U28.1 U28.2.1 U28.2.2 k) H := hP
    have hD : va_D A (fW cI cP a0 aN aT aS t0 t1 t2 h0 h1 pa PN PT PS f u U28.1 U28.2.1 U28.2.2 k) := hD
    have hF := bd_at hF hU28
    refine lv_aload_n hx hb dX6_seats_31 rfl (lv_at hl 0 rfl) ?_
    refine va_get (D := (dC, dI)) (ci := 4) (v := .ref t0) (C := RX6) (T := TX6) (N := 6) hx hb htX6 (fun _ h => h) hown hK (fl_at hP 0 rfl) 0 rfl rfl 4 (by decide) (hts _ u_147) (fun _ h9 => h9) rfl dX6_seats_32 ?_
    refine lv_aload_n hx hb dX6_seats_35 rfl (lv_at hl 0 rfl) ?_
    refine va_get (D := (dC, dI)) (ci := 4) (v := .ref (aN 0)) (C := RX6) (T := TX6) (N := 6) hx hb htX6 (fun _ h => h) hown hK (fl_at hP 0 rfl) 0 rfl rfl 0 (by decide) (hts _ u_143) (fun _ h9 => h9) rfl dX6_seats_36 ?_
    refine k_bmuti (wc := [xW cI t0 t1 t2 f u, pW cI aN PN]) (W1 := (fun (v : PV) => [xW cI t0 t1 t2 f u, pW cI aN v])) (va_runV (As := [.ref (aN 0)]) (rest := []) ⟨hx, hb, hml, hown, hts0⟩ (mX5_doParts l dC dI cI t0 t1 t2 f u aN PN  (by first | omega | assumption) (by first | omega | assumption)) (cwV 1 hts0 (gi_V u_706 u_707 u_708 u_6 u_709) rfl rfl rfl (by decide +kernel) ⟨Nat.le_of_ble_eq_true rfl, Nat.le_of_ble_eq_true rfl⟩) (pcM_V (ci := 3) (q0 := 0) (fl_sub (wc := [xW cI t0 t1 t2 f u, pW cI aN PN]) hP [4, 1] rfl) (hK.sub (tys' := [(cI, .int)]) [0] rfl) hn (fl_D (wc := [xW cI t0 t1 t2 f u, pW cI aN PN]) hD [4, 1] (by decide) rfl) rfl rfl) rfl rfl hl.1 rfl (lv_room (Nat.le_of_ble_eq_true rfl)) dX6_seats_39 ⟨Nat.le_of_ble_eq_true rfl, Nat.le_of_ble_eq_true rfl⟩) hP hD hS [4, 1] (by decide) rfl (fun _ => rfl) (fun r39 U39 H locs hU39 hP hD hS => ?_)
    have hP : va_P (dC, dI) vwCl (fW cI cP a0 aN aT aS t0 t1 t2 h0 h1 pa U39 PT PS f u U28.1 U28.2.1 U28.2.2 k) H := hP
    have hD : va_D A (fW cI cP a0 aN aT aS t0 t1 t2 h0 h1 pa U39 PT PS f u U28.1 U28.2.1 U28.2.2 k) := hD
    have hF := bd2_at hF hU39
    refine lv_istore_n (lv' := [(1, .int r39), (0, .ref a0)]) hx hb dX6_seats_42 rfl hl (by decide) rfl (fun ls hl => ?_)
    refine lv_aload_n hx hb dX6_seats_43 rfl (lv_at hl 1 rfl) ?_
    refine va_get (D := (dC, dI)) (ci := 4) (v := .ref t0) (C := RX6) (T := TX6) (N := 6) hx hb htX6 (fun _ h => h) hown hK (fl_at hP 0 rfl) 0 rfl rfl 4 (by decide) (hts _ u_147) (fun _ h9 => h9) rfl dX6_seats_44 ?_
    refine va_getN (D := (dC, dI)) (ci := 3) (v := .ref t1) (C := RX5) (T := TX5) (N := 1) hx hb htX5 (fun _ h => h) hown hK (fl_at hP 4 rfl) 0 rfl rfl 0 (by decide) (va_Nw.use rfl (hn _ (List.mem_of_getElem? (i := 21) rfl))) (fun _ h9 => h9) rfl dX6_seats_47 ?_
    refine k_smutv (Wd := (fun (v : (Nat → Int32) × Int32) => lW cI t1 t2 60 v.1 v.2)) (va_runV (As := []) (rest := []) ⟨hx, hb, hml, hown, hts0⟩ (mX1_dropAll l dC dI cI t1 t2 60 (by decide) f u ) (cwV 0 hts0 (gi_V u_291 u_292 u_293 u_3 u_294) rfl rfl rfl (by decide +kernel) ⟨Nat.le_of_ble_eq_true rfl, Nat.le_of_ble_eq_true rfl⟩) (pcM_V (ci := 1) (q0 := 0) ((fl_at hP 4 rfl).sub (ws' := lW cI t1 t2 60 f u) [1, 2] rfl) (hK.sub (tys' := [(cI, .int)]) [0] rfl) hn ((fl_D1 hD 4 rfl).sub (ws' := lW cI t1 t2 60 f u) [1, 2] (by decide) rfl) rfl rfl) rfl rfl hl.1 rfl (lv_room (Nat.le_of_ble_eq_true rfl)) dX6_seats_50 ⟨Nat.le_of_ble_eq_true rfl, Nat.le_of_ble_eq_true rfl⟩) hP hD hS 4 rfl [1, 2] rfl rfl (fun _ => rfl) (fun U50 H locs hU50 hP hD hS => ?_)
    have hP : va_P (dC, dI) vwCl (fW cI cP a0 aN aT aS t0 t1 t2 h0 h1 pa U39 PT PS U50.1 U50.2 U28.1 U28.2.1 U28.2.2 k) H := hP
    have hD : va_D A (fW cI cP a0 aN aT aS t0 t1 t2 h0 h1 pa U39 PT PS U50.1 U50.2 U28.1 U28.2.1 U28.2.2 k) := hD
    have hF := bd_at hF hU50
    refine lv_iload_n hx hb dX6_seats_53 rfl (lv_at hl 0 rfl) ?_
    rw [hQ]
    refine vx_ret (W.widen (k := 1) (n := 6) (Nat.le_of_ble_eq_true rfl) (Nat.le_of_ble_eq_true rfl) ?_)
    exact W.iret (v := r39) hx hb hr (fun t ht hW => ⟨⟨r39, (U39, U50.1, U50.2, U28.1, U28.2.1, U28.2.2), rfl, hF, toH ht hP⟩, hS.F ht⟩) hS.2.2 dX6_seats_54
  have hF := hF.trans (if_pos c_7)
  rw [hQ]
  exact k_throwS (cd := 0) (is := 209) (text := "the buffer is not complete seats as a text") (by decide) hx hb hst hown hts hX hS (hl.1.trans hml.symm) (List.mem_of_getElem? (i := 15) rfl) dX6_seats_10 dX6_seats_13 dX6_seats_14 dX6_seats_16 dX6_seats_19 hout (Nat.le_of_ble_eq_true rfl) (Nat.le_of_ble_eq_true rfl) (Nat.le_of_ble_eq_true rfl) (Nat.le_of_ble_eq_true rfl) hlocks (xc_new hF hP hS) hS.2.2 (Nat.le_of_ble_eq_true rfl) (Nat.le_of_ble_eq_true rfl)
