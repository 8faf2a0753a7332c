def fX6_guest (PN : PV) (Ps : Nat → PV) (oh : Nat) (vh : Nat) (a : Int32) (b : Int32) : Nat ⊕ (Int32 × (PV × (Nat → PV) × Nat × Nat)) :=
  (if (fX6_isFamily a) = 0 then (Sum.inl 0) else (if b < 1 then (Sum.inl 0) else (if b ≤ 3 then (if (PN 10 0) < 16 then (bd (fX0_save Ps oh vh PN) (fun U57 => (bd2 (fX2_addGuest PN a b) (fun r66 U66 => (Sum.inr (r66, (U66, U57.1, U57.2.1, U57.2.2))))))) else (Sum.inl 1)) else (Sum.inl 0))))
abbrev rmX6_guest : Room := { frames := 4, cells := 0, slots := 0, locals := 104 }
set_option maxHeartbeats 4000000 in
set_option maxRecDepth 100000 in
theorem mX6_guest (l : Launch) (dC : Nat → ClassId) (dI : Nat → Nat → Nat) (cI cP : ClassId) (a0 : Nat) (aN aT aS : Nat → Nat) (t0 t1 t2 h0 h1 : Nat) (pa : Nat → Nat → Nat) (PN PT PS : PV) (f : Nat → Int32) (u : Int32) (Ps : Nat → PV) (oh vh : Nat) (k : Int32) (a : Int32) (b : Int32) (ho6 : oh < 6) (hv6 : vh ≤ 6) (hok : isOk (fX6_guest PN Ps oh vh a b) = true) : Met l yX6_guest (ws_ yX6_guest cX6_guest 3 (some .int)) rmX6_guest (pcM (dC, dI) [(cI, .int), (cP, .object "SupperSeats$Plan")] (fW cI cP a0 aN aT aS t0 t1 t2 h0 h1 pa PN PT PS f u Ps oh vh k) [.ref a0, .int a, .int b]) (va_Qi (fun (r9 : Int32) (u9 : PV × (Nat → PV) × Nat × Nat) => (r9, u9) = okp (fX6_guest PN Ps oh vh a b)) (fun u9 t => va_P (dC, dI) vwCl ((fun (v9 : PV × (Nat → PV) × Nat × Nat) => fW cI cP a0 aN aT aS t0 t1 t2 h0 h1 pa v9.1 PT PS f u v9.2.1 v9.2.2.1 v9.2.2.2 k) u9) t.heap) (adr (fW cI cP a0 aN aT aS t0 t1 t2 h0 h1 pa PN PT PS f u Ps oh vh k))) 0 0 (adr (fW cI cP a0 aN aT aS t0 t1 t2 h0 h1 pa PN PT PS f u Ps oh vh k)) := by
  refine Met.ofW (cc := cX6_guest) (maxL := 3) (ret := (some .int)) (by decide) rfl ?_
  intro p e s m args below meth c s₁ B hml hv
  obtain ⟨ha, hP, hK, hn, hD0⟩ := hv
  have hx := B.exec
  have hb := B.bytes
  have hr := B.returns
  have hts0 := atoms_spec (ws := (ws_ yX6_guest cX6_guest 3 (some .int))) B.pre
  have hts : ∀ w ∈ lw_all, w.before args s = true := fun w h => hts0 w (List.mem_cons_of_mem _ h)
  have hown : s.vm.findClass RX6 = some m.cls := findClass_of_methodNamed B.named
  have hlocks := B.notSynchronized
  have htX6 : ∀ w ∈ wsX60, w.before args s = true := fun w h => hts w (wX6 w h)
  have htX2 : ∀ w ∈ wsX20, w.before args s = true := fun w h => hts w (wX2 w h)
  have hD := adr_self hD0
  obtain ⟨A, hA⟩ : ∃ A, A = adr (fW cI cP a0 aN aT aS t0 t1 t2 h0 h1 pa PN PT PS f u Ps oh vh k) := ⟨_, rfl⟩
  rw [← hA] at hD
  have hS : va_S A s.heap s.heap [] := va_S.rf
  obtain ⟨Q, hQ⟩ : ∃ Q, Q = MQ below (va_Qi (fun (r9 : Int32) (u9 : PV × (Nat → PV) × Nat × Nat) => (r9, u9) = okp (fX6_guest PN Ps oh vh a b)) (fun u9 t => va_P (dC, dI) vwCl ((fun (v9 : PV × (Nat → PV) × Nat × Nat) => fW cI cP a0 aN aT aS t0 t1 t2 h0 h1 pa v9.1 PT PS f u v9.2.1 v9.2.2.1 v9.2.2.2 k) u9) t.heap) (adr (fW cI cP a0 aN aT aS t0 t1 t2 h0 h1 pa PN PT PS f u Ps oh vh k))) args s 0 0 (adr (fW cI cP a0 aN aT aS t0 t1 t2 h0 h1 pa PN PT PS f u Ps oh vh k)) := ⟨_, rfl⟩
  rw [← hQ]
  rw [← hA] at hQ
  have hl := lv_entry ([.ref a0, .int a, .int b]) (n := 3) (Nat.le_of_ble_eq_true rfl)
  rw [ha, lg_entry_eq, ← ha]
  generalize (lg_sl ([.ref a0, .int a, .int b]) ++ List.replicate (3 - (lg_sl ([.ref a0, .int a, .int b])).length) Slot.unset).toArray = ls at hl ⊢
  have hl : lv_has ls 3 [(0, .ref a0), (1, .int a), (2, .int b)] := hl
  show W p l e rmX6_guest s m args below meth c s.heap [] 0 0 Q (F0 m 0 ls [])
  have hF : fX6_guest PN Ps oh vh a b = fX6_guest PN Ps oh vh a b := rfl
  refine lv_iload_n hx hb dX6_guest_0 rfl (lv_at hl 1 rfl) ?_
  refine k_callb (W.runS (As := [.int a]) (rest := []) ⟨hx, hb, hml, hown, hts0⟩ (mX6_isFamily l dC dI  a) (va_cwS 1 hts0 (gi_S u_466 u_467 u_1 u_468) rfl rfl rfl (by decide +kernel) ⟨Nat.le_of_ble_eq_true rfl, Nat.le_of_ble_eq_true rfl⟩) (pcR_S (hP.sub (ws' := []) [] rfl) (hK.sub (tys' := []) [] rfl) hn) rfl rfl hl.1 rfl (lv_room (Nat.le_of_ble_eq_true rfl)) dX6_guest_1 ⟨Nat.zero_le _, Nat.zero_le _⟩) (fun br1 => ?_)
  refine lv_if_eq (tgt := 17) hx hb dX6_guest_4 (by decide) (fun c_4 => ?_) (fun c_4 => ?_)
  · have hF := hF.trans (if_pos c_4)
    exact (k_no hF hok).elim
  have hF := hF.trans (if_neg c_4)
  refine lv_iload_n hx hb dX6_guest_7 rfl (lv_at hl 2 rfl) ?_
  refine lv_iconst (v := 1) hx hb dX6_guest_8 (by decide) ?_
  refine lv_icmp_lt (tgt := 17) hx hb dX6_guest_9 (by decide) (fun c_9 => ?_) (fun c_9 => ?_)
  · have hF := hF.trans (if_pos c_9)
    exact (k_no hF hok).elim
  have hF := hF.trans (if_neg c_9)
  refine lv_iload_n hx hb dX6_guest_12 rfl (lv_at hl 2 rfl) ?_
  refine lv_iconst (v := 3) hx hb dX6_guest_13 (by decide) ?_
  refine lv_icmp_le (tgt := 27) hx hb dX6_guest_14 (by decide) (fun c_14 => ?_) (fun c_14 => ?_)
  · have hF := hF.trans (if_pos c_14)
    refine lv_aload_n hx hb dX6_guest_27 rfl (lv_at hl 0 rfl) ?_
    refine va_get (D := (dC, dI)) (ci := 4) (v := .ref (aN 0)) (C := RX6) (T := TX6) (N := 6) hx hb htX6 (fun _ h => h) hown hK (fl_at hP 0 rfl) 0 rfl rfl 0 (by decide) (hts _ u_141) (fun _ h9 => h9) rfl dX6_guest_28 ?_
    refine va_getN (D := (dC, dI)) (ci := 2) (v := .int (PN 10 0)) (C := RX2) (T := TX2) (N := 14) hx hb htX2 (fun _ h => h) hown hK (fl_at hP 1 rfl) 0 rfl rfl 10 (by decide) (va_Nw.use rfl (hn _ (List.mem_of_getElem? (i := 15) rfl))) (fun _ h9 => h9) rfl dX6_guest_31 ?_
    refine lv_bipush (v := 16) hx hb dX6_guest_34 (by decide) ?_
    refine lv_icmp_lt (tgt := 49) hx hb dX6_guest_36 (by decide) (fun c_36 => ?_) (fun c_36 => ?_)
    · have hF := hF.trans (if_pos c_36)
      refine lv_aload_n hx hb dX6_guest_49 rfl (lv_at hl 0 rfl) ?_
      refine va_get (D := (dC, dI)) (ci := 4) (v := .ref h0) (C := RX6) (T := TX6) (N := 6) hx hb htX6 (fun _ h => h) hown hK (fl_at hP 0 rfl) 0 rfl rfl 3 (by decide) (hts _ u_144) (fun _ h9 => h9) rfl dX6_guest_50 ?_
      refine lv_aload_n hx hb dX6_guest_53 rfl (lv_at hl 0 rfl) ?_
      refine va_get (D := (dC, dI)) (ci := 4) (v := .ref (aN 0)) (C := RX6) (T := TX6) (N := 6) hx hb htX6 (fun _ h => h) hown hK (fl_at hP 0 rfl) 0 rfl rfl 0 (by decide) (hts _ u_141) (fun _ h9 => h9) rfl dX6_guest_54 ?_
      refine k_bmutv (wc := [hW cI cP h0 h1 pa Ps (nI oh) (nI vh), pW cI aN PN]) (W1 := (fun (v : (Nat → PV) × Nat × Nat) => [hW cI cP h0 h1 pa v.1 (nI v.2.1) (nI v.2.2), pW cI aN PN])) (va_runV (As := [.ref (aN 0)]) (rest := []) ⟨hx, hb, hml, hown, hts0⟩ (mX0_save l dC dI cI cP h0 h1 pa Ps oh vh aN PN  (by first | omega | assumption) (by first | omega | assumption)) (cwV 1 hts0 (gi_V u_451 u_452 u_453 u_5 u_454) rfl rfl rfl (by decide +kernel) ⟨Nat.le_of_ble_eq_true rfl, Nat.le_of_ble_eq_true rfl⟩) (pcM_V (ci := 0) (q0 := 0) (fl_sub (wc := [hW cI cP h0 h1 pa Ps (nI oh) (nI vh), pW cI aN PN]) hP [5, 1] rfl) hK hn (fl_D (wc := [hW cI cP h0 h1 pa Ps (nI oh) (nI vh), pW cI aN PN]) hD [5, 1] (by decide) rfl) rfl rfl) rfl rfl hl.1 rfl (lv_room (Nat.le_of_ble_eq_true rfl)) dX6_guest_57 ⟨Nat.zero_le _, Nat.zero_le _⟩) hP hD hS [5, 1] (by decide) rfl (fun _ => rfl) (fun U57 H locs hU57 hP hD hS => ?_)
      have hP : va_P (dC, dI) vwCl (fW cI cP a0 aN aT aS t0 t1 t2 h0 h1 pa PN PT PS f u U57.1 U57.2.1 U57.2.2 k) H := hP
      have hD : va_D A (fW cI cP a0 aN aT aS t0 t1 t2 h0 h1 pa PN PT PS f u U57.1 U57.2.1 U57.2.2 k) := hD
      have hF := bd_at hF hU57
      refine lv_aload_n hx hb dX6_guest_60 rfl (lv_at hl 0 rfl) ?_
      refine va_get (D := (dC, dI)) (ci := 4) (v := .ref (aN 0)) (C := RX6) (T := TX6) (N := 6) hx hb htX6 (fun _ h => h) hown hK (fl_at hP 0 rfl) 0 rfl rfl 0 (by decide) (hts _ u_141) (fun _ h9 => h9) rfl dX6_guest_61 ?_
      refine lv_iload_n hx hb dX6_guest_64 rfl (lv_at hl 1 rfl) ?_
      refine lv_iload_n hx hb dX6_guest_65 rfl (lv_at hl 2 rfl) ?_
      refine k_bmuti (wc := [pW cI aN PN]) (W1 := (fun (v : PV) => [pW cI aN v])) (va_runV (As := [.int a, .int b]) (rest := []) ⟨hx, hb, hml, hown, hts0⟩ (mX2_addGuest l dC dI cI aN PN a b) (cwV 2 hts0 (gi_V u_471 u_472 u_473 u_2 u_474) rfl rfl rfl (by decide +kernel) ⟨Nat.le_of_ble_eq_true rfl, Nat.le_of_ble_eq_true rfl⟩) (pcM_V (ci := 2) (q0 := 0) (fl_at hP 1 rfl) (hK.sub (tys' := [(cI, .int)]) [0] rfl) hn (fl_D1 hD 1 rfl) rfl rfl) rfl rfl hl.1 rfl (lv_room (Nat.le_of_ble_eq_true rfl)) dX6_guest_66 ⟨Nat.zero_le _, Nat.zero_le _⟩) hP hD hS [1] (by decide) rfl (fun _ => rfl) (fun r66 U66 H locs hU66 hP hD hS => ?_)
      have hP : va_P (dC, dI) vwCl (fW cI cP a0 aN aT aS t0 t1 t2 h0 h1 pa U66 PT PS f u U57.1 U57.2.1 U57.2.2 k) H := hP
      have hD : va_D A (fW cI cP a0 aN aT aS t0 t1 t2 h0 h1 pa U66 PT PS f u U57.1 U57.2.1 U57.2.2 k) := hD
      have hF := bd2_at hF hU66
      rw [hQ]
      exact W.iret (v := r66) hx hb hr (fun t ht hW => ⟨⟨r66, (U66, U57.1, U57.2.1, U57.2.2), rfl, k_okp hF, toH ht hP⟩, hS.F ht⟩) hS.2.2 dX6_guest_69
    have hF := hF.trans (if_neg c_36)
    exact (k_no hF hok).elim
  have hF := hF.trans (if_neg c_14)
  exact (k_no hF hok).elim

def fX6_wish (PN : PV) (Ps : Nat → PV) (oh : Nat) (vh : Nat) (g : Int32) (h : Int32) : Nat ⊕ (Int32 × (PV × (Nat → PV) × Nat × Nat)) :=
  (if (fX6_needGuest PN g) = 0 then (if h = (-1) then (if h = g then (Sum.inl 0) else (bd (fX0_save Ps oh vh PN) (fun U38 => (bd (fX3_put 16 (PN 2) g h) (fun U62 => (Sum.inr ((fX3_at 16 (PN 2) g), ((rset PN 2 U62), U38.1, U38.2.1, U38.2.2)))))))) else (if (fX6_needGuest PN h) = 0 then (if h = g then (Sum.inl 0) else (bd (fX0_save Ps oh vh PN) (fun U38 => (bd (fX3_put 16 (PN 2) g h) (fun U62 => (Sum.inr ((fX3_at 16 (PN 2) g), ((rset PN 2 U62), U38.1, U38.2.1, U38.2.2)))))))) else (Sum.inl 2))) else (Sum.inl 2))
abbrev rmX6_wish : Room := { frames := 4, cells := 0, slots := 0, locals := 104 }
set_option maxHeartbeats 4000000 in
set_option maxRecDepth 100000 in
theorem mX6_wish (l : Launch) (dC : Nat → ClassId) (dI : Nat → Nat → Nat) (cI cP : ClassId) (a0 : Nat) (aN aT aS : Nat → Nat) (t0 t1 t2 h0 h1 : Nat) (pa : Nat → Nat → Nat) (PN PT PS : PV) (f : Nat → Int32) (u : Int32) (Ps : Nat → PV) (oh vh : Nat) (k : Int32) (g : Int32) (h : Int32) (ho6 : oh < 6) (hv6 : vh ≤ 6) (hok : isOk (fX6_wish PN Ps oh vh g h) = true) : Met l yX6_wish (ws_ yX6_wish cX6_wish 4 (some .int)) rmX6_wish (pcM (dC, dI) [(cI, .int), (cP, .object "SupperSeats$Plan")] (fW cI cP a0 aN aT aS t0 t1 t2 h0 h1 pa PN PT PS f u Ps oh vh k) [.ref a0, .int g, .int h]) (va_Qi (fun (r9 : Int32) (u9 : PV × (Nat → PV) × Nat × Nat) => (r9, u9) = okp (fX6_wish PN Ps oh vh g h)) (fun u9 t => va_P (dC, dI) vwCl ((fun (v9 : PV × (Nat → PV) × Nat × Nat) => fW cI cP a0 aN aT aS t0 t1 t2 h0 h1 pa v9.1 PT PS f u v9.2.1 v9.2.2.1 v9.2.2.2 k) u9) t.heap) (adr (fW cI cP a0 aN aT aS t0 t1 t2 h0 h1 pa PN PT PS f u Ps oh vh k))) 0 0 (adr (fW cI cP a0 aN aT aS t0 t1 t2 h0 h1 pa PN PT PS f u Ps oh vh k)) := by
  refine Met.ofW (cc := cX6_wish) (maxL := 4) (ret := (some .int)) (by decide) rfl ?_
  intro p e s m args below meth c s₁ B hml hv
  obtain ⟨ha, hP, hK, hn, hD0⟩ := hv
  have hx := B.exec
  have hb := B.bytes
  have hr := B.returns
  have hts0 := atoms_spec (ws := (ws_ yX6_wish cX6_wish 4 (some .int))) B.pre
  have hts : ∀ w ∈ lw_all, w.before args s = true := fun w h => hts0 w (List.mem_cons_of_mem _ h)
  have hown : s.vm.findClass RX6 = some m.cls := findClass_of_methodNamed B.named
  have hlocks := B.notSynchronized
  have htX6 : ∀ w ∈ wsX60, w.before args s = true := fun w h => hts w (wX6 w h)
  have htX2 : ∀ w ∈ wsX20, w.before args s = true := fun w h => hts w (wX2 w h)
  have hD := adr_self hD0
  obtain ⟨A, hA⟩ : ∃ A, A = adr (fW cI cP a0 aN aT aS t0 t1 t2 h0 h1 pa PN PT PS f u Ps oh vh k) := ⟨_, rfl⟩
  rw [← hA] at hD
  have hS : va_S A s.heap s.heap [] := va_S.rf
  obtain ⟨Q, hQ⟩ : ∃ Q, Q = MQ below (va_Qi (fun (r9 : Int32) (u9 : PV × (Nat → PV) × Nat × Nat) => (r9, u9) = okp (fX6_wish PN Ps oh vh g h)) (fun u9 t => va_P (dC, dI) vwCl ((fun (v9 : PV × (Nat → PV) × Nat × Nat) => fW cI cP a0 aN aT aS t0 t1 t2 h0 h1 pa v9.1 PT PS f u v9.2.1 v9.2.2.1 v9.2.2.2 k) u9) t.heap) (adr (fW cI cP a0 aN aT aS t0 t1 t2 h0 h1 pa PN PT PS f u Ps oh vh k))) args s 0 0 (adr (fW cI cP a0 aN aT aS t0 t1 t2 h0 h1 pa PN PT PS f u Ps oh vh k)) := ⟨_, rfl⟩
  rw [← hQ]
  rw [← hA] at hQ
  have hl := lv_entry ([.ref a0, .int g, .int h]) (n := 4) (Nat.le_of_ble_eq_true rfl)
  rw [ha, lg_entry_eq, ← ha]
  generalize (lg_sl ([.ref a0, .int g, .int h]) ++ List.replicate (4 - (lg_sl ([.ref a0, .int g, .int h])).length) Slot.unset).toArray = ls at hl ⊢
  have hl : lv_has ls 4 [(0, .ref a0), (1, .int g), (2, .int h)] := hl
  show W p l e rmX6_wish s m args below meth c s.heap [] 0 0 Q (F0 m 0 ls [])
  have hF : fX6_wish PN Ps oh vh g h = fX6_wish PN Ps oh vh g h := rfl
  refine lv_aload_n hx hb dX6_wish_0 rfl (lv_at hl 0 rfl) ?_
  refine lv_iload_n hx hb dX6_wish_1 rfl (lv_at hl 1 rfl) ?_
  refine k_dec (P := (fX6_needGuest PN g) = 0) (fun c_2 => ?_) (fun c_2 => ?_)
  · have hF := hF.trans (if_neg c_2)
    exact (k_no hF hok).elim
  have hF := hF.trans (if_pos c_2)
  refine va_csv (W.runV (As := [.int g]) (rest := []) ⟨hx, hb, hml, hown, hts0⟩ (mX6_needGuest l dC dI cI cP a0 aN aT aS t0 t1 t2 h0 h1 pa PN PT PS f u Ps oh vh k g c_2) (cwV 1 hts0 (gi_V u_363 u_365 us_3 u_1 u_366) rfl rfl rfl (by decide +kernel) ⟨Nat.le_of_ble_eq_true rfl, Nat.le_of_ble_eq_true rfl⟩) (pcR_V (ci := 4) (q0 := 0) hP hK hn rfl rfl) rfl rfl hl.1 rfl (lv_room (Nat.le_of_ble_eq_true rfl)) dX6_wish_2 ⟨Nat.zero_le _, Nat.zero_le _⟩) (fun _ => ?_)
  refine lv_iload_n hx hb dX6_wish_5 rfl (lv_at hl 2 rfl) ?_
  refine lv_iconst (v := (-1)) hx hb dX6_wish_6 (by decide) ?_
  refine lv_icmp_eq (tgt := 15) hx hb dX6_wish_7 (by decide) (fun c_7 => ?_) (fun c_7 => ?_)
  · have hF := hF.trans (if_pos c_7)
    refine lv_iload_n hx hb dX6_wish_15 rfl (lv_at hl 2 rfl) ?_
    refine lv_iload_n hx hb dX6_wish_16 rfl (lv_at hl 1 rfl) ?_
    refine lv_icmp_ne (tgt := 30) hx hb dX6_wish_17 (by decide) (fun c_17 => ?_) (fun c_17 => ?_)
    · have hF := hF.trans (if_neg c_17)
      refine lv_aload_n hx hb dX6_wish_30 rfl (lv_at hl 0 rfl) ?_
      refine va_get (D := (dC, dI)) (ci := 4) (v := .ref h0) (C := RX6) (T := TX6) (N := 6) hx hb htX6 (fun _ h => h) hown hK (fl_at hP 0 rfl) 0 rfl rfl 3 (by decide) (hts _ u_144) (fun _ h9 => h9) rfl dX6_wish_31 ?_
      refine lv_aload_n hx hb dX6_wish_34 rfl (lv_at hl 0 rfl) ?_
      refine va_get (D := (dC, dI)) (ci := 4) (v := .ref (aN 0)) (C := RX6) (T := TX6) (N := 6) hx hb htX6 (fun _ h => h) hown hK (fl_at hP 0 rfl) 0 rfl rfl 0 (by decide) (hts _ u_141) (fun _ h9 => h9) rfl dX6_wish_35 ?_
      refine k_bmutv (wc := [hW cI cP h0 h1 pa Ps (nI oh) (nI vh), pW cI aN PN]) (W1 := (fun (v : (Nat → PV) × Nat × Nat) => [hW cI cP h0 h1 pa v.1 (nI v.2.1) (nI v.2.2), pW cI aN PN])) (va_runV (As := [.ref (aN 0)]) (rest := []) ⟨hx, hb, hml, hown, hts0⟩ (mX0_save l dC dI cI cP h0 h1 pa Ps oh vh aN PN  (by first | omega | assumption) (by first | omega | assumption)) (cwV 1 hts0 (gi_V u_451 u_452 u_453 u_5 u_454) rfl rfl rfl (by decide +kernel) ⟨Nat.le_of_ble_eq_true rfl, Nat.le_of_ble_eq_true rfl⟩) (pcM_V (ci := 0) (q0 := 0) (fl_sub (wc := [hW cI cP h0 h1 pa Ps (nI oh) (nI vh), pW cI aN PN]) hP [5, 1] rfl) hK hn (fl_D (wc := [hW cI cP h0 h1 pa Ps (nI oh) (nI vh), pW cI aN PN]) hD [5, 1] (by decide) rfl) rfl rfl) rfl rfl hl.1 rfl (lv_room (Nat.le_of_ble_eq_true rfl)) dX6_wish_38 ⟨Nat.zero_le _, Nat.zero_le _⟩) hP hD hS [5, 1] (by decide) rfl (fun _ => rfl) (fun U38 H locs hU38 hP hD hS => ?_)
      have hP : va_P (dC, dI) vwCl (fW cI cP a0 aN aT aS t0 t1 t2 h0 h1 pa PN PT PS f u U38.1 U38.2.1 U38.2.2 k) H := hP
      have hD : va_D A (fW cI cP a0 aN aT aS t0 t1 t2 h0 h1 pa PN PT PS f u U38.1 U38.2.1 U38.2.2 k) := hD
      have hF := bd_at hF hU38
      refine lv_aload_n hx hb dX6_wish_41 rfl (lv_at hl 0 rfl) ?_
      refine va_get (D := (dC, dI)) (ci := 4) (v := .ref (aN 0)) (C := RX6) (T := TX6) (N := 6) hx hb htX6 (fun _ h => h) hown hK (fl_at hP 0 rfl) 0 rfl rfl 0 (by decide) (hts _ u_141) (fun _ h9 => h9) rfl dX6_wish_42 ?_
      refine va_getN (D := (dC, dI)) (ci := 2) (v := .ref (aN 3)) (C := RX2) (T := TX2) (N := 14) hx hb htX2 (fun _ h => h) hown hK (fl_at hP 1 rfl) 0 rfl rfl 2 (by decide) (va_Nw.use rfl (hn _ (List.mem_of_getElem? (i := 4) rfl))) (fun _ h9 => h9) rfl dX6_wish_45 ?_
      refine lv_iload_n hx hb dX6_wish_48 rfl (lv_at hl 1 rfl) ?_
      refine k_calli (W.runS (As := [.ref (aN 3), .int g]) (rest := []) ⟨hx, hb, hml, hown, hts0⟩ (mX3_at l dC dI cI (aN 3) 16 (by decide) (PN 2) g) (va_cwS 2 hts0 (gi_S u_345 u_303 u_7 u_304) rfl rfl rfl (by decide +kernel) ⟨Nat.le_of_ble_eq_true rfl, Nat.le_of_ble_eq_true rfl⟩) (pcR_S ((fl_at hP 1 rfl).sub (ws' := aW cI (aN 3) 16 (PN 2)) [3] rfl) (hK.sub (tys' := [(cI, .int)]) [0] rfl) hn) rfl rfl hl.1 rfl (lv_room (Nat.le_of_ble_eq_true rfl)) dX6_wish_49 ⟨Nat.zero_le _, Nat.zero_le _⟩) ?_
      refine lv_istore_n (lv' := [(3, .int (fX3_at 16 (PN 2) g)), (0, .ref a0), (1, .int g), (2, .int h)]) hx hb dX6_wish_52 rfl hl (by decide) rfl (fun ls hl => ?_)
      refine lv_aload_n hx hb dX6_wish_53 rfl (lv_at hl 1 rfl) ?_
      refine va_get (D := (dC, dI)) (ci := 4) (v := .ref (aN 0)) (C := RX6) (T := TX6) (N := 6) hx hb htX6 (fun _ h => h) hown hK (fl_at hP 0 rfl) 0 rfl rfl 0 (by decide) (hts _ u_141) (fun _ h9 => h9) rfl dX6_wish_54 ?_
      refine va_getN (D := (dC, dI)) (ci := 2) (v := .ref (aN 3)) (C := RX2) (T := TX2) (N := 14) hx hb htX2 (fun _ h => h) hown hK (fl_at hP 1 rfl) 0 rfl rfl 2 (by decide) (va_Nw.use rfl (hn _ (List.mem_of_getElem? (i := 4) rfl))) (fun _ h9 => h9) rfl dX6_wish_57 ?_
      refine lv_iload_n hx hb dX6_wish_60 rfl (lv_at hl 2 rfl) ?_
      refine lv_iload_n hx hb dX6_wish_61 rfl (lv_at hl 3 rfl) ?_
      refine k_smutv (Wd := (fun (v : Nat → Int32) => aW cI (aN 3) 16 v)) (va_runS (As := [.ref (aN 3), .int g, .int h]) (rest := []) ⟨hx, hb, hml, hown, hts0⟩ (mX3_put l dC dI cI (aN 3) 16 (by decide) (PN 2) g h) (va_cwS 3 hts0 (gi_S u_538 u_460 u_7 u_461) rfl rfl rfl (by decide +kernel) ⟨Nat.le_of_ble_eq_true rfl, Nat.le_of_ble_eq_true rfl⟩) (pcM_S ((fl_at hP 1 rfl).sub (ws' := aW cI (aN 3) 16 (PN 2)) [3] rfl) (hK.sub (tys' := [(cI, .int)]) [0] rfl) hn ((fl_D1 hD 1 rfl).sub (ws' := aW cI (aN 3) 16 (PN 2)) [3] (by decide) rfl)) rfl rfl hl.1 rfl (lv_room (Nat.le_of_ble_eq_true rfl)) dX6_wish_62 ⟨Nat.zero_le _, Nat.zero_le _⟩) hP hD hS 1 rfl [3] rfl rfl (fun _ => rfl) (fun U62 H locs hU62 hP hD hS => ?_)
      have hP : va_P (dC, dI) vwCl (fW cI cP a0 aN aT aS t0 t1 t2 h0 h1 pa (rset PN 2 U62) PT PS f u U38.1 U38.2.1 U38.2.2 k) H := hP
      have hD : va_D A (fW cI cP a0 aN aT aS t0 t1 t2 h0 h1 pa (rset PN 2 U62) PT PS f u U38.1 U38.2.1 U38.2.2 k) := hD
      have hF := bd_at hF hU62
      refine lv_iload_n hx hb dX6_wish_65 rfl (lv_at hl 0 rfl) ?_
      rw [hQ]
      exact W.iret (v := (fX3_at 16 (PN 2) g)) hx hb hr (fun t ht hW => ⟨⟨(fX3_at 16 (PN 2) g), ((rset PN 2 U62), U38.1, U38.2.1, U38.2.2), rfl, k_okp hF, toH ht hP⟩, hS.F ht⟩) hS.2.2 dX6_wish_66
    have hF := hF.trans (if_pos c_17)
    exact (k_no hF hok).elim
  have hF := hF.trans (if_neg c_7)
  refine lv_aload_n hx hb dX6_wish_10 rfl (lv_at hl 0 rfl) ?_
  refine lv_iload_n hx hb dX6_wish_11 rfl (lv_at hl 2 rfl) ?_
  refine k_dec (P := (fX6_needGuest PN h) = 0) (fun c_12 => ?_) (fun c_12 => ?_)
  · have hF := hF.trans (if_neg c_12)
    exact (k_no hF hok).elim
  have hF := hF.trans (if_pos c_12)
  refine va_csv (W.runV (As := [.int h]) (rest := []) ⟨hx, hb, hml, hown, hts0⟩ (mX6_needGuest l dC dI cI cP a0 aN aT aS t0 t1 t2 h0 h1 pa PN PT PS f u Ps oh vh k h c_12) (cwV 1 hts0 (gi_V u_363 u_365 us_3 u_1 u_366) rfl rfl rfl (by decide +kernel) ⟨Nat.le_of_ble_eq_true rfl, Nat.le_of_ble_eq_true rfl⟩) (pcR_V (ci := 4) (q0 := 0) hP hK hn rfl rfl) rfl rfl hl.1 rfl (lv_room (Nat.le_of_ble_eq_true rfl)) dX6_wish_12 ⟨Nat.zero_le _, Nat.zero_le _⟩) (fun _ => ?_)
  refine lv_iload_n hx hb dX6_wish_15 rfl (lv_at hl 2 rfl) ?_
  refine lv_iload_n hx hb dX6_wish_16 rfl (lv_at hl 1 rfl) ?_
  refine lv_icmp_ne (tgt := 30) hx hb dX6_wish_17 (by decide) (fun c_17 => ?_) (fun c_17 => ?_)
  · have hF := hF.trans (if_neg c_17)
    refine lv_aload_n hx hb dX6_wish_30 rfl (lv_at hl 0 rfl) ?_
    refine va_get (D := (dC, dI)) (ci := 4) (v := .ref h0) (C := RX6) (T := TX6) (N := 6) hx hb htX6 (fun _ h => h) hown hK (fl_at hP 0 rfl) 0 rfl rfl 3 (by decide) (hts _ u_144) (fun _ h9 => h9) rfl dX6_wish_31 ?_
    refine lv_aload_n hx hb dX6_wish_34 rfl (lv_at hl 0 rfl) ?_
    refine va_get (D := (dC, dI)) (ci := 4) (v := .ref (aN 0)) (C := RX6) (T := TX6) (N := 6) hx hb htX6 (fun _ h => h) hown hK (fl_at hP 0 rfl) 0 rfl rfl 0 (by decide) (hts _ u_141) (fun _ h9 => h9) rfl dX6_wish_35 ?_
    refine k_bmutv (wc := [hW cI cP h0 h1 pa Ps (nI oh) (nI vh), pW cI aN PN]) (W1 := (fun (v : (Nat → PV) × Nat × Nat) => [hW cI cP h0 h1 pa v.1 (nI v.2.1) (nI v.2.2), pW cI aN PN])) (va_runV (As := [.ref (aN 0)]) (rest := []) ⟨hx, hb, hml, hown, hts0⟩ (mX0_save l dC dI cI cP h0 h1 pa Ps oh vh aN PN  (by first | omega | assumption) (by first | omega | assumption)) (cwV 1 hts0 (gi_V u_451 u_452 u_453 u_5 u_454) rfl rfl rfl (by decide +kernel) ⟨Nat.le_of_ble_eq_true rfl, Nat.le_of_ble_eq_true rfl⟩) (pcM_V (ci := 0) (q0 := 0) (fl_sub (wc := [hW cI cP h0 h1 pa Ps (nI oh) (nI vh), pW cI aN PN]) hP [5, 1] rfl) hK hn (fl_D (wc := [hW cI cP h0 h1 pa Ps (nI oh) (nI vh), pW cI aN PN]) hD [5, 1] (by decide) rfl) rfl rfl) rfl rfl hl.1 rfl (lv_room (Nat.le_of_ble_eq_true rfl)) dX6_wish_38 ⟨Nat.zero_le _, Nat.zero_le _⟩) hP hD hS [5, 1] (by decide) rfl (fun _ => rfl) (fun U38 H locs hU38 hP hD hS => ?_)
    have hP : va_P (dC, dI) vwCl (fW cI cP a0 aN aT aS t0 t1 t2 h0 h1 pa PN PT PS f u U38.1 U38.2.1 U38.2.2 k) H := hP
    have hD : va_D A (fW cI cP a0 aN aT aS t0 t1 t2 h0 h1 pa PN PT PS f u U38.1 U38.2.1 U38.2.2 k) := hD
    have hF := bd_at hF hU38
    refine lv_aload_n hx hb dX6_wish_41 rfl (lv_at hl 0 rfl) ?_
    refine va_get (D := (dC, dI)) (ci := 4) (v := .ref (aN 0)) (C := RX6) (T := TX6) (N := 6) hx hb htX6 (fun _ h => h) hown hK (fl_at hP 0 rfl) 0 rfl rfl 0 (by decide) (hts _ u_141) (fun _ h9 => h9) rfl dX6_wish_42 ?_
    refine va_getN (D := (dC, dI)) (ci := 2) (v := .ref (aN 3)) (C := RX2) (T := TX2) (N := 14) hx hb htX2 (fun _ h => h) hown hK (fl_at hP 1 rfl) 0 rfl rfl 2 (by decide) (va_Nw.use rfl (hn _ (List.mem_of_getElem? (i := 4) rfl))) (fun _ h9 => h9) rfl dX6_wish_45 ?_
    refine lv_iload_n hx hb dX6_wish_48 rfl (lv_at hl 1 rfl) ?_
    refine k_calli (W.runS (As := [.ref (aN 3), .int g]) (rest := []) ⟨hx, hb, hml, hown, hts0⟩ (mX3_at l dC dI cI (aN 3) 16 (by decide) (PN 2) g) (va_cwS 2 hts0 (gi_S u_345 u_303 u_7 u_304) rfl rfl rfl (by decide +kernel) ⟨Nat.le_of_ble_eq_true rfl, Nat.le_of_ble_eq_true rfl⟩) (pcR_S ((fl_at hP 1 rfl).sub (ws' := aW cI (aN 3) 16 (PN 2)) [3] rfl) (hK.sub (tys' := [(cI, .int)]) [0] rfl) hn) rfl rfl hl.1 rfl (lv_room (Nat.le_of_ble_eq_true rfl)) dX6_wish_49 ⟨Nat.zero_le _, Nat.zero_le _⟩) ?_
    refine lv_istore_n (lv' := [(3, .int (fX3_at 16 (PN 2) g)), (0, .ref a0), (1, .int g), (2, .int h)]) hx hb dX6_wish_52 rfl hl (by decide) rfl (fun ls hl => ?_)
    refine lv_aload_n hx hb dX6_wish_53 rfl (lv_at hl 1 rfl) ?_
    refine va_get (D := (dC, dI)) (ci := 4) (v := .ref (aN 0)) (C := RX6) (T := TX6) (N := 6) hx hb htX6 (fun _ h => h) hown hK (fl_at hP 0 rfl) 0 rfl rfl 0 (by decide) (hts _ u_141) (fun _ h9 => h9) rfl dX6_wish_54 ?_
    refine va_getN (D := (dC, dI)) (ci := 2) (v := .ref (aN 3)) (C := RX2) (T := TX2) (N := 14) hx hb htX2 (fun _ h => h) hown hK (fl_at hP 1 rfl) 0 rfl rfl 2 (by decide) (va_Nw.use rfl (hn _ (List.mem_of_getElem? (i := 4) rfl))) (fun _ h9 => h9) rfl dX6_wish_57 ?_
    refine lv_iload_n hx hb dX6_wish_60 rfl (lv_at hl 2 rfl) ?_
    refine lv_iload_n hx hb dX6_wish_61 rfl (lv_at hl 3 rfl) ?_
    refine k_smutv (Wd := (fun (v : Nat → Int32) => aW cI (aN 3) 16 v)) (va_runS (As := [.ref (aN 3), .int g, .int h]) (rest := []) ⟨hx, hb, hml, hown, hts0⟩ (mX3_put l dC dI cI (aN 3) 16 (by decide) (PN 2) g h) (va_cwS 3 hts0 (gi_S u_538 u_460 u_7 u_461) rfl rfl rfl (by decide +kernel) ⟨Nat.le_of_ble_eq_true rfl, Nat.le_of_ble_eq_true rfl⟩) (pcM_S ((fl_at hP 1 rfl).sub (ws' := aW cI (aN 3) 16 (PN 2)) [3] rfl) (hK.sub (tys' := [(cI, .int)]) [0] rfl) hn ((fl_D1 hD 1 rfl).sub (ws' := aW cI (aN 3) 16 (PN 2)) [3] (by decide) rfl)) rfl rfl hl.1 rfl (lv_room (Nat.le_of_ble_eq_true rfl)) dX6_wish_62 ⟨Nat.zero_le _, Nat.zero_le _⟩) hP hD hS 1 rfl [3] rfl rfl (fun _ => rfl) (fun U62 H locs hU62 hP hD hS => ?_)
    have hP : va_P (dC, dI) vwCl (fW cI cP a0 aN aT aS t0 t1 t2 h0 h1 pa (rset PN 2 U62) PT PS f u U38.1 U38.2.1 U38.2.2 k) H := hP
    have hD : va_D A (fW cI cP a0 aN aT aS t0 t1 t2 h0 h1 pa (rset PN 2 U62) PT PS f u U38.1 U38.2.1 U38.2.2 k) := hD
    have hF := bd_at hF hU62
    refine lv_iload_n hx hb dX6_wish_65 rfl (lv_at hl 0 rfl) ?_
    rw [hQ]
    exact W.iret (v := (fX3_at 16 (PN 2) g)) hx hb hr (fun t ht hW => ⟨⟨(fX3_at 16 (PN 2) g), ((rset PN 2 U62), U38.1, U38.2.1, U38.2.2), rfl, k_okp hF, toH ht hP⟩, hS.F ht⟩) hS.2.2 dX6_wish_66
  have hF := hF.trans (if_pos c_17)
  exact (k_no hF hok).elim

def fX6_table (PN : PV) (Ps : Nat → PV) (oh : Nat) (vh : Nat) (n5 : Int32) : Nat ⊕ (Int32 × (PV × (Nat → PV) × Nat × Nat)) :=
  (if n5 < 3 then (Sum.inl 0) else (if n5 ≤ 8 then (if (PN 10 1) < 4 then (bd (fX0_save Ps oh vh PN) (fun U50 => (bd2 (fX2_addTable PN n5) (fun r58 U58 => (Sum.inr (r58, (U58, U50.1, U50.2.1, U50.2.2))))))) else (Sum.inl 1)) else (Sum.inl 0)))
abbrev rmX6_table : Room := { frames := 4, cells := 0, slots := 0, locals := 104 }
set_option maxHeartbeats 4000000 in
set_option maxRecDepth 100000 in
theorem mX6_table (l : Launch) (dC : Nat → ClassId) (dI : Nat → Nat → Nat) (cI cP : ClassId) (a0 : Nat) (aN aT aS : Nat → Nat) (t0 t1 t2 h0 h1 : Nat) (pa : Nat → Nat → Nat) (PN PT PS : PV) (f : Nat → Int32) (u : Int32) (Ps : Nat → PV) (oh vh : Nat) (k : Int32) (n5 : Int32) (ho6 : oh < 6) (hv6 : vh ≤ 6) (hok : isOk (fX6_table PN Ps oh vh n5) = true) : Met l yX6_table (ws_ yX6_table cX6_table 2 (some .int)) rmX6_table (pcM (dC, dI) [(cI, .int), (cP, .object "SupperSeats$Plan")] (fW cI cP a0 aN aT aS t0 t1 t2 h0 h1 pa PN PT PS f u Ps oh vh k) [.ref a0, .int n5]) (va_Qi (fun (r9 : Int32) (u9 : PV × (Nat → PV) × Nat × Nat) => (r9, u9) = okp (fX6_table PN Ps oh vh n5)) (fun u9 t => va_P (dC, dI) vwCl ((fun (v9 : PV × (Nat → PV) × Nat × Nat) => fW cI cP a0 aN aT aS t0 t1 t2 h0 h1 pa v9.1 PT PS f u v9.2.1 v9.2.2.1 v9.2.2.2 k) u9) t.heap) (adr (fW cI cP a0 aN aT aS t0 t1 t2 h0 h1 pa PN PT PS f u Ps oh vh k))) 0 0 (adr (fW cI cP a0 aN aT aS t0 t1 t2 h0 h1 pa PN PT PS f u Ps oh vh k)) := by
  refine Met.ofW (cc := cX6_table) (maxL := 2) (ret := (some .int)) (by decide) rfl ?_
  intro p e s m args below meth c s₁ B hml hv
  obtain ⟨ha, hP, hK, hn, hD0⟩ := hv
  have hx := B.exec
  have hb := B.bytes
  have hr := B.returns
  have hts0 := atoms_spec (ws := (ws_ yX6_table cX6_table 2 (some .int))) B.pre
  have hts : ∀ w ∈ lw_all, w.before args s = true := fun w h => hts0 w (List.mem_cons_of_mem _ h)
  have hown : s.vm.findClass RX6 = some m.cls := findClass_of_methodNamed B.named
  have hlocks := B.notSynchronized
  have htX6 : ∀ w ∈ wsX60, w.before args s = true := fun w h => hts w (wX6 w h)
  have htX2 : ∀ w ∈ wsX20, w.before args s = true := fun w h => hts w (wX2 w h)
  have hD := adr_self hD0
  obtain ⟨A, hA⟩ : ∃ A, A = adr (fW cI cP a0 aN aT aS t0 t1 t2 h0 h1 pa PN PT PS f u Ps oh vh k) := ⟨_, rfl⟩
  rw [← hA] at hD
  have hS : va_S A s.heap s.heap [] := va_S.rf
  obtain ⟨Q, hQ⟩ : ∃ Q, Q = MQ below (va_Qi (fun (r9 : Int32) (u9 : PV × (Nat → PV) × Nat × Nat) => (r9, u9) = okp (fX6_table PN Ps oh vh n5)) (fun u9 t => va_P (dC, dI) vwCl ((fun (v9 : PV × (Nat → PV) × Nat × Nat) => fW cI cP a0 aN aT aS t0 t1 t2 h0 h1 pa v9.1 PT PS f u v9.2.1 v9.2.2.1 v9.2.2.2 k) u9) t.heap) (adr (fW cI cP a0 aN aT aS t0 t1 t2 h0 h1 pa PN PT PS f u Ps oh vh k))) args s 0 0 (adr (fW cI cP a0 aN aT aS t0 t1 t2 h0 h1 pa PN PT PS f u Ps oh vh k)) := ⟨_, rfl⟩
  rw [← hQ]
  rw [← hA] at hQ
  have hl := lv_entry ([.ref a0, .int n5]) (n := 2) (Nat.le_of_ble_eq_true rfl)
  rw [ha, lg_entry_eq, ← ha]
  generalize (lg_sl ([.ref a0, .int n5]) ++ List.replicate (2 - (lg_sl ([.ref a0, .int n5])).length) Slot.unset).toArray = ls at hl ⊢
  have hl : lv_has ls 2 [(0, .ref a0), (1, .int n5)] := hl
  show W p l e rmX6_table s m args below meth c s.heap [] 0 0 Q (F0 m 0 ls [])
  have hF : fX6_table PN Ps oh vh n5 = fX6_table PN Ps oh vh n5 := rfl
  refine lv_iload_n hx hb dX6_table_0 rfl (lv_at hl 1 rfl) ?_
  refine lv_iconst (v := 3) hx hb dX6_table_1 (by decide) ?_
  refine lv_icmp_lt (tgt := 11) hx hb dX6_table_2 (by decide) (fun c_2 => ?_) (fun c_2 => ?_)
  · have hF := hF.trans (if_pos c_2)
    exact (k_no hF hok).elim
  have hF := hF.trans (if_neg c_2)
  refine lv_iload_n hx hb dX6_table_5 rfl (lv_at hl 1 rfl) ?_
  refine lv_bipush (v := 8) hx hb dX6_table_6 (by decide) ?_
  refine lv_icmp_le (tgt := 21) hx hb dX6_table_8 (by decide) (fun c_8 => ?_) (fun c_8 => ?_)
  · have hF := hF.trans (if_pos c_8)
    refine lv_aload_n hx hb dX6_table_21 rfl (lv_at hl 0 rfl) ?_
    refine va_get (D := (dC, dI)) (ci := 4) (v := .ref (aN 0)) (C := RX6) (T := TX6) (N := 6) hx hb htX6 (fun _ h => h) hown hK (fl_at hP 0 rfl) 0 rfl rfl 0 (by decide) (hts _ u_141) (fun _ h9 => h9) rfl dX6_table_22 ?_
    refine va_getN (D := (dC, dI)) (ci := 2) (v := .int (PN 10 1)) (C := RX2) (T := TX2) (N := 14) hx hb htX2 (fun _ h => h) hown hK (fl_at hP 1 rfl) 0 rfl rfl 11 (by decide) (va_Nw.use rfl (hn _ (List.mem_of_getElem? (i := 17) rfl))) (fun _ h9 => h9) rfl dX6_table_25 ?_
    refine lv_iconst (v := 4) hx hb dX6_table_28 (by decide) ?_
    refine lv_icmp_lt (tgt := 42) hx hb dX6_table_29 (by decide) (fun c_29 => ?_) (fun c_29 => ?_)
    · have hF := hF.trans (if_pos c_29)
      refine lv_aload_n hx hb dX6_table_42 rfl (lv_at hl 0 rfl) ?_
      refine va_get (D := (dC, dI)) (ci := 4) (v := .ref h0) (C := RX6) (T := TX6) (N := 6) hx hb htX6 (fun _ h => h) hown hK (fl_at hP 0 rfl) 0 rfl rfl 3 (by decide) (hts _ u_144) (fun _ h9 => h9) rfl dX6_table_43 ?_
      refine lv_aload_n hx hb dX6_table_46 rfl (lv_at hl 0 rfl) ?_
      refine va_get (D := (dC, dI)) (ci := 4) (v := .ref (aN 0)) (C := RX6) (T := TX6) (N := 6) hx hb htX6 (fun _ h => h) hown hK (fl_at hP 0 rfl) 0 rfl rfl 0 (by decide) (hts _ u_141) (fun _ h9 => h9) rfl dX6_table_47 ?_
      refine k_bmutv (wc := [hW cI cP h0 h1 pa Ps (nI oh) (nI vh), pW cI aN PN]) (W1 := (fun (v : (Nat → PV) × Nat × Nat) => [hW cI cP h0 h1 pa v.1 (nI v.2.1) (nI v.2.2), pW cI aN PN])) (va_runV (As := [.ref (aN 0)]) (rest := []) ⟨hx, hb, hml, hown, hts0⟩ (mX0_save l dC dI cI cP h0 h1 pa Ps oh vh aN PN  (by first | omega | assumption) (by first | omega | assumption)) (cwV 1 hts0 (gi_V u_451 u_452 u_453 u_5 u_454) rfl rfl rfl (by decide +kernel) ⟨Nat.le_of_ble_eq_true rfl, Nat.le_of_ble_eq_true rfl⟩) (pcM_V (ci := 0) (q0 := 0) (fl_sub (wc := [hW cI cP h0 h1 pa Ps (nI oh) (nI vh), pW cI aN PN]) hP [5, 1] rfl) hK hn (fl_D (wc := [hW cI cP h0 h1 pa Ps (nI oh) (nI vh), pW cI aN PN]) hD [5, 1] (by decide) rfl) rfl rfl) rfl rfl hl.1 rfl (lv_room (Nat.le_of_ble_eq_true rfl)) dX6_table_50 ⟨Nat.zero_le _, Nat.zero_le _⟩) hP hD hS [5, 1] (by decide) rfl (fun _ => rfl) (fun U50 H locs hU50 hP hD hS => ?_)
      have hP : va_P (dC, dI) vwCl (fW cI cP a0 aN aT aS t0 t1 t2 h0 h1 pa PN PT PS f u U50.1 U50.2.1 U50.2.2 k) H := hP
      have hD : va_D A (fW cI cP a0 aN aT aS t0 t1 t2 h0 h1 pa PN PT PS f u U50.1 U50.2.1 U50.2.2 k) := hD
      have hF := bd_at hF hU50
      refine lv_aload_n hx hb dX6_table_53 rfl (lv_at hl 0 rfl) ?_
      refine va_get (D := (dC, dI)) (ci := 4) (v := .ref (aN 0)) (C := RX6) (T := TX6) (N := 6) hx hb htX6 (fun _ h => h) hown hK (fl_at hP 0 rfl) 0 rfl rfl 0 (by decide) (hts _ u_141) (fun _ h9 => h9) rfl dX6_table_54 ?_
      refine lv_iload_n hx hb dX6_table_57 rfl (lv_at hl 1 rfl) ?_
      refine k_bmuti (wc := [pW cI aN PN]) (W1 := (fun (v : PV) => [pW cI aN v])) (va_runV (As := [.int n5]) (rest := []) ⟨hx, hb, hml, hown, hts0⟩ (mX2_addTable l dC dI cI aN PN n5) (cwV 1 hts0 (gi_V u_455 u_456 u_457 u_2 u_458) rfl rfl rfl (by decide +kernel) ⟨Nat.le_of_ble_eq_true rfl, Nat.le_of_ble_eq_true rfl⟩) (pcM_V (ci := 2) (q0 := 0) (fl_at hP 1 rfl) (hK.sub (tys' := [(cI, .int)]) [0] rfl) hn (fl_D1 hD 1 rfl) rfl rfl) rfl rfl hl.1 rfl (lv_room (Nat.le_of_ble_eq_true rfl)) dX6_table_58 ⟨Nat.zero_le _, Nat.zero_le _⟩) hP hD hS [1] (by decide) rfl (fun _ => rfl) (fun r58 U58 H locs hU58 hP hD hS => ?_)
      have hP : va_P (dC, dI) vwCl (fW cI cP a0 aN aT aS t0 t1 t2 h0 h1 pa U58 PT PS f u U50.1 U50.2.1 U50.2.2 k) H := hP
      have hD : va_D A (fW cI cP a0 aN aT aS t0 t1 t2 h0 h1 pa U58 PT PS f u U50.1 U50.2.1 U50.2.2 k) := hD
      have hF := bd2_at hF hU58
      rw [hQ]
      exact W.iret (v := r58) hx hb hr (fun t ht hW => ⟨⟨r58, (U58, U50.1, U50.2.1, U50.2.2), rfl, k_okp hF, toH ht hP⟩, hS.F ht⟩) hS.2.2 dX6_table_61
    have hF := hF.trans (if_neg c_29)
    exact (k_no hF hok).elim
  have hF := hF.trans (if_neg c_8)
  exact (k_no hF hok).elim

def fX6_feud (PN : PV) (Ps : Nat → PV) (oh : Nat) (vh : Nat) (a : Int32) (b : Int32) : Nat ⊕ (Int32 × (PV × (Nat → PV) × Nat × Nat)) :=
  (if (fX6_needTwoFamilies a b) = 0 then (if (fX2_hasFeud PN a b) = 0 then (if (fX1_isFull 8 (PN 8) (PN 10 4)) = 0 then (bd (fX0_save Ps oh vh PN) (fun U48 => (bd2 (fX2_beginFeud PN a b) (fun r57 U57 => (Sum.inr (r57, (U57, U48.1, U48.2.1, U48.2.2))))))) else (Sum.inl 1)) else (Sum.inl 1)) else (Sum.inl 0))
abbrev rmX6_feud : Room := { frames := 5, cells := 0, slots := 0, locals := 119 }
set_option maxHeartbeats 4000000 in
set_option maxRecDepth 100000 in
theorem mX6_feud (l : Launch) (dC : Nat → ClassId) (dI : Nat → Nat → Nat) (cI cP : ClassId) (a0 : Nat) (aN aT aS : Nat → Nat) (t0 t1 t2 h0 h1 : Nat) (pa : Nat → Nat → Nat) (PN PT PS : PV) (f : Nat → Int32) (u : Int32) (Ps : Nat → PV) (oh vh : Nat) (k : Int32) (a : Int32) (b : Int32) (ho6 : oh < 6) (hv6 : vh ≤ 6) (hok : isOk (fX6_feud PN Ps oh vh a b) = true) : Met l yX6_feud (ws_ yX6_feud cX6_feud 3 (some .int)) rmX6_feud (pcM (dC, dI) [(cI, .int), (cP, .object "SupperSeats$Plan")] (fW cI cP a0 aN aT aS t0 t1 t2 h0 h1 pa PN PT PS f u Ps oh vh k) [.ref a0, .int a, .int b]) (va_Qi (fun (r9 : Int32) (u9 : PV × (Nat → PV) × Nat × Nat) => (r9, u9) = okp (fX6_feud PN Ps oh vh a b)) (fun u9 t => va_P (dC, dI) vwCl ((fun (v9 : PV × (Nat → PV) × Nat × Nat) => fW cI cP a0 aN aT aS t0 t1 t2 h0 h1 pa v9.1 PT PS f u v9.2.1 v9.2.2.1 v9.2.2.2 k) u9) t.heap) (adr (fW cI cP a0 aN aT aS t0 t1 t2 h0 h1 pa PN PT PS f u Ps oh vh k))) 0 0 (adr (fW cI cP a0 aN aT aS t0 t1 t2 h0 h1 pa PN PT PS f u Ps oh vh k)) := by
  refine Met.ofW (cc := cX6_feud) (maxL := 3) (ret := (some .int)) (by decide) rfl ?_
  intro p e s m args below meth c s₁ B hml hv
  obtain ⟨ha, hP, hK, hn, hD0⟩ := hv
  have hx := B.exec
  have hb := B.bytes
  have hr := B.returns
  have hts0 := atoms_spec (ws := (ws_ yX6_feud cX6_feud 3 (some .int))) B.pre
  have hts : ∀ w ∈ lw_all, w.before args s = true := fun w h => hts0 w (List.mem_cons_of_mem _ h)
  have hown : s.vm.findClass RX6 = some m.cls := findClass_of_methodNamed B.named
  have hlocks := B.notSynchronized
  have htX6 : ∀ w ∈ wsX60, w.before args s = true := fun w h => hts w (wX6 w h)
  have htX2 : ∀ w ∈ wsX20, w.before args s = true := fun w h => hts w (wX2 w h)
  have hD := adr_self hD0
  obtain ⟨A, hA⟩ : ∃ A, A = adr (fW cI cP a0 aN aT aS t0 t1 t2 h0 h1 pa PN PT PS f u Ps oh vh k) := ⟨_, rfl⟩
  rw [← hA] at hD
  have hS : va_S A s.heap s.heap [] := va_S.rf
  obtain ⟨Q, hQ⟩ : ∃ Q, Q = MQ below (va_Qi (fun (r9 : Int32) (u9 : PV × (Nat → PV) × Nat × Nat) => (r9, u9) = okp (fX6_feud PN Ps oh vh a b)) (fun u9 t => va_P (dC, dI) vwCl ((fun (v9 : PV × (Nat → PV) × Nat × Nat) => fW cI cP a0 aN aT aS t0 t1 t2 h0 h1 pa v9.1 PT PS f u v9.2.1 v9.2.2.1 v9.2.2.2 k) u9) t.heap) (adr (fW cI cP a0 aN aT aS t0 t1 t2 h0 h1 pa PN PT PS f u Ps oh vh k))) args s 0 0 (adr (fW cI cP a0 aN aT aS t0 t1 t2 h0 h1 pa PN PT PS f u Ps oh vh k)) := ⟨_, rfl⟩
  rw [← hQ]
  rw [← hA] at hQ
  have hl := lv_entry ([.ref a0, .int a, .int b]) (n := 3) (Nat.le_of_ble_eq_true rfl)
  rw [ha, lg_entry_eq, ← ha]
  generalize (lg_sl ([.ref a0, .int a, .int b]) ++ List.replicate (3 - (lg_sl ([.ref a0, .int a, .int b])).length) Slot.unset).toArray = ls at hl ⊢
  have hl : lv_has ls 3 [(0, .ref a0), (1, .int a), (2, .int b)] := hl
  show W p l e rmX6_feud s m args below meth c s.heap [] 0 0 Q (F0 m 0 ls [])
  have hF : fX6_feud PN Ps oh vh a b = fX6_feud PN Ps oh vh a b := rfl
  refine lv_iload_n hx hb dX6_feud_0 rfl (lv_at hl 1 rfl) ?_
  refine lv_iload_n hx hb dX6_feud_1 rfl (lv_at hl 2 rfl) ?_
  refine k_dec (P := (fX6_needTwoFamilies a b) = 0) (fun c_2 => ?_) (fun c_2 => ?_)
  · have hF := hF.trans (if_neg c_2)
    exact (k_no hF hok).elim
  have hF := hF.trans (if_pos c_2)
  refine va_csv (W.runS (As := [.int a, .int b]) (rest := []) ⟨hx, hb, hml, hown, hts0⟩ (mX6_needTwoFamilies l dC dI  a b c_2) (va_cwS 2 hts0 (gi_S u_546 u_547 u_1 u_548) rfl rfl rfl (by decide +kernel) ⟨Nat.le_of_ble_eq_true rfl, Nat.le_of_ble_eq_true rfl⟩) (pcR_S (hP.sub (ws' := []) [] rfl) (hK.sub (tys' := []) [] rfl) hn) rfl rfl hl.1 rfl (lv_room (Nat.le_of_ble_eq_true rfl)) dX6_feud_2 ⟨Nat.zero_le _, Nat.zero_le _⟩) (fun _ => ?_)
  refine lv_aload_n hx hb dX6_feud_5 rfl (lv_at hl 0 rfl) ?_
  refine va_get (D := (dC, dI)) (ci := 4) (v := .ref (aN 0)) (C := RX6) (T := TX6) (N := 6) hx hb htX6 (fun _ h => h) hown hK (fl_at hP 0 rfl) 0 rfl rfl 0 (by decide) (hts _ u_141) (fun _ h9 => h9) rfl dX6_feud_6 ?_
  refine lv_iload_n hx hb dX6_feud_9 rfl (lv_at hl 1 rfl) ?_
  refine lv_iload_n hx hb dX6_feud_10 rfl (lv_at hl 2 rfl) ?_
  refine k_callb (W.runV (As := [.int a, .int b]) (rest := []) ⟨hx, hb, hml, hown, hts0⟩ (mX2_hasFeud l dC dI cI aN PN a b) (cwV 2 hts0 (gi_V u_550 u_551 u_552 u_2 u_553) rfl rfl rfl (by decide +kernel) ⟨Nat.le_of_ble_eq_true rfl, Nat.le_of_ble_eq_true rfl⟩) (pcR_V (ci := 2) (q0 := 0) (fl_at hP 1 rfl) (hK.sub (tys' := [(cI, .int)]) [0] rfl) hn rfl rfl) rfl rfl hl.1 rfl (lv_room (Nat.le_of_ble_eq_true rfl)) dX6_feud_11 ⟨Nat.zero_le _, Nat.zero_le _⟩) (fun br11 => ?_)
  refine lv_if_ne (tgt := 30) hx hb dX6_feud_14 (by decide) (fun c_14 => ?_) (fun c_14 => ?_)
  · have hF := hF.trans (if_neg c_14)
    exact (k_no hF hok).elim
  have hF := hF.trans (if_pos c_14)
  refine lv_aload_n hx hb dX6_feud_17 rfl (lv_at hl 0 rfl) ?_
  refine va_get (D := (dC, dI)) (ci := 4) (v := .ref (aN 0)) (C := RX6) (T := TX6) (N := 6) hx hb htX6 (fun _ h => h) hown hK (fl_at hP 0 rfl) 0 rfl rfl 0 (by decide) (hts _ u_141) (fun _ h9 => h9) rfl dX6_feud_18 ?_
  refine va_getN (D := (dC, dI)) (ci := 2) (v := .ref (aN 9)) (C := RX2) (T := TX2) (N := 14) hx hb htX2 (fun _ h => h) hown hK (fl_at hP 1 rfl) 0 rfl rfl 8 (by decide) (va_Nw.use rfl (hn _ (List.mem_of_getElem? (i := 12) rfl))) (fun _ h9 => h9) rfl dX6_feud_21 ?_
  refine k_callb (W.runV (As := []) (rest := []) ⟨hx, hb, hml, hown, hts0⟩ (mX1_isFull l dC dI cI (aN 9) (aN 10) 8 (by decide) (PN 8) (PN 10 4) ) (cwV 0 hts0 (gi_V u_570 u_525 u_526 u_3 u_527) rfl rfl rfl (by decide +kernel) ⟨Nat.le_of_ble_eq_true rfl, Nat.le_of_ble_eq_true rfl⟩) (pcR_V (ci := 1) (q0 := 0) ((fl_at hP 1 rfl).sub (ws' := lW cI (aN 9) (aN 10) 8 (PN 8) (PN 10 4)) [9, 10] rfl) (hK.sub (tys' := [(cI, .int)]) [0] rfl) hn rfl rfl) rfl rfl hl.1 rfl (lv_room (Nat.le_of_ble_eq_true rfl)) dX6_feud_24 ⟨Nat.zero_le _, Nat.zero_le _⟩) (fun br24 => ?_)
  refine lv_if_eq (tgt := 40) hx hb dX6_feud_27 (by decide) (fun c_27 => ?_) (fun c_27 => ?_)
  · have hF := hF.trans (if_pos c_27)
    refine lv_aload_n hx hb dX6_feud_40 rfl (lv_at hl 0 rfl) ?_
    refine va_get (D := (dC, dI)) (ci := 4) (v := .ref h0) (C := RX6) (T := TX6) (N := 6) hx hb htX6 (fun _ h => h) hown hK (fl_at hP 0 rfl) 0 rfl rfl 3 (by decide) (hts _ u_144) (fun _ h9 => h9) rfl dX6_feud_41 ?_
    refine lv_aload_n hx hb dX6_feud_44 rfl (lv_at hl 0 rfl) ?_
    refine va_get (D := (dC, dI)) (ci := 4) (v := .ref (aN 0)) (C := RX6) (T := TX6) (N := 6) hx hb htX6 (fun _ h => h) hown hK (fl_at hP 0 rfl) 0 rfl rfl 0 (by decide) (hts _ u_141) (fun _ h9 => h9) rfl dX6_feud_45 ?_
    refine k_bmutv (wc := [hW cI cP h0 h1 pa Ps (nI oh) (nI vh), pW cI aN PN]) (W1 := (fun (v : (Nat → PV) × Nat × Nat) => [hW cI cP h0 h1 pa v.1 (nI v.2.1) (nI v.2.2), pW cI aN PN])) (va_runV (As := [.ref (aN 0)]) (rest := []) ⟨hx, hb, hml, hown, hts0⟩ (mX0_save l dC dI cI cP h0 h1 pa Ps oh vh aN PN  (by first | omega | assumption) (by first | omega | assumption)) (cwV 1 hts0 (gi_V u_451 u_452 u_453 u_5 u_454) rfl rfl rfl (by decide +kernel) ⟨Nat.le_of_ble_eq_true rfl, Nat.le_of_ble_eq_true rfl⟩) (pcM_V (ci := 0) (q0 := 0) (fl_sub (wc := [hW cI cP h0 h1 pa Ps (nI oh) (nI vh), pW cI aN PN]) hP [5, 1] rfl) hK hn (fl_D (wc := [hW cI cP h0 h1 pa Ps (nI oh) (nI vh), pW cI aN PN]) hD [5, 1] (by decide) rfl) rfl rfl) rfl rfl hl.1 rfl (lv_room (Nat.le_of_ble_eq_true rfl)) dX6_feud_48 ⟨Nat.zero_le _, Nat.zero_le _⟩) hP hD hS [5, 1] (by decide) rfl (fun _ => rfl) (fun U48 H locs hU48 hP hD hS => ?_)
    have hP : va_P (dC, dI) vwCl (fW cI cP a0 aN aT aS t0 t1 t2 h0 h1 pa PN PT PS f u U48.1 U48.2.1 U48.2.2 k) H := hP
    have hD : va_D A (fW cI cP a0 aN aT aS t0 t1 t2 h0 h1 pa PN PT PS f u U48.1 U48.2.1 U48.2.2 k) := hD
    have hF := bd_at hF hU48
    refine lv_aload_n hx hb dX6_feud_51 rfl (lv_at hl 0 rfl) ?_
    refine va_get (D := (dC, dI)) (ci := 4) (v := .ref (aN 0)) (C := RX6) (T := TX6) (N := 6) hx hb htX6 (fun _ h => h) hown hK (fl_at hP 0 rfl) 0 rfl rfl 0 (by decide) (hts _ u_141) (fun _ h9 => h9) rfl dX6_feud_52 ?_
    refine lv_iload_n hx hb dX6_feud_55 rfl (lv_at hl 1 rfl) ?_
    refine lv_iload_n hx hb dX6_feud_56 rfl (lv_at hl 2 rfl) ?_
    refine k_bmuti (wc := [pW cI aN PN]) (W1 := (fun (v : PV) => [pW cI aN v])) (va_runV (As := [.int a, .int b]) (rest := []) ⟨hx, hb, hml, hown, hts0⟩ (mX2_beginFeud l dC dI cI aN PN a b) (cwV 2 hts0 (gi_V u_572 u_573 u_574 u_2 u_575) rfl rfl rfl (by decide +kernel) ⟨Nat.le_of_ble_eq_true rfl, Nat.le_of_ble_eq_true rfl⟩) (pcM_V (ci := 2) (q0 := 0) (fl_at hP 1 rfl) (hK.sub (tys' := [(cI, .int)]) [0] rfl) hn (fl_D1 hD 1 rfl) rfl rfl) rfl rfl hl.1 rfl (lv_room (Nat.le_of_ble_eq_true rfl)) dX6_feud_57 ⟨Nat.zero_le _, Nat.zero_le _⟩) hP hD hS [1] (by decide) rfl (fun _ => rfl) (fun r57 U57 H locs hU57 hP hD hS => ?_)
    have hP : va_P (dC, dI) vwCl (fW cI cP a0 aN aT aS t0 t1 t2 h0 h1 pa U57 PT PS f u U48.1 U48.2.1 U48.2.2 k) H := hP
    have hD : va_D A (fW cI cP a0 aN aT aS t0 t1 t2 h0 h1 pa U57 PT PS f u U48.1 U48.2.1 U48.2.2 k) := hD
    have hF := bd2_at hF hU57
    rw [hQ]
    exact W.iret (v := r57) hx hb hr (fun t ht hW => ⟨⟨r57, (U57, U48.1, U48.2.1, U48.2.2), rfl, k_okp hF, toH ht hP⟩, hS.F ht⟩) hS.2.2 dX6_feud_60
  have hF := hF.trans (if_neg c_27)
  exact (k_no hF hok).elim

def fX6_peace (PN : PV) (Ps : Nat → PV) (oh : Nat) (vh : Nat) (a : Int32) (b : Int32) : Nat ⊕ (Int32 × (PV × (Nat → PV) × Nat × Nat)) :=
  (if (fX6_needTwoFamilies a b) = 0 then (if (fX2_hasFeud PN a b) = 0 then (Sum.inl 1) else (bd (fX0_save Ps oh vh PN) (fun U35 => (bd (fX1_dropItem 8 (PN 8) (PN 10 4) (fX2_feudCode a b)) (fun U50 => (Sum.inr ((fX1_length 8 (U50.1) (U50.2)), ((sset (rset PN 8 U50.1) 4 U50.2), U35.1, U35.2.1, U35.2.2)))))))) else (Sum.inl 0))
abbrev rmX6_peace : Room := { frames := 4, cells := 0, slots := 0, locals := 104 }
set_option maxHeartbeats 4000000 in
set_option maxRecDepth 100000 in
theorem mX6_peace (l : Launch) (dC : Nat → ClassId) (dI : Nat → Nat → Nat) (cI cP : ClassId) (a0 : Nat) (aN aT aS : Nat → Nat) (t0 t1 t2 h0 h1 : Nat) (pa : Nat → Nat → Nat) (PN PT PS : PV) (f : Nat → Int32) (u : Int32) (Ps : Nat → PV) (oh vh : Nat) (k : Int32) (a : Int32) (b : Int32) (ho6 : oh < 6) (hv6 : vh ≤ 6) (hok : isOk (fX6_peace PN Ps oh vh a b) = true) : Met l yX6_peace (ws_ yX6_peace cX6_peace 3 (some .int)) rmX6_peace (pcM (dC, dI) [(cI, .int), (cP, .object "SupperSeats$Plan")] (fW cI cP a0 aN aT aS t0 t1 t2 h0 h1 pa PN PT PS f u Ps oh vh k) [.ref a0, .int a, .int b]) (va_Qi (fun (r9 : Int32) (u9 : PV × (Nat → PV) × Nat × Nat) => (r9, u9) = okp (fX6_peace PN Ps oh vh a b)) (fun u9 t => va_P (dC, dI) vwCl ((fun (v9 : PV × (Nat → PV) × Nat × Nat) => fW cI cP a0 aN aT aS t0 t1 t2 h0 h1 pa v9.1 PT PS f u v9.2.1 v9.2.2.1 v9.2.2.2 k) u9) t.heap) (adr (fW cI cP a0 aN aT aS t0 t1 t2 h0 h1 pa PN PT PS f u Ps oh vh k))) 0 0 (adr (fW cI cP a0 aN aT aS t0 t1 t2 h0 h1 pa PN PT PS f u Ps oh vh k)) := by
  refine Met.ofW (cc := cX6_peace) (maxL := 3) (ret := (some .int)) (by decide) rfl ?_
  intro p e s m args below meth c s₁ B hml hv
  obtain ⟨ha, hP, hK, hn, hD0⟩ := hv
  have hx := B.exec
  have hb := B.bytes
  have hr := B.returns
  have hts0 := atoms_spec (ws := (ws_ yX6_peace cX6_peace 3 (some .int))) B.pre
  have hts : ∀ w ∈ lw_all, w.before args s = true := fun w h => hts0 w (List.mem_cons_of_mem _ h)
  have hown : s.vm.findClass RX6 = some m.cls := findClass_of_methodNamed B.named
  have hlocks := B.notSynchronized
  have htX6 : ∀ w ∈ wsX60, w.before args s = true := fun w h => hts w (wX6 w h)
  have htX2 : ∀ w ∈ wsX20, w.before args s = true := fun w h => hts w (wX2 w h)
  have hD := adr_self hD0
  obtain ⟨A, hA⟩ : ∃ A, A = adr (fW cI cP a0 aN aT aS t0 t1 t2 h0 h1 pa PN PT PS f u Ps oh vh k) := ⟨_, rfl⟩
  rw [← hA] at hD
  have hS : va_S A s.heap s.heap [] := va_S.rf
  obtain ⟨Q, hQ⟩ : ∃ Q, Q = MQ below (va_Qi (fun (r9 : Int32) (u9 : PV × (Nat → PV) × Nat × Nat) => (r9, u9) = okp (fX6_peace PN Ps oh vh a b)) (fun u9 t => va_P (dC, dI) vwCl ((fun (v9 : PV × (Nat → PV) × Nat × Nat) => fW cI cP a0 aN aT aS t0 t1 t2 h0 h1 pa v9.1 PT PS f u v9.2.1 v9.2.2.1 v9.2.2.2 k) u9) t.heap) (adr (fW cI cP a0 aN aT aS t0 t1 t2 h0 h1 pa PN PT PS f u Ps oh vh k))) args s 0 0 (adr (fW cI cP a0 aN aT aS t0 t1 t2 h0 h1 pa PN PT PS f u Ps oh vh k)) := ⟨_, rfl⟩
  rw [← hQ]
  rw [← hA] at hQ
  have hl := lv_entry ([.ref a0, .int a, .int b]) (n := 3) (Nat.le_of_ble_eq_true rfl)
  rw [ha, lg_entry_eq, ← ha]
  generalize (lg_sl ([.ref a0, .int a, .int b]) ++ List.replicate (3 - (lg_sl ([.ref a0, .int a, .int b])).length) Slot.unset).toArray = ls at hl ⊢
  have hl : lv_has ls 3 [(0, .ref a0), (1, .int a), (2, .int b)] := hl
  show W p l e rmX6_peace s m args below meth c s.heap [] 0 0 Q (F0 m 0 ls [])
  have hF : fX6_peace PN Ps oh vh a b = fX6_peace PN Ps oh vh a b := rfl
  refine lv_iload_n hx hb dX6_peace_0 rfl (lv_at hl 1 rfl) ?_
  refine lv_iload_n hx hb dX6_peace_1 rfl (lv_at hl 2 rfl) ?_
  refine k_dec (P := (fX6_needTwoFamilies a b) = 0) (fun c_2 => ?_) (fun c_2 => ?_)
  · have hF := hF.trans (if_neg c_2)
    exact (k_no hF hok).elim
  have hF := hF.trans (if_pos c_2)
  refine va_csv (W.runS (As := [.int a, .int b]) (rest := []) ⟨hx, hb, hml, hown, hts0⟩ (mX6_needTwoFamilies l dC dI  a b c_2) (va_cwS 2 hts0 (gi_S u_546 u_547 u_1 u_548) rfl rfl rfl (by decide +kernel) ⟨Nat.le_of_ble_eq_true rfl, Nat.le_of_ble_eq_true rfl⟩) (pcR_S (hP.sub (ws' := []) [] rfl) (hK.sub (tys' := []) [] rfl) hn) rfl rfl hl.1 rfl (lv_room (Nat.le_of_ble_eq_true rfl)) dX6_peace_2 ⟨Nat.zero_le _, Nat.zero_le _⟩) (fun _ => ?_)
  refine lv_aload_n hx hb dX6_peace_5 rfl (lv_at hl 0 rfl) ?_
  refine va_get (D := (dC, dI)) (ci := 4) (v := .ref (aN 0)) (C := RX6) (T := TX6) (N := 6) hx hb htX6 (fun _ h => h) hown hK (fl_at hP 0 rfl) 0 rfl rfl 0 (by decide) (hts _ u_141) (fun _ h9 => h9) rfl dX6_peace_6 ?_
  refine lv_iload_n hx hb dX6_peace_9 rfl (lv_at hl 1 rfl) ?_
  refine lv_iload_n hx hb dX6_peace_10 rfl (lv_at hl 2 rfl) ?_
  refine k_callb (W.runV (As := [.int a, .int b]) (rest := []) ⟨hx, hb, hml, hown, hts0⟩ (mX2_hasFeud l dC dI cI aN PN a b) (cwV 2 hts0 (gi_V u_550 u_551 u_552 u_2 u_553) rfl rfl rfl (by decide +kernel) ⟨Nat.le_of_ble_eq_true rfl, Nat.le_of_ble_eq_true rfl⟩) (pcR_V (ci := 2) (q0 := 0) (fl_at hP 1 rfl) (hK.sub (tys' := [(cI, .int)]) [0] rfl) hn rfl rfl) rfl rfl hl.1 rfl (lv_room (Nat.le_of_ble_eq_true rfl)) dX6_peace_11 ⟨Nat.zero_le _, Nat.zero_le _⟩) (fun br11 => ?_)
  refine lv_if_ne (tgt := 27) hx hb dX6_peace_14 (by decide) (fun c_14 => ?_) (fun c_14 => ?_)
  · have hF := hF.trans (if_neg c_14)
    refine lv_aload_n hx hb dX6_peace_27 rfl (lv_at hl 0 rfl) ?_
    refine va_get (D := (dC, dI)) (ci := 4) (v := .ref h0) (C := RX6) (T := TX6) (N := 6) hx hb htX6 (fun _ h => h) hown hK (fl_at hP 0 rfl) 0 rfl rfl 3 (by decide) (hts _ u_144) (fun _ h9 => h9) rfl dX6_peace_28 ?_
    refine lv_aload_n hx hb dX6_peace_31 rfl (lv_at hl 0 rfl) ?_
    refine va_get (D := (dC, dI)) (ci := 4) (v := .ref (aN 0)) (C := RX6) (T := TX6) (N := 6) hx hb htX6 (fun _ h => h) hown hK (fl_at hP 0 rfl) 0 rfl rfl 0 (by decide) (hts _ u_141) (fun _ h9 => h9) rfl dX6_peace_32 ?_
    refine k_bmutv (wc := [hW cI cP h0 h1 pa Ps (nI oh) (nI vh), pW cI aN PN]) (W1 := (fun (v : (Nat → PV) × Nat × Nat) => [hW cI cP h0 h1 pa v.1 (nI v.2.1) (nI v.2.2), pW cI aN PN])) (va_runV (As := [.ref (aN 0)]) (rest := []) ⟨hx, hb, hml, hown, hts0⟩ (mX0_save l dC dI cI cP h0 h1 pa Ps oh vh aN PN  (by first | omega | assumption) (by first | omega | assumption)) (cwV 1 hts0 (gi_V u_451 u_452 u_453 u_5 u_454) rfl rfl rfl (by decide +kernel) ⟨Nat.le_of_ble_eq_true rfl, Nat.le_of_ble_eq_true rfl⟩) (pcM_V (ci := 0) (q0 := 0) (fl_sub (wc := [hW cI cP h0 h1 pa Ps (nI oh) (nI vh), pW cI aN PN]) hP [5, 1] rfl) hK hn (fl_D (wc := [hW cI cP h0 h1 pa Ps (nI oh) (nI vh), pW cI aN PN]) hD [5, 1] (by decide) rfl) rfl rfl) rfl rfl hl.1 rfl (lv_room (Nat.le_of_ble_eq_true rfl)) dX6_peace_35 ⟨Nat.zero_le _, Nat.zero_le _⟩) hP hD hS [5, 1] (by decide) rfl (fun _ => rfl) (fun U35 H locs hU35 hP hD hS => ?_)
    have hP : va_P (dC, dI) vwCl (fW cI cP a0 aN aT aS t0 t1 t2 h0 h1 pa PN PT PS f u U35.1 U35.2.1 U35.2.2 k) H := hP
    have hD : va_D A (fW cI cP a0 aN aT aS t0 t1 t2 h0 h1 pa PN PT PS f u U35.1 U35.2.1 U35.2.2 k) := hD
    have hF := bd_at hF hU35
    refine lv_aload_n hx hb dX6_peace_38 rfl (lv_at hl 0 rfl) ?_
    refine va_get (D := (dC, dI)) (ci := 4) (v := .ref (aN 0)) (C := RX6) (T := TX6) (N := 6) hx hb htX6 (fun _ h => h) hown hK (fl_at hP 0 rfl) 0 rfl rfl 0 (by decide) (hts _ u_141) (fun _ h9 => h9) rfl dX6_peace_39 ?_
    refine va_getN (D := (dC, dI)) (ci := 2) (v := .ref (aN 9)) (C := RX2) (T := TX2) (N := 14) hx hb htX2 (fun _ h => h) hown hK (fl_at hP 1 rfl) 0 rfl rfl 8 (by decide) (va_Nw.use rfl (hn _ (List.mem_of_getElem? (i := 12) rfl))) (fun _ h9 => h9) rfl dX6_peace_42 ?_
    refine lv_iload_n hx hb dX6_peace_45 rfl (lv_at hl 1 rfl) ?_
    refine lv_iload_n hx hb dX6_peace_46 rfl (lv_at hl 2 rfl) ?_
    refine k_calli (W.runS (As := [.int a, .int b]) (rest := [.ref (aN 9)]) ⟨hx, hb, hml, hown, hts0⟩ (mX2_feudCode l dC dI  a b) (va_cwS 2 hts0 (gi_S u_564 u_555 u_2 u_556) rfl rfl rfl (by decide +kernel) ⟨Nat.le_of_ble_eq_true rfl, Nat.le_of_ble_eq_true rfl⟩) (pcR_S (hP.sub (ws' := []) [] rfl) (hK.sub (tys' := []) [] rfl) hn) rfl rfl hl.1 rfl (lv_room (Nat.le_of_ble_eq_true rfl)) dX6_peace_47 ⟨Nat.zero_le _, Nat.zero_le _⟩) ?_
    refine k_smutv (Wd := (fun (v : (Nat → Int32) × Int32) => lW cI (aN 9) (aN 10) 8 v.1 v.2)) (va_runV (As := [.int (fX2_feudCode a b)]) (rest := []) ⟨hx, hb, hml, hown, hts0⟩ (mX1_dropItem l dC dI cI (aN 9) (aN 10) 8 (by decide) (PN 8) (PN 10 4) (fX2_feudCode a b)) (cwV 1 hts0 (gi_V u_565 u_515 u_516 u_3 u_517) rfl rfl rfl (by decide +kernel) ⟨Nat.le_of_ble_eq_true rfl, Nat.le_of_ble_eq_true rfl⟩) (pcM_V (ci := 1) (q0 := 0) ((fl_at hP 1 rfl).sub (ws' := lW cI (aN 9) (aN 10) 8 (PN 8) (PN 10 4)) [9, 10] rfl) (hK.sub (tys' := [(cI, .int)]) [0] rfl) hn ((fl_D1 hD 1 rfl).sub (ws' := lW cI (aN 9) (aN 10) 8 (PN 8) (PN 10 4)) [9, 10] (by decide) rfl) rfl rfl) rfl rfl hl.1 rfl (lv_room (Nat.le_of_ble_eq_true rfl)) dX6_peace_50 ⟨Nat.zero_le _, Nat.zero_le _⟩) hP hD hS 1 rfl [9, 10] rfl rfl (fun _ => rfl) (fun U50 H locs hU50 hP hD hS => ?_)
    have hP : va_P (dC, dI) vwCl (fW cI cP a0 aN aT aS t0 t1 t2 h0 h1 pa (sset (rset PN 8 U50.1) 4 U50.2) PT PS f u U35.1 U35.2.1 U35.2.2 k) H := hP
    have hD : va_D A (fW cI cP a0 aN aT aS t0 t1 t2 h0 h1 pa (sset (rset PN 8 U50.1) 4 U50.2) PT PS f u U35.1 U35.2.1 U35.2.2 k) := hD
    have hF := bd_at hF hU50
    refine lv_aload_n hx hb dX6_peace_53 rfl (lv_at hl 0 rfl) ?_
    refine va_get (D := (dC, dI)) (ci := 4) (v := .ref (aN 0)) (C := RX6) (T := TX6) (N := 6) hx hb htX6 (fun _ h => h) hown hK (fl_at hP 0 rfl) 0 rfl rfl 0 (by decide) (hts _ u_141) (fun _ h9 => h9) rfl dX6_peace_54 ?_
    refine va_getN (D := (dC, dI)) (ci := 2) (v := .ref (aN 9)) (C := RX2) (T := TX2) (N := 14) hx hb htX2 (fun _ h => h) hown hK (fl_at hP 1 rfl) 0 rfl rfl 8 (by decide) (va_Nw.use rfl (hn _ (List.mem_of_getElem? (i := 12) rfl))) (fun _ h9 => h9) rfl dX6_peace_57 ?_
    refine k_calli (W.runV (As := []) (rest := []) ⟨hx, hb, hml, hown, hts0⟩ (mX1_length l dC dI cI (aN 9) (aN 10) 8 (by decide) (U50.1) (U50.2) ) (cwV 0 hts0 (gi_V u_264 u_265 u_266 u_3 u_267) rfl rfl rfl (by decide +kernel) ⟨Nat.le_of_ble_eq_true rfl, Nat.le_of_ble_eq_true rfl⟩) (pcR_V (ci := 1) (q0 := 0) ((fl_at hP 1 rfl).sub (ws' := lW cI (aN 9) (aN 10) 8 (U50.1) (U50.2)) [9, 10] rfl) (hK.sub (tys' := [(cI, .int)]) [0] rfl) hn rfl rfl) rfl rfl hl.1 rfl (lv_room (Nat.le_of_ble_eq_true rfl)) dX6_peace_60 ⟨Nat.zero_le _, Nat.zero_le _⟩) ?_
    rw [hQ]
    exact W.iret (v := (fX1_length 8 (U50.1) (U50.2))) hx hb hr (fun t ht hW => ⟨⟨(fX1_length 8 (U50.1) (U50.2)), ((sset (rset PN 8 U50.1) 4 U50.2), U35.1, U35.2.1, U35.2.2), rfl, k_okp hF, toH ht hP⟩, hS.F ht⟩) hS.2.2 dX6_peace_63
  have hF := hF.trans (if_pos c_14)
  exact (k_no hF hok).elim

def fX6_sit (PN : PV) (Ps : Nat → PV) (oh : Nat) (vh : Nat) (g : Int32) (tb : Int32) (z : Int32) : Nat ⊕ (Int32 × (PV × (Nat → PV) × Nat × Nat)) :=
  (if (fX6_needGuestAndSeat PN g tb z) = 0 then (if (fX2_reasonAgainst PN g tb z) = 0 then (bd (fX0_save Ps oh vh PN) (fun U38 => (bd (fX2_takeSeat PN g tb z) (fun U48 => (Sum.inr ((fX4_byGuests U48), (U48, U38.1, U38.2.1, U38.2.2))))))) else (Sum.inl 1)) else (Sum.inl 2))
abbrev rmX6_sit : Room := { frames := 5, cells := 0, slots := 0, locals := 130 }
set_option maxHeartbeats 4000000 in
set_option maxRecDepth 100000 in
theorem mX6_sit (l : Launch) (dC : Nat → ClassId) (dI : Nat → Nat → Nat) (cI cP : ClassId) (a0 : Nat) (aN aT aS : Nat → Nat) (t0 t1 t2 h0 h1 : Nat) (pa : Nat → Nat → Nat) (PN PT PS : PV) (f : Nat → Int32) (u : Int32) (Ps : Nat → PV) (oh vh : Nat) (k : Int32) (g : Int32) (tb : Int32) (z : Int32) (ho6 : oh < 6) (hv6 : vh ≤ 6) (hok : isOk (fX6_sit PN Ps oh vh g tb z) = true) : Met l yX6_sit (ws_ yX6_sit cX6_sit 4 (some .int)) rmX6_sit (pcM (dC, dI) [(cI, .int), (cP, .object "SupperSeats$Plan")] (fW cI cP a0 aN aT aS t0 t1 t2 h0 h1 pa PN PT PS f u Ps oh vh k) [.ref a0, .int g, .int tb, .int z]) (va_Qi (fun (r9 : Int32) (u9 : PV × (Nat → PV) × Nat × Nat) => (r9, u9) = okp (fX6_sit PN Ps oh vh g tb z)) (fun u9 t => va_P (dC, dI) vwCl ((fun (v9 : PV × (Nat → PV) × Nat × Nat) => fW cI cP a0 aN aT aS t0 t1 t2 h0 h1 pa v9.1 PT PS f u v9.2.1 v9.2.2.1 v9.2.2.2 k) u9) t.heap) (adr (fW cI cP a0 aN aT aS t0 t1 t2 h0 h1 pa PN PT PS f u Ps oh vh k))) 0 0 (adr (fW cI cP a0 aN aT aS t0 t1 t2 h0 h1 pa PN PT PS f u Ps oh vh k)) := by
  refine Met.ofW (cc := cX6_sit) (maxL := 4) (ret := (some .int)) (by decide) rfl ?_
  intro p e s m args below meth c s₁ B hml hv
  obtain ⟨ha, hP, hK, hn, hD0⟩ := hv
  have hx := B.exec
  have hb := B.bytes
  have hr := B.returns
  have hts0 := atoms_spec (ws := (ws_ yX6_sit cX6_sit 4 (some .int))) B.pre
  have hts : ∀ w ∈ lw_all, w.before args s = true := fun w h => hts0 w (List.mem_cons_of_mem _ h)
  have hown : s.vm.findClass RX6 = some m.cls := findClass_of_methodNamed B.named
  have hlocks := B.notSynchronized
  have htX6 : ∀ w ∈ wsX60, w.before args s = true := fun w h => hts w (wX6 w h)
  have hD := adr_self hD0
  obtain ⟨A, hA⟩ : ∃ A, A = adr (fW cI cP a0 aN aT aS t0 t1 t2 h0 h1 pa PN PT PS f u Ps oh vh k) := ⟨_, rfl⟩
  rw [← hA] at hD
  have hS : va_S A s.heap s.heap [] := va_S.rf
  obtain ⟨Q, hQ⟩ : ∃ Q, Q = MQ below (va_Qi (fun (r9 : Int32) (u9 : PV × (Nat → PV) × Nat × Nat) => (r9, u9) = okp (fX6_sit PN Ps oh vh g tb z)) (fun u9 t => va_P (dC, dI) vwCl ((fun (v9 : PV × (Nat → PV) × Nat × Nat) => fW cI cP a0 aN aT aS t0 t1 t2 h0 h1 pa v9.1 PT PS f u v9.2.1 v9.2.2.1 v9.2.2.2 k) u9) t.heap) (adr (fW cI cP a0 aN aT aS t0 t1 t2 h0 h1 pa PN PT PS f u Ps oh vh k))) args s 0 0 (adr (fW cI cP a0 aN aT aS t0 t1 t2 h0 h1 pa PN PT PS f u Ps oh vh k)) := ⟨_, rfl⟩
  rw [← hQ]
  rw [← hA] at hQ
  have hl := lv_entry ([.ref a0, .int g, .int tb, .int z]) (n := 4) (Nat.le_of_ble_eq_true rfl)
  rw [ha, lg_entry_eq, ← ha]
  generalize (lg_sl ([.ref a0, .int g, .int tb, .int z]) ++ List.replicate (4 - (lg_sl ([.ref a0, .int g, .int tb, .int z])).length) Slot.unset).toArray = ls at hl ⊢
  have hl : lv_has ls 4 [(0, .ref a0), (1, .int g), (2, .int tb), (3, .int z)] := hl
  show W p l e rmX6_sit s m args below meth c s.heap [] 0 0 Q (F0 m 0 ls [])
  have hF : fX6_sit PN Ps oh vh g tb z = fX6_sit PN Ps oh vh g tb z := rfl
  refine lv_aload_n hx hb dX6_sit_0 rfl (lv_at hl 0 rfl) ?_
  refine lv_iload_n hx hb dX6_sit_1 rfl (lv_at hl 1 rfl) ?_
  refine lv_iload_n hx hb dX6_sit_2 rfl (lv_at hl 2 rfl) ?_
  refine lv_iload_n hx hb dX6_sit_3 rfl (lv_at hl 3 rfl) ?_
  refine k_dec (P := (fX6_needGuestAndSeat PN g tb z) = 0) (fun c_4 => ?_) (fun c_4 => ?_)
  · have hF := hF.trans (if_neg c_4)
    exact (k_no hF hok).elim
  have hF := hF.trans (if_pos c_4)
  refine va_csv (W.runV (As := [.int g, .int tb, .int z]) (rest := []) ⟨hx, hb, hml, hown, hts0⟩ (mX6_needGuestAndSeat l dC dI cI cP a0 aN aT aS t0 t1 t2 h0 h1 pa PN PT PS f u Ps oh vh k g tb z c_4) (cwV 3 hts0 (gi_V u_605 u_607 us_7 u_1 u_608) rfl rfl rfl (by decide +kernel) ⟨Nat.le_of_ble_eq_true rfl, Nat.le_of_ble_eq_true rfl⟩) (pcR_V (ci := 4) (q0 := 0) hP hK hn rfl rfl) rfl rfl hl.1 rfl (lv_room (Nat.le_of_ble_eq_true rfl)) dX6_sit_4 ⟨Nat.zero_le _, Nat.zero_le _⟩) (fun _ => ?_)
  refine lv_aload_n hx hb dX6_sit_7 rfl (lv_at hl 0 rfl) ?_
  refine va_get (D := (dC, dI)) (ci := 4) (v := .ref (aN 0)) (C := RX6) (T := TX6) (N := 6) hx hb htX6 (fun _ h => h) hown hK (fl_at hP 0 rfl) 0 rfl rfl 0 (by decide) (hts _ u_141) (fun _ h9 => h9) rfl dX6_sit_8 ?_
  refine lv_iload_n hx hb dX6_sit_11 rfl (lv_at hl 1 rfl) ?_
  refine lv_iload_n hx hb dX6_sit_12 rfl (lv_at hl 2 rfl) ?_
  refine lv_iload_n hx hb dX6_sit_13 rfl (lv_at hl 3 rfl) ?_
  refine k_calli (W.runV (As := [.int g, .int tb, .int z]) (rest := []) ⟨hx, hb, hml, hown, hts0⟩ (mX2_reasonAgainst l dC dI cI aN PN g tb z) (cwV 3 hts0 (gi_V u_619 u_489 u_490 u_2 u_491) rfl rfl rfl (by decide +kernel) ⟨Nat.le_of_ble_eq_true rfl, Nat.le_of_ble_eq_true rfl⟩) (pcR_V (ci := 2) (q0 := 0) (fl_at hP 1 rfl) (hK.sub (tys' := [(cI, .int)]) [0] rfl) hn rfl rfl) rfl rfl hl.1 rfl (lv_room (Nat.le_of_ble_eq_true rfl)) dX6_sit_14 ⟨Nat.zero_le _, Nat.zero_le _⟩) ?_
  refine lv_if_eq (tgt := 30) hx hb dX6_sit_17 (by decide) (fun c_17 => ?_) (fun c_17 => ?_)
  · have hF := hF.trans (if_pos c_17)
    refine lv_aload_n hx hb dX6_sit_30 rfl (lv_at hl 0 rfl) ?_
    refine va_get (D := (dC, dI)) (ci := 4) (v := .ref h0) (C := RX6) (T := TX6) (N := 6) hx hb htX6 (fun _ h => h) hown hK (fl_at hP 0 rfl) 0 rfl rfl 3 (by decide) (hts _ u_144) (fun _ h9 => h9) rfl dX6_sit_31 ?_
    refine lv_aload_n hx hb dX6_sit_34 rfl (lv_at hl 0 rfl) ?_
    refine va_get (D := (dC, dI)) (ci := 4) (v := .ref (aN 0)) (C := RX6) (T := TX6) (N := 6) hx hb htX6 (fun _ h => h) hown hK (fl_at hP 0 rfl) 0 rfl rfl 0 (by decide) (hts _ u_141) (fun _ h9 => h9) rfl dX6_sit_35 ?_
    refine k_bmutv (wc := [hW cI cP h0 h1 pa Ps (nI oh) (nI vh), pW cI aN PN]) (W1 := (fun (v : (Nat → PV) × Nat × Nat) => [hW cI cP h0 h1 pa v.1 (nI v.2.1) (nI v.2.2), pW cI aN PN])) (va_runV (As := [.ref (aN 0)]) (rest := []) ⟨hx, hb, hml, hown, hts0⟩ (mX0_save l dC dI cI cP h0 h1 pa Ps oh vh aN PN  (by first | omega | assumption) (by first | omega | assumption)) (cwV 1 hts0 (gi_V u_451 u_452 u_453 u_5 u_454) rfl rfl rfl (by decide +kernel) ⟨Nat.le_of_ble_eq_true rfl, Nat.le_of_ble_eq_true rfl⟩) (pcM_V (ci := 0) (q0 := 0) (fl_sub (wc := [hW cI cP h0 h1 pa Ps (nI oh) (nI vh), pW cI aN PN]) hP [5, 1] rfl) hK hn (fl_D (wc := [hW cI cP h0 h1 pa Ps (nI oh) (nI vh), pW cI aN PN]) hD [5, 1] (by decide) rfl) rfl rfl) rfl rfl hl.1 rfl (lv_room (Nat.le_of_ble_eq_true rfl)) dX6_sit_38 ⟨Nat.zero_le _, Nat.zero_le _⟩) hP hD hS [5, 1] (by decide) rfl (fun _ => rfl) (fun U38 H locs hU38 hP hD hS => ?_)
    have hP : va_P (dC, dI) vwCl (fW cI cP a0 aN aT aS t0 t1 t2 h0 h1 pa PN PT PS f u U38.1 U38.2.1 U38.2.2 k) H := hP
    have hD : va_D A (fW cI cP a0 aN aT aS t0 t1 t2 h0 h1 pa PN PT PS f u U38.1 U38.2.1 U38.2.2 k) := hD
    have hF := bd_at hF hU38
    refine lv_aload_n hx hb dX6_sit_41 rfl (lv_at hl 0 rfl) ?_
    refine va_get (D := (dC, dI)) (ci := 4) (v := .ref (aN 0)) (C := RX6) (T := TX6) (N := 6) hx hb htX6 (fun _ h => h) hown hK (fl_at hP 0 rfl) 0 rfl rfl 0 (by decide) (hts _ u_141) (fun _ h9 => h9) rfl dX6_sit_42 ?_
    refine lv_iload_n hx hb dX6_sit_45 rfl (lv_at hl 1 rfl) ?_
    refine lv_iload_n hx hb dX6_sit_46 rfl (lv_at hl 2 rfl) ?_
    refine lv_iload_n hx hb dX6_sit_47 rfl (lv_at hl 3 rfl) ?_
    refine k_bmutv (wc := [pW cI aN PN]) (W1 := (fun (v : PV) => [pW cI aN v])) (va_runV (As := [.int g, .int tb, .int z]) (rest := []) ⟨hx, hb, hml, hown, hts0⟩ (mX2_takeSeat l dC dI cI aN PN g tb z) (cwV 3 hts0 (gi_V u_625 u_507 u_508 u_2 u_509) rfl rfl rfl (by decide +kernel) ⟨Nat.le_of_ble_eq_true rfl, Nat.le_of_ble_eq_true rfl⟩) (pcM_V (ci := 2) (q0 := 0) (fl_at hP 1 rfl) (hK.sub (tys' := [(cI, .int)]) [0] rfl) hn (fl_D1 hD 1 rfl) rfl rfl) rfl rfl hl.1 rfl (lv_room (Nat.le_of_ble_eq_true rfl)) dX6_sit_48 ⟨Nat.zero_le _, Nat.zero_le _⟩) hP hD hS [1] (by decide) rfl (fun _ => rfl) (fun U48 H locs hU48 hP hD hS => ?_)
    have hP : va_P (dC, dI) vwCl (fW cI cP a0 aN aT aS t0 t1 t2 h0 h1 pa U48 PT PS f u U38.1 U38.2.1 U38.2.2 k) H := hP
    have hD : va_D A (fW cI cP a0 aN aT aS t0 t1 t2 h0 h1 pa U48 PT PS f u U38.1 U38.2.1 U38.2.2 k) := hD
    have hF := bd_at hF hU48
    refine lv_aload_n hx hb dX6_sit_51 rfl (lv_at hl 0 rfl) ?_
    refine va_get (D := (dC, dI)) (ci := 4) (v := .ref (aN 0)) (C := RX6) (T := TX6) (N := 6) hx hb htX6 (fun _ h => h) hown hK (fl_at hP 0 rfl) 0 rfl rfl 0 (by decide) (hts _ u_141) (fun _ h9 => h9) rfl dX6_sit_52 ?_
    refine k_calli (W.runS (As := [.ref (aN 0)]) (rest := []) ⟨hx, hb, hml, hown, hts0⟩ (mX4_byGuests l dC dI cI aN U48 ) (va_cwS 1 hts0 (gi_S u_292 u_293 u_12 u_294) rfl rfl rfl (by decide +kernel) ⟨Nat.le_of_ble_eq_true rfl, Nat.le_of_ble_eq_true rfl⟩) (pcR_S (fl_at hP 1 rfl) (hK.sub (tys' := [(cI, .int)]) [0] rfl) hn) rfl rfl hl.1 rfl (lv_room (Nat.le_of_ble_eq_true rfl)) dX6_sit_55 ⟨Nat.zero_le _, Nat.zero_le _⟩) ?_
    rw [hQ]
    exact W.iret (v := (fX4_byGuests U48)) hx hb hr (fun t ht hW => ⟨⟨(fX4_byGuests U48), (U48, U38.1, U38.2.1, U38.2.2), rfl, k_okp hF, toH ht hP⟩, hS.F ht⟩) hS.2.2 dX6_sit_58
  have hF := hF.trans (if_neg c_17)
  exact (k_no hF hok).elim

def fX6_rise (PN : PV) (Ps : Nat → PV) (oh : Nat) (vh : Nat) (g : Int32) : Nat ⊕ (Int32 × (PV × (Nat → PV) × Nat × Nat)) :=
  (if (fX6_needGuest PN g) = 0 then (if (fX2_isSitting PN g) = 0 then (Sum.inl 1) else (bd (fX0_save Ps oh vh PN) (fun U34 => (bd (fX2_standUp PN g) (fun U42 => (Sum.inr ((fX4_byGuests U42), (U42, U34.1, U34.2.1, U34.2.2)))))))) else (Sum.inl 2))
abbrev rmX6_rise : Room := { frames := 5, cells := 0, slots := 0, locals := 130 }
set_option maxHeartbeats 4000000 in
set_option maxRecDepth 100000 in
theorem mX6_rise (l : Launch) (dC : Nat → ClassId) (dI : Nat → Nat → Nat) (cI cP : ClassId) (a0 : Nat) (aN aT aS : Nat → Nat) (t0 t1 t2 h0 h1 : Nat) (pa : Nat → Nat → Nat) (PN PT PS : PV) (f : Nat → Int32) (u : Int32) (Ps : Nat → PV) (oh vh : Nat) (k : Int32) (g : Int32) (ho6 : oh < 6) (hv6 : vh ≤ 6) (hok : isOk (fX6_rise PN Ps oh vh g) = true) : Met l yX6_rise (ws_ yX6_rise cX6_rise 2 (some .int)) rmX6_rise (pcM (dC, dI) [(cI, .int), (cP, .object "SupperSeats$Plan")] (fW cI cP a0 aN aT aS t0 t1 t2 h0 h1 pa PN PT PS f u Ps oh vh k) [.ref a0, .int g]) (va_Qi (fun (r9 : Int32) (u9 : PV × (Nat → PV) × Nat × Nat) => (r9, u9) = okp (fX6_rise PN Ps oh vh g)) (fun u9 t => va_P (dC, dI) vwCl ((fun (v9 : PV × (Nat → PV) × Nat × Nat) => fW cI cP a0 aN aT aS t0 t1 t2 h0 h1 pa v9.1 PT PS f u v9.2.1 v9.2.2.1 v9.2.2.2 k) u9) t.heap) (adr (fW cI cP a0 aN aT aS t0 t1 t2 h0 h1 pa PN PT PS f u Ps oh vh k))) 0 0 (adr (fW cI cP a0 aN aT aS t0 t1 t2 h0 h1 pa PN PT PS f u Ps oh vh k)) := by
  refine Met.ofW (cc := cX6_rise) (maxL := 2) (ret := (some .int)) (by decide) rfl ?_
  intro p e s m args below meth c s₁ B hml hv
  obtain ⟨ha, hP, hK, hn, hD0⟩ := hv
  have hx := B.exec
  have hb := B.bytes
  have hr := B.returns
  have hts0 := atoms_spec (ws := (ws_ yX6_rise cX6_rise 2 (some .int))) B.pre
  have hts : ∀ w ∈ lw_all, w.before args s = true := fun w h => hts0 w (List.mem_cons_of_mem _ h)
  have hown : s.vm.findClass RX6 = some m.cls := findClass_of_methodNamed B.named
  have hlocks := B.notSynchronized
  have htX6 : ∀ w ∈ wsX60, w.before args s = true := fun w h => hts w (wX6 w h)
  have hD := adr_self hD0
  obtain ⟨A, hA⟩ : ∃ A, A = adr (fW cI cP a0 aN aT aS t0 t1 t2 h0 h1 pa PN PT PS f u Ps oh vh k) := ⟨_, rfl⟩
  rw [← hA] at hD
  have hS : va_S A s.heap s.heap [] := va_S.rf
  obtain ⟨Q, hQ⟩ : ∃ Q, Q = MQ below (va_Qi (fun (r9 : Int32) (u9 : PV × (Nat → PV) × Nat × Nat) => (r9, u9) = okp (fX6_rise PN Ps oh vh g)) (fun u9 t => va_P (dC, dI) vwCl ((fun (v9 : PV × (Nat → PV) × Nat × Nat) => fW cI cP a0 aN aT aS t0 t1 t2 h0 h1 pa v9.1 PT PS f u v9.2.1 v9.2.2.1 v9.2.2.2 k) u9) t.heap) (adr (fW cI cP a0 aN aT aS t0 t1 t2 h0 h1 pa PN PT PS f u Ps oh vh k))) args s 0 0 (adr (fW cI cP a0 aN aT aS t0 t1 t2 h0 h1 pa PN PT PS f u Ps oh vh k)) := ⟨_, rfl⟩
  rw [← hQ]
  rw [← hA] at hQ
  have hl := lv_entry ([.ref a0, .int g]) (n := 2) (Nat.le_of_ble_eq_true rfl)
  rw [ha, lg_entry_eq, ← ha]
  generalize (lg_sl ([.ref a0, .int g]) ++ List.replicate (2 - (lg_sl ([.ref a0, .int g])).length) Slot.unset).toArray = ls at hl ⊢
  have hl : lv_has ls 2 [(0, .ref a0), (1, .int g)] := hl
  show W p l e rmX6_rise s m args below meth c s.heap [] 0 0 Q (F0 m 0 ls [])
  have hF : fX6_rise PN Ps oh vh g = fX6_rise PN Ps oh vh g := rfl
  refine lv_aload_n hx hb dX6_rise_0 rfl (lv_at hl 0 rfl) ?_
  refine lv_iload_n hx hb dX6_rise_1 rfl (lv_at hl 1 rfl) ?_
  refine k_dec (P := (fX6_needGuest PN g) = 0) (fun c_2 => ?_) (fun c_2 => ?_)
  · have hF := hF.trans (if_neg c_2)
    exact (k_no hF hok).elim
  have hF := hF.trans (if_pos c_2)
  refine va_csv (W.runV (As := [.int g]) (rest := []) ⟨hx, hb, hml, hown, hts0⟩ (mX6_needGuest l dC dI cI cP a0 aN aT aS t0 t1 t2 h0 h1 pa PN PT PS f u Ps oh vh k g c_2) (cwV 1 hts0 (gi_V u_363 u_365 us_3 u_1 u_366) rfl rfl rfl (by decide +kernel) ⟨Nat.le_of_ble_eq_true rfl, Nat.le_of_ble_eq_true rfl⟩) (pcR_V (ci := 4) (q0 := 0) hP hK hn rfl rfl) rfl rfl hl.1 rfl (lv_room (Nat.le_of_ble_eq_true rfl)) dX6_rise_2 ⟨Nat.zero_le _, Nat.zero_le _⟩) (fun _ => ?_)
  refine lv_aload_n hx hb dX6_rise_5 rfl (lv_at hl 0 rfl) ?_
  refine va_get (D := (dC, dI)) (ci := 4) (v := .ref (aN 0)) (C := RX6) (T := TX6) (N := 6) hx hb htX6 (fun _ h => h) hown hK (fl_at hP 0 rfl) 0 rfl rfl 0 (by decide) (hts _ u_141) (fun _ h9 => h9) rfl dX6_rise_6 ?_
  refine lv_iload_n hx hb dX6_rise_9 rfl (lv_at hl 1 rfl) ?_
  refine k_callb (W.runV (As := [.int g]) (rest := []) ⟨hx, hb, hml, hown, hts0⟩ (mX2_isSitting l dC dI cI aN PN g) (cwV 1 hts0 (gi_V u_593 u_299 u_300 u_2 u_301) rfl rfl rfl (by decide +kernel) ⟨Nat.le_of_ble_eq_true rfl, Nat.le_of_ble_eq_true rfl⟩) (pcR_V (ci := 2) (q0 := 0) (fl_at hP 1 rfl) (hK.sub (tys' := [(cI, .int)]) [0] rfl) hn rfl rfl) rfl rfl hl.1 rfl (lv_room (Nat.le_of_ble_eq_true rfl)) dX6_rise_10 ⟨Nat.zero_le _, Nat.zero_le _⟩) (fun br10 => ?_)
  refine lv_if_ne (tgt := 26) hx hb dX6_rise_13 (by decide) (fun c_13 => ?_) (fun c_13 => ?_)
  · have hF := hF.trans (if_neg c_13)
    refine lv_aload_n hx hb dX6_rise_26 rfl (lv_at hl 0 rfl) ?_
    refine va_get (D := (dC, dI)) (ci := 4) (v := .ref h0) (C := RX6) (T := TX6) (N := 6) hx hb htX6 (fun _ h => h) hown hK (fl_at hP 0 rfl) 0 rfl rfl 3 (by decide) (hts _ u_144) (fun _ h9 => h9) rfl dX6_rise_27 ?_
    refine lv_aload_n hx hb dX6_rise_30 rfl (lv_at hl 0 rfl) ?_
    refine va_get (D := (dC, dI)) (ci := 4) (v := .ref (aN 0)) (C := RX6) (T := TX6) (N := 6) hx hb htX6 (fun _ h => h) hown hK (fl_at hP 0 rfl) 0 rfl rfl 0 (by decide) (hts _ u_141) (fun _ h9 => h9) rfl dX6_rise_31 ?_
    refine k_bmutv (wc := [hW cI cP h0 h1 pa Ps (nI oh) (nI vh), pW cI aN PN]) (W1 := (fun (v : (Nat → PV) × Nat × Nat) => [hW cI cP h0 h1 pa v.1 (nI v.2.1) (nI v.2.2), pW cI aN PN])) (va_runV (As := [.ref (aN 0)]) (rest := []) ⟨hx, hb, hml, hown, hts0⟩ (mX0_save l dC dI cI cP h0 h1 pa Ps oh vh aN PN  (by first | omega | assumption) (by first | omega | assumption)) (cwV 1 hts0 (gi_V u_451 u_452 u_453 u_5 u_454) rfl rfl rfl (by decide +kernel) ⟨Nat.le_of_ble_eq_true rfl, Nat.le_of_ble_eq_true rfl⟩) (pcM_V (ci := 0) (q0 := 0) (fl_sub (wc := [hW cI cP h0 h1 pa Ps (nI oh) (nI vh), pW cI aN PN]) hP [5, 1] rfl) hK hn (fl_D (wc := [hW cI cP h0 h1 pa Ps (nI oh) (nI vh), pW cI aN PN]) hD [5, 1] (by decide) rfl) rfl rfl) rfl rfl hl.1 rfl (lv_room (Nat.le_of_ble_eq_true rfl)) dX6_rise_34 ⟨Nat.zero_le _, Nat.zero_le _⟩) hP hD hS [5, 1] (by decide) rfl (fun _ => rfl) (fun U34 H locs hU34 hP hD hS => ?_)
    have hP : va_P (dC, dI) vwCl (fW cI cP a0 aN aT aS t0 t1 t2 h0 h1 pa PN PT PS f u U34.1 U34.2.1 U34.2.2 k) H := hP
    have hD : va_D A (fW cI cP a0 aN aT aS t0 t1 t2 h0 h1 pa PN PT PS f u U34.1 U34.2.1 U34.2.2 k) := hD
    have hF := bd_at hF hU34
    refine lv_aload_n hx hb dX6_rise_37 rfl (lv_at hl 0 rfl) ?_
    refine va_get (D := (dC, dI)) (ci := 4) (v := .ref (aN 0)) (C := RX6) (T := TX6) (N := 6) hx hb htX6 (fun _ h => h) hown hK (fl_at hP 0 rfl) 0 rfl rfl 0 (by decide) (hts _ u_141) (fun _ h9 => h9) rfl dX6_rise_38 ?_
    refine lv_iload_n hx hb dX6_rise_41 rfl (lv_at hl 1 rfl) ?_
    refine k_bmutv (wc := [pW cI aN PN]) (W1 := (fun (v : PV) => [pW cI aN v])) (va_runV (As := [.int g]) (rest := []) ⟨hx, hb, hml, hown, hts0⟩ (mX2_standUp l dC dI cI aN PN g) (cwV 1 hts0 (gi_V u_595 u_511 u_512 u_2 u_513) rfl rfl rfl (by decide +kernel) ⟨Nat.le_of_ble_eq_true rfl, Nat.le_of_ble_eq_true rfl⟩) (pcM_V (ci := 2) (q0 := 0) (fl_at hP 1 rfl) (hK.sub (tys' := [(cI, .int)]) [0] rfl) hn (fl_D1 hD 1 rfl) rfl rfl) rfl rfl hl.1 rfl (lv_room (Nat.le_of_ble_eq_true rfl)) dX6_rise_42 ⟨Nat.zero_le _, Nat.zero_le _⟩) hP hD hS [1] (by decide) rfl (fun _ => rfl) (fun U42 H locs hU42 hP hD hS => ?_)
    have hP : va_P (dC, dI) vwCl (fW cI cP a0 aN aT aS t0 t1 t2 h0 h1 pa U42 PT PS f u U34.1 U34.2.1 U34.2.2 k) H := hP
    have hD : va_D A (fW cI cP a0 aN aT aS t0 t1 t2 h0 h1 pa U42 PT PS f u U34.1 U34.2.1 U34.2.2 k) := hD
    have hF := bd_at hF hU42
    refine lv_aload_n hx hb dX6_rise_45 rfl (lv_at hl 0 rfl) ?_
    refine va_get (D := (dC, dI)) (ci := 4) (v := .ref (aN 0)) (C := RX6) (T := TX6) (N := 6) hx hb htX6 (fun _ h => h) hown hK (fl_at hP 0 rfl) 0 rfl rfl 0 (by decide) (hts _ u_141) (fun _ h9 => h9) rfl dX6_rise_46 ?_
    refine k_calli (W.runS (As := [.ref (aN 0)]) (rest := []) ⟨hx, hb, hml, hown, hts0⟩ (mX4_byGuests l dC dI cI aN U42 ) (va_cwS 1 hts0 (gi_S u_292 u_293 u_12 u_294) rfl rfl rfl (by decide +kernel) ⟨Nat.le_of_ble_eq_true rfl, Nat.le_of_ble_eq_true rfl⟩) (pcR_S (fl_at hP 1 rfl) (hK.sub (tys' := [(cI, .int)]) [0] rfl) hn) rfl rfl hl.1 rfl (lv_room (Nat.le_of_ble_eq_true rfl)) dX6_rise_49 ⟨Nat.zero_le _, Nat.zero_le _⟩) ?_
    rw [hQ]
    exact W.iret (v := (fX4_byGuests U42)) hx hb hr (fun t ht hW => ⟨⟨(fX4_byGuests U42), (U42, U34.1, U34.2.1, U34.2.2), rfl, k_okp hF, toH ht hP⟩, hS.F ht⟩) hS.2.2 dX6_rise_52
  have hF := hF.trans (if_pos c_13)
  exact (k_no hF hok).elim

def fX6_restore (PN : PV) (PS : PV) (Ps : Nat → PV) (oh : Nat) (vh : Nat) (k : Int32) : Nat ⊕ (Int32 × (PV × (Nat → PV) × Nat × Nat)) :=
  (if k = 0 then (Sum.inl 1) else (bd (fX0_save Ps oh vh PN) (fun U25 => (bd (fX2_copyFrom PN PS) (fun U36 => (Sum.inr ((fX1_length 16 (U36 9) (U36 10 5)), (U36, U25.1, U25.2.1, U25.2.2))))))))
abbrev rmX6_restore : Room := { frames := 4, cells := 0, slots := 0, locals := 104 }
set_option maxHeartbeats 4000000 in
set_option maxRecDepth 100000 in
theorem mX6_restore (l : Launch) (dC : Nat → ClassId) (dI : Nat → Nat → Nat) (cI cP : ClassId) (a0 : Nat) (aN aT aS : Nat → Nat) (t0 t1 t2 h0 h1 : Nat) (pa : Nat → Nat → Nat) (PN PT PS : PV) (f : Nat → Int32) (u : Int32) (Ps : Nat → PV) (oh vh : Nat) (k : Int32) (ho6 : oh < 6) (hv6 : vh ≤ 6) (hok : isOk (fX6_restore PN PS Ps oh vh k) = true) : Met l yX6_restore (ws_ yX6_restore cX6_restore 1 (some .int)) rmX6_restore (pcM (dC, dI) [(cI, .int), (cP, .object "SupperSeats$Plan")] (fW cI cP a0 aN aT aS t0 t1 t2 h0 h1 pa PN PT PS f u Ps oh vh k) [.ref a0]) (va_Qi (fun (r9 : Int32) (u9 : PV × (Nat → PV) × Nat × Nat) => (r9, u9) = okp (fX6_restore PN PS Ps oh vh k)) (fun u9 t => va_P (dC, dI) vwCl ((fun (v9 : PV × (Nat → PV) × Nat × Nat) => fW cI cP a0 aN aT aS t0 t1 t2 h0 h1 pa v9.1 PT PS f u v9.2.1 v9.2.2.1 v9.2.2.2 k) u9) t.heap) (adr (fW cI cP a0 aN aT aS t0 t1 t2 h0 h1 pa PN PT PS f u Ps oh vh k))) 0 0 (adr (fW cI cP a0 aN aT aS t0 t1 t2 h0 h1 pa PN PT PS f u Ps oh vh k)) := by
  refine Met.ofW (cc := cX6_restore) (maxL := 1) (ret := (some .int)) (by decide) rfl ?_
  intro p e s m args below meth c s₁ B hml hv
  obtain ⟨ha, hP, hK, hn, hD0⟩ := hv
  have hx := B.exec
  have hb := B.bytes
  have hr := B.returns
  have hts0 := atoms_spec (ws := (ws_ yX6_restore cX6_restore 1 (some .int))) B.pre
  have hts : ∀ w ∈ lw_all, w.before args s = true := fun w h => hts0 w (List.mem_cons_of_mem _ h)
  have hown : s.vm.findClass RX6 = some m.cls := findClass_of_methodNamed B.named
  have hlocks := B.notSynchronized
  have htX6 : ∀ w ∈ wsX60, w.before args s = true := fun w h => hts w (wX6 w h)
  have htX2 : ∀ w ∈ wsX20, w.before args s = true := fun w h => hts w (wX2 w h)
  have hD := adr_self hD0
  obtain ⟨A, hA⟩ : ∃ A, A = adr (fW cI cP a0 aN aT aS t0 t1 t2 h0 h1 pa PN PT PS f u Ps oh vh k) := ⟨_, rfl⟩
  rw [← hA] at hD
  have hS : va_S A s.heap s.heap [] := va_S.rf
  obtain ⟨Q, hQ⟩ : ∃ Q, Q = MQ below (va_Qi (fun (r9 : Int32) (u9 : PV × (Nat → PV) × Nat × Nat) => (r9, u9) = okp (fX6_restore PN PS Ps oh vh k)) (fun u9 t => va_P (dC, dI) vwCl ((fun (v9 : PV × (Nat → PV) × Nat × Nat) => fW cI cP a0 aN aT aS t0 t1 t2 h0 h1 pa v9.1 PT PS f u v9.2.1 v9.2.2.1 v9.2.2.2 k) u9) t.heap) (adr (fW cI cP a0 aN aT aS t0 t1 t2 h0 h1 pa PN PT PS f u Ps oh vh k))) args s 0 0 (adr (fW cI cP a0 aN aT aS t0 t1 t2 h0 h1 pa PN PT PS f u Ps oh vh k)) := ⟨_, rfl⟩
  rw [← hQ]
  rw [← hA] at hQ
  have hl := lv_entry ([.ref a0]) (n := 1) (Nat.le_of_ble_eq_true rfl)
  rw [ha, lg_entry_eq, ← ha]
  generalize (lg_sl ([.ref a0]) ++ List.replicate (1 - (lg_sl ([.ref a0])).length) Slot.unset).toArray = ls at hl ⊢
  have hl : lv_has ls 1 [(0, .ref a0)] := hl
  show W p l e rmX6_restore s m args below meth c s.heap [] 0 0 Q (F0 m 0 ls [])
  have hF : fX6_restore PN PS Ps oh vh k = fX6_restore PN PS Ps oh vh k := rfl
  refine lv_aload_n hx hb dX6_restore_0 rfl (lv_at hl 0 rfl) ?_
  refine va_get (D := (dC, dI)) (ci := 4) (v := .int k) (C := RX6) (T := TX6) (N := 6) hx hb htX6 (fun _ h => h) hown hK (fl_at hP 0 rfl) 0 rfl rfl 5 (by decide) (hts _ u_146) (fun _ h9 => h9) rfl dX6_restore_1 ?_
  refine lv_if_ne (tgt := 17) hx hb dX6_restore_4 (by decide) (fun c_4 => ?_) (fun c_4 => ?_)
  · have hF := hF.trans (if_neg c_4)
    refine lv_aload_n hx hb dX6_restore_17 rfl (lv_at hl 0 rfl) ?_
    refine va_get (D := (dC, dI)) (ci := 4) (v := .ref h0) (C := RX6) (T := TX6) (N := 6) hx hb htX6 (fun _ h => h) hown hK (fl_at hP 0 rfl) 0 rfl rfl 3 (by decide) (hts _ u_144) (fun _ h9 => h9) rfl dX6_restore_18 ?_
    refine lv_aload_n hx hb dX6_restore_21 rfl (lv_at hl 0 rfl) ?_
    refine va_get (D := (dC, dI)) (ci := 4) (v := .ref (aN 0)) (C := RX6) (T := TX6) (N := 6) hx hb htX6 (fun _ h => h) hown hK (fl_at hP 0 rfl) 0 rfl rfl 0 (by decide) (hts _ u_141) (fun _ h9 => h9) rfl dX6_restore_22 ?_
    refine k_bmutv (wc := [hW cI cP h0 h1 pa Ps (nI oh) (nI vh), pW cI aN PN]) (W1 := (fun (v : (Nat → PV) × Nat × Nat) => [hW cI cP h0 h1 pa v.1 (nI v.2.1) (nI v.2.2), pW cI aN PN])) (va_runV (As := [.ref (aN 0)]) (rest := []) ⟨hx, hb, hml, hown, hts0⟩ (mX0_save l dC dI cI cP h0 h1 pa Ps oh vh aN PN  (by first | omega | assumption) (by first | omega | assumption)) (cwV 1 hts0 (gi_V u_451 u_452 u_453 u_5 u_454) rfl rfl rfl (by decide +kernel) ⟨Nat.le_of_ble_eq_true rfl, Nat.le_of_ble_eq_true rfl⟩) (pcM_V (ci := 0) (q0 := 0) (fl_sub (wc := [hW cI cP h0 h1 pa Ps (nI oh) (nI vh), pW cI aN PN]) hP [5, 1] rfl) hK hn (fl_D (wc := [hW cI cP h0 h1 pa Ps (nI oh) (nI vh), pW cI aN PN]) hD [5, 1] (by decide) rfl) rfl rfl) rfl rfl hl.1 rfl (lv_room (Nat.le_of_ble_eq_true rfl)) dX6_restore_25 ⟨Nat.zero_le _, Nat.zero_le _⟩) hP hD hS [5, 1] (by decide) rfl (fun _ => rfl) (fun U25 H locs hU25 hP hD hS => ?_)
    have hP : va_P (dC, dI) vwCl (fW cI cP a0 aN aT aS t0 t1 t2 h0 h1 pa PN PT PS f u U25.1 U25.2.1 U25.2.2 k) H := hP
    have hD : va_D A (fW cI cP a0 aN aT aS t0 t1 t2 h0 h1 pa PN PT PS f u U25.1 U25.2.1 U25.2.2 k) := hD
    have hF := bd_at hF hU25
    refine lv_aload_n hx hb dX6_restore_28 rfl (lv_at hl 0 rfl) ?_
    refine va_get (D := (dC, dI)) (ci := 4) (v := .ref (aN 0)) (C := RX6) (T := TX6) (N := 6) hx hb htX6 (fun _ h => h) hown hK (fl_at hP 0 rfl) 0 rfl rfl 0 (by decide) (hts _ u_141) (fun _ h9 => h9) rfl dX6_restore_29 ?_
    refine lv_aload_n hx hb dX6_restore_32 rfl (lv_at hl 0 rfl) ?_
    refine va_get (D := (dC, dI)) (ci := 4) (v := .ref (aS 0)) (C := RX6) (T := TX6) (N := 6) hx hb htX6 (fun _ h => h) hown hK (fl_at hP 0 rfl) 0 rfl rfl 2 (by decide) (hts _ u_143) (fun _ h9 => h9) rfl dX6_restore_33 ?_
    refine k_bmutv (wc := [pW cI aN PN, pW cI aS PS]) (W1 := (fun (v : PV) => [pW cI aN v, pW cI aS PS])) (va_runV (As := [.ref (aS 0)]) (rest := []) ⟨hx, hb, hml, hown, hts0⟩ (mX2_copyFrom l dC dI cI aN PN aS PS ) (cwV 1 hts0 (gi_V u_263 u_245 u_246 u_2 u_247) rfl rfl rfl (by decide +kernel) ⟨Nat.le_of_ble_eq_true rfl, Nat.le_of_ble_eq_true rfl⟩) (pcM_V (ci := 2) (q0 := 0) (fl_sub (wc := [pW cI aN PN, pW cI aS PS]) hP [1, 3] rfl) (hK.sub (tys' := [(cI, .int)]) [0] rfl) hn (fl_D (wc := [pW cI aN PN, pW cI aS PS]) hD [1, 3] (by decide) rfl) rfl rfl) rfl rfl hl.1 rfl (lv_room (Nat.le_of_ble_eq_true rfl)) dX6_restore_36 ⟨Nat.zero_le _, Nat.zero_le _⟩) hP hD hS [1, 3] (by decide) rfl (fun _ => rfl) (fun U36 H locs hU36 hP hD hS => ?_)
    have hP : va_P (dC, dI) vwCl (fW cI cP a0 aN aT aS t0 t1 t2 h0 h1 pa U36 PT PS f u U25.1 U25.2.1 U25.2.2 k) H := hP
    have hD : va_D A (fW cI cP a0 aN aT aS t0 t1 t2 h0 h1 pa U36 PT PS f u U25.1 U25.2.1 U25.2.2 k) := hD
    have hF := bd_at hF hU36
    refine lv_aload_n hx hb dX6_restore_39 rfl (lv_at hl 0 rfl) ?_
    refine va_get (D := (dC, dI)) (ci := 4) (v := .ref (aN 0)) (C := RX6) (T := TX6) (N := 6) hx hb htX6 (fun _ h => h) hown hK (fl_at hP 0 rfl) 0 rfl rfl 0 (by decide) (hts _ u_141) (fun _ h9 => h9) rfl dX6_restore_40 ?_
    refine va_getN (D := (dC, dI)) (ci := 2) (v := .ref (aN 11)) (C := RX2) (T := TX2) (N := 14) hx hb htX2 (fun _ h => h) hown hK (fl_at hP 1 rfl) 0 rfl rfl 9 (by decide) (va_Nw.use rfl (hn _ (List.mem_of_getElem? (i := 13) rfl))) (fun _ h9 => h9) rfl dX6_restore_43 ?_
    refine k_calli (W.runV (As := []) (rest := []) ⟨hx, hb, hml, hown, hts0⟩ (mX1_length l dC dI cI (aN 11) (aN 12) 16 (by decide) (U36 9) (U36 10 5) ) (cwV 0 hts0 (gi_V u_264 u_265 u_266 u_3 u_267) rfl rfl rfl (by decide +kernel) ⟨Nat.le_of_ble_eq_true rfl, Nat.le_of_ble_eq_true rfl⟩) (pcR_V (ci := 1) (q0 := 0) ((fl_at hP 1 rfl).sub (ws' := lW cI (aN 11) (aN 12) 16 (U36 9) (U36 10 5)) [11, 12] rfl) (hK.sub (tys' := [(cI, .int)]) [0] rfl) hn rfl rfl) rfl rfl hl.1 rfl (lv_room (Nat.le_of_ble_eq_true rfl)) dX6_restore_46 ⟨Nat.zero_le _, Nat.zero_le _⟩) ?_
    rw [hQ]
    exact W.iret (v := (fX1_length 16 (U36 9) (U36 10 5))) hx hb hr (fun t ht hW => ⟨⟨(fX1_length 16 (U36 9) (U36 10 5)), (U36, U25.1, U25.2.1, U25.2.2), rfl, k_okp hF, toH ht hP⟩, hS.F ht⟩) hS.2.2 dX6_restore_49
  have hF := hF.trans (if_pos c_4)
  exact (k_no hF hok).elim

def fX6_undo (PN : PV) (Ps : Nat → PV) (oh : Nat) (vh : Nat) : Nat ⊕ (Int32 × (PV × Nat)) :=
  (if (fX0_length Ps oh vh) = 0 then (Sum.inl 1) else (bd (fX0_takeLatest Ps oh vh PN) (fun U28 => (Sum.inr ((fX0_length Ps oh U28.2), (U28.1, U28.2))))))
abbrev rmX6_undo : Room := { frames := 4, cells := 0, slots := 0, locals := 104 }
set_option maxHeartbeats 4000000 in
set_option maxRecDepth 100000 in
theorem mX6_undo (l : Launch) (dC : Nat → ClassId) (dI : Nat → Nat → Nat) (cI cP : ClassId) (a0 : Nat) (aN aT aS : Nat → Nat) (t0 t1 t2 h0 h1 : Nat) (pa : Nat → Nat → Nat) (PN PT PS : PV) (f : Nat → Int32) (u : Int32) (Ps : Nat → PV) (oh vh : Nat) (k : Int32) (ho6 : oh < 6) (hv6 : vh ≤ 6) (hok : isOk (fX6_undo PN Ps oh vh) = true) : Met l yX6_undo (ws_ yX6_undo cX6_undo 1 (some .int)) rmX6_undo (pcM (dC, dI) [(cI, .int), (cP, .object "SupperSeats$Plan")] (fW cI cP a0 aN aT aS t0 t1 t2 h0 h1 pa PN PT PS f u Ps oh vh k) [.ref a0]) (va_Qi (fun (r9 : Int32) (u9 : PV × Nat) => (r9, u9) = okp (fX6_undo PN Ps oh vh)) (fun u9 t => va_P (dC, dI) vwCl ((fun (v9 : PV × Nat) => fW cI cP a0 aN aT aS t0 t1 t2 h0 h1 pa v9.1 PT PS f u Ps oh v9.2 k) u9) t.heap) (adr (fW cI cP a0 aN aT aS t0 t1 t2 h0 h1 pa PN PT PS f u Ps oh vh k))) 0 0 (adr (fW cI cP a0 aN aT aS t0 t1 t2 h0 h1 pa PN PT PS f u Ps oh vh k)) := by
  refine Met.ofW (cc := cX6_undo) (maxL := 1) (ret := (some .int)) (by decide) rfl ?_
  intro p e s m args below meth c s₁ B hml hv
  obtain ⟨ha, hP, hK, hn, hD0⟩ := hv
  have hx := B.exec
  have hb := B.bytes
  have hr := B.returns
  have hts0 := atoms_spec (ws := (ws_ yX6_undo cX6_undo 1 (some .int))) B.pre
  have hts : ∀ w ∈ lw_all, w.before args s = true := fun w h => hts0 w (List.mem_cons_of_mem _ h)
  have hown : s.vm.findClass RX6 = some m.cls := findClass_of_methodNamed B.named
  have hlocks := B.notSynchronized
  have htX6 : ∀ w ∈ wsX60, w.before args s = true := fun w h => hts w (wX6 w h)
  have hD := adr_self hD0
  obtain ⟨A, hA⟩ : ∃ A, A = adr (fW cI cP a0 aN aT aS t0 t1 t2 h0 h1 pa PN PT PS f u Ps oh vh k) := ⟨_, rfl⟩
  rw [← hA] at hD
  have hS : va_S A s.heap s.heap [] := va_S.rf
  obtain ⟨Q, hQ⟩ : ∃ Q, Q = MQ below (va_Qi (fun (r9 : Int32) (u9 : PV × Nat) => (r9, u9) = okp (fX6_undo PN Ps oh vh)) (fun u9 t => va_P (dC, dI) vwCl ((fun (v9 : PV × Nat) => fW cI cP a0 aN aT aS t0 t1 t2 h0 h1 pa v9.1 PT PS f u Ps oh v9.2 k) u9) t.heap) (adr (fW cI cP a0 aN aT aS t0 t1 t2 h0 h1 pa PN PT PS f u Ps oh vh k))) args s 0 0 (adr (fW cI cP a0 aN aT aS t0 t1 t2 h0 h1 pa PN PT PS f u Ps oh vh k)) := ⟨_, rfl⟩
  rw [← hQ]
  rw [← hA] at hQ
  have hl := lv_entry ([.ref a0]) (n := 1) (Nat.le_of_ble_eq_true rfl)
  rw [ha, lg_entry_eq, ← ha]
  generalize (lg_sl ([.ref a0]) ++ List.replicate (1 - (lg_sl ([.ref a0])).length) Slot.unset).toArray = ls at hl ⊢
  have hl : lv_has ls 1 [(0, .ref a0)] := hl
  show W p l e rmX6_undo s m args below meth c s.heap [] 0 0 Q (F0 m 0 ls [])
  have hF : fX6_undo PN Ps oh vh = fX6_undo PN Ps oh vh := rfl
  refine lv_aload_n hx hb dX6_undo_0 rfl (lv_at hl 0 rfl) ?_
  refine va_get (D := (dC, dI)) (ci := 4) (v := .ref h0) (C := RX6) (T := TX6) (N := 6) hx hb htX6 (fun _ h => h) hown hK (fl_at hP 0 rfl) 0 rfl rfl 3 (by decide) (hts _ u_144) (fun _ h9 => h9) rfl dX6_undo_1 ?_
  refine k_calli (W.runV (As := []) (rest := []) ⟨hx, hb, hml, hown, hts0⟩ (mX0_length l dC dI cI cP h0 h1 pa Ps oh vh ) (cwV 0 hts0 (gi_V u_164 u_165 u_166 u_5 u_167) rfl rfl rfl (by decide +kernel) ⟨Nat.le_of_ble_eq_true rfl, Nat.le_of_ble_eq_true rfl⟩) (pcR_V (ci := 0) (q0 := 0) (fl_at hP 5 rfl) hK hn rfl rfl) rfl rfl hl.1 rfl (lv_room (Nat.le_of_ble_eq_true rfl)) dX6_undo_4 ⟨Nat.zero_le _, Nat.zero_le _⟩) ?_
  refine lv_if_ne (tgt := 20) hx hb dX6_undo_7 (by decide) (fun c_7 => ?_) (fun c_7 => ?_)
  · have hF := hF.trans (if_neg c_7)
    refine lv_aload_n hx hb dX6_undo_20 rfl (lv_at hl 0 rfl) ?_
    refine va_get (D := (dC, dI)) (ci := 4) (v := .ref h0) (C := RX6) (T := TX6) (N := 6) hx hb htX6 (fun _ h => h) hown hK (fl_at hP 0 rfl) 0 rfl rfl 3 (by decide) (hts _ u_144) (fun _ h9 => h9) rfl dX6_undo_21 ?_
    refine lv_aload_n hx hb dX6_undo_24 rfl (lv_at hl 0 rfl) ?_
    refine va_get (D := (dC, dI)) (ci := 4) (v := .ref (aN 0)) (C := RX6) (T := TX6) (N := 6) hx hb htX6 (fun _ h => h) hown hK (fl_at hP 0 rfl) 0 rfl rfl 0 (by decide) (hts _ u_141) (fun _ h9 => h9) rfl dX6_undo_25 ?_
    refine k_bmutv (wc := [hW cI cP h0 h1 pa Ps (nI oh) (nI vh), pW cI aN PN]) (W1 := (fun (v : PV × Nat) => [hW cI cP h0 h1 pa Ps (nI oh) (nI v.2), pW cI aN v.1])) (va_runV (As := [.ref (aN 0)]) (rest := []) ⟨hx, hb, hml, hown, hts0⟩ (mX0_takeLatest l dC dI cI cP h0 h1 pa Ps oh vh aN PN  (by first | omega | assumption) (by first | omega | assumption)) (cwV 1 hts0 (gi_V u_236 u_237 u_238 u_5 u_239) rfl rfl rfl (by decide +kernel) ⟨Nat.le_of_ble_eq_true rfl, Nat.le_of_ble_eq_true rfl⟩) (pcM_V (ci := 0) (q0 := 0) (fl_sub (wc := [hW cI cP h0 h1 pa Ps (nI oh) (nI vh), pW cI aN PN]) hP [5, 1] rfl) hK hn (fl_D (wc := [hW cI cP h0 h1 pa Ps (nI oh) (nI vh), pW cI aN PN]) hD [5, 1] (by decide) rfl) rfl rfl) rfl rfl hl.1 rfl (lv_room (Nat.le_of_ble_eq_true rfl)) dX6_undo_28 ⟨Nat.zero_le _, Nat.zero_le _⟩) hP hD hS [5, 1] (by decide) rfl (fun _ => rfl) (fun U28 H locs hU28 hP hD hS => ?_)
    have hP : va_P (dC, dI) vwCl (fW cI cP a0 aN aT aS t0 t1 t2 h0 h1 pa U28.1 PT PS f u Ps oh U28.2 k) H := hP
    have hD : va_D A (fW cI cP a0 aN aT aS t0 t1 t2 h0 h1 pa U28.1 PT PS f u Ps oh U28.2 k) := hD
    have hF := bd_at hF hU28
    refine lv_aload_n hx hb dX6_undo_31 rfl (lv_at hl 0 rfl) ?_
    refine va_get (D := (dC, dI)) (ci := 4) (v := .ref h0) (C := RX6) (T := TX6) (N := 6) hx hb htX6 (fun _ h => h) hown hK (fl_at hP 0 rfl) 0 rfl rfl 3 (by decide) (hts _ u_144) (fun _ h9 => h9) rfl dX6_undo_32 ?_
    refine k_calli (W.runV (As := []) (rest := []) ⟨hx, hb, hml, hown, hts0⟩ (mX0_length l dC dI cI cP h0 h1 pa Ps oh U28.2 ) (cwV 0 hts0 (gi_V u_164 u_165 u_166 u_5 u_167) rfl rfl rfl (by decide +kernel) ⟨Nat.le_of_ble_eq_true rfl, Nat.le_of_ble_eq_true rfl⟩) (pcR_V (ci := 0) (q0 := 0) (fl_at hP 5 rfl) hK hn rfl rfl) rfl rfl hl.1 rfl (lv_room (Nat.le_of_ble_eq_true rfl)) dX6_undo_35 ⟨Nat.zero_le _, Nat.zero_le _⟩) ?_
    rw [hQ]
    exact W.iret (v := (fX0_length Ps oh U28.2)) hx hb hr (fun t ht hW => ⟨⟨(fX0_length Ps oh U28.2), (U28.1, U28.2), rfl, k_okp hF, toH ht hP⟩, hS.F ht⟩) hS.2.2 dX6_undo_38
  have hF := hF.trans (if_pos c_7)
  exact (k_no hF hok).elim
