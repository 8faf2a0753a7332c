def fX6_told (PN : PV) (tb : Int32) (i : Int32) : Nat ⊕ (Int32 × Unit) :=
  (if (fX6_needTable PN tb) = 0 then (if 0 ≤ i then (Sum.inr ((fX2_letterOfTable PN tb i), ())) else (Sum.inl 0)) else (Sum.inl 2))
abbrev rmX6_told : Room := { frames := 2, cells := 0, slots := 0, locals := 48 }
set_option maxHeartbeats 4000000 in
set_option maxRecDepth 100000 in
theorem mX6_told (l : Launch) (dC : Nat → ClassId) (dI : Nat → Nat → Nat) (cI cP : ClassId) (a0 : Nat) (aN aT aS : Nat → Nat) (t0 t1 t2 h0 h1 : Nat) (pa : Nat → Nat → Nat) (PN PT PS : PV) (f : Nat → Int32) (u : Int32) (Ps : Nat → PV) (oh vh : Nat) (k : Int32) (tb : Int32) (i : Int32) (hok : isOk (fX6_told PN tb i) = true) : Met l yX6_told (ws_ yX6_told cX6_told 3 (some .int)) rmX6_told (pcR (dC, dI) [(cI, .int), (cP, .object "SupperSeats$Plan")] (fW cI cP a0 aN aT aS t0 t1 t2 h0 h1 pa PN PT PS f u Ps oh vh k) [.ref a0, .int tb, .int i]) (vp_Si (fun r => r = ok1 (fX6_told PN tb i))) 0 0 (fun _ => False) := by
  refine Met.ofW (cc := cX6_told) (maxL := 3) (ret := (some .int)) (by decide) rfl ?_
  intro p e s m args below meth c s₁ B hml hv
  obtain ⟨ha, hP, hK, hn⟩ := hv
  have hx := B.exec
  have hb := B.bytes
  have hr := B.returns
  have hts0 := atoms_spec (ws := (ws_ yX6_told cX6_told 3 (some .int))) B.pre
  have hts : ∀ w ∈ lw_all, w.before args s = true := fun w h => hts0 w (List.mem_cons_of_mem _ h)
  have hown : s.vm.findClass RX6 = some m.cls := findClass_of_methodNamed B.named
  have hlocks := B.notSynchronized
  have htX6 : ∀ w ∈ wsX60, w.before args s = true := fun w h => hts w (wX6 w h)
  obtain ⟨Q, hQ⟩ : ∃ Q, Q = MQ below (vp_Si (fun r => r = ok1 (fX6_told PN tb i))) args s 0 0 (fun _ => False) := ⟨_, rfl⟩
  rw [← hQ]
  have hl := lv_entry ([.ref a0, .int tb, .int i]) (n := 3) (Nat.le_of_ble_eq_true rfl)
  rw [ha, lg_entry_eq, ← ha]
  generalize (lg_sl ([.ref a0, .int tb, .int i]) ++ List.replicate (3 - (lg_sl ([.ref a0, .int tb, .int i])).length) Slot.unset).toArray = ls at hl ⊢
  have hl : lv_has ls 3 [(0, .ref a0), (1, .int tb), (2, .int i)] := hl
  show W p l e rmX6_told s m args below meth c s.heap [] 0 0 Q (F0 m 0 ls [])
  have hF : fX6_told PN tb i = fX6_told PN tb i := rfl
  refine lv_aload_n hx hb dX6_told_0 rfl (lv_at hl 0 rfl) ?_
  refine lv_iload_n hx hb dX6_told_1 rfl (lv_at hl 1 rfl) ?_
  refine k_dec (P := (fX6_needTable PN tb) = 0) (fun c_2 => ?_) (fun c_2 => ?_)
  · have hF := hF.trans (if_neg c_2)
    exact (k_no hF hok).elim
  have hF := hF.trans (if_pos c_2)
  refine va_csv (W.runV (As := [.int tb]) (rest := []) ⟨hx, hb, hml, hown, hts0⟩ (mX6_needTable l dC dI cI cP a0 aN aT aS t0 t1 t2 h0 h1 pa PN PT PS f u Ps oh vh k tb c_2) (cwV 1 hts0 (gi_V u_395 u_397 us_5 u_1 u_398) rfl rfl rfl (by decide +kernel) ⟨Nat.le_of_ble_eq_true rfl, Nat.le_of_ble_eq_true rfl⟩) (pcR_V (ci := 4) (q0 := 0) hP hK hn rfl rfl) rfl rfl hl.1 rfl (lv_room (Nat.le_of_ble_eq_true rfl)) dX6_told_2 ⟨Nat.zero_le _, Nat.zero_le _⟩) (fun _ => ?_)
  refine lv_iload_n hx hb dX6_told_5 rfl (lv_at hl 2 rfl) ?_
  refine lv_if_ge (tgt := 19) hx hb dX6_told_6 (by decide) (fun c_6 => ?_) (fun c_6 => ?_)
  · have hF := hF.trans (if_pos c_6)
    refine lv_aload_n hx hb dX6_told_19 rfl (lv_at hl 0 rfl) ?_
    refine va_get (D := (dC, dI)) (ci := 4) (v := .ref (aN 0)) (C := RX6) (T := TX6) (N := 6) hx hb htX6 (fun _ h => h) hown hK (fl_at hP 0 rfl) 0 rfl rfl 0 (by decide) (hts _ u_141) (fun _ h9 => h9) rfl dX6_told_20 ?_
    refine lv_iload_n hx hb dX6_told_23 rfl (lv_at hl 1 rfl) ?_
    refine lv_iload_n hx hb dX6_told_24 rfl (lv_at hl 2 rfl) ?_
    refine k_calli (W.runV (As := [.int tb, .int i]) (rest := []) ⟨hx, hb, hml, hown, hts0⟩ (mX2_letterOfTable l dC dI cI aN PN tb i) (cwV 2 hts0 (gi_V u_642 u_643 u_644 u_2 u_645) rfl rfl rfl (by decide +kernel) ⟨Nat.le_of_ble_eq_true rfl, Nat.le_of_ble_eq_true rfl⟩) (pcR_V (ci := 2) (q0 := 0) (fl_at hP 1 rfl) (hK.sub (tys' := [(cI, .int)]) [0] rfl) hn rfl rfl) rfl rfl hl.1 rfl (lv_room (Nat.le_of_ble_eq_true rfl)) dX6_told_25 ⟨Nat.zero_le _, Nat.zero_le _⟩) ?_
    rw [hQ]
    exact W.iret (v := (fX2_letterOfTable PN tb i)) hx hb hr (fun t ht hW => ⟨(fX2_letterOfTable PN tb i), rfl, k_ok1 hF, ht⟩) (fun q hq => absurd hq List.not_mem_nil) dX6_told_28
  have hF := hF.trans (if_neg c_6)
  exact (k_no hF hok).elim

def fX6_guestOf (PN : PV) (g : Int32) (w : Int32) : Nat ⊕ (Int32 × Unit) :=
  (if (fX6_needGuest PN g) = 0 then (if w < 0 then (Sum.inl 0) else (if w < 7 then (Sum.inr ((fX6_guestNumber PN g w), ())) else (Sum.inl 0))) else (Sum.inl 2))
abbrev rmX6_guestOf : Room := { frames := 5, cells := 0, slots := 0, locals := 130 }
set_option maxHeartbeats 4000000 in
set_option maxRecDepth 100000 in
theorem mX6_guestOf (l : Launch) (dC : Nat → ClassId) (dI : Nat → Nat → Nat) (cI cP : ClassId) (a0 : Nat) (aN aT aS : Nat → Nat) (t0 t1 t2 h0 h1 : Nat) (pa : Nat → Nat → Nat) (PN PT PS : PV) (f : Nat → Int32) (u : Int32) (Ps : Nat → PV) (oh vh : Nat) (k : Int32) (g : Int32) (w : Int32) (hok : isOk (fX6_guestOf PN g w) = true) : Met l yX6_guestOf (ws_ yX6_guestOf cX6_guestOf 3 (some .int)) rmX6_guestOf (pcR (dC, dI) [(cI, .int), (cP, .object "SupperSeats$Plan")] (fW cI cP a0 aN aT aS t0 t1 t2 h0 h1 pa PN PT PS f u Ps oh vh k) [.ref a0, .int g, .int w]) (vp_Si (fun r => r = ok1 (fX6_guestOf PN g w))) 0 0 (fun _ => False) := by
  refine Met.ofW (cc := cX6_guestOf) (maxL := 3) (ret := (some .int)) (by decide) rfl ?_
  intro p e s m args below meth c s₁ B hml hv
  obtain ⟨ha, hP, hK, hn⟩ := hv
  have hx := B.exec
  have hb := B.bytes
  have hr := B.returns
  have hts0 := atoms_spec (ws := (ws_ yX6_guestOf cX6_guestOf 3 (some .int))) B.pre
  have hts : ∀ w ∈ lw_all, w.before args s = true := fun w h => hts0 w (List.mem_cons_of_mem _ h)
  have hown : s.vm.findClass RX6 = some m.cls := findClass_of_methodNamed B.named
  have hlocks := B.notSynchronized
  obtain ⟨Q, hQ⟩ : ∃ Q, Q = MQ below (vp_Si (fun r => r = ok1 (fX6_guestOf PN g w))) args s 0 0 (fun _ => False) := ⟨_, rfl⟩
  rw [← hQ]
  have hl := lv_entry ([.ref a0, .int g, .int w]) (n := 3) (Nat.le_of_ble_eq_true rfl)
  rw [ha, lg_entry_eq, ← ha]
  generalize (lg_sl ([.ref a0, .int g, .int w]) ++ List.replicate (3 - (lg_sl ([.ref a0, .int g, .int w])).length) Slot.unset).toArray = ls at hl ⊢
  have hl : lv_has ls 3 [(0, .ref a0), (1, .int g), (2, .int w)] := hl
  show W p l e rmX6_guestOf s m args below meth c s.heap [] 0 0 Q (F0 m 0 ls [])
  have hF : fX6_guestOf PN g w = fX6_guestOf PN g w := rfl
  refine lv_aload_n hx hb dX6_guestOf_0 rfl (lv_at hl 0 rfl) ?_
  refine lv_iload_n hx hb dX6_guestOf_1 rfl (lv_at hl 1 rfl) ?_
  refine k_dec (P := (fX6_needGuest PN g) = 0) (fun c_2 => ?_) (fun c_2 => ?_)
  · have hF := hF.trans (if_neg c_2)
    exact (k_no hF hok).elim
  have hF := hF.trans (if_pos c_2)
  refine va_csv (W.runV (As := [.int g]) (rest := []) ⟨hx, hb, hml, hown, hts0⟩ (mX6_needGuest l dC dI cI cP a0 aN aT aS t0 t1 t2 h0 h1 pa PN PT PS f u Ps oh vh k g c_2) (cwV 1 hts0 (gi_V u_363 u_365 us_3 u_1 u_366) rfl rfl rfl (by decide +kernel) ⟨Nat.le_of_ble_eq_true rfl, Nat.le_of_ble_eq_true rfl⟩) (pcR_V (ci := 4) (q0 := 0) hP hK hn rfl rfl) rfl rfl hl.1 rfl (lv_room (Nat.le_of_ble_eq_true rfl)) dX6_guestOf_2 ⟨Nat.zero_le _, Nat.zero_le _⟩) (fun _ => ?_)
  refine lv_iload_n hx hb dX6_guestOf_5 rfl (lv_at hl 2 rfl) ?_
  refine lv_if_lt (tgt := 15) hx hb dX6_guestOf_6 (by decide) (fun c_6 => ?_) (fun c_6 => ?_)
  · have hF := hF.trans (if_pos c_6)
    exact (k_no hF hok).elim
  have hF := hF.trans (if_neg c_6)
  refine lv_iload_n hx hb dX6_guestOf_9 rfl (lv_at hl 2 rfl) ?_
  refine lv_bipush (v := 7) hx hb dX6_guestOf_10 (by decide) ?_
  refine lv_icmp_lt (tgt := 25) hx hb dX6_guestOf_12 (by decide) (fun c_12 => ?_) (fun c_12 => ?_)
  · have hF := hF.trans (if_pos c_12)
    refine lv_aload_n hx hb dX6_guestOf_25 rfl (lv_at hl 0 rfl) ?_
    refine lv_iload_n hx hb dX6_guestOf_26 rfl (lv_at hl 1 rfl) ?_
    refine lv_iload_n hx hb dX6_guestOf_27 rfl (lv_at hl 2 rfl) ?_
    refine k_calli (W.runV (As := [.int g, .int w]) (rest := []) ⟨hx, hb, hml, hown, hts0⟩ (mX6_guestNumber l dC dI cI cP a0 aN aT aS t0 t1 t2 h0 h1 pa PN PT PS f u Ps oh vh k g w) (cwV 2 hts0 (gi_V u_385 u_387 us_4 u_1 u_388) rfl rfl rfl (by decide +kernel) ⟨Nat.le_of_ble_eq_true rfl, Nat.le_of_ble_eq_true rfl⟩) (pcR_V (ci := 4) (q0 := 0) hP hK hn rfl rfl) rfl rfl hl.1 rfl (lv_room (Nat.le_of_ble_eq_true rfl)) dX6_guestOf_28 ⟨Nat.zero_le _, Nat.zero_le _⟩) ?_
    rw [hQ]
    exact W.iret (v := (fX6_guestNumber PN g w)) hx hb hr (fun t ht hW => ⟨(fX6_guestNumber PN g w), rfl, k_ok1 hF, ht⟩) (fun q hq => absurd hq List.not_mem_nil) dX6_guestOf_31
  have hF := hF.trans (if_neg c_12)
  exact (k_no hF hok).elim

def fX6_tableOf (PN : PV) (tb : Int32) (w : Int32) : Nat ⊕ (Int32 × Unit) :=
  (if (fX6_needTable PN tb) = 0 then (if w < 0 then (Sum.inl 0) else (if w < 5 then (Sum.inr ((fX6_tableNumber PN tb w), ())) else (Sum.inl 0))) else (Sum.inl 2))
abbrev rmX6_tableOf : Room := { frames := 4, cells := 0, slots := 0, locals := 112 }
set_option maxHeartbeats 4000000 in
set_option maxRecDepth 100000 in
theorem mX6_tableOf (l : Launch) (dC : Nat → ClassId) (dI : Nat → Nat → Nat) (cI cP : ClassId) (a0 : Nat) (aN aT aS : Nat → Nat) (t0 t1 t2 h0 h1 : Nat) (pa : Nat → Nat → Nat) (PN PT PS : PV) (f : Nat → Int32) (u : Int32) (Ps : Nat → PV) (oh vh : Nat) (k : Int32) (tb : Int32) (w : Int32) (hok : isOk (fX6_tableOf PN tb w) = true) : Met l yX6_tableOf (ws_ yX6_tableOf cX6_tableOf 3 (some .int)) rmX6_tableOf (pcR (dC, dI) [(cI, .int), (cP, .object "SupperSeats$Plan")] (fW cI cP a0 aN aT aS t0 t1 t2 h0 h1 pa PN PT PS f u Ps oh vh k) [.ref a0, .int tb, .int w]) (vp_Si (fun r => r = ok1 (fX6_tableOf PN tb w))) 0 0 (fun _ => False) := by
  refine Met.ofW (cc := cX6_tableOf) (maxL := 3) (ret := (some .int)) (by decide) rfl ?_
  intro p e s m args below meth c s₁ B hml hv
  obtain ⟨ha, hP, hK, hn⟩ := hv
  have hx := B.exec
  have hb := B.bytes
  have hr := B.returns
  have hts0 := atoms_spec (ws := (ws_ yX6_tableOf cX6_tableOf 3 (some .int))) B.pre
  have hts : ∀ w ∈ lw_all, w.before args s = true := fun w h => hts0 w (List.mem_cons_of_mem _ h)
  have hown : s.vm.findClass RX6 = some m.cls := findClass_of_methodNamed B.named
  have hlocks := B.notSynchronized
  obtain ⟨Q, hQ⟩ : ∃ Q, Q = MQ below (vp_Si (fun r => r = ok1 (fX6_tableOf PN tb w))) args s 0 0 (fun _ => False) := ⟨_, rfl⟩
  rw [← hQ]
  have hl := lv_entry ([.ref a0, .int tb, .int w]) (n := 3) (Nat.le_of_ble_eq_true rfl)
  rw [ha, lg_entry_eq, ← ha]
  generalize (lg_sl ([.ref a0, .int tb, .int w]) ++ List.replicate (3 - (lg_sl ([.ref a0, .int tb, .int w])).length) Slot.unset).toArray = ls at hl ⊢
  have hl : lv_has ls 3 [(0, .ref a0), (1, .int tb), (2, .int w)] := hl
  show W p l e rmX6_tableOf s m args below meth c s.heap [] 0 0 Q (F0 m 0 ls [])
  have hF : fX6_tableOf PN tb w = fX6_tableOf PN tb w := rfl
  refine lv_aload_n hx hb dX6_tableOf_0 rfl (lv_at hl 0 rfl) ?_
  refine lv_iload_n hx hb dX6_tableOf_1 rfl (lv_at hl 1 rfl) ?_
  refine k_dec (P := (fX6_needTable PN tb) = 0) (fun c_2 => ?_) (fun c_2 => ?_)
  · have hF := hF.trans (if_neg c_2)
    exact (k_no hF hok).elim
  have hF := hF.trans (if_pos c_2)
  refine va_csv (W.runV (As := [.int tb]) (rest := []) ⟨hx, hb, hml, hown, hts0⟩ (mX6_needTable l dC dI cI cP a0 aN aT aS t0 t1 t2 h0 h1 pa PN PT PS f u Ps oh vh k tb c_2) (cwV 1 hts0 (gi_V u_395 u_397 us_5 u_1 u_398) rfl rfl rfl (by decide +kernel) ⟨Nat.le_of_ble_eq_true rfl, Nat.le_of_ble_eq_true rfl⟩) (pcR_V (ci := 4) (q0 := 0) hP hK hn rfl rfl) rfl rfl hl.1 rfl (lv_room (Nat.le_of_ble_eq_true rfl)) dX6_tableOf_2 ⟨Nat.zero_le _, Nat.zero_le _⟩) (fun _ => ?_)
  refine lv_iload_n hx hb dX6_tableOf_5 rfl (lv_at hl 2 rfl) ?_
  refine lv_if_lt (tgt := 14) hx hb dX6_tableOf_6 (by decide) (fun c_6 => ?_) (fun c_6 => ?_)
  · have hF := hF.trans (if_pos c_6)
    exact (k_no hF hok).elim
  have hF := hF.trans (if_neg c_6)
  refine lv_iload_n hx hb dX6_tableOf_9 rfl (lv_at hl 2 rfl) ?_
  refine lv_iconst (v := 5) hx hb dX6_tableOf_10 (by decide) ?_
  refine lv_icmp_lt (tgt := 24) hx hb dX6_tableOf_11 (by decide) (fun c_11 => ?_) (fun c_11 => ?_)
  · have hF := hF.trans (if_pos c_11)
    refine lv_aload_n hx hb dX6_tableOf_24 rfl (lv_at hl 0 rfl) ?_
    refine lv_iload_n hx hb dX6_tableOf_25 rfl (lv_at hl 1 rfl) ?_
    refine lv_iload_n hx hb dX6_tableOf_26 rfl (lv_at hl 2 rfl) ?_
    refine k_calli (W.runV (As := [.int tb, .int w]) (rest := []) ⟨hx, hb, hml, hown, hts0⟩ (mX6_tableNumber l dC dI cI cP a0 aN aT aS t0 t1 t2 h0 h1 pa PN PT PS f u Ps oh vh k tb w) (cwV 2 hts0 (gi_V u_405 u_407 us_6 u_1 u_408) rfl rfl rfl (by decide +kernel) ⟨Nat.le_of_ble_eq_true rfl, Nat.le_of_ble_eq_true rfl⟩) (pcR_V (ci := 4) (q0 := 0) hP hK hn rfl rfl) rfl rfl hl.1 rfl (lv_room (Nat.le_of_ble_eq_true rfl)) dX6_tableOf_27 ⟨Nat.zero_le _, Nat.zero_le _⟩) ?_
    rw [hQ]
    exact W.iret (v := (fX6_tableNumber PN tb w)) hx hb hr (fun t ht hW => ⟨(fX6_tableNumber PN tb w), rfl, k_ok1 hF, ht⟩) (fun q hq => absurd hq List.not_mem_nil) dX6_tableOf_30
  have hF := hF.trans (if_neg c_11)
  exact (k_no hF hok).elim

def fX6_who (PN : PV) (tb : Int32) (z : Int32) : Nat ⊕ (Int32 × Unit) :=
  (if (fX6_needSeat PN tb z) = 0 then (Sum.inr ((fX2_holderAt PN tb z), ())) else (Sum.inl 2))
abbrev rmX6_who : Room := { frames := 3, cells := 0, slots := 0, locals := 65 }
set_option maxHeartbeats 4000000 in
set_option maxRecDepth 100000 in
theorem mX6_who (l : Launch) (dC : Nat → ClassId) (dI : Nat → Nat → Nat) (cI cP : ClassId) (a0 : Nat) (aN aT aS : Nat → Nat) (t0 t1 t2 h0 h1 : Nat) (pa : Nat → Nat → Nat) (PN PT PS : PV) (f : Nat → Int32) (u : Int32) (Ps : Nat → PV) (oh vh : Nat) (k : Int32) (tb : Int32) (z : Int32) (hok : isOk (fX6_who PN tb z) = true) : Met l yX6_who (ws_ yX6_who cX6_who 3 (some .int)) rmX6_who (pcR (dC, dI) [(cI, .int), (cP, .object "SupperSeats$Plan")] (fW cI cP a0 aN aT aS t0 t1 t2 h0 h1 pa PN PT PS f u Ps oh vh k) [.ref a0, .int tb, .int z]) (vp_Si (fun r => r = ok1 (fX6_who PN tb z))) 0 0 (fun _ => False) := by
  refine Met.ofW (cc := cX6_who) (maxL := 3) (ret := (some .int)) (by decide) rfl ?_
  intro p e s m args below meth c s₁ B hml hv
  obtain ⟨ha, hP, hK, hn⟩ := hv
  have hx := B.exec
  have hb := B.bytes
  have hr := B.returns
  have hts0 := atoms_spec (ws := (ws_ yX6_who cX6_who 3 (some .int))) B.pre
  have hts : ∀ w ∈ lw_all, w.before args s = true := fun w h => hts0 w (List.mem_cons_of_mem _ h)
  have hown : s.vm.findClass RX6 = some m.cls := findClass_of_methodNamed B.named
  have hlocks := B.notSynchronized
  have htX6 : ∀ w ∈ wsX60, w.before args s = true := fun w h => hts w (wX6 w h)
  obtain ⟨Q, hQ⟩ : ∃ Q, Q = MQ below (vp_Si (fun r => r = ok1 (fX6_who PN tb z))) args s 0 0 (fun _ => False) := ⟨_, rfl⟩
  rw [← hQ]
  have hl := lv_entry ([.ref a0, .int tb, .int z]) (n := 3) (Nat.le_of_ble_eq_true rfl)
  rw [ha, lg_entry_eq, ← ha]
  generalize (lg_sl ([.ref a0, .int tb, .int z]) ++ List.replicate (3 - (lg_sl ([.ref a0, .int tb, .int z])).length) Slot.unset).toArray = ls at hl ⊢
  have hl : lv_has ls 3 [(0, .ref a0), (1, .int tb), (2, .int z)] := hl
  show W p l e rmX6_who s m args below meth c s.heap [] 0 0 Q (F0 m 0 ls [])
  have hF : fX6_who PN tb z = fX6_who PN tb z := rfl
  refine lv_aload_n hx hb dX6_who_0 rfl (lv_at hl 0 rfl) ?_
  refine lv_iload_n hx hb dX6_who_1 rfl (lv_at hl 1 rfl) ?_
  refine lv_iload_n hx hb dX6_who_2 rfl (lv_at hl 2 rfl) ?_
  refine k_dec (P := (fX6_needSeat PN tb z) = 0) (fun c_3 => ?_) (fun c_3 => ?_)
  · have hF := hF.trans (if_neg c_3)
    exact (k_no hF hok).elim
  have hF := hF.trans (if_pos c_3)
  refine va_csv (W.runV (As := [.int tb, .int z]) (rest := []) ⟨hx, hb, hml, hown, hts0⟩ (mX6_needSeat l dC dI cI cP a0 aN aT aS t0 t1 t2 h0 h1 pa PN PT PS f u Ps oh vh k tb z c_3) (cwV 2 hts0 (gi_V u_609 u_611 us_8 u_1 u_612) rfl rfl rfl (by decide +kernel) ⟨Nat.le_of_ble_eq_true rfl, Nat.le_of_ble_eq_true rfl⟩) (pcR_V (ci := 4) (q0 := 0) hP hK hn rfl rfl) rfl rfl hl.1 rfl (lv_room (Nat.le_of_ble_eq_true rfl)) dX6_who_3 ⟨Nat.zero_le _, Nat.zero_le _⟩) (fun _ => ?_)
  refine lv_aload_n hx hb dX6_who_6 rfl (lv_at hl 0 rfl) ?_
  refine va_get (D := (dC, dI)) (ci := 4) (v := .ref (aN 0)) (C := RX6) (T := TX6) (N := 6) hx hb htX6 (fun _ h => h) hown hK (fl_at hP 0 rfl) 0 rfl rfl 0 (by decide) (hts _ u_141) (fun _ h9 => h9) rfl dX6_who_7 ?_
  refine lv_iload_n hx hb dX6_who_10 rfl (lv_at hl 1 rfl) ?_
  refine lv_iload_n hx hb dX6_who_11 rfl (lv_at hl 2 rfl) ?_
  refine k_calli (W.runV (As := [.int tb, .int z]) (rest := []) ⟨hx, hb, hml, hown, hts0⟩ (mX2_holderAt l dC dI cI aN PN tb z) (cwV 2 hts0 (gi_V u_633 u_339 u_340 u_2 u_341) rfl rfl rfl (by decide +kernel) ⟨Nat.le_of_ble_eq_true rfl, Nat.le_of_ble_eq_true rfl⟩) (pcR_V (ci := 2) (q0 := 0) (fl_at hP 1 rfl) (hK.sub (tys' := [(cI, .int)]) [0] rfl) hn rfl rfl) rfl rfl hl.1 rfl (lv_room (Nat.le_of_ble_eq_true rfl)) dX6_who_12 ⟨Nat.zero_le _, Nat.zero_le _⟩) ?_
  rw [hQ]
  exact W.iret (v := (fX2_holderAt PN tb z)) hx hb hr (fun t ht hW => ⟨(fX2_holderAt PN tb z), rfl, k_ok1 hF, ht⟩) (fun q hq => absurd hq List.not_mem_nil) dX6_who_15

def fX6_seated (PN : PV) (a : Int32) : Nat ⊕ (Int32 × Unit) :=
  (if (fX6_needPlace a) = 0 then (Sum.inr ((fX1_itemAt 16 (PN 9) (PN 10 5) a), ())) else (Sum.inl 0))
abbrev rmX6_seated : Room := { frames := 1, cells := 0, slots := 0, locals := 21 }
set_option maxHeartbeats 4000000 in
set_option maxRecDepth 100000 in
theorem mX6_seated (l : Launch) (dC : Nat → ClassId) (dI : Nat → Nat → Nat) (cI cP : ClassId) (a0 : Nat) (aN aT aS : Nat → Nat) (t0 t1 t2 h0 h1 : Nat) (pa : Nat → Nat → Nat) (PN PT PS : PV) (f : Nat → Int32) (u : Int32) (Ps : Nat → PV) (oh vh : Nat) (k : Int32) (a : Int32) (hok : isOk (fX6_seated PN a) = true) : Met l yX6_seated (ws_ yX6_seated cX6_seated 2 (some .int)) rmX6_seated (pcR (dC, dI) [(cI, .int), (cP, .object "SupperSeats$Plan")] (fW cI cP a0 aN aT aS t0 t1 t2 h0 h1 pa PN PT PS f u Ps oh vh k) [.ref a0, .int a]) (vp_Si (fun r => r = ok1 (fX6_seated PN a))) 0 0 (fun _ => False) := by
  refine Met.ofW (cc := cX6_seated) (maxL := 2) (ret := (some .int)) (by decide) rfl ?_
  intro p e s m args below meth c s₁ B hml hv
  obtain ⟨ha, hP, hK, hn⟩ := hv
  have hx := B.exec
  have hb := B.bytes
  have hr := B.returns
  have hts0 := atoms_spec (ws := (ws_ yX6_seated cX6_seated 2 (some .int))) B.pre
  have hts : ∀ w ∈ lw_all, w.before args s = true := fun w h => hts0 w (List.mem_cons_of_mem _ h)
  have hown : s.vm.findClass RX6 = some m.cls := findClass_of_methodNamed B.named
  have hlocks := B.notSynchronized
  have htX6 : ∀ w ∈ wsX60, w.before args s = true := fun w h => hts w (wX6 w h)
  have htX2 : ∀ w ∈ wsX20, w.before args s = true := fun w h => hts w (wX2 w h)
  obtain ⟨Q, hQ⟩ : ∃ Q, Q = MQ below (vp_Si (fun r => r = ok1 (fX6_seated PN a))) args s 0 0 (fun _ => False) := ⟨_, rfl⟩
  rw [← hQ]
  have hl := lv_entry ([.ref a0, .int a]) (n := 2) (Nat.le_of_ble_eq_true rfl)
  rw [ha, lg_entry_eq, ← ha]
  generalize (lg_sl ([.ref a0, .int a]) ++ List.replicate (2 - (lg_sl ([.ref a0, .int a])).length) Slot.unset).toArray = ls at hl ⊢
  have hl : lv_has ls 2 [(0, .ref a0), (1, .int a)] := hl
  show W p l e rmX6_seated s m args below meth c s.heap [] 0 0 Q (F0 m 0 ls [])
  have hF : fX6_seated PN a = fX6_seated PN a := rfl
  refine lv_iload_n hx hb dX6_seated_0 rfl (lv_at hl 1 rfl) ?_
  refine k_dec (P := (fX6_needPlace a) = 0) (fun c_1 => ?_) (fun c_1 => ?_)
  · have hF := hF.trans (if_neg c_1)
    exact (k_no hF hok).elim
  have hF := hF.trans (if_pos c_1)
  refine va_csv (W.runS (As := [.int a]) (rest := []) ⟨hx, hb, hml, hown, hts0⟩ (mX6_needPlace l dC dI  a c_1) (va_cwS 1 hts0 (gi_S u_430 u_431 u_1 u_432) rfl rfl rfl (by decide +kernel) ⟨Nat.le_of_ble_eq_true rfl, Nat.le_of_ble_eq_true rfl⟩) (pcR_S (hP.sub (ws' := []) [] rfl) (hK.sub (tys' := []) [] rfl) hn) rfl rfl hl.1 rfl (lv_room (Nat.le_of_ble_eq_true rfl)) dX6_seated_1 ⟨Nat.zero_le _, Nat.zero_le _⟩) (fun _ => ?_)
  refine lv_aload_n hx hb dX6_seated_4 rfl (lv_at hl 0 rfl) ?_
  refine va_get (D := (dC, dI)) (ci := 4) (v := .ref (aN 0)) (C := RX6) (T := TX6) (N := 6) hx hb htX6 (fun _ h => h) hown hK (fl_at hP 0 rfl) 0 rfl rfl 0 (by decide) (hts _ u_141) (fun _ h9 => h9) rfl dX6_seated_5 ?_
  refine va_getN (D := (dC, dI)) (ci := 2) (v := .ref (aN 11)) (C := RX2) (T := TX2) (N := 14) hx hb htX2 (fun _ h => h) hown hK (fl_at hP 1 rfl) 0 rfl rfl 9 (by decide) (va_Nw.use rfl (hn _ (List.mem_of_getElem? (i := 13) rfl))) (fun _ h9 => h9) rfl dX6_seated_8 ?_
  refine lv_iload_n hx hb dX6_seated_11 rfl (lv_at hl 1 rfl) ?_
  refine k_calli (W.runV (As := [.int a]) (rest := []) ⟨hx, hb, hml, hown, hts0⟩ (mX1_itemAt l dC dI cI (aN 11) (aN 12) 16 (by decide) (PN 9) (PN 10 5) a) (cwV 1 hts0 (gi_V u_434 u_435 u_436 u_3 u_437) rfl rfl rfl (by decide +kernel) ⟨Nat.le_of_ble_eq_true rfl, Nat.le_of_ble_eq_true rfl⟩) (pcR_V (ci := 1) (q0 := 0) ((fl_at hP 1 rfl).sub (ws' := lW cI (aN 11) (aN 12) 16 (PN 9) (PN 10 5)) [11, 12] rfl) (hK.sub (tys' := [(cI, .int)]) [0] rfl) hn rfl rfl) rfl rfl hl.1 rfl (lv_room (Nat.le_of_ble_eq_true rfl)) dX6_seated_12 ⟨Nat.zero_le _, Nat.zero_le _⟩) ?_
  rw [hQ]
  exact W.iret (v := (fX1_itemAt 16 (PN 9) (PN 10 5) a)) hx hb hr (fun t ht hW => ⟨(fX1_itemAt 16 (PN 9) (PN 10 5) a), rfl, k_ok1 hF, ht⟩) (fun q hq => absurd hq List.not_mem_nil) dX6_seated_15

def fX6_feudAt (PN : PV) (a : Int32) : Nat ⊕ (Int32 × Unit) :=
  (if (fX6_needPlace a) = 0 then (Sum.inr ((fX1_itemAt 8 (PN 8) (PN 10 4) a), ())) else (Sum.inl 0))
abbrev rmX6_feudAt : Room := { frames := 1, cells := 0, slots := 0, locals := 21 }
set_option maxHeartbeats 4000000 in
set_option maxRecDepth 100000 in
theorem mX6_feudAt (l : Launch) (dC : Nat → ClassId) (dI : Nat → Nat → Nat) (cI cP : ClassId) (a0 : Nat) (aN aT aS : Nat → Nat) (t0 t1 t2 h0 h1 : Nat) (pa : Nat → Nat → Nat) (PN PT PS : PV) (f : Nat → Int32) (u : Int32) (Ps : Nat → PV) (oh vh : Nat) (k : Int32) (a : Int32) (hok : isOk (fX6_feudAt PN a) = true) : Met l yX6_feudAt (ws_ yX6_feudAt cX6_feudAt 2 (some .int)) rmX6_feudAt (pcR (dC, dI) [(cI, .int), (cP, .object "SupperSeats$Plan")] (fW cI cP a0 aN aT aS t0 t1 t2 h0 h1 pa PN PT PS f u Ps oh vh k) [.ref a0, .int a]) (vp_Si (fun r => r = ok1 (fX6_feudAt PN a))) 0 0 (fun _ => False) := by
  refine Met.ofW (cc := cX6_feudAt) (maxL := 2) (ret := (some .int)) (by decide) rfl ?_
  intro p e s m args below meth c s₁ B hml hv
  obtain ⟨ha, hP, hK, hn⟩ := hv
  have hx := B.exec
  have hb := B.bytes
  have hr := B.returns
  have hts0 := atoms_spec (ws := (ws_ yX6_feudAt cX6_feudAt 2 (some .int))) B.pre
  have hts : ∀ w ∈ lw_all, w.before args s = true := fun w h => hts0 w (List.mem_cons_of_mem _ h)
  have hown : s.vm.findClass RX6 = some m.cls := findClass_of_methodNamed B.named
  have hlocks := B.notSynchronized
  have htX6 : ∀ w ∈ wsX60, w.before args s = true := fun w h => hts w (wX6 w h)
  have htX2 : ∀ w ∈ wsX20, w.before args s = true := fun w h => hts w (wX2 w h)
  obtain ⟨Q, hQ⟩ : ∃ Q, Q = MQ below (vp_Si (fun r => r = ok1 (fX6_feudAt PN a))) args s 0 0 (fun _ => False) := ⟨_, rfl⟩
  rw [← hQ]
  have hl := lv_entry ([.ref a0, .int a]) (n := 2) (Nat.le_of_ble_eq_true rfl)
  rw [ha, lg_entry_eq, ← ha]
  generalize (lg_sl ([.ref a0, .int a]) ++ List.replicate (2 - (lg_sl ([.ref a0, .int a])).length) Slot.unset).toArray = ls at hl ⊢
  have hl : lv_has ls 2 [(0, .ref a0), (1, .int a)] := hl
  show W p l e rmX6_feudAt s m args below meth c s.heap [] 0 0 Q (F0 m 0 ls [])
  have hF : fX6_feudAt PN a = fX6_feudAt PN a := rfl
  refine lv_iload_n hx hb dX6_feudAt_0 rfl (lv_at hl 1 rfl) ?_
  refine k_dec (P := (fX6_needPlace a) = 0) (fun c_1 => ?_) (fun c_1 => ?_)
  · have hF := hF.trans (if_neg c_1)
    exact (k_no hF hok).elim
  have hF := hF.trans (if_pos c_1)
  refine va_csv (W.runS (As := [.int a]) (rest := []) ⟨hx, hb, hml, hown, hts0⟩ (mX6_needPlace l dC dI  a c_1) (va_cwS 1 hts0 (gi_S u_430 u_431 u_1 u_432) rfl rfl rfl (by decide +kernel) ⟨Nat.le_of_ble_eq_true rfl, Nat.le_of_ble_eq_true rfl⟩) (pcR_S (hP.sub (ws' := []) [] rfl) (hK.sub (tys' := []) [] rfl) hn) rfl rfl hl.1 rfl (lv_room (Nat.le_of_ble_eq_true rfl)) dX6_feudAt_1 ⟨Nat.zero_le _, Nat.zero_le _⟩) (fun _ => ?_)
  refine lv_aload_n hx hb dX6_feudAt_4 rfl (lv_at hl 0 rfl) ?_
  refine va_get (D := (dC, dI)) (ci := 4) (v := .ref (aN 0)) (C := RX6) (T := TX6) (N := 6) hx hb htX6 (fun _ h => h) hown hK (fl_at hP 0 rfl) 0 rfl rfl 0 (by decide) (hts _ u_141) (fun _ h9 => h9) rfl dX6_feudAt_5 ?_
  refine va_getN (D := (dC, dI)) (ci := 2) (v := .ref (aN 9)) (C := RX2) (T := TX2) (N := 14) hx hb htX2 (fun _ h => h) hown hK (fl_at hP 1 rfl) 0 rfl rfl 8 (by decide) (va_Nw.use rfl (hn _ (List.mem_of_getElem? (i := 12) rfl))) (fun _ h9 => h9) rfl dX6_feudAt_8 ?_
  refine lv_iload_n hx hb dX6_feudAt_11 rfl (lv_at hl 1 rfl) ?_
  refine k_calli (W.runV (As := [.int a]) (rest := []) ⟨hx, hb, hml, hown, hts0⟩ (mX1_itemAt l dC dI cI (aN 9) (aN 10) 8 (by decide) (PN 8) (PN 10 4) a) (cwV 1 hts0 (gi_V u_434 u_435 u_436 u_3 u_437) rfl rfl rfl (by decide +kernel) ⟨Nat.le_of_ble_eq_true rfl, Nat.le_of_ble_eq_true rfl⟩) (pcR_V (ci := 1) (q0 := 0) ((fl_at hP 1 rfl).sub (ws' := lW cI (aN 9) (aN 10) 8 (PN 8) (PN 10 4)) [9, 10] rfl) (hK.sub (tys' := [(cI, .int)]) [0] rfl) hn rfl rfl) rfl rfl hl.1 rfl (lv_room (Nat.le_of_ble_eq_true rfl)) dX6_feudAt_12 ⟨Nat.zero_le _, Nat.zero_le _⟩) ?_
  rw [hQ]
  exact W.iret (v := (fX1_itemAt 8 (PN 8) (PN 10 4) a)) hx hb hr (fun t ht hW => ⟨(fX1_itemAt 8 (PN 8) (PN 10 4) a), rfl, k_ok1 hF, ht⟩) (fun q hq => absurd hq List.not_mem_nil) dX6_feudAt_15

def fX6_count (PN : PV) (Ps : Nat → PV) (oh : Nat) (vh : Nat) (w : Int32) : Nat ⊕ (Int32 × Unit) :=
  (if w < 0 then (Sum.inl 0) else (if w < 14 then (Sum.inr ((fX6_countNumber PN Ps oh vh w), ())) else (Sum.inl 0)))
abbrev rmX6_count : Room := { frames := 6, cells := 0, slots := 0, locals := 151 }
set_option maxHeartbeats 4000000 in
set_option maxRecDepth 100000 in
theorem mX6_count (l : Launch) (dC : Nat → ClassId) (dI : Nat → Nat → Nat) (cI cP : ClassId) (a0 : Nat) (aN aT aS : Nat → Nat) (t0 t1 t2 h0 h1 : Nat) (pa : Nat → Nat → Nat) (PN PT PS : PV) (f : Nat → Int32) (u : Int32) (Ps : Nat → PV) (oh vh : Nat) (k : Int32) (w : Int32) (hok : isOk (fX6_count PN Ps oh vh w) = true) : Met l yX6_count (ws_ yX6_count cX6_count 2 (some .int)) rmX6_count (pcR (dC, dI) [(cI, .int), (cP, .object "SupperSeats$Plan")] (fW cI cP a0 aN aT aS t0 t1 t2 h0 h1 pa PN PT PS f u Ps oh vh k) [.ref a0, .int w]) (vp_Si (fun r => r = ok1 (fX6_count PN Ps oh vh w))) 0 0 (fun _ => False) := by
  refine Met.ofW (cc := cX6_count) (maxL := 2) (ret := (some .int)) (by decide) rfl ?_
  intro p e s m args below meth c s₁ B hml hv
  obtain ⟨ha, hP, hK, hn⟩ := hv
  have hx := B.exec
  have hb := B.bytes
  have hr := B.returns
  have hts0 := atoms_spec (ws := (ws_ yX6_count cX6_count 2 (some .int))) B.pre
  have hts : ∀ w ∈ lw_all, w.before args s = true := fun w h => hts0 w (List.mem_cons_of_mem _ h)
  have hown : s.vm.findClass RX6 = some m.cls := findClass_of_methodNamed B.named
  have hlocks := B.notSynchronized
  obtain ⟨Q, hQ⟩ : ∃ Q, Q = MQ below (vp_Si (fun r => r = ok1 (fX6_count PN Ps oh vh w))) args s 0 0 (fun _ => False) := ⟨_, rfl⟩
  rw [← hQ]
  have hl := lv_entry ([.ref a0, .int w]) (n := 2) (Nat.le_of_ble_eq_true rfl)
  rw [ha, lg_entry_eq, ← ha]
  generalize (lg_sl ([.ref a0, .int w]) ++ List.replicate (2 - (lg_sl ([.ref a0, .int w])).length) Slot.unset).toArray = ls at hl ⊢
  have hl : lv_has ls 2 [(0, .ref a0), (1, .int w)] := hl
  show W p l e rmX6_count s m args below meth c s.heap [] 0 0 Q (F0 m 0 ls [])
  have hF : fX6_count PN Ps oh vh w = fX6_count PN Ps oh vh w := rfl
  refine lv_iload_n hx hb dX6_count_0 rfl (lv_at hl 1 rfl) ?_
  refine lv_if_lt (tgt := 10) hx hb dX6_count_1 (by decide) (fun c_1 => ?_) (fun c_1 => ?_)
  · have hF := hF.trans (if_pos c_1)
    exact (k_no hF hok).elim
  have hF := hF.trans (if_neg c_1)
  refine lv_iload_n hx hb dX6_count_4 rfl (lv_at hl 1 rfl) ?_
  refine lv_bipush (v := 14) hx hb dX6_count_5 (by decide) ?_
  refine lv_icmp_lt (tgt := 20) hx hb dX6_count_7 (by decide) (fun c_7 => ?_) (fun c_7 => ?_)
  · have hF := hF.trans (if_pos c_7)
    refine lv_aload_n hx hb dX6_count_20 rfl (lv_at hl 0 rfl) ?_
    refine lv_iload_n hx hb dX6_count_21 rfl (lv_at hl 1 rfl) ?_
    refine k_calli (W.runV (As := [.int w]) (rest := []) ⟨hx, hb, hml, hown, hts0⟩ (mX6_countNumber l dC dI cI cP a0 aN aT aS t0 t1 t2 h0 h1 pa PN PT PS f u Ps oh vh k w) (cwV 1 hts0 (gi_V u_288 u_290 us_2 u_1 u_291) rfl rfl rfl (by decide +kernel) ⟨Nat.le_of_ble_eq_true rfl, Nat.le_of_ble_eq_true rfl⟩) (pcR_V (ci := 4) (q0 := 0) hP hK hn rfl rfl) rfl rfl hl.1 rfl (lv_room (Nat.le_of_ble_eq_true rfl)) dX6_count_22 ⟨Nat.zero_le _, Nat.zero_le _⟩) ?_
    rw [hQ]
    exact W.iret (v := (fX6_countNumber PN Ps oh vh w)) hx hb hr (fun t ht hW => ⟨(fX6_countNumber PN Ps oh vh w), rfl, k_ok1 hF, ht⟩) (fun q hq => absurd hq List.not_mem_nil) dX6_count_25
  have hF := hF.trans (if_neg c_7)
  exact (k_no hF hok).elim

def fX6_whyNot (PN : PV) (g : Int32) (tb : Int32) (z : Int32) : Nat ⊕ (Int32 × Unit) :=
  (if (fX6_needGuestAndSeat PN g tb z) = 0 then (Sum.inr ((fX2_reasonAgainst PN g tb z), ())) else (Sum.inl 2))
abbrev rmX6_whyNot : Room := { frames := 4, cells := 0, slots := 0, locals := 88 }
set_option maxHeartbeats 4000000 in
set_option maxRecDepth 100000 in
theorem mX6_whyNot (l : Launch) (dC : Nat → ClassId) (dI : Nat → Nat → Nat) (cI cP : ClassId) (a0 : Nat) (aN aT aS : Nat → Nat) (t0 t1 t2 h0 h1 : Nat) (pa : Nat → Nat → Nat) (PN PT PS : PV) (f : Nat → Int32) (u : Int32) (Ps : Nat → PV) (oh vh : Nat) (k : Int32) (g : Int32) (tb : Int32) (z : Int32) (hok : isOk (fX6_whyNot PN g tb z) = true) : Met l yX6_whyNot (ws_ yX6_whyNot cX6_whyNot 4 (some .int)) rmX6_whyNot (pcR (dC, dI) [(cI, .int), (cP, .object "SupperSeats$Plan")] (fW cI cP a0 aN aT aS t0 t1 t2 h0 h1 pa PN PT PS f u Ps oh vh k) [.ref a0, .int g, .int tb, .int z]) (vp_Si (fun r => r = ok1 (fX6_whyNot PN g tb z))) 0 0 (fun _ => False) := by
  refine Met.ofW (cc := cX6_whyNot) (maxL := 4) (ret := (some .int)) (by decide) rfl ?_
  intro p e s m args below meth c s₁ B hml hv
  obtain ⟨ha, hP, hK, hn⟩ := hv
  have hx := B.exec
  have hb := B.bytes
  have hr := B.returns
  have hts0 := atoms_spec (ws := (ws_ yX6_whyNot cX6_whyNot 4 (some .int))) B.pre
  have hts : ∀ w ∈ lw_all, w.before args s = true := fun w h => hts0 w (List.mem_cons_of_mem _ h)
  have hown : s.vm.findClass RX6 = some m.cls := findClass_of_methodNamed B.named
  have hlocks := B.notSynchronized
  have htX6 : ∀ w ∈ wsX60, w.before args s = true := fun w h => hts w (wX6 w h)
  obtain ⟨Q, hQ⟩ : ∃ Q, Q = MQ below (vp_Si (fun r => r = ok1 (fX6_whyNot PN g tb z))) args s 0 0 (fun _ => False) := ⟨_, rfl⟩
  rw [← hQ]
  have hl := lv_entry ([.ref a0, .int g, .int tb, .int z]) (n := 4) (Nat.le_of_ble_eq_true rfl)
  rw [ha, lg_entry_eq, ← ha]
  generalize (lg_sl ([.ref a0, .int g, .int tb, .int z]) ++ List.replicate (4 - (lg_sl ([.ref a0, .int g, .int tb, .int z])).length) Slot.unset).toArray = ls at hl ⊢
  have hl : lv_has ls 4 [(0, .ref a0), (1, .int g), (2, .int tb), (3, .int z)] := hl
  show W p l e rmX6_whyNot s m args below meth c s.heap [] 0 0 Q (F0 m 0 ls [])
  have hF : fX6_whyNot PN g tb z = fX6_whyNot PN g tb z := rfl
  refine lv_aload_n hx hb dX6_whyNot_0 rfl (lv_at hl 0 rfl) ?_
  refine lv_iload_n hx hb dX6_whyNot_1 rfl (lv_at hl 1 rfl) ?_
  refine lv_iload_n hx hb dX6_whyNot_2 rfl (lv_at hl 2 rfl) ?_
  refine lv_iload_n hx hb dX6_whyNot_3 rfl (lv_at hl 3 rfl) ?_
  refine k_dec (P := (fX6_needGuestAndSeat PN g tb z) = 0) (fun c_4 => ?_) (fun c_4 => ?_)
  · have hF := hF.trans (if_neg c_4)
    exact (k_no hF hok).elim
  have hF := hF.trans (if_pos c_4)
  refine va_csv (W.runV (As := [.int g, .int tb, .int z]) (rest := []) ⟨hx, hb, hml, hown, hts0⟩ (mX6_needGuestAndSeat l dC dI cI cP a0 aN aT aS t0 t1 t2 h0 h1 pa PN PT PS f u Ps oh vh k g tb z c_4) (cwV 3 hts0 (gi_V u_605 u_607 us_7 u_1 u_608) rfl rfl rfl (by decide +kernel) ⟨Nat.le_of_ble_eq_true rfl, Nat.le_of_ble_eq_true rfl⟩) (pcR_V (ci := 4) (q0 := 0) hP hK hn rfl rfl) rfl rfl hl.1 rfl (lv_room (Nat.le_of_ble_eq_true rfl)) dX6_whyNot_4 ⟨Nat.zero_le _, Nat.zero_le _⟩) (fun _ => ?_)
  refine lv_aload_n hx hb dX6_whyNot_7 rfl (lv_at hl 0 rfl) ?_
  refine va_get (D := (dC, dI)) (ci := 4) (v := .ref (aN 0)) (C := RX6) (T := TX6) (N := 6) hx hb htX6 (fun _ h => h) hown hK (fl_at hP 0 rfl) 0 rfl rfl 0 (by decide) (hts _ u_141) (fun _ h9 => h9) rfl dX6_whyNot_8 ?_
  refine lv_iload_n hx hb dX6_whyNot_11 rfl (lv_at hl 1 rfl) ?_
  refine lv_iload_n hx hb dX6_whyNot_12 rfl (lv_at hl 2 rfl) ?_
  refine lv_iload_n hx hb dX6_whyNot_13 rfl (lv_at hl 3 rfl) ?_
  refine k_calli (W.runV (As := [.int g, .int tb, .int z]) (rest := []) ⟨hx, hb, hml, hown, hts0⟩ (mX2_reasonAgainst l dC dI cI aN PN g tb z) (cwV 3 hts0 (gi_V u_619 u_489 u_490 u_2 u_491) rfl rfl rfl (by decide +kernel) ⟨Nat.le_of_ble_eq_true rfl, Nat.le_of_ble_eq_true rfl⟩) (pcR_V (ci := 2) (q0 := 0) (fl_at hP 1 rfl) (hK.sub (tys' := [(cI, .int)]) [0] rfl) hn rfl rfl) rfl rfl hl.1 rfl (lv_room (Nat.le_of_ble_eq_true rfl)) dX6_whyNot_14 ⟨Nat.zero_le _, Nat.zero_le _⟩) ?_
  rw [hQ]
  exact W.iret (v := (fX2_reasonAgainst PN g tb z)) hx hb hr (fun t ht hW => ⟨(fX2_reasonAgainst PN g tb z), rfl, k_ok1 hF, ht⟩) (fun q hq => absurd hq List.not_mem_nil) dX6_whyNot_17

def fX6_ifSat (PN : PV) (g : Int32) (tb : Int32) (z : Int32) : Nat ⊕ (Int32 × Unit) :=
  (if (fX6_needGuestAndSeat PN g tb z) = 0 then (if (fX2_reasonAgainst PN g tb z) = 0 then (Sum.inr (((fX4_afterMove PN g tb z) + 1000), ())) else (Sum.inr ((-1), ()))) else (Sum.inl 2))
abbrev rmX6_ifSat : Room := { frames := 6, cells := 0, slots := 0, locals := 154 }
set_option maxHeartbeats 4000000 in
set_option maxRecDepth 100000 in
theorem mX6_ifSat (l : Launch) (dC : Nat → ClassId) (dI : Nat → Nat → Nat) (cI cP : ClassId) (a0 : Nat) (aN aT aS : Nat → Nat) (t0 t1 t2 h0 h1 : Nat) (pa : Nat → Nat → Nat) (PN PT PS : PV) (f : Nat → Int32) (u : Int32) (Ps : Nat → PV) (oh vh : Nat) (k : Int32) (g : Int32) (tb : Int32) (z : Int32) (hok : isOk (fX6_ifSat PN g tb z) = true) : Met l yX6_ifSat (ws_ yX6_ifSat cX6_ifSat 4 (some .int)) rmX6_ifSat (pcR (dC, dI) [(cI, .int), (cP, .object "SupperSeats$Plan")] (fW cI cP a0 aN aT aS t0 t1 t2 h0 h1 pa PN PT PS f u Ps oh vh k) [.ref a0, .int g, .int tb, .int z]) (vp_Si (fun r => r = ok1 (fX6_ifSat PN g tb z))) 0 0 (fun _ => False) := by
  refine Met.ofW (cc := cX6_ifSat) (maxL := 4) (ret := (some .int)) (by decide) rfl ?_
  intro p e s m args below meth c s₁ B hml hv
  obtain ⟨ha, hP, hK, hn⟩ := hv
  have hx := B.exec
  have hb := B.bytes
  have hr := B.returns
  have hts0 := atoms_spec (ws := (ws_ yX6_ifSat cX6_ifSat 4 (some .int))) B.pre
  have hts : ∀ w ∈ lw_all, w.before args s = true := fun w h => hts0 w (List.mem_cons_of_mem _ h)
  have hown : s.vm.findClass RX6 = some m.cls := findClass_of_methodNamed B.named
  have hlocks := B.notSynchronized
  have htX6 : ∀ w ∈ wsX60, w.before args s = true := fun w h => hts w (wX6 w h)
  obtain ⟨Q, hQ⟩ : ∃ Q, Q = MQ below (vp_Si (fun r => r = ok1 (fX6_ifSat PN g tb z))) args s 0 0 (fun _ => False) := ⟨_, rfl⟩
  rw [← hQ]
  have hl := lv_entry ([.ref a0, .int g, .int tb, .int z]) (n := 4) (Nat.le_of_ble_eq_true rfl)
  rw [ha, lg_entry_eq, ← ha]
  generalize (lg_sl ([.ref a0, .int g, .int tb, .int z]) ++ List.replicate (4 - (lg_sl ([.ref a0, .int g, .int tb, .int z])).length) Slot.unset).toArray = ls at hl ⊢
  have hl : lv_has ls 4 [(0, .ref a0), (1, .int g), (2, .int tb), (3, .int z)] := hl
  show W p l e rmX6_ifSat s m args below meth c s.heap [] 0 0 Q (F0 m 0 ls [])
  have hF : fX6_ifSat PN g tb z = fX6_ifSat PN g tb z := rfl
  refine lv_aload_n hx hb dX6_ifSat_0 rfl (lv_at hl 0 rfl) ?_
  refine lv_iload_n hx hb dX6_ifSat_1 rfl (lv_at hl 1 rfl) ?_
  refine lv_iload_n hx hb dX6_ifSat_2 rfl (lv_at hl 2 rfl) ?_
  refine lv_iload_n hx hb dX6_ifSat_3 rfl (lv_at hl 3 rfl) ?_
  refine k_dec (P := (fX6_needGuestAndSeat PN g tb z) = 0) (fun c_4 => ?_) (fun c_4 => ?_)
  · have hF := hF.trans (if_neg c_4)
    exact (k_no hF hok).elim
  have hF := hF.trans (if_pos c_4)
  refine va_csv (W.runV (As := [.int g, .int tb, .int z]) (rest := []) ⟨hx, hb, hml, hown, hts0⟩ (mX6_needGuestAndSeat l dC dI cI cP a0 aN aT aS t0 t1 t2 h0 h1 pa PN PT PS f u Ps oh vh k g tb z c_4) (cwV 3 hts0 (gi_V u_605 u_607 us_7 u_1 u_608) rfl rfl rfl (by decide +kernel) ⟨Nat.le_of_ble_eq_true rfl, Nat.le_of_ble_eq_true rfl⟩) (pcR_V (ci := 4) (q0 := 0) hP hK hn rfl rfl) rfl rfl hl.1 rfl (lv_room (Nat.le_of_ble_eq_true rfl)) dX6_ifSat_4 ⟨Nat.zero_le _, Nat.zero_le _⟩) (fun _ => ?_)
  refine lv_aload_n hx hb dX6_ifSat_7 rfl (lv_at hl 0 rfl) ?_
  refine va_get (D := (dC, dI)) (ci := 4) (v := .ref (aN 0)) (C := RX6) (T := TX6) (N := 6) hx hb htX6 (fun _ h => h) hown hK (fl_at hP 0 rfl) 0 rfl rfl 0 (by decide) (hts _ u_141) (fun _ h9 => h9) rfl dX6_ifSat_8 ?_
  refine lv_iload_n hx hb dX6_ifSat_11 rfl (lv_at hl 1 rfl) ?_
  refine lv_iload_n hx hb dX6_ifSat_12 rfl (lv_at hl 2 rfl) ?_
  refine lv_iload_n hx hb dX6_ifSat_13 rfl (lv_at hl 3 rfl) ?_
  refine k_calli (W.runV (As := [.int g, .int tb, .int z]) (rest := []) ⟨hx, hb, hml, hown, hts0⟩ (mX2_reasonAgainst l dC dI cI aN PN g tb z) (cwV 3 hts0 (gi_V u_619 u_489 u_490 u_2 u_491) rfl rfl rfl (by decide +kernel) ⟨Nat.le_of_ble_eq_true rfl, Nat.le_of_ble_eq_true rfl⟩) (pcR_V (ci := 2) (q0 := 0) (fl_at hP 1 rfl) (hK.sub (tys' := [(cI, .int)]) [0] rfl) hn rfl rfl) rfl rfl hl.1 rfl (lv_room (Nat.le_of_ble_eq_true rfl)) dX6_ifSat_14 ⟨Nat.zero_le _, Nat.zero_le _⟩) ?_
  refine lv_if_eq (tgt := 22) hx hb dX6_ifSat_17 (by decide) (fun c_17 => ?_) (fun c_17 => ?_)
  · have hF := hF.trans (if_pos c_17)
    refine lv_aload_n hx hb dX6_ifSat_22 rfl (lv_at hl 0 rfl) ?_
    refine va_get (D := (dC, dI)) (ci := 4) (v := .ref (aN 0)) (C := RX6) (T := TX6) (N := 6) hx hb htX6 (fun _ h => h) hown hK (fl_at hP 0 rfl) 0 rfl rfl 0 (by decide) (hts _ u_141) (fun _ h9 => h9) rfl dX6_ifSat_23 ?_
    refine lv_iload_n hx hb dX6_ifSat_26 rfl (lv_at hl 1 rfl) ?_
    refine lv_iload_n hx hb dX6_ifSat_27 rfl (lv_at hl 2 rfl) ?_
    refine lv_iload_n hx hb dX6_ifSat_28 rfl (lv_at hl 3 rfl) ?_
    refine k_calli (W.runS (As := [.ref (aN 0), .int g, .int tb, .int z]) (rest := []) ⟨hx, hb, hml, hown, hts0⟩ (mX4_afterMove l dC dI cI aN PN g tb z) (va_cwS 4 hts0 (gi_S u_666 u_667 u_12 u_668) rfl rfl rfl (by decide +kernel) ⟨Nat.le_of_ble_eq_true rfl, Nat.le_of_ble_eq_true rfl⟩) (pcR_S (fl_at hP 1 rfl) (hK.sub (tys' := [(cI, .int)]) [0] rfl) hn) rfl rfl hl.1 rfl (lv_room (Nat.le_of_ble_eq_true rfl)) dX6_ifSat_29 ⟨Nat.zero_le _, Nat.zero_le _⟩) ?_
    refine lv_sipush (v := 1000) hx hb dX6_ifSat_32 (by decide) ?_
    refine lv_iadd hx hb dX6_ifSat_35 ?_
    rw [hQ]
    exact W.iret (v := ((fX4_afterMove PN g tb z) + 1000)) hx hb hr (fun t ht hW => ⟨((fX4_afterMove PN g tb z) + 1000), rfl, k_ok1 hF, ht⟩) (fun q hq => absurd hq List.not_mem_nil) dX6_ifSat_36
  have hF := hF.trans (if_neg c_17)
  refine lv_iconst (v := (-1)) hx hb dX6_ifSat_20 (by decide) ?_
  rw [hQ]
  exact W.iret (v := (-1)) hx hb hr (fun t ht hW => ⟨(-1), rfl, k_ok1 hF, ht⟩) (fun q hq => absurd hq List.not_mem_nil) dX6_ifSat_21

def fX6_bestSeat (PN : PV) (g : Int32) : Nat ⊕ (Int32 × Unit) :=
  (if (fX6_needGuest PN g) = 0 then (Sum.inr ((fX2_bestPlace PN g), ())) else (Sum.inl 2))
abbrev rmX6_bestSeat : Room := { frames := 4, cells := 0, slots := 0, locals := 116 }
set_option maxHeartbeats 4000000 in
set_option maxRecDepth 100000 in
theorem mX6_bestSeat (l : Launch) (dC : Nat → ClassId) (dI : Nat → Nat → Nat) (cI cP : ClassId) (a0 : Nat) (aN aT aS : Nat → Nat) (t0 t1 t2 h0 h1 : Nat) (pa : Nat → Nat → Nat) (PN PT PS : PV) (f : Nat → Int32) (u : Int32) (Ps : Nat → PV) (oh vh : Nat) (k : Int32) (g : Int32) (hok : isOk (fX6_bestSeat PN g) = true) : Met l yX6_bestSeat (ws_ yX6_bestSeat cX6_bestSeat 2 (some .int)) rmX6_bestSeat (pcR (dC, dI) [(cI, .int), (cP, .object "SupperSeats$Plan")] (fW cI cP a0 aN aT aS t0 t1 t2 h0 h1 pa PN PT PS f u Ps oh vh k) [.ref a0, .int g]) (vp_Si (fun r => r = ok1 (fX6_bestSeat PN g))) 0 0 (fun _ => False) := by
  refine Met.ofW (cc := cX6_bestSeat) (maxL := 2) (ret := (some .int)) (by decide) rfl ?_
  intro p e s m args below meth c s₁ B hml hv
  obtain ⟨ha, hP, hK, hn⟩ := hv
  have hx := B.exec
  have hb := B.bytes
  have hr := B.returns
  have hts0 := atoms_spec (ws := (ws_ yX6_bestSeat cX6_bestSeat 2 (some .int))) B.pre
  have hts : ∀ w ∈ lw_all, w.before args s = true := fun w h => hts0 w (List.mem_cons_of_mem _ h)
  have hown : s.vm.findClass RX6 = some m.cls := findClass_of_methodNamed B.named
  have hlocks := B.notSynchronized
  have htX6 : ∀ w ∈ wsX60, w.before args s = true := fun w h => hts w (wX6 w h)
  obtain ⟨Q, hQ⟩ : ∃ Q, Q = MQ below (vp_Si (fun r => r = ok1 (fX6_bestSeat PN g))) args s 0 0 (fun _ => False) := ⟨_, rfl⟩
  rw [← hQ]
  have hl := lv_entry ([.ref a0, .int g]) (n := 2) (Nat.le_of_ble_eq_true rfl)
  rw [ha, lg_entry_eq, ← ha]
  generalize (lg_sl ([.ref a0, .int g]) ++ List.replicate (2 - (lg_sl ([.ref a0, .int g])).length) Slot.unset).toArray = ls at hl ⊢
  have hl : lv_has ls 2 [(0, .ref a0), (1, .int g)] := hl
  show W p l e rmX6_bestSeat s m args below meth c s.heap [] 0 0 Q (F0 m 0 ls [])
  have hF : fX6_bestSeat PN g = fX6_bestSeat PN g := rfl
  refine lv_aload_n hx hb dX6_bestSeat_0 rfl (lv_at hl 0 rfl) ?_
  refine lv_iload_n hx hb dX6_bestSeat_1 rfl (lv_at hl 1 rfl) ?_
  refine k_dec (P := (fX6_needGuest PN g) = 0) (fun c_2 => ?_) (fun c_2 => ?_)
  · have hF := hF.trans (if_neg c_2)
    exact (k_no hF hok).elim
  have hF := hF.trans (if_pos c_2)
  refine va_csv (W.runV (As := [.int g]) (rest := []) ⟨hx, hb, hml, hown, hts0⟩ (mX6_needGuest l dC dI cI cP a0 aN aT aS t0 t1 t2 h0 h1 pa PN PT PS f u Ps oh vh k g c_2) (cwV 1 hts0 (gi_V u_363 u_365 us_3 u_1 u_366) rfl rfl rfl (by decide +kernel) ⟨Nat.le_of_ble_eq_true rfl, Nat.le_of_ble_eq_true rfl⟩) (pcR_V (ci := 4) (q0 := 0) hP hK hn rfl rfl) rfl rfl hl.1 rfl (lv_room (Nat.le_of_ble_eq_true rfl)) dX6_bestSeat_2 ⟨Nat.zero_le _, Nat.zero_le _⟩) (fun _ => ?_)
  refine lv_aload_n hx hb dX6_bestSeat_5 rfl (lv_at hl 0 rfl) ?_
  refine va_get (D := (dC, dI)) (ci := 4) (v := .ref (aN 0)) (C := RX6) (T := TX6) (N := 6) hx hb htX6 (fun _ h => h) hown hK (fl_at hP 0 rfl) 0 rfl rfl 0 (by decide) (hts _ u_141) (fun _ h9 => h9) rfl dX6_bestSeat_6 ?_
  refine lv_iload_n hx hb dX6_bestSeat_9 rfl (lv_at hl 1 rfl) ?_
  refine k_calli (W.runV (As := [.int g]) (rest := []) ⟨hx, hb, hml, hown, hts0⟩ (mX2_bestPlace l dC dI cI aN PN g) (cwV 1 hts0 (gi_V u_661 u_485 u_486 u_2 u_487) rfl rfl rfl (by decide +kernel) ⟨Nat.le_of_ble_eq_true rfl, Nat.le_of_ble_eq_true rfl⟩) (pcR_V (ci := 2) (q0 := 0) (fl_at hP 1 rfl) (hK.sub (tys' := [(cI, .int)]) [0] rfl) hn rfl rfl) rfl rfl hl.1 rfl (lv_room (Nat.le_of_ble_eq_true rfl)) dX6_bestSeat_10 ⟨Nat.zero_le _, Nat.zero_le _⟩) ?_
  rw [hQ]
  exact W.iret (v := (fX2_bestPlace PN g)) hx hb hr (fun t ht hW => ⟨(fX2_bestPlace PN g), rfl, k_ok1 hF, ht⟩) (fun q hq => absurd hq List.not_mem_nil) dX6_bestSeat_13

def fX6_ifFeud (PN : PV) (a : Int32) (b : Int32) : Nat ⊕ (Int32 × Unit) :=
  (if (fX6_needTwoFamilies a b) = 0 then (Sum.inr ((fX2_risersOfFeud PN a b), ())) else (Sum.inl 0))
abbrev rmX6_ifFeud : Room := { frames := 4, cells := 0, slots := 0, locals := 108 }
set_option maxHeartbeats 4000000 in
set_option maxRecDepth 100000 in
theorem mX6_ifFeud (l : Launch) (dC : Nat → ClassId) (dI : Nat → Nat → Nat) (cI cP : ClassId) (a0 : Nat) (aN aT aS : Nat → Nat) (t0 t1 t2 h0 h1 : Nat) (pa : Nat → Nat → Nat) (PN PT PS : PV) (f : Nat → Int32) (u : Int32) (Ps : Nat → PV) (oh vh : Nat) (k : Int32) (a : Int32) (b : Int32) (hok : isOk (fX6_ifFeud PN a b) = true) : Met l yX6_ifFeud (ws_ yX6_ifFeud cX6_ifFeud 3 (some .int)) rmX6_ifFeud (pcR (dC, dI) [(cI, .int), (cP, .object "SupperSeats$Plan")] (fW cI cP a0 aN aT aS t0 t1 t2 h0 h1 pa PN PT PS f u Ps oh vh k) [.ref a0, .int a, .int b]) (vp_Si (fun r => r = ok1 (fX6_ifFeud PN a b))) 0 0 (fun _ => False) := by
  refine Met.ofW (cc := cX6_ifFeud) (maxL := 3) (ret := (some .int)) (by decide) rfl ?_
  intro p e s m args below meth c s₁ B hml hv
  obtain ⟨ha, hP, hK, hn⟩ := hv
  have hx := B.exec
  have hb := B.bytes
  have hr := B.returns
  have hts0 := atoms_spec (ws := (ws_ yX6_ifFeud cX6_ifFeud 3 (some .int))) B.pre
  have hts : ∀ w ∈ lw_all, w.before args s = true := fun w h => hts0 w (List.mem_cons_of_mem _ h)
  have hown : s.vm.findClass RX6 = some m.cls := findClass_of_methodNamed B.named
  have hlocks := B.notSynchronized
  have htX6 : ∀ w ∈ wsX60, w.before args s = true := fun w h => hts w (wX6 w h)
  obtain ⟨Q, hQ⟩ : ∃ Q, Q = MQ below (vp_Si (fun r => r = ok1 (fX6_ifFeud PN a b))) args s 0 0 (fun _ => False) := ⟨_, rfl⟩
  rw [← hQ]
  have hl := lv_entry ([.ref a0, .int a, .int b]) (n := 3) (Nat.le_of_ble_eq_true rfl)
  rw [ha, lg_entry_eq, ← ha]
  generalize (lg_sl ([.ref a0, .int a, .int b]) ++ List.replicate (3 - (lg_sl ([.ref a0, .int a, .int b])).length) Slot.unset).toArray = ls at hl ⊢
  have hl : lv_has ls 3 [(0, .ref a0), (1, .int a), (2, .int b)] := hl
  show W p l e rmX6_ifFeud s m args below meth c s.heap [] 0 0 Q (F0 m 0 ls [])
  have hF : fX6_ifFeud PN a b = fX6_ifFeud PN a b := rfl
  refine lv_iload_n hx hb dX6_ifFeud_0 rfl (lv_at hl 1 rfl) ?_
  refine lv_iload_n hx hb dX6_ifFeud_1 rfl (lv_at hl 2 rfl) ?_
  refine k_dec (P := (fX6_needTwoFamilies a b) = 0) (fun c_2 => ?_) (fun c_2 => ?_)
  · have hF := hF.trans (if_neg c_2)
    exact (k_no hF hok).elim
  have hF := hF.trans (if_pos c_2)
  refine va_csv (W.runS (As := [.int a, .int b]) (rest := []) ⟨hx, hb, hml, hown, hts0⟩ (mX6_needTwoFamilies l dC dI  a b c_2) (va_cwS 2 hts0 (gi_S u_546 u_547 u_1 u_548) rfl rfl rfl (by decide +kernel) ⟨Nat.le_of_ble_eq_true rfl, Nat.le_of_ble_eq_true rfl⟩) (pcR_S (hP.sub (ws' := []) [] rfl) (hK.sub (tys' := []) [] rfl) hn) rfl rfl hl.1 rfl (lv_room (Nat.le_of_ble_eq_true rfl)) dX6_ifFeud_2 ⟨Nat.zero_le _, Nat.zero_le _⟩) (fun _ => ?_)
  refine lv_aload_n hx hb dX6_ifFeud_5 rfl (lv_at hl 0 rfl) ?_
  refine va_get (D := (dC, dI)) (ci := 4) (v := .ref (aN 0)) (C := RX6) (T := TX6) (N := 6) hx hb htX6 (fun _ h => h) hown hK (fl_at hP 0 rfl) 0 rfl rfl 0 (by decide) (hts _ u_141) (fun _ h9 => h9) rfl dX6_ifFeud_6 ?_
  refine lv_iload_n hx hb dX6_ifFeud_9 rfl (lv_at hl 1 rfl) ?_
  refine lv_iload_n hx hb dX6_ifFeud_10 rfl (lv_at hl 2 rfl) ?_
  refine k_calli (W.runV (As := [.int a, .int b]) (rest := []) ⟨hx, hb, hml, hown, hts0⟩ (mX2_risersOfFeud l dC dI cI aN PN a b) (cwV 2 hts0 (gi_V u_675 u_676 u_677 u_2 u_678) rfl rfl rfl (by decide +kernel) ⟨Nat.le_of_ble_eq_true rfl, Nat.le_of_ble_eq_true rfl⟩) (pcR_V (ci := 2) (q0 := 0) (fl_at hP 1 rfl) (hK.sub (tys' := [(cI, .int)]) [0] rfl) hn rfl rfl) rfl rfl hl.1 rfl (lv_room (Nat.le_of_ble_eq_true rfl)) dX6_ifFeud_11 ⟨Nat.zero_le _, Nat.zero_le _⟩) ?_
  rw [hQ]
  exact W.iret (v := (fX2_risersOfFeud PN a b)) hx hb hr (fun t ht hW => ⟨(fX2_risersOfFeud PN a b), rfl, k_ok1 hF, ht⟩) (fun q hq => absurd hq List.not_mem_nil) dX6_ifFeud_14

def fX6_ifSeated (PN : PV) (PT : PV) (w : Int32) : Nat ⊕ (Int32 × PV) :=
  (if w < 0 then (Sum.inl 0) else (if w < 2 then (bd2 (fX6_seatedNumber PN PT w) (fun r22 U22 => (Sum.inr (r22, U22)))) else (Sum.inl 0)))
abbrev rmX6_ifSeated : Room := { frames := 6, cells := 0, slots := 0, locals := 160 }
set_option maxHeartbeats 4000000 in
set_option maxRecDepth 100000 in
theorem mX6_ifSeated (l : Launch) (dC : Nat → ClassId) (dI : Nat → Nat → Nat) (cI cP : ClassId) (a0 : Nat) (aN aT aS : Nat → Nat) (t0 t1 t2 h0 h1 : Nat) (pa : Nat → Nat → Nat) (PN PT PS : PV) (f : Nat → Int32) (u : Int32) (Ps : Nat → PV) (oh vh : Nat) (k : Int32) (w : Int32) (hok : isOk (fX6_ifSeated PN PT w) = true) : Met l yX6_ifSeated (ws_ yX6_ifSeated cX6_ifSeated 2 (some .int)) rmX6_ifSeated (pcM (dC, dI) [(cI, .int), (cP, .object "SupperSeats$Plan")] (fW cI cP a0 aN aT aS t0 t1 t2 h0 h1 pa PN PT PS f u Ps oh vh k) [.ref a0, .int w]) (va_Qi (fun (r9 : Int32) (u9 : PV) => (r9, u9) = okp (fX6_ifSeated PN PT w)) (fun u9 t => va_P (dC, dI) vwCl ((fun (v9 : PV) => fW cI cP a0 aN aT aS t0 t1 t2 h0 h1 pa PN v9 PS f u Ps oh vh k) u9) t.heap) (adr (fW cI cP a0 aN aT aS t0 t1 t2 h0 h1 pa PN PT PS f u Ps oh vh k))) 0 0 (adr (fW cI cP a0 aN aT aS t0 t1 t2 h0 h1 pa PN PT PS f u Ps oh vh k)) := by
  refine Met.ofW (cc := cX6_ifSeated) (maxL := 2) (ret := (some .int)) (by decide) rfl ?_
  intro p e s m args below meth c s₁ B hml hv
  obtain ⟨ha, hP, hK, hn, hD0⟩ := hv
  have hx := B.exec
  have hb := B.bytes
  have hr := B.returns
  have hts0 := atoms_spec (ws := (ws_ yX6_ifSeated cX6_ifSeated 2 (some .int))) B.pre
  have hts : ∀ w ∈ lw_all, w.before args s = true := fun w h => hts0 w (List.mem_cons_of_mem _ h)
  have hown : s.vm.findClass RX6 = some m.cls := findClass_of_methodNamed B.named
  have hlocks := B.notSynchronized
  have hD := adr_self hD0
  obtain ⟨A, hA⟩ : ∃ A, A = adr (fW cI cP a0 aN aT aS t0 t1 t2 h0 h1 pa PN PT PS f u Ps oh vh k) := ⟨_, rfl⟩
  rw [← hA] at hD
  have hS : va_S A s.heap s.heap [] := va_S.rf
  obtain ⟨Q, hQ⟩ : ∃ Q, Q = MQ below (va_Qi (fun (r9 : Int32) (u9 : PV) => (r9, u9) = okp (fX6_ifSeated PN PT w)) (fun u9 t => va_P (dC, dI) vwCl ((fun (v9 : PV) => fW cI cP a0 aN aT aS t0 t1 t2 h0 h1 pa PN v9 PS f u Ps oh vh k) u9) t.heap) (adr (fW cI cP a0 aN aT aS t0 t1 t2 h0 h1 pa PN PT PS f u Ps oh vh k))) args s 0 0 (adr (fW cI cP a0 aN aT aS t0 t1 t2 h0 h1 pa PN PT PS f u Ps oh vh k)) := ⟨_, rfl⟩
  rw [← hQ]
  rw [← hA] at hQ
  have hl := lv_entry ([.ref a0, .int w]) (n := 2) (Nat.le_of_ble_eq_true rfl)
  rw [ha, lg_entry_eq, ← ha]
  generalize (lg_sl ([.ref a0, .int w]) ++ List.replicate (2 - (lg_sl ([.ref a0, .int w])).length) Slot.unset).toArray = ls at hl ⊢
  have hl : lv_has ls 2 [(0, .ref a0), (1, .int w)] := hl
  show W p l e rmX6_ifSeated s m args below meth c s.heap [] 0 0 Q (F0 m 0 ls [])
  have hF : fX6_ifSeated PN PT w = fX6_ifSeated PN PT w := rfl
  refine lv_iload_n hx hb dX6_ifSeated_0 rfl (lv_at hl 1 rfl) ?_
  refine lv_if_lt (tgt := 9) hx hb dX6_ifSeated_1 (by decide) (fun c_1 => ?_) (fun c_1 => ?_)
  · have hF := hF.trans (if_pos c_1)
    exact (k_no hF hok).elim
  have hF := hF.trans (if_neg c_1)
  refine lv_iload_n hx hb dX6_ifSeated_4 rfl (lv_at hl 1 rfl) ?_
  refine lv_iconst (v := 2) hx hb dX6_ifSeated_5 (by decide) ?_
  refine lv_icmp_lt (tgt := 20) hx hb dX6_ifSeated_6 (by decide) (fun c_6 => ?_) (fun c_6 => ?_)
  · have hF := hF.trans (if_pos c_6)
    refine lv_aload_n hx hb dX6_ifSeated_20 rfl (lv_at hl 0 rfl) ?_
    refine lv_iload_n hx hb dX6_ifSeated_21 rfl (lv_at hl 1 rfl) ?_
    refine k_bmuti (Bs := [(fW cI cP a0 aN aT aS t0 t1 t2 h0 h1 pa PN PT PS f u Ps oh vh k)]) (wc := [(fW cI cP a0 aN aT aS t0 t1 t2 h0 h1 pa PN PT PS f u Ps oh vh k)]) (W1 := (fun (v9 : PV) => [fW cI cP a0 aN aT aS t0 t1 t2 h0 h1 pa PN v9 PS f u Ps oh vh k])) (va_runV (As := [.int w]) (rest := []) ⟨hx, hb, hml, hown, hts0⟩ (mX6_seatedNumber l dC dI cI cP a0 aN aT aS t0 t1 t2 h0 h1 pa PN PT PS f u Ps oh vh k w) (cwV 1 hts0 (gi_V u_685 u_687 us_9 u_1 u_688) rfl rfl rfl (by decide +kernel) ⟨Nat.le_of_ble_eq_true rfl, Nat.le_of_ble_eq_true rfl⟩) (pcM_V (ci := 4) (q0 := 0) hP hK hn hD rfl rfl) rfl rfl hl.1 rfl (lv_room (Nat.le_of_ble_eq_true rfl)) dX6_ifSeated_22 ⟨Nat.zero_le _, Nat.zero_le _⟩) hP hD hS [0] rfl rfl (fun _ => rfl) (fun r22 U22 H locs hU22 hP hD hS => ?_)
    have hP : va_P (dC, dI) vwCl (fW cI cP a0 aN aT aS t0 t1 t2 h0 h1 pa PN U22 PS f u Ps oh vh k) H := hP
    have hD : va_D A (fW cI cP a0 aN aT aS t0 t1 t2 h0 h1 pa PN U22 PS f u Ps oh vh k) := hD
    have hF := bd2_at hF hU22
    rw [hQ]
    exact W.iret (v := r22) hx hb hr (fun t ht hW => ⟨⟨r22, U22, rfl, k_okp hF, toH ht hP⟩, hS.F ht⟩) hS.2.2 dX6_ifSeated_25
  have hF := hF.trans (if_neg c_6)
  exact (k_no hF hok).elim
