def fX6_needTwoFamilies (a : Int32) (b : Int32) : Int32 :=
  (if (fX6_isFamily a) = 0 then 1 else (if (fX6_isFamily b) = 0 then 1 else (if a = b then 1 else 0)))
abbrev rmX6_needTwoFamilies : Room := { frames := 1, cells := 0, slots := 0, locals := 20 }
set_option maxHeartbeats 4000000 in
set_option maxRecDepth 100000 in
theorem mX6_needTwoFamilies (l : Launch) (dC : Nat → ClassId) (dI : Nat → Nat → Nat)  (a : Int32) (b : Int32) (hok : fX6_needTwoFamilies a b = 0) : Met l yX6_needTwoFamilies (ws_ yX6_needTwoFamilies cX6_needTwoFamilies 2 none) rmX6_needTwoFamilies (pcR (dC, dI) [] [] [.int a, .int b]) (va_Sv (fun _ => True)) 0 0 (fun _ => False) := by
  refine Met.ofW (cc := cX6_needTwoFamilies) (maxL := 2) (ret := none) (by decide) rfl ?_
  intro p e s m args below meth c s₁ B hml hv
  obtain ⟨ha, hP, hK, hn⟩ := hv
  have hx := B.exec
  have hb := B.bytes
  have hr := B.returns
  have hts0 := atoms_spec (ws := (ws_ yX6_needTwoFamilies cX6_needTwoFamilies 2 none)) B.pre
  have hts : ∀ w ∈ lw_all, w.before args s = true := fun w h => hts0 w (List.mem_cons_of_mem _ h)
  have hown : s.vm.findClass RX6 = some m.cls := findClass_of_methodNamed B.named
  have hlocks := B.notSynchronized
  obtain ⟨Q, hQ⟩ : ∃ Q, Q = MQ below (va_Sv (fun _ => True)) args s 0 0 (fun _ => False) := ⟨_, rfl⟩
  rw [← hQ]
  have hl := lv_entry ([.int a, .int b]) (n := 2) (Nat.le_of_ble_eq_true rfl)
  rw [ha, lg_entry_eq, ← ha]
  generalize (lg_sl ([.int a, .int b]) ++ List.replicate (2 - (lg_sl ([.int a, .int b])).length) Slot.unset).toArray = ls at hl ⊢
  have hl : lv_has ls 2 [(0, .int a), (1, .int b)] := hl
  show W p l e rmX6_needTwoFamilies s m args below meth c s.heap [] 0 0 Q (F0 m 0 ls [])
  have hF : fX6_needTwoFamilies a b = fX6_needTwoFamilies a b := rfl
  refine lv_iload_n hx hb dX6_needTwoFamilies_0 rfl (lv_at hl 0 rfl) ?_
  refine k_callb (W.runS (As := [.int a]) (rest := []) ⟨hx, hb, hml, hown, hts0⟩ (mX6_isFamily l dC dI  a) (va_cwS 1 hts0 (gi_S u_466 u_467 u_1 u_468) rfl rfl rfl (by decide +kernel) ⟨Nat.le_of_ble_eq_true rfl, Nat.le_of_ble_eq_true rfl⟩) (pcR_S (hP.sub (ws' := []) [] rfl) (hK.sub (tys' := []) [] rfl) hn) rfl rfl hl.1 rfl (lv_room (Nat.le_of_ble_eq_true rfl)) dX6_needTwoFamilies_1 ⟨Nat.zero_le _, Nat.zero_le _⟩) (fun br1 => ?_)
  refine lv_if_eq (tgt := 19) hx hb dX6_needTwoFamilies_4 (by decide) (fun c_4 => ?_) (fun c_4 => ?_)
  · have hF := hF.trans (if_pos c_4)
    exact (k_no1 hF hok).elim
  have hF := hF.trans (if_neg c_4)
  refine lv_iload_n hx hb dX6_needTwoFamilies_7 rfl (lv_at hl 1 rfl) ?_
  refine k_callb (W.runS (As := [.int b]) (rest := []) ⟨hx, hb, hml, hown, hts0⟩ (mX6_isFamily l dC dI  b) (va_cwS 1 hts0 (gi_S u_466 u_467 u_1 u_468) rfl rfl rfl (by decide +kernel) ⟨Nat.le_of_ble_eq_true rfl, Nat.le_of_ble_eq_true rfl⟩) (pcR_S (hP.sub (ws' := []) [] rfl) (hK.sub (tys' := []) [] rfl) hn) rfl rfl hl.1 rfl (lv_room (Nat.le_of_ble_eq_true rfl)) dX6_needTwoFamilies_8 ⟨Nat.zero_le _, Nat.zero_le _⟩) (fun br8 => ?_)
  refine lv_if_eq (tgt := 19) hx hb dX6_needTwoFamilies_11 (by decide) (fun c_11 => ?_) (fun c_11 => ?_)
  · have hF := hF.trans (if_pos c_11)
    exact (k_no1 hF hok).elim
  have hF := hF.trans (if_neg c_11)
  refine lv_iload_n hx hb dX6_needTwoFamilies_14 rfl (lv_at hl 0 rfl) ?_
  refine lv_iload_n hx hb dX6_needTwoFamilies_15 rfl (lv_at hl 1 rfl) ?_
  refine lv_icmp_ne (tgt := 30) hx hb dX6_needTwoFamilies_16 (by decide) (fun c_16 => ?_) (fun c_16 => ?_)
  · have hF := hF.trans (if_neg c_16)
    rw [hQ]
    exact W.vret hx hb hr (fun t ht hW => ⟨rfl, trivial, ht⟩) (fun q hq => absurd hq List.not_mem_nil) dX6_needTwoFamilies_30
  have hF := hF.trans (if_pos c_16)
  exact (k_no1 hF hok).elim

def fX6_needPlace (a : Int32) : Int32 :=
  (if 0 ≤ a then 0 else 1)
abbrev rmX6_needPlace : Room := { frames := 0, cells := 0, slots := 0, locals := 0 }
set_option maxHeartbeats 4000000 in
set_option maxRecDepth 100000 in
theorem mX6_needPlace (l : Launch) (dC : Nat → ClassId) (dI : Nat → Nat → Nat)  (a : Int32) (hok : fX6_needPlace a = 0) : Met l yX6_needPlace (ws_ yX6_needPlace cX6_needPlace 1 none) rmX6_needPlace (pcR (dC, dI) [] [] [.int a]) (va_Sv (fun _ => True)) 0 0 (fun _ => False) := by
  refine Met.ofW (cc := cX6_needPlace) (maxL := 1) (ret := none) (by decide) rfl ?_
  intro p e s m args below meth c s₁ B hml hv
  obtain ⟨ha, hP, hK, hn⟩ := hv
  have hx := B.exec
  have hb := B.bytes
  have hr := B.returns
  have hts0 := atoms_spec (ws := (ws_ yX6_needPlace cX6_needPlace 1 none)) B.pre
  have hts : ∀ w ∈ lw_all, w.before args s = true := fun w h => hts0 w (List.mem_cons_of_mem _ h)
  have hown : s.vm.findClass RX6 = some m.cls := findClass_of_methodNamed B.named
  have hlocks := B.notSynchronized
  obtain ⟨Q, hQ⟩ : ∃ Q, Q = MQ below (va_Sv (fun _ => True)) args s 0 0 (fun _ => False) := ⟨_, rfl⟩
  rw [← hQ]
  have hl := lv_entry ([.int a]) (n := 1) (Nat.le_of_ble_eq_true rfl)
  rw [ha, lg_entry_eq, ← ha]
  generalize (lg_sl ([.int a]) ++ List.replicate (1 - (lg_sl ([.int a])).length) Slot.unset).toArray = ls at hl ⊢
  have hl : lv_has ls 1 [(0, .int a)] := hl
  show W p l e rmX6_needPlace s m args below meth c s.heap [] 0 0 Q (F0 m 0 ls [])
  have hF : fX6_needPlace a = fX6_needPlace a := rfl
  refine lv_iload_n hx hb dX6_needPlace_0 rfl (lv_at hl 0 rfl) ?_
  refine lv_if_ge (tgt := 15) hx hb dX6_needPlace_1 (by decide) (fun c_1 => ?_) (fun c_1 => ?_)
  · have hF := hF.trans (if_pos c_1)
    rw [hQ]
    exact W.vret hx hb hr (fun t ht hW => ⟨rfl, trivial, ht⟩) (fun q hq => absurd hq List.not_mem_nil) dX6_needPlace_15
  have hF := hF.trans (if_neg c_1)
  exact (k_no1 hF hok).elim

def fX6_needGuest (PN : PV) (g : Int32) : Int32 :=
  (if (fX2_isGuest PN g) = 0 then 1 else 0)
abbrev rmX6_needGuest : Room := { frames := 1, cells := 0, slots := 0, locals := 21 }
set_option maxHeartbeats 4000000 in
set_option maxRecDepth 100000 in
theorem mX6_needGuest (l : Launch) (dC : Nat → ClassId) (dI : Nat → Nat → Nat) (cI cP : ClassId) (a0 : Nat) (aN aT aS : Nat → Nat) (t0 t1 t2 h0 h1 : Nat) (pa : Nat → Nat → Nat) (PN PT PS : PV) (f : Nat → Int32) (u : Int32) (Ps : Nat → PV) (oh vh : Nat) (k : Int32) (g : Int32) (hok : fX6_needGuest PN g = 0) : Met l yX6_needGuest (ws_ yX6_needGuest cX6_needGuest 2 none) rmX6_needGuest (pcR (dC, dI) [(cI, .int), (cP, .object "SupperSeats$Plan")] (fW cI cP a0 aN aT aS t0 t1 t2 h0 h1 pa PN PT PS f u Ps oh vh k) [.ref a0, .int g]) (va_Sv (fun _ => True)) 0 0 (fun _ => False) := by
  refine Met.ofW (cc := cX6_needGuest) (maxL := 2) (ret := none) (by decide) rfl ?_
  intro p e s m args below meth c s₁ B hml hv
  obtain ⟨ha, hP, hK, hn⟩ := hv
  have hx := B.exec
  have hb := B.bytes
  have hr := B.returns
  have hts0 := atoms_spec (ws := (ws_ yX6_needGuest cX6_needGuest 2 none)) B.pre
  have hts : ∀ w ∈ lw_all, w.before args s = true := fun w h => hts0 w (List.mem_cons_of_mem _ h)
  have hown : s.vm.findClass RX6 = some m.cls := findClass_of_methodNamed B.named
  have hlocks := B.notSynchronized
  have htX6 : ∀ w ∈ wsX60, w.before args s = true := fun w h => hts w (wX6 w h)
  obtain ⟨Q, hQ⟩ : ∃ Q, Q = MQ below (va_Sv (fun _ => True)) args s 0 0 (fun _ => False) := ⟨_, rfl⟩
  rw [← hQ]
  have hl := lv_entry ([.ref a0, .int g]) (n := 2) (Nat.le_of_ble_eq_true rfl)
  rw [ha, lg_entry_eq, ← ha]
  generalize (lg_sl ([.ref a0, .int g]) ++ List.replicate (2 - (lg_sl ([.ref a0, .int g])).length) Slot.unset).toArray = ls at hl ⊢
  have hl : lv_has ls 2 [(0, .ref a0), (1, .int g)] := hl
  show W p l e rmX6_needGuest s m args below meth c s.heap [] 0 0 Q (F0 m 0 ls [])
  have hF : fX6_needGuest PN g = fX6_needGuest PN g := rfl
  refine lv_aload_n hx hb dX6_needGuest_0 rfl (lv_at hl 0 rfl) ?_
  refine va_get (D := (dC, dI)) (ci := 4) (v := .ref (aN 0)) (C := RX6) (T := TX6) (N := 6) hx hb htX6 (fun _ h => h) hown hK (fl_at hP 0 rfl) 0 rfl rfl 0 (by decide) (hts _ u_141) (fun _ h9 => h9) rfl dX6_needGuest_1 ?_
  refine lv_iload_n hx hb dX6_needGuest_4 rfl (lv_at hl 1 rfl) ?_
  refine k_callb (W.runV (As := [.int g]) (rest := []) ⟨hx, hb, hml, hown, hts0⟩ (mX2_isGuest l dC dI cI aN PN g) (cwV 1 hts0 (gi_V u_367 u_319 u_320 u_2 u_321) rfl rfl rfl (by decide +kernel) ⟨Nat.le_of_ble_eq_true rfl, Nat.le_of_ble_eq_true rfl⟩) (pcR_V (ci := 2) (q0 := 0) (fl_at hP 1 rfl) (hK.sub (tys' := [(cI, .int)]) [0] rfl) hn rfl rfl) rfl rfl hl.1 rfl (lv_room (Nat.le_of_ble_eq_true rfl)) dX6_needGuest_5 ⟨Nat.zero_le _, Nat.zero_le _⟩) (fun br5 => ?_)
  refine lv_if_ne (tgt := 22) hx hb dX6_needGuest_8 (by decide) (fun c_8 => ?_) (fun c_8 => ?_)
  · have hF := hF.trans (if_neg c_8)
    rw [hQ]
    exact W.vret hx hb hr (fun t ht hW => ⟨rfl, trivial, ht⟩) (fun q hq => absurd hq List.not_mem_nil) dX6_needGuest_22
  have hF := hF.trans (if_pos c_8)
  exact (k_no1 hF hok).elim

def fX6_needTable (PN : PV) (tb : Int32) : Int32 :=
  (if (fX2_isTable PN tb) = 0 then 1 else 0)
abbrev rmX6_needTable : Room := { frames := 1, cells := 0, slots := 0, locals := 21 }
set_option maxHeartbeats 4000000 in
set_option maxRecDepth 100000 in
theorem mX6_needTable (l : Launch) (dC : Nat → ClassId) (dI : Nat → Nat → Nat) (cI cP : ClassId) (a0 : Nat) (aN aT aS : Nat → Nat) (t0 t1 t2 h0 h1 : Nat) (pa : Nat → Nat → Nat) (PN PT PS : PV) (f : Nat → Int32) (u : Int32) (Ps : Nat → PV) (oh vh : Nat) (k : Int32) (tb : Int32) (hok : fX6_needTable PN tb = 0) : Met l yX6_needTable (ws_ yX6_needTable cX6_needTable 2 none) rmX6_needTable (pcR (dC, dI) [(cI, .int), (cP, .object "SupperSeats$Plan")] (fW cI cP a0 aN aT aS t0 t1 t2 h0 h1 pa PN PT PS f u Ps oh vh k) [.ref a0, .int tb]) (va_Sv (fun _ => True)) 0 0 (fun _ => False) := by
  refine Met.ofW (cc := cX6_needTable) (maxL := 2) (ret := none) (by decide) rfl ?_
  intro p e s m args below meth c s₁ B hml hv
  obtain ⟨ha, hP, hK, hn⟩ := hv
  have hx := B.exec
  have hb := B.bytes
  have hr := B.returns
  have hts0 := atoms_spec (ws := (ws_ yX6_needTable cX6_needTable 2 none)) B.pre
  have hts : ∀ w ∈ lw_all, w.before args s = true := fun w h => hts0 w (List.mem_cons_of_mem _ h)
  have hown : s.vm.findClass RX6 = some m.cls := findClass_of_methodNamed B.named
  have hlocks := B.notSynchronized
  have htX6 : ∀ w ∈ wsX60, w.before args s = true := fun w h => hts w (wX6 w h)
  obtain ⟨Q, hQ⟩ : ∃ Q, Q = MQ below (va_Sv (fun _ => True)) args s 0 0 (fun _ => False) := ⟨_, rfl⟩
  rw [← hQ]
  have hl := lv_entry ([.ref a0, .int tb]) (n := 2) (Nat.le_of_ble_eq_true rfl)
  rw [ha, lg_entry_eq, ← ha]
  generalize (lg_sl ([.ref a0, .int tb]) ++ List.replicate (2 - (lg_sl ([.ref a0, .int tb])).length) Slot.unset).toArray = ls at hl ⊢
  have hl : lv_has ls 2 [(0, .ref a0), (1, .int tb)] := hl
  show W p l e rmX6_needTable s m args below meth c s.heap [] 0 0 Q (F0 m 0 ls [])
  have hF : fX6_needTable PN tb = fX6_needTable PN tb := rfl
  refine lv_aload_n hx hb dX6_needTable_0 rfl (lv_at hl 0 rfl) ?_
  refine va_get (D := (dC, dI)) (ci := 4) (v := .ref (aN 0)) (C := RX6) (T := TX6) (N := 6) hx hb htX6 (fun _ h => h) hown hK (fl_at hP 0 rfl) 0 rfl rfl 0 (by decide) (hts _ u_141) (fun _ h9 => h9) rfl dX6_needTable_1 ?_
  refine lv_iload_n hx hb dX6_needTable_4 rfl (lv_at hl 1 rfl) ?_
  refine k_callb (W.runV (As := [.int tb]) (rest := []) ⟨hx, hb, hml, hown, hts0⟩ (mX2_isTable l dC dI cI aN PN tb) (cwV 1 hts0 (gi_V u_399 u_400 u_401 u_2 u_402) rfl rfl rfl (by decide +kernel) ⟨Nat.le_of_ble_eq_true rfl, Nat.le_of_ble_eq_true rfl⟩) (pcR_V (ci := 2) (q0 := 0) (fl_at hP 1 rfl) (hK.sub (tys' := [(cI, .int)]) [0] rfl) hn rfl rfl) rfl rfl hl.1 rfl (lv_room (Nat.le_of_ble_eq_true rfl)) dX6_needTable_5 ⟨Nat.zero_le _, Nat.zero_le _⟩) (fun br5 => ?_)
  refine lv_if_ne (tgt := 22) hx hb dX6_needTable_8 (by decide) (fun c_8 => ?_) (fun c_8 => ?_)
  · have hF := hF.trans (if_neg c_8)
    rw [hQ]
    exact W.vret hx hb hr (fun t ht hW => ⟨rfl, trivial, ht⟩) (fun q hq => absurd hq List.not_mem_nil) dX6_needTable_22
  have hF := hF.trans (if_pos c_8)
  exact (k_no1 hF hok).elim

def fX6_needSeat (PN : PV) (tb : Int32) (z : Int32) : Int32 :=
  (if (fX2_isSeat PN tb z) = 0 then 1 else 0)
abbrev rmX6_needSeat : Room := { frames := 2, cells := 0, slots := 0, locals := 43 }
set_option maxHeartbeats 4000000 in
set_option maxRecDepth 100000 in
theorem mX6_needSeat (l : Launch) (dC : Nat → ClassId) (dI : Nat → Nat → Nat) (cI cP : ClassId) (a0 : Nat) (aN aT aS : Nat → Nat) (t0 t1 t2 h0 h1 : Nat) (pa : Nat → Nat → Nat) (PN PT PS : PV) (f : Nat → Int32) (u : Int32) (Ps : Nat → PV) (oh vh : Nat) (k : Int32) (tb : Int32) (z : Int32) (hok : fX6_needSeat PN tb z = 0) : Met l yX6_needSeat (ws_ yX6_needSeat cX6_needSeat 3 none) rmX6_needSeat (pcR (dC, dI) [(cI, .int), (cP, .object "SupperSeats$Plan")] (fW cI cP a0 aN aT aS t0 t1 t2 h0 h1 pa PN PT PS f u Ps oh vh k) [.ref a0, .int tb, .int z]) (va_Sv (fun _ => True)) 0 0 (fun _ => False) := by
  refine Met.ofW (cc := cX6_needSeat) (maxL := 3) (ret := none) (by decide) rfl ?_
  intro p e s m args below meth c s₁ B hml hv
  obtain ⟨ha, hP, hK, hn⟩ := hv
  have hx := B.exec
  have hb := B.bytes
  have hr := B.returns
  have hts0 := atoms_spec (ws := (ws_ yX6_needSeat cX6_needSeat 3 none)) B.pre
  have hts : ∀ w ∈ lw_all, w.before args s = true := fun w h => hts0 w (List.mem_cons_of_mem _ h)
  have hown : s.vm.findClass RX6 = some m.cls := findClass_of_methodNamed B.named
  have hlocks := B.notSynchronized
  have htX6 : ∀ w ∈ wsX60, w.before args s = true := fun w h => hts w (wX6 w h)
  obtain ⟨Q, hQ⟩ : ∃ Q, Q = MQ below (va_Sv (fun _ => True)) args s 0 0 (fun _ => False) := ⟨_, rfl⟩
  rw [← hQ]
  have hl := lv_entry ([.ref a0, .int tb, .int z]) (n := 3) (Nat.le_of_ble_eq_true rfl)
  rw [ha, lg_entry_eq, ← ha]
  generalize (lg_sl ([.ref a0, .int tb, .int z]) ++ List.replicate (3 - (lg_sl ([.ref a0, .int tb, .int z])).length) Slot.unset).toArray = ls at hl ⊢
  have hl : lv_has ls 3 [(0, .ref a0), (1, .int tb), (2, .int z)] := hl
  show W p l e rmX6_needSeat s m args below meth c s.heap [] 0 0 Q (F0 m 0 ls [])
  have hF : fX6_needSeat PN tb z = fX6_needSeat PN tb z := rfl
  refine lv_aload_n hx hb dX6_needSeat_0 rfl (lv_at hl 0 rfl) ?_
  refine va_get (D := (dC, dI)) (ci := 4) (v := .ref (aN 0)) (C := RX6) (T := TX6) (N := 6) hx hb htX6 (fun _ h => h) hown hK (fl_at hP 0 rfl) 0 rfl rfl 0 (by decide) (hts _ u_141) (fun _ h9 => h9) rfl dX6_needSeat_1 ?_
  refine lv_iload_n hx hb dX6_needSeat_4 rfl (lv_at hl 1 rfl) ?_
  refine lv_iload_n hx hb dX6_needSeat_5 rfl (lv_at hl 2 rfl) ?_
  refine k_callb (W.runV (As := [.int tb, .int z]) (rest := []) ⟨hx, hb, hml, hown, hts0⟩ (mX2_isSeat l dC dI cI aN PN tb z) (cwV 2 hts0 (gi_V u_613 u_614 u_615 u_2 u_616) rfl rfl rfl (by decide +kernel) ⟨Nat.le_of_ble_eq_true rfl, Nat.le_of_ble_eq_true rfl⟩) (pcR_V (ci := 2) (q0 := 0) (fl_at hP 1 rfl) (hK.sub (tys' := [(cI, .int)]) [0] rfl) hn rfl rfl) rfl rfl hl.1 rfl (lv_room (Nat.le_of_ble_eq_true rfl)) dX6_needSeat_6 ⟨Nat.zero_le _, Nat.zero_le _⟩) (fun br6 => ?_)
  refine lv_if_ne (tgt := 23) hx hb dX6_needSeat_9 (by decide) (fun c_9 => ?_) (fun c_9 => ?_)
  · have hF := hF.trans (if_neg c_9)
    rw [hQ]
    exact W.vret hx hb hr (fun t ht hW => ⟨rfl, trivial, ht⟩) (fun q hq => absurd hq List.not_mem_nil) dX6_needSeat_23
  have hF := hF.trans (if_pos c_9)
  exact (k_no1 hF hok).elim

def fX6_needGuestAndSeat (PN : PV) (g : Int32) (tb : Int32) (z : Int32) : Int32 :=
  (if (fX6_needGuest PN g) = 0 then (if (fX6_needSeat PN tb z) = 0 then 0 else 1) else 1)
abbrev rmX6_needGuestAndSeat : Room := { frames := 3, cells := 0, slots := 0, locals := 65 }
set_option maxHeartbeats 4000000 in
set_option maxRecDepth 100000 in
theorem mX6_needGuestAndSeat (l : Launch) (dC : Nat → ClassId) (dI : Nat → Nat → Nat) (cI cP : ClassId) (a0 : Nat) (aN aT aS : Nat → Nat) (t0 t1 t2 h0 h1 : Nat) (pa : Nat → Nat → Nat) (PN PT PS : PV) (f : Nat → Int32) (u : Int32) (Ps : Nat → PV) (oh vh : Nat) (k : Int32) (g : Int32) (tb : Int32) (z : Int32) (hok : fX6_needGuestAndSeat PN g tb z = 0) : Met l yX6_needGuestAndSeat (ws_ yX6_needGuestAndSeat cX6_needGuestAndSeat 4 none) rmX6_needGuestAndSeat (pcR (dC, dI) [(cI, .int), (cP, .object "SupperSeats$Plan")] (fW cI cP a0 aN aT aS t0 t1 t2 h0 h1 pa PN PT PS f u Ps oh vh k) [.ref a0, .int g, .int tb, .int z]) (va_Sv (fun _ => True)) 0 0 (fun _ => False) := by
  refine Met.ofW (cc := cX6_needGuestAndSeat) (maxL := 4) (ret := none) (by decide) rfl ?_
  intro p e s m args below meth c s₁ B hml hv
  obtain ⟨ha, hP, hK, hn⟩ := hv
  have hx := B.exec
  have hb := B.bytes
  have hr := B.returns
  have hts0 := atoms_spec (ws := (ws_ yX6_needGuestAndSeat cX6_needGuestAndSeat 4 none)) B.pre
  have hts : ∀ w ∈ lw_all, w.before args s = true := fun w h => hts0 w (List.mem_cons_of_mem _ h)
  have hown : s.vm.findClass RX6 = some m.cls := findClass_of_methodNamed B.named
  have hlocks := B.notSynchronized
  obtain ⟨Q, hQ⟩ : ∃ Q, Q = MQ below (va_Sv (fun _ => True)) args s 0 0 (fun _ => False) := ⟨_, rfl⟩
  rw [← hQ]
  have hl := lv_entry ([.ref a0, .int g, .int tb, .int z]) (n := 4) (Nat.le_of_ble_eq_true rfl)
  rw [ha, lg_entry_eq, ← ha]
  generalize (lg_sl ([.ref a0, .int g, .int tb, .int z]) ++ List.replicate (4 - (lg_sl ([.ref a0, .int g, .int tb, .int z])).length) Slot.unset).toArray = ls at hl ⊢
  have hl : lv_has ls 4 [(0, .ref a0), (1, .int g), (2, .int tb), (3, .int z)] := hl
  show W p l e rmX6_needGuestAndSeat s m args below meth c s.heap [] 0 0 Q (F0 m 0 ls [])
  have hF : fX6_needGuestAndSeat PN g tb z = fX6_needGuestAndSeat PN g tb z := rfl
  refine lv_aload_n hx hb dX6_needGuestAndSeat_0 rfl (lv_at hl 0 rfl) ?_
  refine lv_iload_n hx hb dX6_needGuestAndSeat_1 rfl (lv_at hl 1 rfl) ?_
  refine k_dec (P := (fX6_needGuest PN g) = 0) (fun c_2 => ?_) (fun c_2 => ?_)
  · have hF := hF.trans (if_neg c_2)
    exact (k_no1 hF hok).elim
  have hF := hF.trans (if_pos c_2)
  refine va_csv (W.runV (As := [.int g]) (rest := []) ⟨hx, hb, hml, hown, hts0⟩ (mX6_needGuest l dC dI cI cP a0 aN aT aS t0 t1 t2 h0 h1 pa PN PT PS f u Ps oh vh k g c_2) (cwV 1 hts0 (gi_V u_363 u_365 us_3 u_1 u_366) rfl rfl rfl (by decide +kernel) ⟨Nat.le_of_ble_eq_true rfl, Nat.le_of_ble_eq_true rfl⟩) (pcR_V (ci := 4) (q0 := 0) hP hK hn rfl rfl) rfl rfl hl.1 rfl (lv_room (Nat.le_of_ble_eq_true rfl)) dX6_needGuestAndSeat_2 ⟨Nat.zero_le _, Nat.zero_le _⟩) (fun _ => ?_)
  refine lv_aload_n hx hb dX6_needGuestAndSeat_5 rfl (lv_at hl 0 rfl) ?_
  refine lv_iload_n hx hb dX6_needGuestAndSeat_6 rfl (lv_at hl 2 rfl) ?_
  refine lv_iload_n hx hb dX6_needGuestAndSeat_7 rfl (lv_at hl 3 rfl) ?_
  refine k_dec (P := (fX6_needSeat PN tb z) = 0) (fun c_8 => ?_) (fun c_8 => ?_)
  · have hF := hF.trans (if_neg c_8)
    exact (k_no1 hF hok).elim
  have hF := hF.trans (if_pos c_8)
  refine va_csv (W.runV (As := [.int tb, .int z]) (rest := []) ⟨hx, hb, hml, hown, hts0⟩ (mX6_needSeat l dC dI cI cP a0 aN aT aS t0 t1 t2 h0 h1 pa PN PT PS f u Ps oh vh k tb z c_8) (cwV 2 hts0 (gi_V u_609 u_611 us_8 u_1 u_612) rfl rfl rfl (by decide +kernel) ⟨Nat.le_of_ble_eq_true rfl, Nat.le_of_ble_eq_true rfl⟩) (pcR_V (ci := 4) (q0 := 0) hP hK hn rfl rfl) rfl rfl hl.1 rfl (lv_room (Nat.le_of_ble_eq_true rfl)) dX6_needGuestAndSeat_8 ⟨Nat.zero_le _, Nat.zero_le _⟩) (fun _ => ?_)
  rw [hQ]
  exact W.vret hx hb hr (fun t ht hW => ⟨rfl, trivial, ht⟩) (fun q hq => absurd hq List.not_mem_nil) dX6_needGuestAndSeat_11
