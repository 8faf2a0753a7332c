def fX2_isGuest (P : PV) (g : Int32) : Int32 :=
  (if g < 0 then 0 else (if (P 10 0) ≤ g then 0 else 1))
abbrev rmX2_isGuest : Room := { frames := 0, cells := 0, slots := 0, locals := 0 }
set_option maxHeartbeats 4000000 in
set_option maxRecDepth 100000 in
theorem mX2_isGuest (l : Launch) (dC : Nat → ClassId) (dI : Nat → Nat → Nat) (cI : ClassId) (ad : Nat → Nat) (P : PV) (g : Int32) : Met l yX2_isGuest (ws_ yX2_isGuest cX2_isGuest 2 (some .boolean)) rmX2_isGuest (pcR (dC, dI) [(cI, .int)] (pW cI ad P) [.ref (ad 0), .int g]) (vp_Si (fun r => r = fX2_isGuest P g ∧ (r = 0 ∨ r = 1))) 0 0 (fun _ => False) := by
  refine Met.ofW (cc := cX2_isGuest) (maxL := 2) (ret := (some .boolean)) (by decide) rfl ?_
  intro p e s m args below meth c s₁ B hml hv
  obtain ⟨ha, hP, hK, hn⟩ := hv
  have hx := B.exec
  have hb := B.bytes
  have hr := B.returns
  have hts0 := atoms_spec (ws := (ws_ yX2_isGuest cX2_isGuest 2 (some .boolean))) B.pre
  have hts : ∀ w ∈ lw_all, w.before args s = true := fun w h => hts0 w (List.mem_cons_of_mem _ h)
  have hown : s.vm.findClass RX2 = some m.cls := findClass_of_methodNamed B.named
  have hlocks := B.notSynchronized
  have htX2 : ∀ w ∈ wsX20, w.before args s = true := fun w h => hts w (wX2 w h)
  obtain ⟨Q, hQ⟩ : ∃ Q, Q = MQ below (vp_Si (fun r => r = fX2_isGuest P g ∧ (r = 0 ∨ r = 1))) args s 0 0 (fun _ => False) := ⟨_, rfl⟩
  rw [← hQ]
  have hl := lv_entry ([.ref (ad 0), .int g]) (n := 2) (Nat.le_of_ble_eq_true rfl)
  rw [ha, lg_entry_eq, ← ha]
  generalize (lg_sl ([.ref (ad 0), .int g]) ++ List.replicate (2 - (lg_sl ([.ref (ad 0), .int g])).length) Slot.unset).toArray = ls at hl ⊢
  have hl : lv_has ls 2 [(0, .ref (ad 0)), (1, .int g)] := hl
  show W p l e rmX2_isGuest s m args below meth c s.heap [] 0 0 Q (F0 m 0 ls [])
  have hF : fX2_isGuest P g = fX2_isGuest P g := rfl
  refine lv_iload_n hx hb dX2_isGuest_0 rfl (lv_at hl 1 rfl) ?_
  refine lv_if_lt (tgt := 16) hx hb dX2_isGuest_1 (by decide) (fun c_1 => ?_) (fun c_1 => ?_)
  · have hF := hF.trans (if_pos c_1)
    refine lv_iconst (v := 0) hx hb dX2_isGuest_16 (by decide) ?_
    rw [hQ]
    exact W.zret (ty := .boolean) (v := 0) hx hb hr rfl (fun t ht hW => ⟨0, rfl, ⟨hF.symm, Or.inl rfl⟩, ht⟩) (fun q hq => absurd hq List.not_mem_nil) dX2_isGuest_17
  have hF := hF.trans (if_neg c_1)
  refine lv_iload_n hx hb dX2_isGuest_4 rfl (lv_at hl 1 rfl) ?_
  refine lv_aload_n hx hb dX2_isGuest_5 rfl (lv_at hl 0 rfl) ?_
  refine va_get (D := (dC, dI)) (ci := 2) (v := .int (P 10 0)) (C := RX2) (T := TX2) (N := 14) hx hb htX2 (fun _ h => h) hown hK hP 0 rfl rfl 10 (by decide) (hts _ u_73) (fun _ h9 => h9) rfl dX2_isGuest_6 ?_
  refine lv_icmp_ge (tgt := 16) hx hb dX2_isGuest_9 (by decide) (fun c_9 => ?_) (fun c_9 => ?_)
  · have hF := hF.trans (if_pos c_9)
    refine lv_iconst (v := 0) hx hb dX2_isGuest_16 (by decide) ?_
    rw [hQ]
    exact W.zret (ty := .boolean) (v := 0) hx hb hr rfl (fun t ht hW => ⟨0, rfl, ⟨hF.symm, Or.inl rfl⟩, ht⟩) (fun q hq => absurd hq List.not_mem_nil) dX2_isGuest_17
  have hF := hF.trans (if_neg c_9)
  refine lv_iconst (v := 1) hx hb dX2_isGuest_12 (by decide) ?_
  refine lv_goto (tgt := 17) hx hb dX2_isGuest_13 (by decide) ?_
  rw [hQ]
  exact W.zret (ty := .boolean) (v := 1) hx hb hr rfl (fun t ht hW => ⟨1, rfl, ⟨hF.symm, Or.inr rfl⟩, ht⟩) (fun q hq => absurd hq List.not_mem_nil) dX2_isGuest_17

def fX2_isTable (P : PV) (tb : Int32) : Int32 :=
  (if tb < 0 then 0 else (if (P 10 1) ≤ tb then 0 else 1))
abbrev rmX2_isTable : Room := { frames := 0, cells := 0, slots := 0, locals := 0 }
set_option maxHeartbeats 4000000 in
set_option maxRecDepth 100000 in
theorem mX2_isTable (l : Launch) (dC : Nat → ClassId) (dI : Nat → Nat → Nat) (cI : ClassId) (ad : Nat → Nat) (P : PV) (tb : Int32) : Met l yX2_isTable (ws_ yX2_isTable cX2_isTable 2 (some .boolean)) rmX2_isTable (pcR (dC, dI) [(cI, .int)] (pW cI ad P) [.ref (ad 0), .int tb]) (vp_Si (fun r => r = fX2_isTable P tb ∧ (r = 0 ∨ r = 1))) 0 0 (fun _ => False) := by
  refine Met.ofW (cc := cX2_isTable) (maxL := 2) (ret := (some .boolean)) (by decide) rfl ?_
  intro p e s m args below meth c s₁ B hml hv
  obtain ⟨ha, hP, hK, hn⟩ := hv
  have hx := B.exec
  have hb := B.bytes
  have hr := B.returns
  have hts0 := atoms_spec (ws := (ws_ yX2_isTable cX2_isTable 2 (some .boolean))) B.pre
  have hts : ∀ w ∈ lw_all, w.before args s = true := fun w h => hts0 w (List.mem_cons_of_mem _ h)
  have hown : s.vm.findClass RX2 = some m.cls := findClass_of_methodNamed B.named
  have hlocks := B.notSynchronized
  have htX2 : ∀ w ∈ wsX20, w.before args s = true := fun w h => hts w (wX2 w h)
  obtain ⟨Q, hQ⟩ : ∃ Q, Q = MQ below (vp_Si (fun r => r = fX2_isTable P tb ∧ (r = 0 ∨ r = 1))) args s 0 0 (fun _ => False) := ⟨_, rfl⟩
  rw [← hQ]
  have hl := lv_entry ([.ref (ad 0), .int tb]) (n := 2) (Nat.le_of_ble_eq_true rfl)
  rw [ha, lg_entry_eq, ← ha]
  generalize (lg_sl ([.ref (ad 0), .int tb]) ++ List.replicate (2 - (lg_sl ([.ref (ad 0), .int tb])).length) Slot.unset).toArray = ls at hl ⊢
  have hl : lv_has ls 2 [(0, .ref (ad 0)), (1, .int tb)] := hl
  show W p l e rmX2_isTable s m args below meth c s.heap [] 0 0 Q (F0 m 0 ls [])
  have hF : fX2_isTable P tb = fX2_isTable P tb := rfl
  refine lv_iload_n hx hb dX2_isTable_0 rfl (lv_at hl 1 rfl) ?_
  refine lv_if_lt (tgt := 16) hx hb dX2_isTable_1 (by decide) (fun c_1 => ?_) (fun c_1 => ?_)
  · have hF := hF.trans (if_pos c_1)
    refine lv_iconst (v := 0) hx hb dX2_isTable_16 (by decide) ?_
    rw [hQ]
    exact W.zret (ty := .boolean) (v := 0) hx hb hr rfl (fun t ht hW => ⟨0, rfl, ⟨hF.symm, Or.inl rfl⟩, ht⟩) (fun q hq => absurd hq List.not_mem_nil) dX2_isTable_17
  have hF := hF.trans (if_neg c_1)
  refine lv_iload_n hx hb dX2_isTable_4 rfl (lv_at hl 1 rfl) ?_
  refine lv_aload_n hx hb dX2_isTable_5 rfl (lv_at hl 0 rfl) ?_
  refine va_get (D := (dC, dI)) (ci := 2) (v := .int (P 10 1)) (C := RX2) (T := TX2) (N := 14) hx hb htX2 (fun _ h => h) hown hK hP 0 rfl rfl 11 (by decide) (hts _ u_74) (fun _ h9 => h9) rfl dX2_isTable_6 ?_
  refine lv_icmp_ge (tgt := 16) hx hb dX2_isTable_9 (by decide) (fun c_9 => ?_) (fun c_9 => ?_)
  · have hF := hF.trans (if_pos c_9)
    refine lv_iconst (v := 0) hx hb dX2_isTable_16 (by decide) ?_
    rw [hQ]
    exact W.zret (ty := .boolean) (v := 0) hx hb hr rfl (fun t ht hW => ⟨0, rfl, ⟨hF.symm, Or.inl rfl⟩, ht⟩) (fun q hq => absurd hq List.not_mem_nil) dX2_isTable_17
  have hF := hF.trans (if_neg c_9)
  refine lv_iconst (v := 1) hx hb dX2_isTable_12 (by decide) ?_
  refine lv_goto (tgt := 17) hx hb dX2_isTable_13 (by decide) ?_
  rw [hQ]
  exact W.zret (ty := .boolean) (v := 1) hx hb hr rfl (fun t ht hW => ⟨1, rfl, ⟨hF.symm, Or.inr rfl⟩, ht⟩) (fun q hq => absurd hq List.not_mem_nil) dX2_isTable_17

def fX2_seatsAt (P : PV) (tb : Int32) : Int32 :=
  (if tb < 0 then 0 else (if (nI 4) ≤ tb then 0 else ((P 5) tb.toNatClampNeg)))
abbrev rmX2_seatsAt : Room := { frames := 0, cells := 0, slots := 0, locals := 0 }
set_option maxHeartbeats 4000000 in
set_option maxRecDepth 100000 in
theorem mX2_seatsAt (l : Launch) (dC : Nat → ClassId) (dI : Nat → Nat → Nat) (cI : ClassId) (ad : Nat → Nat) (P : PV) (tb : Int32) : Met l yX2_seatsAt (ws_ yX2_seatsAt cX2_seatsAt 2 (some .int)) rmX2_seatsAt (pcR (dC, dI) [(cI, .int)] (pW cI ad P) [.ref (ad 0), .int tb]) (vp_Si (fun r => r = fX2_seatsAt P tb)) 0 0 (fun _ => False) := by
  refine Met.ofW (cc := cX2_seatsAt) (maxL := 2) (ret := (some .int)) (by decide) rfl ?_
  intro p e s m args below meth c s₁ B hml hv
  obtain ⟨ha, hP, hK, hn⟩ := hv
  have hx := B.exec
  have hb := B.bytes
  have hr := B.returns
  have hts0 := atoms_spec (ws := (ws_ yX2_seatsAt cX2_seatsAt 2 (some .int))) B.pre
  have hts : ∀ w ∈ lw_all, w.before args s = true := fun w h => hts0 w (List.mem_cons_of_mem _ h)
  have hown : s.vm.findClass RX2 = some m.cls := findClass_of_methodNamed B.named
  have hlocks := B.notSynchronized
  have htX2 : ∀ w ∈ wsX20, w.before args s = true := fun w h => hts w (wX2 w h)
  obtain ⟨Q, hQ⟩ : ∃ Q, Q = MQ below (vp_Si (fun r => r = fX2_seatsAt P tb)) args s 0 0 (fun _ => False) := ⟨_, rfl⟩
  rw [← hQ]
  have hl := lv_entry ([.ref (ad 0), .int tb]) (n := 2) (Nat.le_of_ble_eq_true rfl)
  rw [ha, lg_entry_eq, ← ha]
  generalize (lg_sl ([.ref (ad 0), .int tb]) ++ List.replicate (2 - (lg_sl ([.ref (ad 0), .int tb])).length) Slot.unset).toArray = ls at hl ⊢
  have hl : lv_has ls 2 [(0, .ref (ad 0)), (1, .int tb)] := hl
  show W p l e rmX2_seatsAt s m args below meth c s.heap [] 0 0 Q (F0 m 0 ls [])
  have hF : fX2_seatsAt P tb = fX2_seatsAt P tb := rfl
  refine lv_iload_n hx hb dX2_seatsAt_0 rfl (lv_at hl 1 rfl) ?_
  refine lv_if_lt (tgt := 22) hx hb dX2_seatsAt_1 (by decide) (fun c_1 => ?_) (fun c_1 => ?_)
  · have hF := hF.trans (if_pos c_1)
    refine lv_iconst (v := 0) hx hb dX2_seatsAt_22 (by decide) ?_
    rw [hQ]
    exact W.iret (v := 0) hx hb hr (fun t ht hW => ⟨0, rfl, hF.symm, ht⟩) (fun q hq => absurd hq List.not_mem_nil) dX2_seatsAt_23
  have hF := hF.trans (if_neg c_1)
  refine lv_iload_n hx hb dX2_seatsAt_4 rfl (lv_at hl 1 rfl) ?_
  refine lv_aload_n hx hb dX2_seatsAt_5 rfl (lv_at hl 0 rfl) ?_
  refine va_get (D := (dC, dI)) (ci := 2) (v := .ref (ad 6)) (C := RX2) (T := TX2) (N := 14) hx hb htX2 (fun _ h => h) hown hK hP 0 rfl rfl 5 (by decide) (hts _ u_62) (fun _ h9 => h9) rfl dX2_seatsAt_6 ?_
  refine va_alen (v := (nI 4)) hx hb hK hP 6 0 rfl rfl rfl dX2_seatsAt_9 ?_
  refine lv_icmp_ge (tgt := 22) hx hb dX2_seatsAt_10 (by decide) (fun c_10 => ?_) (fun c_10 => ?_)
  · have hF := hF.trans (if_pos c_10)
    refine lv_iconst (v := 0) hx hb dX2_seatsAt_22 (by decide) ?_
    rw [hQ]
    exact W.iret (v := 0) hx hb hr (fun t ht hW => ⟨0, rfl, hF.symm, ht⟩) (fun q hq => absurd hq List.not_mem_nil) dX2_seatsAt_23
  have hF := hF.trans (if_neg c_10)
  refine lv_aload_n hx hb dX2_seatsAt_13 rfl (lv_at hl 0 rfl) ?_
  refine va_get (D := (dC, dI)) (ci := 2) (v := .ref (ad 6)) (C := RX2) (T := TX2) (N := 14) hx hb htX2 (fun _ h => h) hown hK hP 0 rfl rfl 5 (by decide) (hts _ u_62) (fun _ h9 => h9) rfl dX2_seatsAt_14 ?_
  refine lv_iload_n hx hb dX2_seatsAt_17 rfl (lv_at hl 1 rfl) ?_
  refine va_iald hx hb hK hP 6 0 rfl rfl (vin (by decide) c_1 c_10) dX2_seatsAt_18 ?_
  refine lv_goto (tgt := 23) hx hb dX2_seatsAt_19 (by decide) ?_
  rw [hQ]
  exact W.iret (v := ((P 5) tb.toNatClampNeg)) hx hb hr (fun t ht hW => ⟨((P 5) tb.toNatClampNeg), rfl, hF.symm, ht⟩) (fun q hq => absurd hq List.not_mem_nil) dX2_seatsAt_23

def fX2_isSeat (P : PV) (tb : Int32) (z : Int32) : Int32 :=
  (if (fX2_isTable P tb) = 0 then 0 else (if z < 0 then 0 else (if (fX2_seatsAt P tb) ≤ z then 0 else 1)))
abbrev rmX2_isSeat : Room := { frames := 1, cells := 0, slots := 0, locals := 21 }
set_option maxHeartbeats 4000000 in
set_option maxRecDepth 100000 in
theorem mX2_isSeat (l : Launch) (dC : Nat → ClassId) (dI : Nat → Nat → Nat) (cI : ClassId) (ad : Nat → Nat) (P : PV) (tb : Int32) (z : Int32) : Met l yX2_isSeat (ws_ yX2_isSeat cX2_isSeat 3 (some .boolean)) rmX2_isSeat (pcR (dC, dI) [(cI, .int)] (pW cI ad P) [.ref (ad 0), .int tb, .int z]) (vp_Si (fun r => r = fX2_isSeat P tb z ∧ (r = 0 ∨ r = 1))) 0 0 (fun _ => False) := by
  refine Met.ofW (cc := cX2_isSeat) (maxL := 3) (ret := (some .boolean)) (by decide) rfl ?_
  intro p e s m args below meth c s₁ B hml hv
  obtain ⟨ha, hP, hK, hn⟩ := hv
  have hx := B.exec
  have hb := B.bytes
  have hr := B.returns
  have hts0 := atoms_spec (ws := (ws_ yX2_isSeat cX2_isSeat 3 (some .boolean))) B.pre
  have hts : ∀ w ∈ lw_all, w.before args s = true := fun w h => hts0 w (List.mem_cons_of_mem _ h)
  have hown : s.vm.findClass RX2 = some m.cls := findClass_of_methodNamed B.named
  have hlocks := B.notSynchronized
  obtain ⟨Q, hQ⟩ : ∃ Q, Q = MQ below (vp_Si (fun r => r = fX2_isSeat P tb z ∧ (r = 0 ∨ r = 1))) args s 0 0 (fun _ => False) := ⟨_, rfl⟩
  rw [← hQ]
  have hl := lv_entry ([.ref (ad 0), .int tb, .int z]) (n := 3) (Nat.le_of_ble_eq_true rfl)
  rw [ha, lg_entry_eq, ← ha]
  generalize (lg_sl ([.ref (ad 0), .int tb, .int z]) ++ List.replicate (3 - (lg_sl ([.ref (ad 0), .int tb, .int z])).length) Slot.unset).toArray = ls at hl ⊢
  have hl : lv_has ls 3 [(0, .ref (ad 0)), (1, .int tb), (2, .int z)] := hl
  show W p l e rmX2_isSeat s m args below meth c s.heap [] 0 0 Q (F0 m 0 ls [])
  have hF : fX2_isSeat P tb z = fX2_isSeat P tb z := rfl
  refine lv_aload_n hx hb dX2_isSeat_0 rfl (lv_at hl 0 rfl) ?_
  refine lv_iload_n hx hb dX2_isSeat_1 rfl (lv_at hl 1 rfl) ?_
  refine k_callb (W.runV (As := [.int tb]) (rest := []) ⟨hx, hb, hml, hown, hts0⟩ (mX2_isTable l dC dI cI ad P tb) (cwV 1 hts0 (gi_V u_617 u_400 u_401 u_2 u_402) rfl rfl rfl (by decide +kernel) ⟨Nat.le_of_ble_eq_true rfl, Nat.le_of_ble_eq_true rfl⟩) (pcR_V (ci := 2) (q0 := 0) hP hK hn rfl rfl) rfl rfl hl.1 rfl (lv_room (Nat.le_of_ble_eq_true rfl)) dX2_isSeat_2 ⟨Nat.zero_le _, Nat.zero_le _⟩) (fun br2 => ?_)
  refine lv_if_eq (tgt := 25) hx hb dX2_isSeat_5 (by decide) (fun c_5 => ?_) (fun c_5 => ?_)
  · have hF := hF.trans (if_pos c_5)
    refine lv_iconst (v := 0) hx hb dX2_isSeat_25 (by decide) ?_
    rw [hQ]
    exact W.zret (ty := .boolean) (v := 0) hx hb hr rfl (fun t ht hW => ⟨0, rfl, ⟨hF.symm, Or.inl rfl⟩, ht⟩) (fun q hq => absurd hq List.not_mem_nil) dX2_isSeat_26
  have hF := hF.trans (if_neg c_5)
  refine lv_iload_n hx hb dX2_isSeat_8 rfl (lv_at hl 2 rfl) ?_
  refine lv_if_lt (tgt := 25) hx hb dX2_isSeat_9 (by decide) (fun c_9 => ?_) (fun c_9 => ?_)
  · have hF := hF.trans (if_pos c_9)
    refine lv_iconst (v := 0) hx hb dX2_isSeat_25 (by decide) ?_
    rw [hQ]
    exact W.zret (ty := .boolean) (v := 0) hx hb hr rfl (fun t ht hW => ⟨0, rfl, ⟨hF.symm, Or.inl rfl⟩, ht⟩) (fun q hq => absurd hq List.not_mem_nil) dX2_isSeat_26
  have hF := hF.trans (if_neg c_9)
  refine lv_iload_n hx hb dX2_isSeat_12 rfl (lv_at hl 2 rfl) ?_
  refine lv_aload_n hx hb dX2_isSeat_13 rfl (lv_at hl 0 rfl) ?_
  refine lv_iload_n hx hb dX2_isSeat_14 rfl (lv_at hl 1 rfl) ?_
  refine k_calli (W.runV (As := [.int tb]) (rest := [.int z]) ⟨hx, hb, hml, hown, hts0⟩ (mX2_seatsAt l dC dI cI ad P tb) (cwV 1 hts0 (gi_V u_414 u_326 u_327 u_2 u_328) rfl rfl rfl (by decide +kernel) ⟨Nat.le_of_ble_eq_true rfl, Nat.le_of_ble_eq_true rfl⟩) (pcR_V (ci := 2) (q0 := 0) hP hK hn rfl rfl) rfl rfl hl.1 rfl (lv_room (Nat.le_of_ble_eq_true rfl)) dX2_isSeat_15 ⟨Nat.zero_le _, Nat.zero_le _⟩) ?_
  refine lv_icmp_ge (tgt := 25) hx hb dX2_isSeat_18 (by decide) (fun c_18 => ?_) (fun c_18 => ?_)
  · have hF := hF.trans (if_pos c_18)
    refine lv_iconst (v := 0) hx hb dX2_isSeat_25 (by decide) ?_
    rw [hQ]
    exact W.zret (ty := .boolean) (v := 0) hx hb hr rfl (fun t ht hW => ⟨0, rfl, ⟨hF.symm, Or.inl rfl⟩, ht⟩) (fun q hq => absurd hq List.not_mem_nil) dX2_isSeat_26
  have hF := hF.trans (if_neg c_18)
  refine lv_iconst (v := 1) hx hb dX2_isSeat_21 (by decide) ?_
  refine lv_goto (tgt := 26) hx hb dX2_isSeat_22 (by decide) ?_
  rw [hQ]
  exact W.zret (ty := .boolean) (v := 1) hx hb hr rfl (fun t ht hW => ⟨1, rfl, ⟨hF.symm, Or.inr rfl⟩, ht⟩) (fun q hq => absurd hq List.not_mem_nil) dX2_isSeat_26

def fX2_isAtLeg (z : Int32) : Int32 :=
  (if (z - z / 3 * 3) = 0 then 1 else 0)
abbrev rmX2_isAtLeg : Room := { frames := 0, cells := 0, slots := 0, locals := 0 }
set_option maxHeartbeats 4000000 in
set_option maxRecDepth 100000 in
theorem mX2_isAtLeg (l : Launch) (dC : Nat → ClassId) (dI : Nat → Nat → Nat)  (z : Int32) : Met l yX2_isAtLeg (ws_ yX2_isAtLeg cX2_isAtLeg 1 (some .boolean)) rmX2_isAtLeg (pcR (dC, dI) [] [] [.int z]) (vp_Si (fun r => r = fX2_isAtLeg z ∧ (r = 0 ∨ r = 1))) 0 0 (fun _ => False) := by
  refine Met.ofW (cc := cX2_isAtLeg) (maxL := 1) (ret := (some .boolean)) (by decide) rfl ?_
  intro p e s m args below meth c s₁ B hml hv
  obtain ⟨ha, hP, hK, hn⟩ := hv
  have hx := B.exec
  have hb := B.bytes
  have hr := B.returns
  have hts0 := atoms_spec (ws := (ws_ yX2_isAtLeg cX2_isAtLeg 1 (some .boolean))) B.pre
  have hts : ∀ w ∈ lw_all, w.before args s = true := fun w h => hts0 w (List.mem_cons_of_mem _ h)
  have hown : s.vm.findClass RX2 = some m.cls := findClass_of_methodNamed B.named
  have hlocks := B.notSynchronized
  obtain ⟨Q, hQ⟩ : ∃ Q, Q = MQ below (vp_Si (fun r => r = fX2_isAtLeg z ∧ (r = 0 ∨ r = 1))) args s 0 0 (fun _ => False) := ⟨_, rfl⟩
  rw [← hQ]
  have hl := lv_entry ([.int z]) (n := 1) (Nat.le_of_ble_eq_true rfl)
  rw [ha, lg_entry_eq, ← ha]
  generalize (lg_sl ([.int z]) ++ List.replicate (1 - (lg_sl ([.int z])).length) Slot.unset).toArray = ls at hl ⊢
  have hl : lv_has ls 1 [(0, .int z)] := hl
  show W p l e rmX2_isAtLeg s m args below meth c s.heap [] 0 0 Q (F0 m 0 ls [])
  have hF : fX2_isAtLeg z = fX2_isAtLeg z := rfl
  refine lv_iload_n hx hb dX2_isAtLeg_0 rfl (lv_at hl 0 rfl) ?_
  refine lv_iconst (v := 3) hx hb dX2_isAtLeg_1 (by decide) ?_
  refine lv_irem hx hb dX2_isAtLeg_2 (by decide) ?_
  refine lv_if_ne (tgt := 10) hx hb dX2_isAtLeg_3 (by decide) (fun c_3 => ?_) (fun c_3 => ?_)
  · have hF := hF.trans (if_neg c_3)
    refine lv_iconst (v := 0) hx hb dX2_isAtLeg_10 (by decide) ?_
    rw [hQ]
    exact W.zret (ty := .boolean) (v := 0) hx hb hr rfl (fun t ht hW => ⟨0, rfl, ⟨hF.symm, Or.inl rfl⟩, ht⟩) (fun q hq => absurd hq List.not_mem_nil) dX2_isAtLeg_11
  have hF := hF.trans (if_pos c_3)
  refine lv_iconst (v := 1) hx hb dX2_isAtLeg_6 (by decide) ?_
  refine lv_goto (tgt := 11) hx hb dX2_isAtLeg_7 (by decide) ?_
  rw [hQ]
  exact W.zret (ty := .boolean) (v := 1) hx hb hr rfl (fun t ht hW => ⟨1, rfl, ⟨hF.symm, Or.inr rfl⟩, ht⟩) (fun q hq => absurd hq List.not_mem_nil) dX2_isAtLeg_11

def fX2_isSitting (P : PV) (g : Int32) : Int32 :=
  (if (fX3_at 16 (P 3) g) = (-1) then 0 else 1)
abbrev rmX2_isSitting : Room := { frames := 1, cells := 0, slots := 0, locals := 21 }
set_option maxHeartbeats 4000000 in
set_option maxRecDepth 100000 in
theorem mX2_isSitting (l : Launch) (dC : Nat → ClassId) (dI : Nat → Nat → Nat) (cI : ClassId) (ad : Nat → Nat) (P : PV) (g : Int32) : Met l yX2_isSitting (ws_ yX2_isSitting cX2_isSitting 2 (some .boolean)) rmX2_isSitting (pcR (dC, dI) [(cI, .int)] (pW cI ad P) [.ref (ad 0), .int g]) (vp_Si (fun r => r = fX2_isSitting P g ∧ (r = 0 ∨ r = 1))) 0 0 (fun _ => False) := by
  refine Met.ofW (cc := cX2_isSitting) (maxL := 2) (ret := (some .boolean)) (by decide) rfl ?_
  intro p e s m args below meth c s₁ B hml hv
  obtain ⟨ha, hP, hK, hn⟩ := hv
  have hx := B.exec
  have hb := B.bytes
  have hr := B.returns
  have hts0 := atoms_spec (ws := (ws_ yX2_isSitting cX2_isSitting 2 (some .boolean))) B.pre
  have hts : ∀ w ∈ lw_all, w.before args s = true := fun w h => hts0 w (List.mem_cons_of_mem _ h)
  have hown : s.vm.findClass RX2 = some m.cls := findClass_of_methodNamed B.named
  have hlocks := B.notSynchronized
  have htX2 : ∀ w ∈ wsX20, w.before args s = true := fun w h => hts w (wX2 w h)
  obtain ⟨Q, hQ⟩ : ∃ Q, Q = MQ below (vp_Si (fun r => r = fX2_isSitting P g ∧ (r = 0 ∨ r = 1))) args s 0 0 (fun _ => False) := ⟨_, rfl⟩
  rw [← hQ]
  have hl := lv_entry ([.ref (ad 0), .int g]) (n := 2) (Nat.le_of_ble_eq_true rfl)
  rw [ha, lg_entry_eq, ← ha]
  generalize (lg_sl ([.ref (ad 0), .int g]) ++ List.replicate (2 - (lg_sl ([.ref (ad 0), .int g])).length) Slot.unset).toArray = ls at hl ⊢
  have hl : lv_has ls 2 [(0, .ref (ad 0)), (1, .int g)] := hl
  show W p l e rmX2_isSitting s m args below meth c s.heap [] 0 0 Q (F0 m 0 ls [])
  have hF : fX2_isSitting P g = fX2_isSitting P g := rfl
  refine lv_aload_n hx hb dX2_isSitting_0 rfl (lv_at hl 0 rfl) ?_
  refine va_get (D := (dC, dI)) (ci := 2) (v := .ref (ad 4)) (C := RX2) (T := TX2) (N := 14) hx hb htX2 (fun _ h => h) hown hK hP 0 rfl rfl 3 (by decide) (hts _ u_56) (fun _ h9 => h9) rfl dX2_isSitting_1 ?_
  refine lv_iload_n hx hb dX2_isSitting_4 rfl (lv_at hl 1 rfl) ?_
  refine k_calli (W.runS (As := [.ref (ad 4), .int g]) (rest := []) ⟨hx, hb, hml, hown, hts0⟩ (mX3_at l dC dI cI (ad 4) 16 (by decide) (P 3) g) (va_cwS 2 hts0 (gi_S u_302 u_303 u_7 u_304) rfl rfl rfl (by decide +kernel) ⟨Nat.le_of_ble_eq_true rfl, Nat.le_of_ble_eq_true rfl⟩) (pcR_S (hP.sub (ws' := aW cI (ad 4) 16 (P 3)) [4] rfl) hK hn) rfl rfl hl.1 rfl (lv_room (Nat.le_of_ble_eq_true rfl)) dX2_isSitting_5 ⟨Nat.zero_le _, Nat.zero_le _⟩) ?_
  refine lv_iconst (v := (-1)) hx hb dX2_isSitting_8 (by decide) ?_
  refine lv_icmp_eq (tgt := 16) hx hb dX2_isSitting_9 (by decide) (fun c_9 => ?_) (fun c_9 => ?_)
  · have hF := hF.trans (if_pos c_9)
    refine lv_iconst (v := 0) hx hb dX2_isSitting_16 (by decide) ?_
    rw [hQ]
    exact W.zret (ty := .boolean) (v := 0) hx hb hr rfl (fun t ht hW => ⟨0, rfl, ⟨hF.symm, Or.inl rfl⟩, ht⟩) (fun q hq => absurd hq List.not_mem_nil) dX2_isSitting_17
  have hF := hF.trans (if_neg c_9)
  refine lv_iconst (v := 1) hx hb dX2_isSitting_12 (by decide) ?_
  refine lv_goto (tgt := 17) hx hb dX2_isSitting_13 (by decide) ?_
  rw [hQ]
  exact W.zret (ty := .boolean) (v := 1) hx hb hr rfl (fun t ht hW => ⟨1, rfl, ⟨hF.symm, Or.inr rfl⟩, ht⟩) (fun q hq => absurd hq List.not_mem_nil) dX2_isSitting_17

def fX2_holderAt (P : PV) (tb : Int32) (z : Int32) : Int32 :=
  (if ((tb * 8) + z) < 0 then (-1) else (if (nI 32) ≤ ((tb * 8) + z) then (-1) else ((P 6) ((tb * 8) + z).toNatClampNeg)))
abbrev rmX2_holderAt : Room := { frames := 0, cells := 0, slots := 0, locals := 0 }
set_option maxHeartbeats 4000000 in
set_option maxRecDepth 100000 in
theorem mX2_holderAt (l : Launch) (dC : Nat → ClassId) (dI : Nat → Nat → Nat) (cI : ClassId) (ad : Nat → Nat) (P : PV) (tb : Int32) (z : Int32) : Met l yX2_holderAt (ws_ yX2_holderAt cX2_holderAt 4 (some .int)) rmX2_holderAt (pcR (dC, dI) [(cI, .int)] (pW cI ad P) [.ref (ad 0), .int tb, .int z]) (vp_Si (fun r => r = fX2_holderAt P tb z)) 0 0 (fun _ => False) := by
  refine Met.ofW (cc := cX2_holderAt) (maxL := 4) (ret := (some .int)) (by decide) rfl ?_
  intro p e s m args below meth c s₁ B hml hv
  obtain ⟨ha, hP, hK, hn⟩ := hv
  have hx := B.exec
  have hb := B.bytes
  have hr := B.returns
  have hts0 := atoms_spec (ws := (ws_ yX2_holderAt cX2_holderAt 4 (some .int))) B.pre
  have hts : ∀ w ∈ lw_all, w.before args s = true := fun w h => hts0 w (List.mem_cons_of_mem _ h)
  have hown : s.vm.findClass RX2 = some m.cls := findClass_of_methodNamed B.named
  have hlocks := B.notSynchronized
  have htX2 : ∀ w ∈ wsX20, w.before args s = true := fun w h => hts w (wX2 w h)
  obtain ⟨Q, hQ⟩ : ∃ Q, Q = MQ below (vp_Si (fun r => r = fX2_holderAt P tb z)) args s 0 0 (fun _ => False) := ⟨_, rfl⟩
  rw [← hQ]
  have hl := lv_entry ([.ref (ad 0), .int tb, .int z]) (n := 4) (Nat.le_of_ble_eq_true rfl)
  rw [ha, lg_entry_eq, ← ha]
  generalize (lg_sl ([.ref (ad 0), .int tb, .int z]) ++ List.replicate (4 - (lg_sl ([.ref (ad 0), .int tb, .int z])).length) Slot.unset).toArray = ls at hl ⊢
  have hl : lv_has ls 4 [(0, .ref (ad 0)), (1, .int tb), (2, .int z)] := hl
  show W p l e rmX2_holderAt s m args below meth c s.heap [] 0 0 Q (F0 m 0 ls [])
  have hF : fX2_holderAt P tb z = fX2_holderAt P tb z := rfl
  refine lv_iload_n hx hb dX2_holderAt_0 rfl (lv_at hl 1 rfl) ?_
  refine lv_bipush (v := 8) hx hb dX2_holderAt_1 (by decide) ?_
  refine lv_imul hx hb dX2_holderAt_3 ?_
  refine lv_iload_n hx hb dX2_holderAt_4 rfl (lv_at hl 2 rfl) ?_
  refine lv_iadd hx hb dX2_holderAt_5 ?_
  refine lv_istore_n (lv' := [(3, .int ((tb * 8) + z)), (0, .ref (ad 0)), (1, .int tb), (2, .int z)]) hx hb dX2_holderAt_6 rfl hl (by decide) rfl (fun ls hl => ?_)
  refine lv_iload_n hx hb dX2_holderAt_7 rfl (lv_at hl 0 rfl) ?_
  refine lv_if_lt (tgt := 29) hx hb dX2_holderAt_8 (by decide) (fun c_8 => ?_) (fun c_8 => ?_)
  · have hF := hF.trans (if_pos c_8)
    refine lv_iconst (v := (-1)) hx hb dX2_holderAt_29 (by decide) ?_
    rw [hQ]
    exact W.iret (v := (-1)) hx hb hr (fun t ht hW => ⟨(-1), rfl, hF.symm, ht⟩) (fun q hq => absurd hq List.not_mem_nil) dX2_holderAt_30
  have hF := hF.trans (if_neg c_8)
  refine lv_iload_n hx hb dX2_holderAt_11 rfl (lv_at hl 0 rfl) ?_
  refine lv_aload_n hx hb dX2_holderAt_12 rfl (lv_at hl 1 rfl) ?_
  refine va_get (D := (dC, dI)) (ci := 2) (v := .ref (ad 7)) (C := RX2) (T := TX2) (N := 14) hx hb htX2 (fun _ h => h) hown hK hP 0 rfl rfl 6 (by decide) (hts _ u_63) (fun _ h9 => h9) rfl dX2_holderAt_13 ?_
  refine va_alen (v := (nI 32)) hx hb hK hP 7 0 rfl rfl rfl dX2_holderAt_16 ?_
  refine lv_icmp_ge (tgt := 29) hx hb dX2_holderAt_17 (by decide) (fun c_17 => ?_) (fun c_17 => ?_)
  · have hF := hF.trans (if_pos c_17)
    refine lv_iconst (v := (-1)) hx hb dX2_holderAt_29 (by decide) ?_
    rw [hQ]
    exact W.iret (v := (-1)) hx hb hr (fun t ht hW => ⟨(-1), rfl, hF.symm, ht⟩) (fun q hq => absurd hq List.not_mem_nil) dX2_holderAt_30
  have hF := hF.trans (if_neg c_17)
  refine lv_aload_n hx hb dX2_holderAt_20 rfl (lv_at hl 1 rfl) ?_
  refine va_get (D := (dC, dI)) (ci := 2) (v := .ref (ad 7)) (C := RX2) (T := TX2) (N := 14) hx hb htX2 (fun _ h => h) hown hK hP 0 rfl rfl 6 (by decide) (hts _ u_63) (fun _ h9 => h9) rfl dX2_holderAt_21 ?_
  refine lv_iload_n hx hb dX2_holderAt_24 rfl (lv_at hl 0 rfl) ?_
  refine va_iald hx hb hK hP 7 0 rfl rfl (vin (by decide) c_8 c_17) dX2_holderAt_25 ?_
  refine lv_goto (tgt := 30) hx hb dX2_holderAt_26 (by decide) ?_
  rw [hQ]
  exact W.iret (v := ((P 6) ((tb * 8) + z).toNatClampNeg)) hx hb hr (fun t ht hW => ⟨((P 6) ((tb * 8) + z).toNatClampNeg), rfl, hF.symm, ht⟩) (fun q hq => absurd hq List.not_mem_nil) dX2_holderAt_30

def fX2_sittingAt_b4 (P : PV) (tb : Int32) (kk4 : Nat) (x4_2 : Int32) (nextkk4 : Int32 → Int32) : Int32 :=
  (bd ((if (fX2_holderAt P tb (nI kk4)) = (-1) then x4_2 else (x4_2 + 1)) : Int32) (fun v20_0 => (nextkk4 v20_0)))
def fX2_sittingAt_r4 (x4_2 : Int32) : Int32 :=
  x4_2
def fX2_sittingAt (P : PV) (tb : Int32) : Int32 :=
  (lq1 (fX2_sittingAt_b4 P tb) fX2_sittingAt_r4 ((fX2_seatsAt P tb).toNatClampNeg) 0 0)
abbrev rmX2_sittingAt : Room := { frames := 1, cells := 0, slots := 0, locals := 23 }
set_option maxHeartbeats 4000000 in
set_option maxRecDepth 100000 in
theorem mX2_sittingAt (l : Launch) (dC : Nat → ClassId) (dI : Nat → Nat → Nat) (cI : ClassId) (ad : Nat → Nat) (P : PV) (tb : Int32) : Met l yX2_sittingAt (ws_ yX2_sittingAt cX2_sittingAt 4 (some .int)) rmX2_sittingAt (pcR (dC, dI) [(cI, .int)] (pW cI ad P) [.ref (ad 0), .int tb]) (vp_Si (fun r => r = fX2_sittingAt P tb)) 0 0 (fun _ => False) := by
  refine Met.ofW (cc := cX2_sittingAt) (maxL := 4) (ret := (some .int)) (by decide) rfl ?_
  intro p e s m args below meth c s₁ B hml hv
  obtain ⟨ha, hP, hK, hn⟩ := hv
  have hx := B.exec
  have hb := B.bytes
  have hr := B.returns
  have hts0 := atoms_spec (ws := (ws_ yX2_sittingAt cX2_sittingAt 4 (some .int))) B.pre
  have hts : ∀ w ∈ lw_all, w.before args s = true := fun w h => hts0 w (List.mem_cons_of_mem _ h)
  have hown : s.vm.findClass RX2 = some m.cls := findClass_of_methodNamed B.named
  have hlocks := B.notSynchronized
  obtain ⟨Q, hQ⟩ : ∃ Q, Q = MQ below (vp_Si (fun r => r = fX2_sittingAt P tb)) args s 0 0 (fun _ => False) := ⟨_, rfl⟩
  rw [← hQ]
  have hl := lv_entry ([.ref (ad 0), .int tb]) (n := 4) (Nat.le_of_ble_eq_true rfl)
  rw [ha, lg_entry_eq, ← ha]
  generalize (lg_sl ([.ref (ad 0), .int tb]) ++ List.replicate (4 - (lg_sl ([.ref (ad 0), .int tb])).length) Slot.unset).toArray = ls at hl ⊢
  have hl : lv_has ls 4 [(0, .ref (ad 0)), (1, .int tb)] := hl
  show W p l e rmX2_sittingAt s m args below meth c s.heap [] 0 0 Q (F0 m 0 ls [])
  have hF : fX2_sittingAt P tb = fX2_sittingAt P tb := rfl
  refine lv_iconst (v := 0) hx hb dX2_sittingAt_0 (by decide) ?_
  refine lv_istore_n (lv' := [(2, .int 0), (0, .ref (ad 0)), (1, .int tb)]) hx hb dX2_sittingAt_1 rfl hl (by decide) rfl (fun ls hl => ?_)
  refine lv_iconst (v := 0) hx hb dX2_sittingAt_2 (by decide) ?_
  refine lv_istore_n (lv' := [(3, .int 0), (2, .int 0), (0, .ref (ad 0)), (1, .int tb)]) hx hb dX2_sittingAt_3 rfl hl (by decide) rfl (fun ls hl => ?_)
  have L4 : ∀ (jj4 kk4 : Nat) (x4_2 : Int32), kk4 + jj4 = ((fX2_seatsAt P tb).toNatClampNeg) → fX2_sittingAt P tb = lq1 (fX2_sittingAt_b4 P tb) fX2_sittingAt_r4 jj4 kk4 x4_2 → ∀ (ls : Array Slot), lv_has ls 4 [(3, .int (nI kk4)), (2, .int x4_2), (0, .ref (ad 0)), (1, .int tb)] → W p l e rmX2_sittingAt s m args below meth c s.heap [] 0 0 Q (F0 m 4 ls []) := by
    intro jj4
    induction jj4 using Nat.strongRecOn with
    | _ jj4 ihkk4 =>
      intro kk4 x4_2 hkkk4 hF  ls hl
      refine lv_iload_n hx hb dX2_sittingAt_4 rfl (lv_at hl 0 rfl) ?_
      refine lv_aload_n hx hb dX2_sittingAt_5 rfl (lv_at hl 2 rfl) ?_
      refine lv_iload_n hx hb dX2_sittingAt_6 rfl (lv_at hl 3 rfl) ?_
      refine k_calli (W.runV (As := [.int tb]) (rest := [.int (nI kk4)]) ⟨hx, hb, hml, hown, hts0⟩ (mX2_seatsAt l dC dI cI ad P tb) (cwV 1 hts0 (gi_V u_414 u_326 u_327 u_2 u_328) rfl rfl rfl (by decide +kernel) ⟨Nat.le_of_ble_eq_true rfl, Nat.le_of_ble_eq_true rfl⟩) (pcR_V (ci := 2) (q0 := 0) hP hK hn rfl rfl) rfl rfl hl.1 rfl (lv_room (Nat.le_of_ble_eq_true rfl)) dX2_sittingAt_7 ⟨Nat.zero_le _, Nat.zero_le _⟩) ?_
      refine lv_icmp_ge (tgt := 32) hx hb dX2_sittingAt_10 (by decide) (fun c_10 => ?_) (fun c_10 => ?_)
      · obtain rfl := cn_exit hkkk4 c_10
        have hF := hF.trans (lq1_z _ _ _ _)
        refine lv_iload_n hx hb dX2_sittingAt_32 rfl (lv_at hl 1 rfl) ?_
        rw [hQ]
        exact W.iret (v := x4_2) hx hb hr (fun t ht hW => ⟨x4_2, rfl, hF.symm, ht⟩) (fun q hq => absurd hq List.not_mem_nil) dX2_sittingAt_33
      obtain ⟨jj4, rfl⟩ := cn_go hkkk4 c_10
      have hF := hF.trans (lq1_s _ _ _ _ _)
      obtain ⟨nextkk4, hnextkk4⟩ : ∃ y9, y9 = lq1 (fX2_sittingAt_b4 P tb) fX2_sittingAt_r4 jj4 (kk4 + 1) := ⟨_, rfl⟩
      rw [← hnextkk4] at hF
      refine lv_aload_n hx hb dX2_sittingAt_13 rfl (lv_at hl 2 rfl) ?_
      refine lv_iload_n hx hb dX2_sittingAt_14 rfl (lv_at hl 3 rfl) ?_
      refine lv_iload_n hx hb dX2_sittingAt_15 rfl (lv_at hl 0 rfl) ?_
      refine k_calli (W.runV (As := [.int tb, .int (nI kk4)]) (rest := []) ⟨hx, hb, hml, hown, hts0⟩ (mX2_holderAt l dC dI cI ad P tb (nI kk4)) (cwV 2 hts0 (gi_V u_415 u_339 u_340 u_2 u_341) rfl rfl rfl (by decide +kernel) ⟨Nat.le_of_ble_eq_true rfl, Nat.le_of_ble_eq_true rfl⟩) (pcR_V (ci := 2) (q0 := 0) hP hK hn rfl rfl) rfl rfl hl.1 rfl (lv_room (Nat.le_of_ble_eq_true rfl)) dX2_sittingAt_16 ⟨Nat.zero_le _, Nat.zero_le _⟩) ?_
      refine lv_iconst (v := (-1)) hx hb dX2_sittingAt_19 (by decide) ?_
      have K20 : ∀ (v20_0 : Int32), v20_0 = (if (fX2_holderAt P tb (nI kk4)) = (-1) then x4_2 else (x4_2 + 1)) → ∀ (ls : Array Slot), lv_has ls 4 [(3, .int (nI kk4)), (2, .int v20_0), (0, .ref (ad 0)), (1, .int tb)] → W p l e rmX2_sittingAt s m args below meth c s.heap [] 0 0 Q (F0 m 26 ls []) := by
        intro v20_0 hz20  ls hl
        have hz := hz20
        have hF := bd_at hF hz
        refine lv_iinc (v := (nI (kk4 + 1))) (lv' := [(3, .int (nI (kk4 + 1))), (2, .int v20_0), (0, .ref (ad 0)), (1, .int tb)]) hx hb dX2_sittingAt_26 hl (k := 0) rfl (nI_1 _) (by decide) rfl (fun ls hl => ?_)
        refine lv_goto (tgt := 4) hx hb dX2_sittingAt_29 (by decide) ?_
        have hF : fX2_sittingAt P tb = nextkk4 v20_0 := hF
        rw [hnextkk4] at hF
        exact ihkk4 jj4 (Nat.lt_succ_self _) (kk4 + 1) v20_0 (cn_next hkkk4) hF ls (lv_sub hl [0, 1, 2, 3] rfl)
      have hF : ((if (fX2_holderAt P tb (nI kk4)) = (-1) then x4_2 else (x4_2 + 1)) : Int32) = (if (fX2_holderAt P tb (nI kk4)) = (-1) then x4_2 else (x4_2 + 1)) := rfl
      refine lv_icmp_eq (tgt := 26) hx hb dX2_sittingAt_20 (by decide) (fun c_20 => ?_) (fun c_20 => ?_)
      · have hF := hF.trans (if_pos c_20)
        exact K20 _ hF.symm  ls (lv_sub hl [0, 1, 2, 3] rfl)
      have hF := hF.trans (if_neg c_20)
      refine lv_iinc (v := (x4_2 + 1)) (lv' := [(2, .int (x4_2 + 1)), (3, .int (nI kk4)), (0, .ref (ad 0)), (1, .int tb)]) hx hb dX2_sittingAt_23 hl (k := 1) rfl rfl (by decide) rfl (fun ls hl => ?_)
      exact K20 _ hF.symm  ls (lv_sub hl [1, 0, 2, 3] rfl)
  exact L4 ((fX2_seatsAt P tb).toNatClampNeg) 0 0 (Nat.zero_add _) hF ls (lv_sub hl [0, 1, 2, 3] rfl)

def fX2_easySeatsFree_b4 (P : PV) (tb : Int32) (kk4 : Nat) (x4_2 : Int32) (nextkk4 : Int32 → Int32) : Int32 :=
  (bd ((if (fX2_holderAt P tb (nI kk4)) = (-1) then (if (fX2_isAtLeg (nI kk4)) = 0 then (x4_2 + 1) else x4_2) else x4_2) : Int32) (fun v20_0 => (nextkk4 v20_0)))
def fX2_easySeatsFree_r4 (x4_2 : Int32) : Int32 :=
  x4_2
def fX2_easySeatsFree (P : PV) (tb : Int32) : Int32 :=
  (lq1 (fX2_easySeatsFree_b4 P tb) fX2_easySeatsFree_r4 ((fX2_seatsAt P tb).toNatClampNeg) 0 0)
abbrev rmX2_easySeatsFree : Room := { frames := 1, cells := 0, slots := 0, locals := 23 }
set_option maxHeartbeats 4000000 in
set_option maxRecDepth 100000 in
theorem mX2_easySeatsFree (l : Launch) (dC : Nat → ClassId) (dI : Nat → Nat → Nat) (cI : ClassId) (ad : Nat → Nat) (P : PV) (tb : Int32) : Met l yX2_easySeatsFree (ws_ yX2_easySeatsFree cX2_easySeatsFree 4 (some .int)) rmX2_easySeatsFree (pcR (dC, dI) [(cI, .int)] (pW cI ad P) [.ref (ad 0), .int tb]) (vp_Si (fun r => r = fX2_easySeatsFree P tb)) 0 0 (fun _ => False) := by
  refine Met.ofW (cc := cX2_easySeatsFree) (maxL := 4) (ret := (some .int)) (by decide) rfl ?_
  intro p e s m args below meth c s₁ B hml hv
  obtain ⟨ha, hP, hK, hn⟩ := hv
  have hx := B.exec
  have hb := B.bytes
  have hr := B.returns
  have hts0 := atoms_spec (ws := (ws_ yX2_easySeatsFree cX2_easySeatsFree 4 (some .int))) B.pre
  have hts : ∀ w ∈ lw_all, w.before args s = true := fun w h => hts0 w (List.mem_cons_of_mem _ h)
  have hown : s.vm.findClass RX2 = some m.cls := findClass_of_methodNamed B.named
  have hlocks := B.notSynchronized
  obtain ⟨Q, hQ⟩ : ∃ Q, Q = MQ below (vp_Si (fun r => r = fX2_easySeatsFree P tb)) args s 0 0 (fun _ => False) := ⟨_, rfl⟩
  rw [← hQ]
  have hl := lv_entry ([.ref (ad 0), .int tb]) (n := 4) (Nat.le_of_ble_eq_true rfl)
  rw [ha, lg_entry_eq, ← ha]
  generalize (lg_sl ([.ref (ad 0), .int tb]) ++ List.replicate (4 - (lg_sl ([.ref (ad 0), .int tb])).length) Slot.unset).toArray = ls at hl ⊢
  have hl : lv_has ls 4 [(0, .ref (ad 0)), (1, .int tb)] := hl
  show W p l e rmX2_easySeatsFree s m args below meth c s.heap [] 0 0 Q (F0 m 0 ls [])
  have hF : fX2_easySeatsFree P tb = fX2_easySeatsFree P tb := rfl
  refine lv_iconst (v := 0) hx hb dX2_easySeatsFree_0 (by decide) ?_
  refine lv_istore_n (lv' := [(2, .int 0), (0, .ref (ad 0)), (1, .int tb)]) hx hb dX2_easySeatsFree_1 rfl hl (by decide) rfl (fun ls hl => ?_)
  refine lv_iconst (v := 0) hx hb dX2_easySeatsFree_2 (by decide) ?_
  refine lv_istore_n (lv' := [(3, .int 0), (2, .int 0), (0, .ref (ad 0)), (1, .int tb)]) hx hb dX2_easySeatsFree_3 rfl hl (by decide) rfl (fun ls hl => ?_)
  have L4 : ∀ (jj4 kk4 : Nat) (x4_2 : Int32), kk4 + jj4 = ((fX2_seatsAt P tb).toNatClampNeg) → fX2_easySeatsFree P tb = lq1 (fX2_easySeatsFree_b4 P tb) fX2_easySeatsFree_r4 jj4 kk4 x4_2 → ∀ (ls : Array Slot), lv_has ls 4 [(3, .int (nI kk4)), (2, .int x4_2), (0, .ref (ad 0)), (1, .int tb)] → W p l e rmX2_easySeatsFree s m args below meth c s.heap [] 0 0 Q (F0 m 4 ls []) := by
    intro jj4
    induction jj4 using Nat.strongRecOn with
    | _ jj4 ihkk4 =>
      intro kk4 x4_2 hkkk4 hF  ls hl
      refine lv_iload_n hx hb dX2_easySeatsFree_4 rfl (lv_at hl 0 rfl) ?_
      refine lv_aload_n hx hb dX2_easySeatsFree_5 rfl (lv_at hl 2 rfl) ?_
      refine lv_iload_n hx hb dX2_easySeatsFree_6 rfl (lv_at hl 3 rfl) ?_
      refine k_calli (W.runV (As := [.int tb]) (rest := [.int (nI kk4)]) ⟨hx, hb, hml, hown, hts0⟩ (mX2_seatsAt l dC dI cI ad P tb) (cwV 1 hts0 (gi_V u_414 u_326 u_327 u_2 u_328) rfl rfl rfl (by decide +kernel) ⟨Nat.le_of_ble_eq_true rfl, Nat.le_of_ble_eq_true rfl⟩) (pcR_V (ci := 2) (q0 := 0) hP hK hn rfl rfl) rfl rfl hl.1 rfl (lv_room (Nat.le_of_ble_eq_true rfl)) dX2_easySeatsFree_7 ⟨Nat.zero_le _, Nat.zero_le _⟩) ?_
      refine lv_icmp_ge (tgt := 39) hx hb dX2_easySeatsFree_10 (by decide) (fun c_10 => ?_) (fun c_10 => ?_)
      · obtain rfl := cn_exit hkkk4 c_10
        have hF := hF.trans (lq1_z _ _ _ _)
        refine lv_iload_n hx hb dX2_easySeatsFree_39 rfl (lv_at hl 1 rfl) ?_
        rw [hQ]
        exact W.iret (v := x4_2) hx hb hr (fun t ht hW => ⟨x4_2, rfl, hF.symm, ht⟩) (fun q hq => absurd hq List.not_mem_nil) dX2_easySeatsFree_40
      obtain ⟨jj4, rfl⟩ := cn_go hkkk4 c_10
      have hF := hF.trans (lq1_s _ _ _ _ _)
      obtain ⟨nextkk4, hnextkk4⟩ : ∃ y9, y9 = lq1 (fX2_easySeatsFree_b4 P tb) fX2_easySeatsFree_r4 jj4 (kk4 + 1) := ⟨_, rfl⟩
      rw [← hnextkk4] at hF
      refine lv_aload_n hx hb dX2_easySeatsFree_13 rfl (lv_at hl 2 rfl) ?_
      refine lv_iload_n hx hb dX2_easySeatsFree_14 rfl (lv_at hl 3 rfl) ?_
      refine lv_iload_n hx hb dX2_easySeatsFree_15 rfl (lv_at hl 0 rfl) ?_
      refine k_calli (W.runV (As := [.int tb, .int (nI kk4)]) (rest := []) ⟨hx, hb, hml, hown, hts0⟩ (mX2_holderAt l dC dI cI ad P tb (nI kk4)) (cwV 2 hts0 (gi_V u_415 u_339 u_340 u_2 u_341) rfl rfl rfl (by decide +kernel) ⟨Nat.le_of_ble_eq_true rfl, Nat.le_of_ble_eq_true rfl⟩) (pcR_V (ci := 2) (q0 := 0) hP hK hn rfl rfl) rfl rfl hl.1 rfl (lv_room (Nat.le_of_ble_eq_true rfl)) dX2_easySeatsFree_16 ⟨Nat.zero_le _, Nat.zero_le _⟩) ?_
      refine lv_iconst (v := (-1)) hx hb dX2_easySeatsFree_19 (by decide) ?_
      have K20 : ∀ (v20_0 : Int32), v20_0 = (if (fX2_holderAt P tb (nI kk4)) = (-1) then (if (fX2_isAtLeg (nI kk4)) = 0 then (x4_2 + 1) else x4_2) else x4_2) → ∀ (ls : Array Slot), lv_has ls 4 [(3, .int (nI kk4)), (2, .int v20_0), (0, .ref (ad 0)), (1, .int tb)] → W p l e rmX2_easySeatsFree s m args below meth c s.heap [] 0 0 Q (F0 m 33 ls []) := by
        intro v20_0 hz20  ls hl
        have hz := hz20
        have hF := bd_at hF hz
        refine lv_iinc (v := (nI (kk4 + 1))) (lv' := [(3, .int (nI (kk4 + 1))), (2, .int v20_0), (0, .ref (ad 0)), (1, .int tb)]) hx hb dX2_easySeatsFree_33 hl (k := 0) rfl (nI_1 _) (by decide) rfl (fun ls hl => ?_)
        refine lv_goto (tgt := 4) hx hb dX2_easySeatsFree_36 (by decide) ?_
        have hF : fX2_easySeatsFree P tb = nextkk4 v20_0 := hF
        rw [hnextkk4] at hF
        exact ihkk4 jj4 (Nat.lt_succ_self _) (kk4 + 1) v20_0 (cn_next hkkk4) hF ls (lv_sub hl [0, 1, 2, 3] rfl)
      have hF : ((if (fX2_holderAt P tb (nI kk4)) = (-1) then (if (fX2_isAtLeg (nI kk4)) = 0 then (x4_2 + 1) else x4_2) else x4_2) : Int32) = (if (fX2_holderAt P tb (nI kk4)) = (-1) then (if (fX2_isAtLeg (nI kk4)) = 0 then (x4_2 + 1) else x4_2) else x4_2) := rfl
      refine lv_icmp_ne (tgt := 33) hx hb dX2_easySeatsFree_20 (by decide) (fun c_20 => ?_) (fun c_20 => ?_)
      · have hF := hF.trans (if_neg c_20)
        exact K20 _ hF.symm  ls (lv_sub hl [0, 1, 2, 3] rfl)
      have hF := hF.trans (if_pos c_20)
      refine lv_iload_n hx hb dX2_easySeatsFree_23 rfl (lv_at hl 0 rfl) ?_
      refine k_callb (W.runS (As := [.int (nI kk4)]) (rest := []) ⟨hx, hb, hml, hown, hts0⟩ (mX2_isAtLeg l dC dI  (nI kk4)) (va_cwS 1 hts0 (gi_S u_425 u_310 u_2 u_311) rfl rfl rfl (by decide +kernel) ⟨Nat.le_of_ble_eq_true rfl, Nat.le_of_ble_eq_true rfl⟩) (pcR_S (hP.sub (ws' := []) [] rfl) (hK.sub (tys' := []) [] rfl) hn) rfl rfl hl.1 rfl (lv_room (Nat.le_of_ble_eq_true rfl)) dX2_easySeatsFree_24 ⟨Nat.zero_le _, Nat.zero_le _⟩) (fun br24 => ?_)
      refine lv_if_ne (tgt := 33) hx hb dX2_easySeatsFree_27 (by decide) (fun c_27 => ?_) (fun c_27 => ?_)
      · have hF := hF.trans (if_neg c_27)
        exact K20 _ hF.symm  ls (lv_sub hl [0, 1, 2, 3] rfl)
      have hF := hF.trans (if_pos c_27)
      refine lv_iinc (v := (x4_2 + 1)) (lv' := [(2, .int (x4_2 + 1)), (3, .int (nI kk4)), (0, .ref (ad 0)), (1, .int tb)]) hx hb dX2_easySeatsFree_30 hl (k := 1) rfl rfl (by decide) rfl (fun ls hl => ?_)
      exact K20 _ hF.symm  ls (lv_sub hl [1, 0, 2, 3] rfl)
  exact L4 ((fX2_seatsAt P tb).toNatClampNeg) 0 0 (Nat.zero_add _) hF ls (lv_sub hl [0, 1, 2, 3] rfl)

def fX2_familyMask_b4 (P : PV) (tb : Int32) (kk4 : Nat) (x4_2 : Int32) (nextkk4 : Int32 → Int32) : Int32 :=
  (bd ((if (fX2_holderAt P tb (nI kk4)) = (-1) then x4_2 else (x4_2 ||| (1 <<< ((fX3_at 16 (P 0) (fX2_holderAt P tb (nI kk4))) &&& 31)))) : Int32) (fun v24_0 => (nextkk4 v24_0)))
def fX2_familyMask_r4 (x4_2 : Int32) : Int32 :=
  x4_2
def fX2_familyMask (P : PV) (tb : Int32) : Int32 :=
  (lq1 (fX2_familyMask_b4 P tb) fX2_familyMask_r4 ((fX2_seatsAt P tb).toNatClampNeg) 0 0)
abbrev rmX2_familyMask : Room := { frames := 1, cells := 0, slots := 0, locals := 23 }
set_option maxHeartbeats 4000000 in
set_option maxRecDepth 100000 in
theorem mX2_familyMask (l : Launch) (dC : Nat → ClassId) (dI : Nat → Nat → Nat) (cI : ClassId) (ad : Nat → Nat) (P : PV) (tb : Int32) : Met l yX2_familyMask (ws_ yX2_familyMask cX2_familyMask 5 (some .int)) rmX2_familyMask (pcR (dC, dI) [(cI, .int)] (pW cI ad P) [.ref (ad 0), .int tb]) (vp_Si (fun r => r = fX2_familyMask P tb)) 0 0 (fun _ => False) := by
  refine Met.ofW (cc := cX2_familyMask) (maxL := 5) (ret := (some .int)) (by decide) rfl ?_
  intro p e s m args below meth c s₁ B hml hv
  obtain ⟨ha, hP, hK, hn⟩ := hv
  have hx := B.exec
  have hb := B.bytes
  have hr := B.returns
  have hts0 := atoms_spec (ws := (ws_ yX2_familyMask cX2_familyMask 5 (some .int))) B.pre
  have hts : ∀ w ∈ lw_all, w.before args s = true := fun w h => hts0 w (List.mem_cons_of_mem _ h)
  have hown : s.vm.findClass RX2 = some m.cls := findClass_of_methodNamed B.named
  have hlocks := B.notSynchronized
  have htX2 : ∀ w ∈ wsX20, w.before args s = true := fun w h => hts w (wX2 w h)
  obtain ⟨Q, hQ⟩ : ∃ Q, Q = MQ below (vp_Si (fun r => r = fX2_familyMask P tb)) args s 0 0 (fun _ => False) := ⟨_, rfl⟩
  rw [← hQ]
  have hl := lv_entry ([.ref (ad 0), .int tb]) (n := 5) (Nat.le_of_ble_eq_true rfl)
  rw [ha, lg_entry_eq, ← ha]
  generalize (lg_sl ([.ref (ad 0), .int tb]) ++ List.replicate (5 - (lg_sl ([.ref (ad 0), .int tb])).length) Slot.unset).toArray = ls at hl ⊢
  have hl : lv_has ls 5 [(0, .ref (ad 0)), (1, .int tb)] := hl
  show W p l e rmX2_familyMask s m args below meth c s.heap [] 0 0 Q (F0 m 0 ls [])
  have hF : fX2_familyMask P tb = fX2_familyMask P tb := rfl
  refine lv_iconst (v := 0) hx hb dX2_familyMask_0 (by decide) ?_
  refine lv_istore_n (lv' := [(2, .int 0), (0, .ref (ad 0)), (1, .int tb)]) hx hb dX2_familyMask_1 rfl hl (by decide) rfl (fun ls hl => ?_)
  refine lv_iconst (v := 0) hx hb dX2_familyMask_2 (by decide) ?_
  refine lv_istore_n (lv' := [(3, .int 0), (2, .int 0), (0, .ref (ad 0)), (1, .int tb)]) hx hb dX2_familyMask_3 rfl hl (by decide) rfl (fun ls hl => ?_)
  have L4 : ∀ (jj4 kk4 : Nat) (x4_2 : Int32), kk4 + jj4 = ((fX2_seatsAt P tb).toNatClampNeg) → fX2_familyMask P tb = lq1 (fX2_familyMask_b4 P tb) fX2_familyMask_r4 jj4 kk4 x4_2 → ∀ (ls : Array Slot), lv_has ls 5 [(3, .int (nI kk4)), (2, .int x4_2), (0, .ref (ad 0)), (1, .int tb)] → W p l e rmX2_familyMask s m args below meth c s.heap [] 0 0 Q (F0 m 4 ls []) := by
    intro jj4
    induction jj4 using Nat.strongRecOn with
    | _ jj4 ihkk4 =>
      intro kk4 x4_2 hkkk4 hF  ls hl
      refine lv_iload_n hx hb dX2_familyMask_4 rfl (lv_at hl 0 rfl) ?_
      refine lv_aload_n hx hb dX2_familyMask_5 rfl (lv_at hl 2 rfl) ?_
      refine lv_iload_n hx hb dX2_familyMask_6 rfl (lv_at hl 3 rfl) ?_
      refine k_calli (W.runV (As := [.int tb]) (rest := [.int (nI kk4)]) ⟨hx, hb, hml, hown, hts0⟩ (mX2_seatsAt l dC dI cI ad P tb) (cwV 1 hts0 (gi_V u_414 u_326 u_327 u_2 u_328) rfl rfl rfl (by decide +kernel) ⟨Nat.le_of_ble_eq_true rfl, Nat.le_of_ble_eq_true rfl⟩) (pcR_V (ci := 2) (q0 := 0) hP hK hn rfl rfl) rfl rfl hl.1 rfl (lv_room (Nat.le_of_ble_eq_true rfl)) dX2_familyMask_7 ⟨Nat.zero_le _, Nat.zero_le _⟩) ?_
      refine lv_icmp_ge (tgt := 47) hx hb dX2_familyMask_10 (by decide) (fun c_10 => ?_) (fun c_10 => ?_)
      · obtain rfl := cn_exit hkkk4 c_10
        have hF := hF.trans (lq1_z _ _ _ _)
        refine lv_iload_n hx hb dX2_familyMask_47 rfl (lv_at hl 1 rfl) ?_
        rw [hQ]
        exact W.iret (v := x4_2) hx hb hr (fun t ht hW => ⟨x4_2, rfl, hF.symm, ht⟩) (fun q hq => absurd hq List.not_mem_nil) dX2_familyMask_48
      obtain ⟨jj4, rfl⟩ := cn_go hkkk4 c_10
      have hF := hF.trans (lq1_s _ _ _ _ _)
      obtain ⟨nextkk4, hnextkk4⟩ : ∃ y9, y9 = lq1 (fX2_familyMask_b4 P tb) fX2_familyMask_r4 jj4 (kk4 + 1) := ⟨_, rfl⟩
      rw [← hnextkk4] at hF
      refine lv_aload_n hx hb dX2_familyMask_13 rfl (lv_at hl 2 rfl) ?_
      refine lv_iload_n hx hb dX2_familyMask_14 rfl (lv_at hl 3 rfl) ?_
      refine lv_iload_n hx hb dX2_familyMask_15 rfl (lv_at hl 0 rfl) ?_
      refine k_calli (W.runV (As := [.int tb, .int (nI kk4)]) (rest := []) ⟨hx, hb, hml, hown, hts0⟩ (mX2_holderAt l dC dI cI ad P tb (nI kk4)) (cwV 2 hts0 (gi_V u_415 u_339 u_340 u_2 u_341) rfl rfl rfl (by decide +kernel) ⟨Nat.le_of_ble_eq_true rfl, Nat.le_of_ble_eq_true rfl⟩) (pcR_V (ci := 2) (q0 := 0) hP hK hn rfl rfl) rfl rfl hl.1 rfl (lv_room (Nat.le_of_ble_eq_true rfl)) dX2_familyMask_16 ⟨Nat.zero_le _, Nat.zero_le _⟩) ?_
      refine lv_istore (lv' := [(4, .int (fX2_holderAt P tb (nI kk4))), (3, .int (nI kk4)), (2, .int x4_2), (0, .ref (ad 0)), (1, .int tb)]) hx hb dX2_familyMask_19 hl (by decide) rfl (fun ls hl => ?_)
      refine lv_iload hx hb dX2_familyMask_21 (lv_at hl 0 rfl) ?_
      refine lv_iconst (v := (-1)) hx hb dX2_familyMask_23 (by decide) ?_
      have K24 : ∀ (v24_0 : Int32), v24_0 = (if (fX2_holderAt P tb (nI kk4)) = (-1) then x4_2 else (x4_2 ||| (1 <<< ((fX3_at 16 (P 0) (fX2_holderAt P tb (nI kk4))) &&& 31)))) → ∀ (ls : Array Slot), lv_has ls 5 [(4, .int (fX2_holderAt P tb (nI kk4))), (3, .int (nI kk4)), (2, .int v24_0), (0, .ref (ad 0)), (1, .int tb)] → W p l e rmX2_familyMask s m args below meth c s.heap [] 0 0 Q (F0 m 41 ls []) := by
        intro v24_0 hz24  ls hl
        have hz := hz24
        have hF := bd_at hF hz
        refine lv_iinc (v := (nI (kk4 + 1))) (lv' := [(3, .int (nI (kk4 + 1))), (4, .int (fX2_holderAt P tb (nI kk4))), (2, .int v24_0), (0, .ref (ad 0)), (1, .int tb)]) hx hb dX2_familyMask_41 hl (k := 1) rfl (nI_1 _) (by decide) rfl (fun ls hl => ?_)
        refine lv_goto (tgt := 4) hx hb dX2_familyMask_44 (by decide) ?_
        have hF : fX2_familyMask P tb = nextkk4 v24_0 := hF
        rw [hnextkk4] at hF
        exact ihkk4 jj4 (Nat.lt_succ_self _) (kk4 + 1) v24_0 (cn_next hkkk4) hF ls (lv_sub hl [0, 2, 3, 4] rfl)
      have hF : ((if (fX2_holderAt P tb (nI kk4)) = (-1) then x4_2 else (x4_2 ||| (1 <<< ((fX3_at 16 (P 0) (fX2_holderAt P tb (nI kk4))) &&& 31)))) : Int32) = (if (fX2_holderAt P tb (nI kk4)) = (-1) then x4_2 else (x4_2 ||| (1 <<< ((fX3_at 16 (P 0) (fX2_holderAt P tb (nI kk4))) &&& 31)))) := rfl
      refine lv_icmp_eq (tgt := 41) hx hb dX2_familyMask_24 (by decide) (fun c_24 => ?_) (fun c_24 => ?_)
      · have hF := hF.trans (if_pos c_24)
        exact K24 _ hF.symm  ls (lv_sub hl [0, 1, 2, 3, 4] rfl)
      have hF := hF.trans (if_neg c_24)
      refine lv_iload_n hx hb dX2_familyMask_27 rfl (lv_at hl 2 rfl) ?_
      refine lv_iconst (v := 1) hx hb dX2_familyMask_28 (by decide) ?_
      refine lv_aload_n hx hb dX2_familyMask_29 rfl (lv_at hl 3 rfl) ?_
      refine va_get (D := (dC, dI)) (ci := 2) (v := .ref (ad 1)) (C := RX2) (T := TX2) (N := 14) hx hb htX2 (fun _ h => h) hown hK hP 0 rfl rfl 0 (by decide) (hts _ u_48) (fun _ h9 => h9) rfl dX2_familyMask_30 ?_
      refine lv_iload hx hb dX2_familyMask_33 (lv_at hl 0 rfl) ?_
      refine k_calli (W.runS (As := [.ref (ad 1), .int (fX2_holderAt P tb (nI kk4))]) (rest := [.int 1, .int x4_2]) ⟨hx, hb, hml, hown, hts0⟩ (mX3_at l dC dI cI (ad 1) 16 (by decide) (P 0) (fX2_holderAt P tb (nI kk4))) (va_cwS 2 hts0 (gi_S u_302 u_303 u_7 u_304) rfl rfl rfl (by decide +kernel) ⟨Nat.le_of_ble_eq_true rfl, Nat.le_of_ble_eq_true rfl⟩) (pcR_S (hP.sub (ws' := aW cI (ad 1) 16 (P 0)) [1] rfl) hK hn) rfl rfl hl.1 rfl (lv_room (Nat.le_of_ble_eq_true rfl)) dX2_familyMask_35 ⟨Nat.zero_le _, Nat.zero_le _⟩) ?_
      refine lv_ishl hx hb dX2_familyMask_38 ?_
      refine lv_ior hx hb dX2_familyMask_39 ?_
      refine lv_istore_n (lv' := [(2, .int (x4_2 ||| (1 <<< ((fX3_at 16 (P 0) (fX2_holderAt P tb (nI kk4))) &&& 31)))), (4, .int (fX2_holderAt P tb (nI kk4))), (3, .int (nI kk4)), (0, .ref (ad 0)), (1, .int tb)]) hx hb dX2_familyMask_40 rfl hl (by decide) rfl (fun ls hl => ?_)
      exact K24 _ hF.symm  ls (lv_sub hl [1, 2, 0, 3, 4] rfl)
  exact L4 ((fX2_seatsAt P tb).toNatClampNeg) 0 0 (Nat.zero_add _) hF ls (lv_sub hl [0, 1, 2, 3] rfl)

def fX2_familyAt_b5 (P : PV) (tb : Int32) (a : Int32) (kk5 : Nat) (x5_3 : Int32) (nextkk5 : Int32 → Int32) : Int32 :=
  (bd ((if (fX2_holderAt P tb (nI kk5)) = (-1) then x5_3 else (if (fX3_at 16 (P 0) (fX2_holderAt P tb (nI kk5))) = a then (x5_3 + 1) else x5_3)) : Int32) (fun v27_0 => (nextkk5 v27_0)))
def fX2_familyAt_r5 (x5_3 : Int32) : Int32 :=
  x5_3
def fX2_familyAt (P : PV) (tb : Int32) (a : Int32) : Int32 :=
  (lq1 (fX2_familyAt_b5 P tb a) fX2_familyAt_r5 ((fX2_seatsAt P tb).toNatClampNeg) 0 0)
abbrev rmX2_familyAt : Room := { frames := 1, cells := 0, slots := 0, locals := 23 }
set_option maxHeartbeats 4000000 in
set_option maxRecDepth 100000 in
theorem mX2_familyAt (l : Launch) (dC : Nat → ClassId) (dI : Nat → Nat → Nat) (cI : ClassId) (ad : Nat → Nat) (P : PV) (tb : Int32) (a : Int32) : Met l yX2_familyAt (ws_ yX2_familyAt cX2_familyAt 6 (some .int)) rmX2_familyAt (pcR (dC, dI) [(cI, .int)] (pW cI ad P) [.ref (ad 0), .int tb, .int a]) (vp_Si (fun r => r = fX2_familyAt P tb a)) 0 0 (fun _ => False) := by
  refine Met.ofW (cc := cX2_familyAt) (maxL := 6) (ret := (some .int)) (by decide) rfl ?_
  intro p e s m args below meth c s₁ B hml hv
  obtain ⟨ha, hP, hK, hn⟩ := hv
  have hx := B.exec
  have hb := B.bytes
  have hr := B.returns
  have hts0 := atoms_spec (ws := (ws_ yX2_familyAt cX2_familyAt 6 (some .int))) B.pre
  have hts : ∀ w ∈ lw_all, w.before args s = true := fun w h => hts0 w (List.mem_cons_of_mem _ h)
  have hown : s.vm.findClass RX2 = some m.cls := findClass_of_methodNamed B.named
  have hlocks := B.notSynchronized
  have htX2 : ∀ w ∈ wsX20, w.before args s = true := fun w h => hts w (wX2 w h)
  obtain ⟨Q, hQ⟩ : ∃ Q, Q = MQ below (vp_Si (fun r => r = fX2_familyAt P tb a)) args s 0 0 (fun _ => False) := ⟨_, rfl⟩
  rw [← hQ]
  have hl := lv_entry ([.ref (ad 0), .int tb, .int a]) (n := 6) (Nat.le_of_ble_eq_true rfl)
  rw [ha, lg_entry_eq, ← ha]
  generalize (lg_sl ([.ref (ad 0), .int tb, .int a]) ++ List.replicate (6 - (lg_sl ([.ref (ad 0), .int tb, .int a])).length) Slot.unset).toArray = ls at hl ⊢
  have hl : lv_has ls 6 [(0, .ref (ad 0)), (1, .int tb), (2, .int a)] := hl
  show W p l e rmX2_familyAt s m args below meth c s.heap [] 0 0 Q (F0 m 0 ls [])
  have hF : fX2_familyAt P tb a = fX2_familyAt P tb a := rfl
  refine lv_iconst (v := 0) hx hb dX2_familyAt_0 (by decide) ?_
  refine lv_istore_n (lv' := [(3, .int 0), (0, .ref (ad 0)), (1, .int tb), (2, .int a)]) hx hb dX2_familyAt_1 rfl hl (by decide) rfl (fun ls hl => ?_)
  refine lv_iconst (v := 0) hx hb dX2_familyAt_2 (by decide) ?_
  refine lv_istore (lv' := [(4, .int 0), (3, .int 0), (0, .ref (ad 0)), (1, .int tb), (2, .int a)]) hx hb dX2_familyAt_3 hl (by decide) rfl (fun ls hl => ?_)
  have L5 : ∀ (jj5 kk5 : Nat) (x5_3 : Int32), kk5 + jj5 = ((fX2_seatsAt P tb).toNatClampNeg) → fX2_familyAt P tb a = lq1 (fX2_familyAt_b5 P tb a) fX2_familyAt_r5 jj5 kk5 x5_3 → ∀ (ls : Array Slot), lv_has ls 6 [(4, .int (nI kk5)), (3, .int x5_3), (0, .ref (ad 0)), (1, .int tb), (2, .int a)] → W p l e rmX2_familyAt s m args below meth c s.heap [] 0 0 Q (F0 m 5 ls []) := by
    intro jj5
    induction jj5 using Nat.strongRecOn with
    | _ jj5 ihkk5 =>
      intro kk5 x5_3 hkkk5 hF  ls hl
      refine lv_iload hx hb dX2_familyAt_5 (lv_at hl 0 rfl) ?_
      refine lv_aload_n hx hb dX2_familyAt_7 rfl (lv_at hl 2 rfl) ?_
      refine lv_iload_n hx hb dX2_familyAt_8 rfl (lv_at hl 3 rfl) ?_
      refine k_calli (W.runV (As := [.int tb]) (rest := [.int (nI kk5)]) ⟨hx, hb, hml, hown, hts0⟩ (mX2_seatsAt l dC dI cI ad P tb) (cwV 1 hts0 (gi_V u_414 u_326 u_327 u_2 u_328) rfl rfl rfl (by decide +kernel) ⟨Nat.le_of_ble_eq_true rfl, Nat.le_of_ble_eq_true rfl⟩) (pcR_V (ci := 2) (q0 := 0) hP hK hn rfl rfl) rfl rfl hl.1 rfl (lv_room (Nat.le_of_ble_eq_true rfl)) dX2_familyAt_9 ⟨Nat.zero_le _, Nat.zero_le _⟩) ?_
      refine lv_icmp_ge (tgt := 52) hx hb dX2_familyAt_12 (by decide) (fun c_12 => ?_) (fun c_12 => ?_)
      · obtain rfl := cn_exit hkkk5 c_12
        have hF := hF.trans (lq1_z _ _ _ _)
        refine lv_iload_n hx hb dX2_familyAt_52 rfl (lv_at hl 1 rfl) ?_
        rw [hQ]
        exact W.iret (v := x5_3) hx hb hr (fun t ht hW => ⟨x5_3, rfl, hF.symm, ht⟩) (fun q hq => absurd hq List.not_mem_nil) dX2_familyAt_53
      obtain ⟨jj5, rfl⟩ := cn_go hkkk5 c_12
      have hF := hF.trans (lq1_s _ _ _ _ _)
      obtain ⟨nextkk5, hnextkk5⟩ : ∃ y9, y9 = lq1 (fX2_familyAt_b5 P tb a) fX2_familyAt_r5 jj5 (kk5 + 1) := ⟨_, rfl⟩
      rw [← hnextkk5] at hF
      refine lv_aload_n hx hb dX2_familyAt_15 rfl (lv_at hl 2 rfl) ?_
      refine lv_iload_n hx hb dX2_familyAt_16 rfl (lv_at hl 3 rfl) ?_
      refine lv_iload hx hb dX2_familyAt_17 (lv_at hl 0 rfl) ?_
      refine k_calli (W.runV (As := [.int tb, .int (nI kk5)]) (rest := []) ⟨hx, hb, hml, hown, hts0⟩ (mX2_holderAt l dC dI cI ad P tb (nI kk5)) (cwV 2 hts0 (gi_V u_415 u_339 u_340 u_2 u_341) rfl rfl rfl (by decide +kernel) ⟨Nat.le_of_ble_eq_true rfl, Nat.le_of_ble_eq_true rfl⟩) (pcR_V (ci := 2) (q0 := 0) hP hK hn rfl rfl) rfl rfl hl.1 rfl (lv_room (Nat.le_of_ble_eq_true rfl)) dX2_familyAt_19 ⟨Nat.zero_le _, Nat.zero_le _⟩) ?_
      refine lv_istore (lv' := [(5, .int (fX2_holderAt P tb (nI kk5))), (4, .int (nI kk5)), (3, .int x5_3), (0, .ref (ad 0)), (1, .int tb), (2, .int a)]) hx hb dX2_familyAt_22 hl (by decide) rfl (fun ls hl => ?_)
      refine lv_iload hx hb dX2_familyAt_24 (lv_at hl 0 rfl) ?_
      refine lv_iconst (v := (-1)) hx hb dX2_familyAt_26 (by decide) ?_
      have K27 : ∀ (v27_0 : Int32), v27_0 = (if (fX2_holderAt P tb (nI kk5)) = (-1) then x5_3 else (if (fX3_at 16 (P 0) (fX2_holderAt P tb (nI kk5))) = a then (x5_3 + 1) else x5_3)) → ∀ (ls : Array Slot), lv_has ls 6 [(5, .int (fX2_holderAt P tb (nI kk5))), (4, .int (nI kk5)), (3, .int v27_0), (0, .ref (ad 0)), (1, .int tb), (2, .int a)] → W p l e rmX2_familyAt s m args below meth c s.heap [] 0 0 Q (F0 m 46 ls []) := by
        intro v27_0 hz27  ls hl
        have hz := hz27
        have hF := bd_at hF hz
        refine lv_iinc (v := (nI (kk5 + 1))) (lv' := [(4, .int (nI (kk5 + 1))), (5, .int (fX2_holderAt P tb (nI kk5))), (3, .int v27_0), (0, .ref (ad 0)), (1, .int tb), (2, .int a)]) hx hb dX2_familyAt_46 hl (k := 1) rfl (nI_1 _) (by decide) rfl (fun ls hl => ?_)
        refine lv_goto (tgt := 5) hx hb dX2_familyAt_49 (by decide) ?_
        have hF : fX2_familyAt P tb a = nextkk5 v27_0 := hF
        rw [hnextkk5] at hF
        exact ihkk5 jj5 (Nat.lt_succ_self _) (kk5 + 1) v27_0 (cn_next hkkk5) hF ls (lv_sub hl [0, 2, 3, 4, 5] rfl)
      have hF : ((if (fX2_holderAt P tb (nI kk5)) = (-1) then x5_3 else (if (fX3_at 16 (P 0) (fX2_holderAt P tb (nI kk5))) = a then (x5_3 + 1) else x5_3)) : Int32) = (if (fX2_holderAt P tb (nI kk5)) = (-1) then x5_3 else (if (fX3_at 16 (P 0) (fX2_holderAt P tb (nI kk5))) = a then (x5_3 + 1) else x5_3)) := rfl
      refine lv_icmp_eq (tgt := 46) hx hb dX2_familyAt_27 (by decide) (fun c_27 => ?_) (fun c_27 => ?_)
      · have hF := hF.trans (if_pos c_27)
        exact K27 _ hF.symm  ls (lv_sub hl [0, 1, 2, 3, 4, 5] rfl)
      have hF := hF.trans (if_neg c_27)
      refine lv_aload_n hx hb dX2_familyAt_30 rfl (lv_at hl 3 rfl) ?_
      refine va_get (D := (dC, dI)) (ci := 2) (v := .ref (ad 1)) (C := RX2) (T := TX2) (N := 14) hx hb htX2 (fun _ h => h) hown hK hP 0 rfl rfl 0 (by decide) (hts _ u_48) (fun _ h9 => h9) rfl dX2_familyAt_31 ?_
      refine lv_iload hx hb dX2_familyAt_34 (lv_at hl 0 rfl) ?_
      refine k_calli (W.runS (As := [.ref (ad 1), .int (fX2_holderAt P tb (nI kk5))]) (rest := []) ⟨hx, hb, hml, hown, hts0⟩ (mX3_at l dC dI cI (ad 1) 16 (by decide) (P 0) (fX2_holderAt P tb (nI kk5))) (va_cwS 2 hts0 (gi_S u_302 u_303 u_7 u_304) rfl rfl rfl (by decide +kernel) ⟨Nat.le_of_ble_eq_true rfl, Nat.le_of_ble_eq_true rfl⟩) (pcR_S (hP.sub (ws' := aW cI (ad 1) 16 (P 0)) [1] rfl) hK hn) rfl rfl hl.1 rfl (lv_room (Nat.le_of_ble_eq_true rfl)) dX2_familyAt_36 ⟨Nat.zero_le _, Nat.zero_le _⟩) ?_
      refine lv_iload_n hx hb dX2_familyAt_39 rfl (lv_at hl 5 rfl) ?_
      refine lv_icmp_ne (tgt := 46) hx hb dX2_familyAt_40 (by decide) (fun c_40 => ?_) (fun c_40 => ?_)
      · have hF := hF.trans (if_neg c_40)
        exact K27 _ hF.symm  ls (lv_sub hl [0, 1, 2, 3, 4, 5] rfl)
      have hF := hF.trans (if_pos c_40)
      refine lv_iinc (v := (x5_3 + 1)) (lv' := [(3, .int (x5_3 + 1)), (5, .int (fX2_holderAt P tb (nI kk5))), (4, .int (nI kk5)), (0, .ref (ad 0)), (1, .int tb), (2, .int a)]) hx hb dX2_familyAt_43 hl (k := 2) rfl rfl (by decide) rfl (fun ls hl => ?_)
      exact K27 _ hF.symm  ls (lv_sub hl [1, 2, 0, 3, 4, 5] rfl)
  exact L5 ((fX2_seatsAt P tb).toNatClampNeg) 0 0 (Nat.zero_add _) hF ls (lv_sub hl [0, 1, 2, 3, 4] rfl)

def fX2_lettersOfTable_b4 (kk4 : Nat) (x4_2 : Int32) (nextkk4 : Int32 → Int32) : Int32 :=
  (bd ((if (fX2_isAtLeg (nI kk4)) = 0 then 1 else 2) : Int32) (fun v18_0 => (nextkk4 (x4_2 + v18_0))))
def fX2_lettersOfTable_r4 (x4_2 : Int32) : Int32 :=
  x4_2
def fX2_lettersOfTable (P : PV) (tb : Int32) : Int32 :=
  (lq1 fX2_lettersOfTable_b4 fX2_lettersOfTable_r4 ((fX2_seatsAt P tb).toNatClampNeg) 0 0)
abbrev rmX2_lettersOfTable : Room := { frames := 1, cells := 0, slots := 0, locals := 21 }
def fX2_letterOfTable_b5 (P : PV) (tb : Int32) (i : Int32) (kk5 : Nat) (x5_3 : Int32) (nextkk5 : Int32 → Int32) : Int32 :=
  (if x5_3 = i then (if (fX2_holderAt P tb (nI kk5)) = (-1) then 46 else (65 + (fX3_at 16 (P 0) (fX2_holderAt P tb (nI kk5))))) else (if (fX2_isAtLeg (nI kk5)) = 0 then (nextkk5 (x5_3 + 1)) else (if (x5_3 + 1) = i then 124 else (nextkk5 ((x5_3 + 1) + 1)))))
def fX2_letterOfTable_r5 (x5_3 : Int32) : Int32 :=
  (-1)
def fX2_letterOfTable (P : PV) (tb : Int32) (i : Int32) : Int32 :=
  (lq1 (fX2_letterOfTable_b5 P tb i) fX2_letterOfTable_r5 ((fX2_seatsAt P tb).toNatClampNeg) 0 0)
abbrev rmX2_letterOfTable : Room := { frames := 1, cells := 0, slots := 0, locals := 23 }
set_option maxHeartbeats 4000000 in
set_option maxRecDepth 100000 in
theorem mX2_letterOfTable (l : Launch) (dC : Nat → ClassId) (dI : Nat → Nat → Nat) (cI : ClassId) (ad : Nat → Nat) (P : PV) (tb : Int32) (i : Int32) : Met l yX2_letterOfTable (ws_ yX2_letterOfTable cX2_letterOfTable 6 (some .int)) rmX2_letterOfTable (pcR (dC, dI) [(cI, .int)] (pW cI ad P) [.ref (ad 0), .int tb, .int i]) (vp_Si (fun r => r = fX2_letterOfTable P tb i)) 0 0 (fun _ => False) := by
  refine Met.ofW (cc := cX2_letterOfTable) (maxL := 6) (ret := (some .int)) (by decide) rfl ?_
  intro p e s m args below meth c s₁ B hml hv
  obtain ⟨ha, hP, hK, hn⟩ := hv
  have hx := B.exec
  have hb := B.bytes
  have hr := B.returns
  have hts0 := atoms_spec (ws := (ws_ yX2_letterOfTable cX2_letterOfTable 6 (some .int))) B.pre
  have hts : ∀ w ∈ lw_all, w.before args s = true := fun w h => hts0 w (List.mem_cons_of_mem _ h)
  have hown : s.vm.findClass RX2 = some m.cls := findClass_of_methodNamed B.named
  have hlocks := B.notSynchronized
  have htX2 : ∀ w ∈ wsX20, w.before args s = true := fun w h => hts w (wX2 w h)
  obtain ⟨Q, hQ⟩ : ∃ Q, Q = MQ below (vp_Si (fun r => r = fX2_letterOfTable P tb i)) args s 0 0 (fun _ => False) := ⟨_, rfl⟩
  rw [← hQ]
  have hl := lv_entry ([.ref (ad 0), .int tb, .int i]) (n := 6) (Nat.le_of_ble_eq_true rfl)
  rw [ha, lg_entry_eq, ← ha]
  generalize (lg_sl ([.ref (ad 0), .int tb, .int i]) ++ List.replicate (6 - (lg_sl ([.ref (ad 0), .int tb, .int i])).length) Slot.unset).toArray = ls at hl ⊢
  have hl : lv_has ls 6 [(0, .ref (ad 0)), (1, .int tb), (2, .int i)] := hl
  show W p l e rmX2_letterOfTable s m args below meth c s.heap [] 0 0 Q (F0 m 0 ls [])
  have hF : fX2_letterOfTable P tb i = fX2_letterOfTable P tb i := rfl
  refine lv_iconst (v := 0) hx hb dX2_letterOfTable_0 (by decide) ?_
  refine lv_istore_n (lv' := [(3, .int 0), (0, .ref (ad 0)), (1, .int tb), (2, .int i)]) hx hb dX2_letterOfTable_1 rfl hl (by decide) rfl (fun ls hl => ?_)
  refine lv_iconst (v := 0) hx hb dX2_letterOfTable_2 (by decide) ?_
  refine lv_istore (lv' := [(4, .int 0), (3, .int 0), (0, .ref (ad 0)), (1, .int tb), (2, .int i)]) hx hb dX2_letterOfTable_3 hl (by decide) rfl (fun ls hl => ?_)
  have L5 : ∀ (jj5 kk5 : Nat) (x5_3 : Int32), kk5 + jj5 = ((fX2_seatsAt P tb).toNatClampNeg) → fX2_letterOfTable P tb i = lq1 (fX2_letterOfTable_b5 P tb i) fX2_letterOfTable_r5 jj5 kk5 x5_3 → ∀ (ls : Array Slot), lv_has ls 6 [(4, .int (nI kk5)), (3, .int x5_3), (0, .ref (ad 0)), (1, .int tb), (2, .int i)] → W p l e rmX2_letterOfTable s m args below meth c s.heap [] 0 0 Q (F0 m 5 ls []) := by
    intro jj5
    induction jj5 using Nat.strongRecOn with
    | _ jj5 ihkk5 =>
      intro kk5 x5_3 hkkk5 hF  ls hl
      refine lv_iload hx hb dX2_letterOfTable_5 (lv_at hl 0 rfl) ?_
      refine lv_aload_n hx hb dX2_letterOfTable_7 rfl (lv_at hl 2 rfl) ?_
      refine lv_iload_n hx hb dX2_letterOfTable_8 rfl (lv_at hl 3 rfl) ?_
      refine k_calli (W.runV (As := [.int tb]) (rest := [.int (nI kk5)]) ⟨hx, hb, hml, hown, hts0⟩ (mX2_seatsAt l dC dI cI ad P tb) (cwV 1 hts0 (gi_V u_414 u_326 u_327 u_2 u_328) rfl rfl rfl (by decide +kernel) ⟨Nat.le_of_ble_eq_true rfl, Nat.le_of_ble_eq_true rfl⟩) (pcR_V (ci := 2) (q0 := 0) hP hK hn rfl rfl) rfl rfl hl.1 rfl (lv_room (Nat.le_of_ble_eq_true rfl)) dX2_letterOfTable_9 ⟨Nat.zero_le _, Nat.zero_le _⟩) ?_
      refine lv_icmp_ge (tgt := 81) hx hb dX2_letterOfTable_12 (by decide) (fun c_12 => ?_) (fun c_12 => ?_)
      · obtain rfl := cn_exit hkkk5 c_12
        have hF := hF.trans (lq1_z _ _ _ _)
        refine lv_iconst (v := (-1)) hx hb dX2_letterOfTable_81 (by decide) ?_
        rw [hQ]
        exact W.iret (v := (-1)) hx hb hr (fun t ht hW => ⟨(-1), rfl, hF.symm, ht⟩) (fun q hq => absurd hq List.not_mem_nil) dX2_letterOfTable_82
      obtain ⟨jj5, rfl⟩ := cn_go hkkk5 c_12
      have hF := hF.trans (lq1_s _ _ _ _ _)
      obtain ⟨nextkk5, hnextkk5⟩ : ∃ y9, y9 = lq1 (fX2_letterOfTable_b5 P tb i) fX2_letterOfTable_r5 jj5 (kk5 + 1) := ⟨_, rfl⟩
      rw [← hnextkk5] at hF
      refine lv_iload_n hx hb dX2_letterOfTable_15 rfl (lv_at hl 1 rfl) ?_
      refine lv_iload_n hx hb dX2_letterOfTable_16 rfl (lv_at hl 4 rfl) ?_
      refine lv_icmp_ne (tgt := 53) hx hb dX2_letterOfTable_17 (by decide) (fun c_17 => ?_) (fun c_17 => ?_)
      · have hF := hF.trans (if_neg c_17)
        refine lv_iinc (v := (x5_3 + 1)) (lv' := [(3, .int (x5_3 + 1)), (4, .int (nI kk5)), (0, .ref (ad 0)), (1, .int tb), (2, .int i)]) hx hb dX2_letterOfTable_53 hl (k := 1) rfl rfl (by decide) rfl (fun ls hl => ?_)
        refine lv_iload hx hb dX2_letterOfTable_56 (lv_at hl 1 rfl) ?_
        refine k_callb (W.runS (As := [.int (nI kk5)]) (rest := []) ⟨hx, hb, hml, hown, hts0⟩ (mX2_isAtLeg l dC dI  (nI kk5)) (va_cwS 1 hts0 (gi_S u_425 u_310 u_2 u_311) rfl rfl rfl (by decide +kernel) ⟨Nat.le_of_ble_eq_true rfl, Nat.le_of_ble_eq_true rfl⟩) (pcR_S (hP.sub (ws' := []) [] rfl) (hK.sub (tys' := []) [] rfl) hn) rfl rfl hl.1 rfl (lv_room (Nat.le_of_ble_eq_true rfl)) dX2_letterOfTable_58 ⟨Nat.zero_le _, Nat.zero_le _⟩) (fun br58 => ?_)
        refine lv_if_eq (tgt := 75) hx hb dX2_letterOfTable_61 (by decide) (fun c_61 => ?_) (fun c_61 => ?_)
        · have hF := hF.trans (if_pos c_61)
          refine lv_iinc (v := (nI (kk5 + 1))) (lv' := [(4, .int (nI (kk5 + 1))), (3, .int (x5_3 + 1)), (0, .ref (ad 0)), (1, .int tb), (2, .int i)]) hx hb dX2_letterOfTable_75 hl (k := 1) rfl (nI_1 _) (by decide) rfl (fun ls hl => ?_)
          refine lv_goto (tgt := 5) hx hb dX2_letterOfTable_78 (by decide) ?_
          have hF : fX2_letterOfTable P tb i = nextkk5 (x5_3 + 1) := hF
          rw [hnextkk5] at hF
          exact ihkk5 jj5 (Nat.lt_succ_self _) (kk5 + 1) (x5_3 + 1) (cn_next hkkk5) hF ls (lv_sub hl [0, 1, 2, 3, 4] rfl)
        have hF := hF.trans (if_neg c_61)
        refine lv_iload_n hx hb dX2_letterOfTable_64 rfl (lv_at hl 0 rfl) ?_
        refine lv_iload_n hx hb dX2_letterOfTable_65 rfl (lv_at hl 4 rfl) ?_
        refine lv_icmp_ne (tgt := 72) hx hb dX2_letterOfTable_66 (by decide) (fun c_66 => ?_) (fun c_66 => ?_)
        · have hF := hF.trans (if_neg c_66)
          refine lv_iinc (v := ((x5_3 + 1) + 1)) (lv' := [(3, .int ((x5_3 + 1) + 1)), (4, .int (nI kk5)), (0, .ref (ad 0)), (1, .int tb), (2, .int i)]) hx hb dX2_letterOfTable_72 hl (k := 0) rfl rfl (by decide) rfl (fun ls hl => ?_)
          refine lv_iinc (v := (nI (kk5 + 1))) (lv' := [(4, .int (nI (kk5 + 1))), (3, .int ((x5_3 + 1) + 1)), (0, .ref (ad 0)), (1, .int tb), (2, .int i)]) hx hb dX2_letterOfTable_75 hl (k := 1) rfl (nI_1 _) (by decide) rfl (fun ls hl => ?_)
          refine lv_goto (tgt := 5) hx hb dX2_letterOfTable_78 (by decide) ?_
          have hF : fX2_letterOfTable P tb i = nextkk5 ((x5_3 + 1) + 1) := hF
          rw [hnextkk5] at hF
          exact ihkk5 jj5 (Nat.lt_succ_self _) (kk5 + 1) ((x5_3 + 1) + 1) (cn_next hkkk5) hF ls (lv_sub hl [0, 1, 2, 3, 4] rfl)
        have hF := hF.trans (if_pos c_66)
        refine lv_bipush (v := 124) hx hb dX2_letterOfTable_69 (by decide) ?_
        rw [hQ]
        exact W.iret (v := 124) hx hb hr (fun t ht hW => ⟨124, rfl, hF.symm, ht⟩) (fun q hq => absurd hq List.not_mem_nil) dX2_letterOfTable_71
      have hF := hF.trans (if_pos c_17)
      refine lv_aload_n hx hb dX2_letterOfTable_20 rfl (lv_at hl 2 rfl) ?_
      refine lv_iload_n hx hb dX2_letterOfTable_21 rfl (lv_at hl 3 rfl) ?_
      refine lv_iload hx hb dX2_letterOfTable_22 (lv_at hl 0 rfl) ?_
      refine k_calli (W.runV (As := [.int tb, .int (nI kk5)]) (rest := []) ⟨hx, hb, hml, hown, hts0⟩ (mX2_holderAt l dC dI cI ad P tb (nI kk5)) (cwV 2 hts0 (gi_V u_415 u_339 u_340 u_2 u_341) rfl rfl rfl (by decide +kernel) ⟨Nat.le_of_ble_eq_true rfl, Nat.le_of_ble_eq_true rfl⟩) (pcR_V (ci := 2) (q0 := 0) hP hK hn rfl rfl) rfl rfl hl.1 rfl (lv_room (Nat.le_of_ble_eq_true rfl)) dX2_letterOfTable_24 ⟨Nat.zero_le _, Nat.zero_le _⟩) ?_
      refine lv_istore (lv' := [(5, .int (fX2_holderAt P tb (nI kk5))), (4, .int (nI kk5)), (3, .int x5_3), (0, .ref (ad 0)), (1, .int tb), (2, .int i)]) hx hb dX2_letterOfTable_27 hl (by decide) rfl (fun ls hl => ?_)
      refine lv_iload hx hb dX2_letterOfTable_29 (lv_at hl 0 rfl) ?_
      refine lv_iconst (v := (-1)) hx hb dX2_letterOfTable_31 (by decide) ?_
      refine lv_icmp_ne (tgt := 40) hx hb dX2_letterOfTable_32 (by decide) (fun c_32 => ?_) (fun c_32 => ?_)
      · have hF := hF.trans (if_neg c_32)
        refine lv_bipush (v := 65) hx hb dX2_letterOfTable_40 (by decide) ?_
        refine lv_aload_n hx hb dX2_letterOfTable_42 rfl (lv_at hl 3 rfl) ?_
        refine va_get (D := (dC, dI)) (ci := 2) (v := .ref (ad 1)) (C := RX2) (T := TX2) (N := 14) hx hb htX2 (fun _ h => h) hown hK hP 0 rfl rfl 0 (by decide) (hts _ u_48) (fun _ h9 => h9) rfl dX2_letterOfTable_43 ?_
        refine lv_iload hx hb dX2_letterOfTable_46 (lv_at hl 0 rfl) ?_
        refine k_calli (W.runS (As := [.ref (ad 1), .int (fX2_holderAt P tb (nI kk5))]) (rest := [.int 65]) ⟨hx, hb, hml, hown, hts0⟩ (mX3_at l dC dI cI (ad 1) 16 (by decide) (P 0) (fX2_holderAt P tb (nI kk5))) (va_cwS 2 hts0 (gi_S u_302 u_303 u_7 u_304) rfl rfl rfl (by decide +kernel) ⟨Nat.le_of_ble_eq_true rfl, Nat.le_of_ble_eq_true rfl⟩) (pcR_S (hP.sub (ws' := aW cI (ad 1) 16 (P 0)) [1] rfl) hK hn) rfl rfl hl.1 rfl (lv_room (Nat.le_of_ble_eq_true rfl)) dX2_letterOfTable_48 ⟨Nat.zero_le _, Nat.zero_le _⟩) ?_
        refine lv_iadd hx hb dX2_letterOfTable_51 ?_
        rw [hQ]
        exact W.iret (v := (65 + (fX3_at 16 (P 0) (fX2_holderAt P tb (nI kk5))))) hx hb hr (fun t ht hW => ⟨(65 + (fX3_at 16 (P 0) (fX2_holderAt P tb (nI kk5)))), rfl, hF.symm, ht⟩) (fun q hq => absurd hq List.not_mem_nil) dX2_letterOfTable_52
      have hF := hF.trans (if_pos c_32)
      refine lv_bipush (v := 46) hx hb dX2_letterOfTable_35 (by decide) ?_
      refine lv_goto (tgt := 52) hx hb dX2_letterOfTable_37 (by decide) ?_
      rw [hQ]
      exact W.iret (v := 46) hx hb hr (fun t ht hW => ⟨46, rfl, hF.symm, ht⟩) (fun q hq => absurd hq List.not_mem_nil) dX2_letterOfTable_52
  exact L5 ((fX2_seatsAt P tb).toNatClampNeg) 0 0 (Nat.zero_add _) hF ls (lv_sub hl [0, 1, 2, 3, 4] rfl)

def fX2_feudCode (a : Int32) (b : Int32) : Int32 :=
  ((6 * (if b < a then b else a)) + (if a < b then b else a))
abbrev rmX2_feudCode : Room := { frames := 1, cells := 0, slots := 0, locals := 40 }
set_option maxHeartbeats 4000000 in
set_option maxRecDepth 100000 in
theorem mX2_feudCode (l : Launch) (dC : Nat → ClassId) (dI : Nat → Nat → Nat)  (a : Int32) (b : Int32) : Met l yX2_feudCode (ws_ yX2_feudCode cX2_feudCode 2 (some .int)) rmX2_feudCode (pcR (dC, dI) [] [] [.int a, .int b]) (vp_Si (fun r => r = fX2_feudCode a b)) 0 0 (fun _ => False) := by
  refine Met.ofW (cc := cX2_feudCode) (maxL := 2) (ret := (some .int)) (by decide) rfl ?_
  intro p e s m args below meth c s₁ B hml hv
  obtain ⟨ha, hP, hK, hn⟩ := hv
  have hx := B.exec
  have hb := B.bytes
  have hr := B.returns
  have hts0 := atoms_spec (ws := (ws_ yX2_feudCode cX2_feudCode 2 (some .int))) B.pre
  have hts : ∀ w ∈ lw_all, w.before args s = true := fun w h => hts0 w (List.mem_cons_of_mem _ h)
  have hown : s.vm.findClass RX2 = some m.cls := findClass_of_methodNamed B.named
  have hlocks := B.notSynchronized
  obtain ⟨Q, hQ⟩ : ∃ Q, Q = MQ below (vp_Si (fun r => r = fX2_feudCode a b)) args s 0 0 (fun _ => False) := ⟨_, rfl⟩
  rw [← hQ]
  have hl := lv_entry ([.int a, .int b]) (n := 2) (Nat.le_of_ble_eq_true rfl)
  rw [ha, lg_entry_eq, ← ha]
  generalize (lg_sl ([.int a, .int b]) ++ List.replicate (2 - (lg_sl ([.int a, .int b])).length) Slot.unset).toArray = ls at hl ⊢
  have hl : lv_has ls 2 [(0, .int a), (1, .int b)] := hl
  show W p l e rmX2_feudCode s m args below meth c s.heap [] 0 0 Q (F0 m 0 ls [])
  have hF : fX2_feudCode a b = fX2_feudCode a b := rfl
  refine lv_bipush (v := 6) hx hb dX2_feudCode_0 (by decide) ?_
  refine lv_iload_n hx hb dX2_feudCode_2 rfl (lv_at hl 0 rfl) ?_
  refine lv_iload_n hx hb dX2_feudCode_3 rfl (lv_at hl 1 rfl) ?_
  refine va_mmin hx hb (hml.trans hl.1.symm) hown (hts _ u_557) (hts _ u_257) (hts _ u_4) (hts _ u_258) (Nat.le_of_ble_eq_true rfl) (Nat.le_of_ble_eq_true rfl) (Nat.zero_le _) (Nat.zero_le _) dX2_feudCode_4 ?_
  refine lv_imul hx hb dX2_feudCode_7 ?_
  refine lv_iload_n hx hb dX2_feudCode_8 rfl (lv_at hl 0 rfl) ?_
  refine lv_iload_n hx hb dX2_feudCode_9 rfl (lv_at hl 1 rfl) ?_
  refine va_mmax hx hb (hml.trans hl.1.symm) hown (hts _ u_558) (hts _ u_36) (hts _ u_4) (hts _ u_37) (Nat.le_of_ble_eq_true rfl) (Nat.le_of_ble_eq_true rfl) (Nat.zero_le _) (Nat.zero_le _) dX2_feudCode_10 ?_
  refine lv_iadd hx hb dX2_feudCode_13 ?_
  rw [hQ]
  exact W.iret (v := ((6 * (if b < a then b else a)) + (if a < b then b else a))) hx hb hr (fun t ht hW => ⟨((6 * (if b < a then b else a)) + (if a < b then b else a)), rfl, hF.symm, ht⟩) (fun q hq => absurd hq List.not_mem_nil) dX2_feudCode_14

def fX2_hasFeud (P : PV) (a : Int32) (b : Int32) : Int32 :=
  (fX1_holds 8 (P 8) (P 10 4) (fX2_feudCode a b))
abbrev rmX2_hasFeud : Room := { frames := 2, cells := 0, slots := 0, locals := 61 }
set_option maxHeartbeats 4000000 in
set_option maxRecDepth 100000 in
theorem mX2_hasFeud (l : Launch) (dC : Nat → ClassId) (dI : Nat → Nat → Nat) (cI : ClassId) (ad : Nat → Nat) (P : PV) (a : Int32) (b : Int32) : Met l yX2_hasFeud (ws_ yX2_hasFeud cX2_hasFeud 3 (some .boolean)) rmX2_hasFeud (pcR (dC, dI) [(cI, .int)] (pW cI ad P) [.ref (ad 0), .int a, .int b]) (vp_Si (fun r => r = fX2_hasFeud P a b ∧ (r = 0 ∨ r = 1))) 0 0 (fun _ => False) := by
  refine Met.ofW (cc := cX2_hasFeud) (maxL := 3) (ret := (some .boolean)) (by decide) rfl ?_
  intro p e s m args below meth c s₁ B hml hv
  obtain ⟨ha, hP, hK, hn⟩ := hv
  have hx := B.exec
  have hb := B.bytes
  have hr := B.returns
  have hts0 := atoms_spec (ws := (ws_ yX2_hasFeud cX2_hasFeud 3 (some .boolean))) B.pre
  have hts : ∀ w ∈ lw_all, w.before args s = true := fun w h => hts0 w (List.mem_cons_of_mem _ h)
  have hown : s.vm.findClass RX2 = some m.cls := findClass_of_methodNamed B.named
  have hlocks := B.notSynchronized
  have htX2 : ∀ w ∈ wsX20, w.before args s = true := fun w h => hts w (wX2 w h)
  obtain ⟨Q, hQ⟩ : ∃ Q, Q = MQ below (vp_Si (fun r => r = fX2_hasFeud P a b ∧ (r = 0 ∨ r = 1))) args s 0 0 (fun _ => False) := ⟨_, rfl⟩
  rw [← hQ]
  have hl := lv_entry ([.ref (ad 0), .int a, .int b]) (n := 3) (Nat.le_of_ble_eq_true rfl)
  rw [ha, lg_entry_eq, ← ha]
  generalize (lg_sl ([.ref (ad 0), .int a, .int b]) ++ List.replicate (3 - (lg_sl ([.ref (ad 0), .int a, .int b])).length) Slot.unset).toArray = ls at hl ⊢
  have hl : lv_has ls 3 [(0, .ref (ad 0)), (1, .int a), (2, .int b)] := hl
  show W p l e rmX2_hasFeud s m args below meth c s.heap [] 0 0 Q (F0 m 0 ls [])
  have hF : fX2_hasFeud P a b = fX2_hasFeud P a b := rfl
  refine lv_aload_n hx hb dX2_hasFeud_0 rfl (lv_at hl 0 rfl) ?_
  refine va_get (D := (dC, dI)) (ci := 2) (v := .ref (ad 9)) (C := RX2) (T := TX2) (N := 14) hx hb htX2 (fun _ h => h) hown hK hP 0 rfl rfl 8 (by decide) (hts _ u_67) (fun _ h9 => h9) rfl dX2_hasFeud_1 ?_
  refine lv_iload_n hx hb dX2_hasFeud_4 rfl (lv_at hl 1 rfl) ?_
  refine lv_iload_n hx hb dX2_hasFeud_5 rfl (lv_at hl 2 rfl) ?_
  refine k_calli (W.runS (As := [.int a, .int b]) (rest := [.ref (ad 9)]) ⟨hx, hb, hml, hown, hts0⟩ (mX2_feudCode l dC dI  a b) (va_cwS 2 hts0 (gi_S u_554 u_555 u_2 u_556) rfl rfl rfl (by decide +kernel) ⟨Nat.le_of_ble_eq_true rfl, Nat.le_of_ble_eq_true rfl⟩) (pcR_S (hP.sub (ws' := []) [] rfl) (hK.sub (tys' := []) [] rfl) hn) rfl rfl hl.1 rfl (lv_room (Nat.le_of_ble_eq_true rfl)) dX2_hasFeud_6 ⟨Nat.zero_le _, Nat.zero_le _⟩) ?_
  refine k_callb (W.runV (As := [.int (fX2_feudCode a b)]) (rest := []) ⟨hx, hb, hml, hown, hts0⟩ (mX1_holds l dC dI cI (ad 9) (ad 10) 8 (by decide) (P 8) (P 10 4) (fX2_feudCode a b)) (cwV 1 hts0 (gi_V u_559 u_560 u_561 u_3 u_562) rfl rfl rfl (by decide +kernel) ⟨Nat.le_of_ble_eq_true rfl, Nat.le_of_ble_eq_true rfl⟩) (pcR_V (ci := 1) (q0 := 0) (hP.sub (ws' := lW cI (ad 9) (ad 10) 8 (P 8) (P 10 4)) [9, 10] rfl) hK hn rfl rfl) rfl rfl hl.1 rfl (lv_room (Nat.le_of_ble_eq_true rfl)) dX2_hasFeud_9 ⟨Nat.zero_le _, Nat.zero_le _⟩) (fun br9 => ?_)
  rw [hQ]
  exact W.zret (ty := .boolean) (v := (fX1_holds 8 (P 8) (P 10 4) (fX2_feudCode a b))) hx hb hr (nb01 (br9)) (fun t ht hW => ⟨(fX1_holds 8 (P 8) (P 10 4) (fX2_feudCode a b)), rfl, ⟨hF.symm, br9⟩, ht⟩) (fun q hq => absurd hq List.not_mem_nil) dX2_hasFeud_12

def fX2_foeMask_b4 (P : PV) (a : Int32) (kk4 : Nat) (x4_2 : Int32) (nextkk4 : Int32 → Int32) : Int32 :=
  (bd ((if ((fX1_itemAt 8 (P 8) (P 10 4) (nI kk4)) / 6) = a then (x4_2 ||| (1 <<< (((fX1_itemAt 8 (P 8) (P 10 4) (nI kk4)) - (fX1_itemAt 8 (P 8) (P 10 4) (nI kk4)) / 6 * 6) &&& 31))) else x4_2) : Int32) (fun v42_0 => (bd ((if ((fX1_itemAt 8 (P 8) (P 10 4) (nI kk4)) - (fX1_itemAt 8 (P 8) (P 10 4) (nI kk4)) / 6 * 6) = a then (v42_0 ||| (1 <<< (((fX1_itemAt 8 (P 8) (P 10 4) (nI kk4)) / 6) &&& 31))) else v42_0) : Int32) (fun v55_0 => (nextkk4 v55_0)))))
def fX2_foeMask_r4 (x4_2 : Int32) : Int32 :=
  x4_2
def fX2_foeMask (P : PV) (a : Int32) : Int32 :=
  (lq1 (fX2_foeMask_b4 P a) fX2_foeMask_r4 ((fX1_length 8 (P 8) (P 10 4)).toNatClampNeg) 0 0)
abbrev rmX2_foeMask : Room := { frames := 1, cells := 0, slots := 0, locals := 21 }
set_option maxHeartbeats 4000000 in
set_option maxRecDepth 100000 in
theorem mX2_foeMask (l : Launch) (dC : Nat → ClassId) (dI : Nat → Nat → Nat) (cI : ClassId) (ad : Nat → Nat) (P : PV) (a : Int32) : Met l yX2_foeMask (ws_ yX2_foeMask cX2_foeMask 7 (some .int)) rmX2_foeMask (pcR (dC, dI) [(cI, .int)] (pW cI ad P) [.ref (ad 0), .int a]) (vp_Si (fun r => r = fX2_foeMask P a)) 0 0 (fun _ => False) := by
  refine Met.ofW (cc := cX2_foeMask) (maxL := 7) (ret := (some .int)) (by decide) rfl ?_
  intro p e s m args below meth c s₁ B hml hv
  obtain ⟨ha, hP, hK, hn⟩ := hv
  have hx := B.exec
  have hb := B.bytes
  have hr := B.returns
  have hts0 := atoms_spec (ws := (ws_ yX2_foeMask cX2_foeMask 7 (some .int))) B.pre
  have hts : ∀ w ∈ lw_all, w.before args s = true := fun w h => hts0 w (List.mem_cons_of_mem _ h)
  have hown : s.vm.findClass RX2 = some m.cls := findClass_of_methodNamed B.named
  have hlocks := B.notSynchronized
  have htX2 : ∀ w ∈ wsX20, w.before args s = true := fun w h => hts w (wX2 w h)
  obtain ⟨Q, hQ⟩ : ∃ Q, Q = MQ below (vp_Si (fun r => r = fX2_foeMask P a)) args s 0 0 (fun _ => False) := ⟨_, rfl⟩
  rw [← hQ]
  have hl := lv_entry ([.ref (ad 0), .int a]) (n := 7) (Nat.le_of_ble_eq_true rfl)
  rw [ha, lg_entry_eq, ← ha]
  generalize (lg_sl ([.ref (ad 0), .int a]) ++ List.replicate (7 - (lg_sl ([.ref (ad 0), .int a])).length) Slot.unset).toArray = ls at hl ⊢
  have hl : lv_has ls 7 [(0, .ref (ad 0)), (1, .int a)] := hl
  show W p l e rmX2_foeMask s m args below meth c s.heap [] 0 0 Q (F0 m 0 ls [])
  have hF : fX2_foeMask P a = fX2_foeMask P a := rfl
  refine lv_iconst (v := 0) hx hb dX2_foeMask_0 (by decide) ?_
  refine lv_istore_n (lv' := [(2, .int 0), (0, .ref (ad 0)), (1, .int a)]) hx hb dX2_foeMask_1 rfl hl (by decide) rfl (fun ls hl => ?_)
  refine lv_iconst (v := 0) hx hb dX2_foeMask_2 (by decide) ?_
  refine lv_istore_n (lv' := [(3, .int 0), (2, .int 0), (0, .ref (ad 0)), (1, .int a)]) hx hb dX2_foeMask_3 rfl hl (by decide) rfl (fun ls hl => ?_)
  have L4 : ∀ (jj4 kk4 : Nat) (x4_2 : Int32), kk4 + jj4 = ((fX1_length 8 (P 8) (P 10 4)).toNatClampNeg) → fX2_foeMask P a = lq1 (fX2_foeMask_b4 P a) fX2_foeMask_r4 jj4 kk4 x4_2 → ∀ (ls : Array Slot), lv_has ls 7 [(3, .int (nI kk4)), (2, .int x4_2), (0, .ref (ad 0)), (1, .int a)] → W p l e rmX2_foeMask s m args below meth c s.heap [] 0 0 Q (F0 m 4 ls []) := by
    intro jj4
    induction jj4 using Nat.strongRecOn with
    | _ jj4 ihkk4 =>
      intro kk4 x4_2 hkkk4 hF  ls hl
      refine lv_iload_n hx hb dX2_foeMask_4 rfl (lv_at hl 0 rfl) ?_
      refine lv_aload_n hx hb dX2_foeMask_5 rfl (lv_at hl 2 rfl) ?_
      refine va_get (D := (dC, dI)) (ci := 2) (v := .ref (ad 9)) (C := RX2) (T := TX2) (N := 14) hx hb htX2 (fun _ h => h) hown hK hP 0 rfl rfl 8 (by decide) (hts _ u_67) (fun _ h9 => h9) rfl dX2_foeMask_6 ?_
      refine k_calli (W.runV (As := []) (rest := [.int (nI kk4)]) ⟨hx, hb, hml, hown, hts0⟩ (mX1_length l dC dI cI (ad 9) (ad 10) 8 (by decide) (P 8) (P 10 4) ) (cwV 0 hts0 (gi_V u_496 u_265 u_266 u_3 u_267) rfl rfl rfl (by decide +kernel) ⟨Nat.le_of_ble_eq_true rfl, Nat.le_of_ble_eq_true rfl⟩) (pcR_V (ci := 1) (q0 := 0) (hP.sub (ws' := lW cI (ad 9) (ad 10) 8 (P 8) (P 10 4)) [9, 10] rfl) hK hn rfl rfl) rfl rfl hl.1 rfl (lv_room (Nat.le_of_ble_eq_true rfl)) dX2_foeMask_9 ⟨Nat.zero_le _, Nat.zero_le _⟩) ?_
      refine lv_icmp_ge (tgt := 71) hx hb dX2_foeMask_12 (by decide) (fun c_12 => ?_) (fun c_12 => ?_)
      · obtain rfl := cn_exit hkkk4 c_12
        have hF := hF.trans (lq1_z _ _ _ _)
        refine lv_iload_n hx hb dX2_foeMask_71 rfl (lv_at hl 1 rfl) ?_
        rw [hQ]
        exact W.iret (v := x4_2) hx hb hr (fun t ht hW => ⟨x4_2, rfl, hF.symm, ht⟩) (fun q hq => absurd hq List.not_mem_nil) dX2_foeMask_72
      obtain ⟨jj4, rfl⟩ := cn_go hkkk4 c_12
      have hF := hF.trans (lq1_s _ _ _ _ _)
      obtain ⟨nextkk4, hnextkk4⟩ : ∃ y9, y9 = lq1 (fX2_foeMask_b4 P a) fX2_foeMask_r4 jj4 (kk4 + 1) := ⟨_, rfl⟩
      rw [← hnextkk4] at hF
      refine lv_aload_n hx hb dX2_foeMask_15 rfl (lv_at hl 2 rfl) ?_
      refine va_get (D := (dC, dI)) (ci := 2) (v := .ref (ad 9)) (C := RX2) (T := TX2) (N := 14) hx hb htX2 (fun _ h => h) hown hK hP 0 rfl rfl 8 (by decide) (hts _ u_67) (fun _ h9 => h9) rfl dX2_foeMask_16 ?_
      refine lv_iload_n hx hb dX2_foeMask_19 rfl (lv_at hl 0 rfl) ?_
      refine k_calli (W.runV (As := [.int (nI kk4)]) (rest := []) ⟨hx, hb, hml, hown, hts0⟩ (mX1_itemAt l dC dI cI (ad 9) (ad 10) 8 (by decide) (P 8) (P 10 4) (nI kk4)) (cwV 1 hts0 (gi_V u_497 u_435 u_436 u_3 u_437) rfl rfl rfl (by decide +kernel) ⟨Nat.le_of_ble_eq_true rfl, Nat.le_of_ble_eq_true rfl⟩) (pcR_V (ci := 1) (q0 := 0) (hP.sub (ws' := lW cI (ad 9) (ad 10) 8 (P 8) (P 10 4)) [9, 10] rfl) hK hn rfl rfl) rfl rfl hl.1 rfl (lv_room (Nat.le_of_ble_eq_true rfl)) dX2_foeMask_20 ⟨Nat.zero_le _, Nat.zero_le _⟩) ?_
      refine lv_istore (lv' := [(4, .int (fX1_itemAt 8 (P 8) (P 10 4) (nI kk4))), (3, .int (nI kk4)), (2, .int x4_2), (0, .ref (ad 0)), (1, .int a)]) hx hb dX2_foeMask_23 hl (by decide) rfl (fun ls hl => ?_)
      refine lv_iload hx hb dX2_foeMask_25 (lv_at hl 0 rfl) ?_
      refine lv_bipush (v := 6) hx hb dX2_foeMask_27 (by decide) ?_
      refine lv_idiv hx hb dX2_foeMask_29 (by decide) ?_
      refine lv_istore (lv' := [(5, .int ((fX1_itemAt 8 (P 8) (P 10 4) (nI kk4)) / 6)), (4, .int (fX1_itemAt 8 (P 8) (P 10 4) (nI kk4))), (3, .int (nI kk4)), (2, .int x4_2), (0, .ref (ad 0)), (1, .int a)]) hx hb dX2_foeMask_30 hl (by decide) rfl (fun ls hl => ?_)
      refine lv_iload hx hb dX2_foeMask_32 (lv_at hl 1 rfl) ?_
      refine lv_bipush (v := 6) hx hb dX2_foeMask_34 (by decide) ?_
      refine lv_irem hx hb dX2_foeMask_36 (by decide) ?_
      refine lv_istore (lv' := [(6, .int ((fX1_itemAt 8 (P 8) (P 10 4) (nI kk4)) - (fX1_itemAt 8 (P 8) (P 10 4) (nI kk4)) / 6 * 6)), (5, .int ((fX1_itemAt 8 (P 8) (P 10 4) (nI kk4)) / 6)), (4, .int (fX1_itemAt 8 (P 8) (P 10 4) (nI kk4))), (3, .int (nI kk4)), (2, .int x4_2), (0, .ref (ad 0)), (1, .int a)]) hx hb dX2_foeMask_37 hl (by decide) rfl (fun ls hl => ?_)
      refine lv_iload hx hb dX2_foeMask_39 (lv_at hl 1 rfl) ?_
      refine lv_iload_n hx hb dX2_foeMask_41 rfl (lv_at hl 6 rfl) ?_
      have K42 : ∀ (v42_0 : Int32), v42_0 = (if ((fX1_itemAt 8 (P 8) (P 10 4) (nI kk4)) / 6) = a then (x4_2 ||| (1 <<< (((fX1_itemAt 8 (P 8) (P 10 4) (nI kk4)) - (fX1_itemAt 8 (P 8) (P 10 4) (nI kk4)) / 6 * 6) &&& 31))) else x4_2) → ∀ (ls : Array Slot), lv_has ls 7 [(6, .int ((fX1_itemAt 8 (P 8) (P 10 4) (nI kk4)) - (fX1_itemAt 8 (P 8) (P 10 4) (nI kk4)) / 6 * 6)), (5, .int ((fX1_itemAt 8 (P 8) (P 10 4) (nI kk4)) / 6)), (4, .int (fX1_itemAt 8 (P 8) (P 10 4) (nI kk4))), (3, .int (nI kk4)), (2, .int v42_0), (0, .ref (ad 0)), (1, .int a)] → W p l e rmX2_foeMask s m args below meth c s.heap [] 0 0 Q (F0 m 52 ls []) := by
        intro v42_0 hz42  ls hl
        have hz := hz42
        have hF := bd_at hF hz
        refine lv_iload hx hb dX2_foeMask_52 (lv_at hl 0 rfl) ?_
        refine lv_iload_n hx hb dX2_foeMask_54 rfl (lv_at hl 6 rfl) ?_
        have K55 : ∀ (v55_0 : Int32), v55_0 = (if ((fX1_itemAt 8 (P 8) (P 10 4) (nI kk4)) - (fX1_itemAt 8 (P 8) (P 10 4) (nI kk4)) / 6 * 6) = a then (v42_0 ||| (1 <<< (((fX1_itemAt 8 (P 8) (P 10 4) (nI kk4)) / 6) &&& 31))) else v42_0) → ∀ (ls : Array Slot), lv_has ls 7 [(6, .int ((fX1_itemAt 8 (P 8) (P 10 4) (nI kk4)) - (fX1_itemAt 8 (P 8) (P 10 4) (nI kk4)) / 6 * 6)), (5, .int ((fX1_itemAt 8 (P 8) (P 10 4) (nI kk4)) / 6)), (4, .int (fX1_itemAt 8 (P 8) (P 10 4) (nI kk4))), (3, .int (nI kk4)), (2, .int v55_0), (0, .ref (ad 0)), (1, .int a)] → W p l e rmX2_foeMask s m args below meth c s.heap [] 0 0 Q (F0 m 65 ls []) := by
          intro v55_0 hz55  ls hl
          have hz := hz55
          have hF := bd_at hF hz
          refine lv_iinc (v := (nI (kk4 + 1))) (lv' := [(3, .int (nI (kk4 + 1))), (6, .int ((fX1_itemAt 8 (P 8) (P 10 4) (nI kk4)) - (fX1_itemAt 8 (P 8) (P 10 4) (nI kk4)) / 6 * 6)), (5, .int ((fX1_itemAt 8 (P 8) (P 10 4) (nI kk4)) / 6)), (4, .int (fX1_itemAt 8 (P 8) (P 10 4) (nI kk4))), (2, .int v55_0), (0, .ref (ad 0)), (1, .int a)]) hx hb dX2_foeMask_65 hl (k := 3) rfl (nI_1 _) (by decide) rfl (fun ls hl => ?_)
          refine lv_goto (tgt := 4) hx hb dX2_foeMask_68 (by decide) ?_
          have hF : fX2_foeMask P a = nextkk4 v55_0 := hF
          rw [hnextkk4] at hF
          exact ihkk4 jj4 (Nat.lt_succ_self _) (kk4 + 1) v55_0 (cn_next hkkk4) hF ls (lv_sub hl [0, 4, 5, 6] rfl)
        have hF : ((if ((fX1_itemAt 8 (P 8) (P 10 4) (nI kk4)) - (fX1_itemAt 8 (P 8) (P 10 4) (nI kk4)) / 6 * 6) = a then (v42_0 ||| (1 <<< (((fX1_itemAt 8 (P 8) (P 10 4) (nI kk4)) / 6) &&& 31))) else v42_0) : Int32) = (if ((fX1_itemAt 8 (P 8) (P 10 4) (nI kk4)) - (fX1_itemAt 8 (P 8) (P 10 4) (nI kk4)) / 6 * 6) = a then (v42_0 ||| (1 <<< (((fX1_itemAt 8 (P 8) (P 10 4) (nI kk4)) / 6) &&& 31))) else v42_0) := rfl
        refine lv_icmp_ne (tgt := 65) hx hb dX2_foeMask_55 (by decide) (fun c_55 => ?_) (fun c_55 => ?_)
        · have hF := hF.trans (if_neg c_55)
          exact K55 _ hF.symm  ls (lv_sub hl [0, 1, 2, 3, 4, 5, 6] rfl)
        have hF := hF.trans (if_pos c_55)
        refine lv_iload_n hx hb dX2_foeMask_58 rfl (lv_at hl 4 rfl) ?_
        refine lv_iconst (v := 1) hx hb dX2_foeMask_59 (by decide) ?_
        refine lv_iload hx hb dX2_foeMask_60 (lv_at hl 1 rfl) ?_
        refine lv_ishl hx hb dX2_foeMask_62 ?_
        refine lv_ior hx hb dX2_foeMask_63 ?_
        refine lv_istore_n (lv' := [(2, .int (v42_0 ||| (1 <<< (((fX1_itemAt 8 (P 8) (P 10 4) (nI kk4)) / 6) &&& 31)))), (6, .int ((fX1_itemAt 8 (P 8) (P 10 4) (nI kk4)) - (fX1_itemAt 8 (P 8) (P 10 4) (nI kk4)) / 6 * 6)), (5, .int ((fX1_itemAt 8 (P 8) (P 10 4) (nI kk4)) / 6)), (4, .int (fX1_itemAt 8 (P 8) (P 10 4) (nI kk4))), (3, .int (nI kk4)), (0, .ref (ad 0)), (1, .int a)]) hx hb dX2_foeMask_64 rfl hl (by decide) rfl (fun ls hl => ?_)
        exact K55 _ hF.symm  ls (lv_sub hl [1, 2, 3, 4, 0, 5, 6] rfl)
      have hF : ((if ((fX1_itemAt 8 (P 8) (P 10 4) (nI kk4)) / 6) = a then (x4_2 ||| (1 <<< (((fX1_itemAt 8 (P 8) (P 10 4) (nI kk4)) - (fX1_itemAt 8 (P 8) (P 10 4) (nI kk4)) / 6 * 6) &&& 31))) else x4_2) : Int32) = (if ((fX1_itemAt 8 (P 8) (P 10 4) (nI kk4)) / 6) = a then (x4_2 ||| (1 <<< (((fX1_itemAt 8 (P 8) (P 10 4) (nI kk4)) - (fX1_itemAt 8 (P 8) (P 10 4) (nI kk4)) / 6 * 6) &&& 31))) else x4_2) := rfl
      refine lv_icmp_ne (tgt := 52) hx hb dX2_foeMask_42 (by decide) (fun c_42 => ?_) (fun c_42 => ?_)
      · have hF := hF.trans (if_neg c_42)
        exact K42 _ hF.symm  ls (lv_sub hl [0, 1, 2, 3, 4, 5, 6] rfl)
      have hF := hF.trans (if_pos c_42)
      refine lv_iload_n hx hb dX2_foeMask_45 rfl (lv_at hl 4 rfl) ?_
      refine lv_iconst (v := 1) hx hb dX2_foeMask_46 (by decide) ?_
      refine lv_iload hx hb dX2_foeMask_47 (lv_at hl 0 rfl) ?_
      refine lv_ishl hx hb dX2_foeMask_49 ?_
      refine lv_ior hx hb dX2_foeMask_50 ?_
      refine lv_istore_n (lv' := [(2, .int (x4_2 ||| (1 <<< (((fX1_itemAt 8 (P 8) (P 10 4) (nI kk4)) - (fX1_itemAt 8 (P 8) (P 10 4) (nI kk4)) / 6 * 6) &&& 31)))), (6, .int ((fX1_itemAt 8 (P 8) (P 10 4) (nI kk4)) - (fX1_itemAt 8 (P 8) (P 10 4) (nI kk4)) / 6 * 6)), (5, .int ((fX1_itemAt 8 (P 8) (P 10 4) (nI kk4)) / 6)), (4, .int (fX1_itemAt 8 (P 8) (P 10 4) (nI kk4))), (3, .int (nI kk4)), (0, .ref (ad 0)), (1, .int a)]) hx hb dX2_foeMask_51 rfl hl (by decide) rfl (fun ls hl => ?_)
      exact K42 _ hF.symm  ls (lv_sub hl [1, 2, 3, 4, 0, 5, 6] rfl)
  exact L4 ((fX1_length 8 (P 8) (P 10 4)).toNatClampNeg) 0 0 (Nat.zero_add _) hF ls (lv_sub hl [0, 1, 2, 3] rfl)

def fX2_familyThatRises (P : PV) (tb : Int32) (a : Int32) (b : Int32) : Int32 :=
  (if (fX2_familyAt P tb a) = 0 then (-1) else (if (fX2_familyAt P tb b) = 0 then (-1) else (if (fX2_familyAt P tb a) = (fX2_familyAt P tb b) then (if a < b then b else a) else (if (fX2_familyAt P tb b) ≤ (fX2_familyAt P tb a) then b else a))))
abbrev rmX2_familyThatRises : Room := { frames := 2, cells := 0, slots := 0, locals := 48 }
set_option maxHeartbeats 4000000 in
set_option maxRecDepth 100000 in
theorem mX2_familyThatRises (l : Launch) (dC : Nat → ClassId) (dI : Nat → Nat → Nat) (cI : ClassId) (ad : Nat → Nat) (P : PV) (tb : Int32) (a : Int32) (b : Int32) : Met l yX2_familyThatRises (ws_ yX2_familyThatRises cX2_familyThatRises 6 (some .int)) rmX2_familyThatRises (pcR (dC, dI) [(cI, .int)] (pW cI ad P) [.ref (ad 0), .int tb, .int a, .int b]) (vp_Si (fun r => r = fX2_familyThatRises P tb a b)) 0 0 (fun _ => False) := by
  refine Met.ofW (cc := cX2_familyThatRises) (maxL := 6) (ret := (some .int)) (by decide) rfl ?_
  intro p e s m args below meth c s₁ B hml hv
  obtain ⟨ha, hP, hK, hn⟩ := hv
  have hx := B.exec
  have hb := B.bytes
  have hr := B.returns
  have hts0 := atoms_spec (ws := (ws_ yX2_familyThatRises cX2_familyThatRises 6 (some .int))) B.pre
  have hts : ∀ w ∈ lw_all, w.before args s = true := fun w h => hts0 w (List.mem_cons_of_mem _ h)
  have hown : s.vm.findClass RX2 = some m.cls := findClass_of_methodNamed B.named
  have hlocks := B.notSynchronized
  obtain ⟨Q, hQ⟩ : ∃ Q, Q = MQ below (vp_Si (fun r => r = fX2_familyThatRises P tb a b)) args s 0 0 (fun _ => False) := ⟨_, rfl⟩
  rw [← hQ]
  have hl := lv_entry ([.ref (ad 0), .int tb, .int a, .int b]) (n := 6) (Nat.le_of_ble_eq_true rfl)
  rw [ha, lg_entry_eq, ← ha]
  generalize (lg_sl ([.ref (ad 0), .int tb, .int a, .int b]) ++ List.replicate (6 - (lg_sl ([.ref (ad 0), .int tb, .int a, .int b])).length) Slot.unset).toArray = ls at hl ⊢
  have hl : lv_has ls 6 [(0, .ref (ad 0)), (1, .int tb), (2, .int a), (3, .int b)] := hl
  show W p l e rmX2_familyThatRises s m args below meth c s.heap [] 0 0 Q (F0 m 0 ls [])
  have hF : fX2_familyThatRises P tb a b = fX2_familyThatRises P tb a b := rfl
  refine lv_aload_n hx hb dX2_familyThatRises_0 rfl (lv_at hl 0 rfl) ?_
  refine lv_iload_n hx hb dX2_familyThatRises_1 rfl (lv_at hl 1 rfl) ?_
  refine lv_iload_n hx hb dX2_familyThatRises_2 rfl (lv_at hl 2 rfl) ?_
  refine k_calli (W.runV (As := [.int tb, .int a]) (rest := []) ⟨hx, hb, hml, hown, hts0⟩ (mX2_familyAt l dC dI cI ad P tb a) (cwV 2 hts0 (gi_V u_499 u_500 u_501 u_2 u_502) rfl rfl rfl (by decide +kernel) ⟨Nat.le_of_ble_eq_true rfl, Nat.le_of_ble_eq_true rfl⟩) (pcR_V (ci := 2) (q0 := 0) hP hK hn rfl rfl) rfl rfl hl.1 rfl (lv_room (Nat.le_of_ble_eq_true rfl)) dX2_familyThatRises_3 ⟨Nat.zero_le _, Nat.zero_le _⟩) ?_
  refine lv_istore (lv' := [(4, .int (fX2_familyAt P tb a)), (0, .ref (ad 0)), (1, .int tb), (2, .int a), (3, .int b)]) hx hb dX2_familyThatRises_6 hl (by decide) rfl (fun ls hl => ?_)
  refine lv_aload_n hx hb dX2_familyThatRises_8 rfl (lv_at hl 1 rfl) ?_
  refine lv_iload_n hx hb dX2_familyThatRises_9 rfl (lv_at hl 2 rfl) ?_
  refine lv_iload_n hx hb dX2_familyThatRises_10 rfl (lv_at hl 4 rfl) ?_
  refine k_calli (W.runV (As := [.int tb, .int b]) (rest := []) ⟨hx, hb, hml, hown, hts0⟩ (mX2_familyAt l dC dI cI ad P tb b) (cwV 2 hts0 (gi_V u_499 u_500 u_501 u_2 u_502) rfl rfl rfl (by decide +kernel) ⟨Nat.le_of_ble_eq_true rfl, Nat.le_of_ble_eq_true rfl⟩) (pcR_V (ci := 2) (q0 := 0) hP hK hn rfl rfl) rfl rfl hl.1 rfl (lv_room (Nat.le_of_ble_eq_true rfl)) dX2_familyThatRises_11 ⟨Nat.zero_le _, Nat.zero_le _⟩) ?_
  refine lv_istore (lv' := [(5, .int (fX2_familyAt P tb b)), (4, .int (fX2_familyAt P tb a)), (0, .ref (ad 0)), (1, .int tb), (2, .int a), (3, .int b)]) hx hb dX2_familyThatRises_14 hl (by decide) rfl (fun ls hl => ?_)
  refine lv_iload hx hb dX2_familyThatRises_16 (lv_at hl 1 rfl) ?_
  refine lv_if_eq (tgt := 26) hx hb dX2_familyThatRises_18 (by decide) (fun c_18 => ?_) (fun c_18 => ?_)
  · have hF := hF.trans (if_pos c_18)
    refine lv_iconst (v := (-1)) hx hb dX2_familyThatRises_26 (by decide) ?_
    rw [hQ]
    exact W.iret (v := (-1)) hx hb hr (fun t ht hW => ⟨(-1), rfl, hF.symm, ht⟩) (fun q hq => absurd hq List.not_mem_nil) dX2_familyThatRises_27
  have hF := hF.trans (if_neg c_18)
  refine lv_iload hx hb dX2_familyThatRises_21 (lv_at hl 0 rfl) ?_
  refine lv_if_ne (tgt := 28) hx hb dX2_familyThatRises_23 (by decide) (fun c_23 => ?_) (fun c_23 => ?_)
  · have hF := hF.trans (if_neg c_23)
    refine lv_iload hx hb dX2_familyThatRises_28 (lv_at hl 1 rfl) ?_
    refine lv_iload hx hb dX2_familyThatRises_30 (lv_at hl 0 rfl) ?_
    refine lv_icmp_ne (tgt := 41) hx hb dX2_familyThatRises_32 (by decide) (fun c_32 => ?_) (fun c_32 => ?_)
    · have hF := hF.trans (if_neg c_32)
      refine lv_iload hx hb dX2_familyThatRises_41 (lv_at hl 1 rfl) ?_
      refine lv_iload hx hb dX2_familyThatRises_43 (lv_at hl 0 rfl) ?_
      refine lv_icmp_ge (tgt := 52) hx hb dX2_familyThatRises_45 (by decide) (fun c_45 => ?_) (fun c_45 => ?_)
      · have hF := hF.trans (if_pos c_45)
        refine lv_iload_n hx hb dX2_familyThatRises_52 rfl (lv_at hl 5 rfl) ?_
        rw [hQ]
        exact W.iret (v := b) hx hb hr (fun t ht hW => ⟨b, rfl, hF.symm, ht⟩) (fun q hq => absurd hq List.not_mem_nil) dX2_familyThatRises_53
      have hF := hF.trans (if_neg c_45)
      refine lv_iload_n hx hb dX2_familyThatRises_48 rfl (lv_at hl 4 rfl) ?_
      refine lv_goto (tgt := 53) hx hb dX2_familyThatRises_49 (by decide) ?_
      rw [hQ]
      exact W.iret (v := a) hx hb hr (fun t ht hW => ⟨a, rfl, hF.symm, ht⟩) (fun q hq => absurd hq List.not_mem_nil) dX2_familyThatRises_53
    have hF := hF.trans (if_pos c_32)
    refine lv_iload_n hx hb dX2_familyThatRises_35 rfl (lv_at hl 4 rfl) ?_
    refine lv_iload_n hx hb dX2_familyThatRises_36 rfl (lv_at hl 5 rfl) ?_
    refine va_mmax hx hb (hml.trans hl.1.symm) hown (hts _ u_558) (hts _ u_36) (hts _ u_4) (hts _ u_37) (Nat.le_of_ble_eq_true rfl) (Nat.le_of_ble_eq_true rfl) (Nat.zero_le _) (Nat.zero_le _) dX2_familyThatRises_37 ?_
    rw [hQ]
    exact W.iret (v := (if a < b then b else a)) hx hb hr (fun t ht hW => ⟨(if a < b then b else a), rfl, hF.symm, ht⟩) (fun q hq => absurd hq List.not_mem_nil) dX2_familyThatRises_40
  have hF := hF.trans (if_pos c_23)
  refine lv_iconst (v := (-1)) hx hb dX2_familyThatRises_26 (by decide) ?_
  rw [hQ]
  exact W.iret (v := (-1)) hx hb hr (fun t ht hW => ⟨(-1), rfl, hF.symm, ht⟩) (fun q hq => absurd hq List.not_mem_nil) dX2_familyThatRises_27

def fX2_risersOfFeud_b16 (P : PV) (a : Int32) (b : Int32) (kk16 : Nat) (x16_3 : Int32) (nextkk16 : Int32 → Int32) : Int32 :=
  (bd ((if (fX2_familyThatRises P (nI kk16) a b) = (-1) then x16_3 else (x16_3 + (fX2_familyAt P (nI kk16) (fX2_familyThatRises P (nI kk16) a b)))) : Int32) (fun v38_0 => (nextkk16 v38_0)))
def fX2_risersOfFeud_r16 (x16_3 : Int32) : Int32 :=
  x16_3
def fX2_risersOfFeud (P : PV) (a : Int32) (b : Int32) : Int32 :=
  (if (fX2_hasFeud P a b) = 0 then (lq1 (fX2_risersOfFeud_b16 P a b) fX2_risersOfFeud_r16 ((P 10 1).toNatClampNeg) 0 0) else 0)
abbrev rmX2_risersOfFeud : Room := { frames := 3, cells := 0, slots := 0, locals := 83 }
set_option maxHeartbeats 4000000 in
set_option maxRecDepth 100000 in
theorem mX2_risersOfFeud (l : Launch) (dC : Nat → ClassId) (dI : Nat → Nat → Nat) (cI : ClassId) (ad : Nat → Nat) (P : PV) (a : Int32) (b : Int32) : Met l yX2_risersOfFeud (ws_ yX2_risersOfFeud cX2_risersOfFeud 6 (some .int)) rmX2_risersOfFeud (pcR (dC, dI) [(cI, .int)] (pW cI ad P) [.ref (ad 0), .int a, .int b]) (vp_Si (fun r => r = fX2_risersOfFeud P a b)) 0 0 (fun _ => False) := by
  refine Met.ofW (cc := cX2_risersOfFeud) (maxL := 6) (ret := (some .int)) (by decide) rfl ?_
  intro p e s m args below meth c s₁ B hml hv
  obtain ⟨ha, hP, hK, hn⟩ := hv
  have hx := B.exec
  have hb := B.bytes
  have hr := B.returns
  have hts0 := atoms_spec (ws := (ws_ yX2_risersOfFeud cX2_risersOfFeud 6 (some .int))) B.pre
  have hts : ∀ w ∈ lw_all, w.before args s = true := fun w h => hts0 w (List.mem_cons_of_mem _ h)
  have hown : s.vm.findClass RX2 = some m.cls := findClass_of_methodNamed B.named
  have hlocks := B.notSynchronized
  have htX2 : ∀ w ∈ wsX20, w.before args s = true := fun w h => hts w (wX2 w h)
  obtain ⟨Q, hQ⟩ : ∃ Q, Q = MQ below (vp_Si (fun r => r = fX2_risersOfFeud P a b)) args s 0 0 (fun _ => False) := ⟨_, rfl⟩
  rw [← hQ]
  have hl := lv_entry ([.ref (ad 0), .int a, .int b]) (n := 6) (Nat.le_of_ble_eq_true rfl)
  rw [ha, lg_entry_eq, ← ha]
  generalize (lg_sl ([.ref (ad 0), .int a, .int b]) ++ List.replicate (6 - (lg_sl ([.ref (ad 0), .int a, .int b])).length) Slot.unset).toArray = ls at hl ⊢
  have hl : lv_has ls 6 [(0, .ref (ad 0)), (1, .int a), (2, .int b)] := hl
  show W p l e rmX2_risersOfFeud s m args below meth c s.heap [] 0 0 Q (F0 m 0 ls [])
  have hF : fX2_risersOfFeud P a b = fX2_risersOfFeud P a b := rfl
  refine lv_aload_n hx hb dX2_risersOfFeud_0 rfl (lv_at hl 0 rfl) ?_
  refine lv_iload_n hx hb dX2_risersOfFeud_1 rfl (lv_at hl 1 rfl) ?_
  refine lv_iload_n hx hb dX2_risersOfFeud_2 rfl (lv_at hl 2 rfl) ?_
  refine k_callb (W.runV (As := [.int a, .int b]) (rest := []) ⟨hx, hb, hml, hown, hts0⟩ (mX2_hasFeud l dC dI cI ad P a b) (cwV 2 hts0 (gi_V u_679 u_551 u_552 u_2 u_553) rfl rfl rfl (by decide +kernel) ⟨Nat.le_of_ble_eq_true rfl, Nat.le_of_ble_eq_true rfl⟩) (pcR_V (ci := 2) (q0 := 0) hP hK hn rfl rfl) rfl rfl hl.1 rfl (lv_room (Nat.le_of_ble_eq_true rfl)) dX2_risersOfFeud_3 ⟨Nat.zero_le _, Nat.zero_le _⟩) (fun br3 => ?_)
  refine lv_if_eq (tgt := 11) hx hb dX2_risersOfFeud_6 (by decide) (fun c_6 => ?_) (fun c_6 => ?_)
  · have hF := hF.trans (if_pos c_6)
    refine lv_iconst (v := 0) hx hb dX2_risersOfFeud_11 (by decide) ?_
    refine lv_istore_n (lv' := [(3, .int 0), (0, .ref (ad 0)), (1, .int a), (2, .int b)]) hx hb dX2_risersOfFeud_12 rfl hl (by decide) rfl (fun ls hl => ?_)
    refine lv_iconst (v := 0) hx hb dX2_risersOfFeud_13 (by decide) ?_
    refine lv_istore (lv' := [(4, .int 0), (3, .int 0), (0, .ref (ad 0)), (1, .int a), (2, .int b)]) hx hb dX2_risersOfFeud_14 hl (by decide) rfl (fun ls hl => ?_)
    have L16 : ∀ (jj16 kk16 : Nat) (x16_3 : Int32), kk16 + jj16 = ((P 10 1).toNatClampNeg) → fX2_risersOfFeud P a b = lq1 (fX2_risersOfFeud_b16 P a b) fX2_risersOfFeud_r16 jj16 kk16 x16_3 → ∀ (ls : Array Slot), lv_has ls 6 [(4, .int (nI kk16)), (3, .int x16_3), (0, .ref (ad 0)), (1, .int a), (2, .int b)] → W p l e rmX2_risersOfFeud s m args below meth c s.heap [] 0 0 Q (F0 m 16 ls []) := by
      intro jj16
      induction jj16 using Nat.strongRecOn with
      | _ jj16 ihkk16 =>
        intro kk16 x16_3 hkkk16 hF  ls hl
        refine lv_iload hx hb dX2_risersOfFeud_16 (lv_at hl 0 rfl) ?_
        refine lv_aload_n hx hb dX2_risersOfFeud_18 rfl (lv_at hl 2 rfl) ?_
        refine va_get (D := (dC, dI)) (ci := 2) (v := .int (P 10 1)) (C := RX2) (T := TX2) (N := 14) hx hb htX2 (fun _ h => h) hown hK hP 0 rfl rfl 11 (by decide) (hts _ u_74) (fun _ h9 => h9) rfl dX2_risersOfFeud_19 ?_
        refine lv_icmp_ge (tgt := 58) hx hb dX2_risersOfFeud_22 (by decide) (fun c_22 => ?_) (fun c_22 => ?_)
        · obtain rfl := cn_exit hkkk16 c_22
          have hF := hF.trans (lq1_z _ _ _ _)
          refine lv_iload_n hx hb dX2_risersOfFeud_58 rfl (lv_at hl 1 rfl) ?_
          rw [hQ]
          exact W.iret (v := x16_3) hx hb hr (fun t ht hW => ⟨x16_3, rfl, hF.symm, ht⟩) (fun q hq => absurd hq List.not_mem_nil) dX2_risersOfFeud_59
        obtain ⟨jj16, rfl⟩ := cn_go hkkk16 c_22
        have hF := hF.trans (lq1_s _ _ _ _ _)
        obtain ⟨nextkk16, hnextkk16⟩ : ∃ y9, y9 = lq1 (fX2_risersOfFeud_b16 P a b) fX2_risersOfFeud_r16 jj16 (kk16 + 1) := ⟨_, rfl⟩
        rw [← hnextkk16] at hF
        refine lv_aload_n hx hb dX2_risersOfFeud_25 rfl (lv_at hl 2 rfl) ?_
        refine lv_iload hx hb dX2_risersOfFeud_26 (lv_at hl 0 rfl) ?_
        refine lv_iload_n hx hb dX2_risersOfFeud_28 rfl (lv_at hl 3 rfl) ?_
        refine lv_iload_n hx hb dX2_risersOfFeud_29 rfl (lv_at hl 4 rfl) ?_
        refine k_calli (W.runV (As := [.int (nI kk16), .int a, .int b]) (rest := []) ⟨hx, hb, hml, hown, hts0⟩ (mX2_familyThatRises l dC dI cI ad P (nI kk16) a b) (cwV 3 hts0 (gi_V u_576 u_577 u_578 u_2 u_579) rfl rfl rfl (by decide +kernel) ⟨Nat.le_of_ble_eq_true rfl, Nat.le_of_ble_eq_true rfl⟩) (pcR_V (ci := 2) (q0 := 0) hP hK hn rfl rfl) rfl rfl hl.1 rfl (lv_room (Nat.le_of_ble_eq_true rfl)) dX2_risersOfFeud_30 ⟨Nat.zero_le _, Nat.zero_le _⟩) ?_
        refine lv_istore (lv' := [(5, .int (fX2_familyThatRises P (nI kk16) a b)), (4, .int (nI kk16)), (3, .int x16_3), (0, .ref (ad 0)), (1, .int a), (2, .int b)]) hx hb dX2_risersOfFeud_33 hl (by decide) rfl (fun ls hl => ?_)
        refine lv_iload hx hb dX2_risersOfFeud_35 (lv_at hl 0 rfl) ?_
        refine lv_iconst (v := (-1)) hx hb dX2_risersOfFeud_37 (by decide) ?_
        have K38 : ∀ (v38_0 : Int32), v38_0 = (if (fX2_familyThatRises P (nI kk16) a b) = (-1) then x16_3 else (x16_3 + (fX2_familyAt P (nI kk16) (fX2_familyThatRises P (nI kk16) a b)))) → ∀ (ls : Array Slot), lv_has ls 6 [(5, .int (fX2_familyThatRises P (nI kk16) a b)), (4, .int (nI kk16)), (3, .int v38_0), (0, .ref (ad 0)), (1, .int a), (2, .int b)] → W p l e rmX2_risersOfFeud s m args below meth c s.heap [] 0 0 Q (F0 m 52 ls []) := by
          intro v38_0 hz38  ls hl
          have hz := hz38
          have hF := bd_at hF hz
          refine lv_iinc (v := (nI (kk16 + 1))) (lv' := [(4, .int (nI (kk16 + 1))), (5, .int (fX2_familyThatRises P (nI kk16) a b)), (3, .int v38_0), (0, .ref (ad 0)), (1, .int a), (2, .int b)]) hx hb dX2_risersOfFeud_52 hl (k := 1) rfl (nI_1 _) (by decide) rfl (fun ls hl => ?_)
          refine lv_goto (tgt := 16) hx hb dX2_risersOfFeud_55 (by decide) ?_
          have hF : fX2_risersOfFeud P a b = nextkk16 v38_0 := hF
          rw [hnextkk16] at hF
          exact ihkk16 jj16 (Nat.lt_succ_self _) (kk16 + 1) v38_0 (cn_next hkkk16) hF ls (lv_sub hl [0, 2, 3, 4, 5] rfl)
        have hF : ((if (fX2_familyThatRises P (nI kk16) a b) = (-1) then x16_3 else (x16_3 + (fX2_familyAt P (nI kk16) (fX2_familyThatRises P (nI kk16) a b)))) : Int32) = (if (fX2_familyThatRises P (nI kk16) a b) = (-1) then x16_3 else (x16_3 + (fX2_familyAt P (nI kk16) (fX2_familyThatRises P (nI kk16) a b)))) := rfl
        refine lv_icmp_eq (tgt := 52) hx hb dX2_risersOfFeud_38 (by decide) (fun c_38 => ?_) (fun c_38 => ?_)
        · have hF := hF.trans (if_pos c_38)
          exact K38 _ hF.symm  ls (lv_sub hl [0, 1, 2, 3, 4, 5] rfl)
        have hF := hF.trans (if_neg c_38)
        refine lv_iload_n hx hb dX2_risersOfFeud_41 rfl (lv_at hl 2 rfl) ?_
        refine lv_aload_n hx hb dX2_risersOfFeud_42 rfl (lv_at hl 3 rfl) ?_
        refine lv_iload hx hb dX2_risersOfFeud_43 (lv_at hl 1 rfl) ?_
        refine lv_iload hx hb dX2_risersOfFeud_45 (lv_at hl 0 rfl) ?_
        refine k_calli (W.runV (As := [.int (nI kk16), .int (fX2_familyThatRises P (nI kk16) a b)]) (rest := [.int x16_3]) ⟨hx, hb, hml, hown, hts0⟩ (mX2_familyAt l dC dI cI ad P (nI kk16) (fX2_familyThatRises P (nI kk16) a b)) (cwV 2 hts0 (gi_V u_499 u_500 u_501 u_2 u_502) rfl rfl rfl (by decide +kernel) ⟨Nat.le_of_ble_eq_true rfl, Nat.le_of_ble_eq_true rfl⟩) (pcR_V (ci := 2) (q0 := 0) hP hK hn rfl rfl) rfl rfl hl.1 rfl (lv_room (Nat.le_of_ble_eq_true rfl)) dX2_risersOfFeud_47 ⟨Nat.zero_le _, Nat.zero_le _⟩) ?_
        refine lv_iadd hx hb dX2_risersOfFeud_50 ?_
        refine lv_istore_n (lv' := [(3, .int (x16_3 + (fX2_familyAt P (nI kk16) (fX2_familyThatRises P (nI kk16) a b)))), (5, .int (fX2_familyThatRises P (nI kk16) a b)), (4, .int (nI kk16)), (0, .ref (ad 0)), (1, .int a), (2, .int b)]) hx hb dX2_risersOfFeud_51 rfl hl (by decide) rfl (fun ls hl => ?_)
        exact K38 _ hF.symm  ls (lv_sub hl [1, 2, 0, 3, 4, 5] rfl)
    exact L16 ((P 10 1).toNatClampNeg) 0 0 (Nat.zero_add _) hF ls (lv_sub hl [0, 1, 2, 3, 4] rfl)
  have hF := hF.trans (if_neg c_6)
  refine lv_iconst (v := 0) hx hb dX2_risersOfFeud_9 (by decide) ?_
  rw [hQ]
  exact W.iret (v := 0) hx hb hr (fun t ht hW => ⟨0, rfl, hF.symm, ht⟩) (fun q hq => absurd hq List.not_mem_nil) dX2_risersOfFeud_10

def fX2_reasonAgainst (P : PV) (g : Int32) (tb : Int32) (z : Int32) : Int32 :=
  (if (fX2_holderAt P tb z) = g then 1 else (if (fX2_holderAt P tb z) = (-1) then (if (fX2_isAtLeg z) = 0 then (if ((fX2_foeMask P (fX3_at 16 (P 0) g)) &&& (fX2_familyMask P tb)) = 0 then (bd ((if (fX3_at 16 (P 3) g) = tb then ((fX2_familyAt P tb (fX3_at 16 (P 0) g)) + (-1)) else (fX2_familyAt P tb (fX3_at 16 (P 0) g))) : Int32) (fun v90_0 => (if v90_0 < (fX3_at 4 (P 7) 0) then 0 else 5))) else 4) else (if (fX3_at 16 (P 1) g) = 3 then 3 else (if ((fX2_foeMask P (fX3_at 16 (P 0) g)) &&& (fX2_familyMask P tb)) = 0 then (bd ((if (fX3_at 16 (P 3) g) = tb then ((fX2_familyAt P tb (fX3_at 16 (P 0) g)) + (-1)) else (fX2_familyAt P tb (fX3_at 16 (P 0) g))) : Int32) (fun v90_0 => (if v90_0 < (fX3_at 4 (P 7) 0) then 0 else 5))) else 4))) else 2))
abbrev rmX2_reasonAgainst : Room := { frames := 2, cells := 0, slots := 0, locals := 48 }
set_option maxHeartbeats 4000000 in
set_option maxRecDepth 100000 in
theorem mX2_reasonAgainst (l : Launch) (dC : Nat → ClassId) (dI : Nat → Nat → Nat) (cI : ClassId) (ad : Nat → Nat) (P : PV) (g : Int32) (tb : Int32) (z : Int32) : Met l yX2_reasonAgainst (ws_ yX2_reasonAgainst cX2_reasonAgainst 7 (some .int)) rmX2_reasonAgainst (pcR (dC, dI) [(cI, .int)] (pW cI ad P) [.ref (ad 0), .int g, .int tb, .int z]) (vp_Si (fun r => r = fX2_reasonAgainst P g tb z)) 0 0 (fun _ => False) := by
  refine Met.ofW (cc := cX2_reasonAgainst) (maxL := 7) (ret := (some .int)) (by decide) rfl ?_
  intro p e s m args below meth c s₁ B hml hv
  obtain ⟨ha, hP, hK, hn⟩ := hv
  have hx := B.exec
  have hb := B.bytes
  have hr := B.returns
  have hts0 := atoms_spec (ws := (ws_ yX2_reasonAgainst cX2_reasonAgainst 7 (some .int))) B.pre
  have hts : ∀ w ∈ lw_all, w.before args s = true := fun w h => hts0 w (List.mem_cons_of_mem _ h)
  have hown : s.vm.findClass RX2 = some m.cls := findClass_of_methodNamed B.named
  have hlocks := B.notSynchronized
  have htX2 : ∀ w ∈ wsX20, w.before args s = true := fun w h => hts w (wX2 w h)
  obtain ⟨Q, hQ⟩ : ∃ Q, Q = MQ below (vp_Si (fun r => r = fX2_reasonAgainst P g tb z)) args s 0 0 (fun _ => False) := ⟨_, rfl⟩
  rw [← hQ]
  have hl := lv_entry ([.ref (ad 0), .int g, .int tb, .int z]) (n := 7) (Nat.le_of_ble_eq_true rfl)
  rw [ha, lg_entry_eq, ← ha]
  generalize (lg_sl ([.ref (ad 0), .int g, .int tb, .int z]) ++ List.replicate (7 - (lg_sl ([.ref (ad 0), .int g, .int tb, .int z])).length) Slot.unset).toArray = ls at hl ⊢
  have hl : lv_has ls 7 [(0, .ref (ad 0)), (1, .int g), (2, .int tb), (3, .int z)] := hl
  show W p l e rmX2_reasonAgainst s m args below meth c s.heap [] 0 0 Q (F0 m 0 ls [])
  have hF : fX2_reasonAgainst P g tb z = fX2_reasonAgainst P g tb z := rfl
  refine lv_aload_n hx hb dX2_reasonAgainst_0 rfl (lv_at hl 0 rfl) ?_
  refine lv_iload_n hx hb dX2_reasonAgainst_1 rfl (lv_at hl 2 rfl) ?_
  refine lv_iload_n hx hb dX2_reasonAgainst_2 rfl (lv_at hl 3 rfl) ?_
  refine k_calli (W.runV (As := [.int tb, .int z]) (rest := []) ⟨hx, hb, hml, hown, hts0⟩ (mX2_holderAt l dC dI cI ad P tb z) (cwV 2 hts0 (gi_V u_415 u_339 u_340 u_2 u_341) rfl rfl rfl (by decide +kernel) ⟨Nat.le_of_ble_eq_true rfl, Nat.le_of_ble_eq_true rfl⟩) (pcR_V (ci := 2) (q0 := 0) hP hK hn rfl rfl) rfl rfl hl.1 rfl (lv_room (Nat.le_of_ble_eq_true rfl)) dX2_reasonAgainst_3 ⟨Nat.zero_le _, Nat.zero_le _⟩) ?_
  refine lv_istore (lv' := [(4, .int (fX2_holderAt P tb z)), (0, .ref (ad 0)), (1, .int g), (2, .int tb), (3, .int z)]) hx hb dX2_reasonAgainst_6 hl (by decide) rfl (fun ls hl => ?_)
  refine lv_iload hx hb dX2_reasonAgainst_8 (lv_at hl 0 rfl) ?_
  refine lv_iload_n hx hb dX2_reasonAgainst_10 rfl (lv_at hl 2 rfl) ?_
  refine lv_icmp_ne (tgt := 16) hx hb dX2_reasonAgainst_11 (by decide) (fun c_11 => ?_) (fun c_11 => ?_)
  · have hF := hF.trans (if_neg c_11)
    refine lv_iload hx hb dX2_reasonAgainst_16 (lv_at hl 0 rfl) ?_
    refine lv_iconst (v := (-1)) hx hb dX2_reasonAgainst_18 (by decide) ?_
    refine lv_icmp_eq (tgt := 24) hx hb dX2_reasonAgainst_19 (by decide) (fun c_19 => ?_) (fun c_19 => ?_)
    · have hF := hF.trans (if_pos c_19)
      refine lv_iload_n hx hb dX2_reasonAgainst_24 rfl (lv_at hl 4 rfl) ?_
      refine k_callb (W.runS (As := [.int z]) (rest := []) ⟨hx, hb, hml, hown, hts0⟩ (mX2_isAtLeg l dC dI  z) (va_cwS 1 hts0 (gi_S u_425 u_310 u_2 u_311) rfl rfl rfl (by decide +kernel) ⟨Nat.le_of_ble_eq_true rfl, Nat.le_of_ble_eq_true rfl⟩) (pcR_S (hP.sub (ws' := []) [] rfl) (hK.sub (tys' := []) [] rfl) hn) rfl rfl hl.1 rfl (lv_room (Nat.le_of_ble_eq_true rfl)) dX2_reasonAgainst_25 ⟨Nat.zero_le _, Nat.zero_le _⟩) (fun br25 => ?_)
      refine lv_if_eq (tgt := 45) hx hb dX2_reasonAgainst_28 (by decide) (fun c_28 => ?_) (fun c_28 => ?_)
      · have hF := hF.trans (if_pos c_28)
        refine lv_aload_n hx hb dX2_reasonAgainst_45 rfl (lv_at hl 1 rfl) ?_
        refine va_get (D := (dC, dI)) (ci := 2) (v := .ref (ad 1)) (C := RX2) (T := TX2) (N := 14) hx hb htX2 (fun _ h => h) hown hK hP 0 rfl rfl 0 (by decide) (hts _ u_48) (fun _ h9 => h9) rfl dX2_reasonAgainst_46 ?_
        refine lv_iload_n hx hb dX2_reasonAgainst_49 rfl (lv_at hl 2 rfl) ?_
        refine k_calli (W.runS (As := [.ref (ad 1), .int g]) (rest := []) ⟨hx, hb, hml, hown, hts0⟩ (mX3_at l dC dI cI (ad 1) 16 (by decide) (P 0) g) (va_cwS 2 hts0 (gi_S u_302 u_303 u_7 u_304) rfl rfl rfl (by decide +kernel) ⟨Nat.le_of_ble_eq_true rfl, Nat.le_of_ble_eq_true rfl⟩) (pcR_S (hP.sub (ws' := aW cI (ad 1) 16 (P 0)) [1] rfl) hK hn) rfl rfl hl.1 rfl (lv_room (Nat.le_of_ble_eq_true rfl)) dX2_reasonAgainst_50 ⟨Nat.zero_le _, Nat.zero_le _⟩) ?_
        refine lv_istore (lv' := [(5, .int (fX3_at 16 (P 0) g)), (4, .int (fX2_holderAt P tb z)), (0, .ref (ad 0)), (1, .int g), (2, .int tb), (3, .int z)]) hx hb dX2_reasonAgainst_53 hl (by decide) rfl (fun ls hl => ?_)
        refine lv_aload_n hx hb dX2_reasonAgainst_55 rfl (lv_at hl 2 rfl) ?_
        refine lv_iload hx hb dX2_reasonAgainst_56 (lv_at hl 0 rfl) ?_
        refine k_calli (W.runV (As := [.int (fX3_at 16 (P 0) g)]) (rest := []) ⟨hx, hb, hml, hown, hts0⟩ (mX2_foeMask l dC dI cI ad P (fX3_at 16 (P 0) g)) (cwV 1 hts0 (gi_V u_492 u_493 u_494 u_2 u_495) rfl rfl rfl (by decide +kernel) ⟨Nat.le_of_ble_eq_true rfl, Nat.le_of_ble_eq_true rfl⟩) (pcR_V (ci := 2) (q0 := 0) hP hK hn rfl rfl) rfl rfl hl.1 rfl (lv_room (Nat.le_of_ble_eq_true rfl)) dX2_reasonAgainst_58 ⟨Nat.zero_le _, Nat.zero_le _⟩) ?_
        refine lv_aload_n hx hb dX2_reasonAgainst_61 rfl (lv_at hl 2 rfl) ?_
        refine lv_iload_n hx hb dX2_reasonAgainst_62 rfl (lv_at hl 4 rfl) ?_
        refine k_calli (W.runV (As := [.int tb]) (rest := [.int (fX2_foeMask P (fX3_at 16 (P 0) g))]) ⟨hx, hb, hml, hown, hts0⟩ (mX2_familyMask l dC dI cI ad P tb) (cwV 1 hts0 (gi_V u_498 u_417 u_418 u_2 u_419) rfl rfl rfl (by decide +kernel) ⟨Nat.le_of_ble_eq_true rfl, Nat.le_of_ble_eq_true rfl⟩) (pcR_V (ci := 2) (q0 := 0) hP hK hn rfl rfl) rfl rfl hl.1 rfl (lv_room (Nat.le_of_ble_eq_true rfl)) dX2_reasonAgainst_63 ⟨Nat.zero_le _, Nat.zero_le _⟩) ?_
        refine lv_iand hx hb dX2_reasonAgainst_66 ?_
        refine lv_if_eq (tgt := 72) hx hb dX2_reasonAgainst_67 (by decide) (fun c_67 => ?_) (fun c_67 => ?_)
        · have hF := hF.trans (if_pos c_67)
          refine lv_aload_n hx hb dX2_reasonAgainst_72 rfl (lv_at hl 2 rfl) ?_
          refine lv_iload_n hx hb dX2_reasonAgainst_73 rfl (lv_at hl 4 rfl) ?_
          refine lv_iload hx hb dX2_reasonAgainst_74 (lv_at hl 0 rfl) ?_
          refine k_calli (W.runV (As := [.int tb, .int (fX3_at 16 (P 0) g)]) (rest := []) ⟨hx, hb, hml, hown, hts0⟩ (mX2_familyAt l dC dI cI ad P tb (fX3_at 16 (P 0) g)) (cwV 2 hts0 (gi_V u_499 u_500 u_501 u_2 u_502) rfl rfl rfl (by decide +kernel) ⟨Nat.le_of_ble_eq_true rfl, Nat.le_of_ble_eq_true rfl⟩) (pcR_V (ci := 2) (q0 := 0) hP hK hn rfl rfl) rfl rfl hl.1 rfl (lv_room (Nat.le_of_ble_eq_true rfl)) dX2_reasonAgainst_76 ⟨Nat.zero_le _, Nat.zero_le _⟩) ?_
          refine lv_istore (lv' := [(6, .int (fX2_familyAt P tb (fX3_at 16 (P 0) g))), (5, .int (fX3_at 16 (P 0) g)), (4, .int (fX2_holderAt P tb z)), (0, .ref (ad 0)), (1, .int g), (2, .int tb), (3, .int z)]) hx hb dX2_reasonAgainst_79 hl (by decide) rfl (fun ls hl => ?_)
          refine lv_aload_n hx hb dX2_reasonAgainst_81 rfl (lv_at hl 3 rfl) ?_
          refine va_get (D := (dC, dI)) (ci := 2) (v := .ref (ad 4)) (C := RX2) (T := TX2) (N := 14) hx hb htX2 (fun _ h => h) hown hK hP 0 rfl rfl 3 (by decide) (hts _ u_56) (fun _ h9 => h9) rfl dX2_reasonAgainst_82 ?_
          refine lv_iload_n hx hb dX2_reasonAgainst_85 rfl (lv_at hl 4 rfl) ?_
          refine k_calli (W.runS (As := [.ref (ad 4), .int g]) (rest := []) ⟨hx, hb, hml, hown, hts0⟩ (mX3_at l dC dI cI (ad 4) 16 (by decide) (P 3) g) (va_cwS 2 hts0 (gi_S u_302 u_303 u_7 u_304) rfl rfl rfl (by decide +kernel) ⟨Nat.le_of_ble_eq_true rfl, Nat.le_of_ble_eq_true rfl⟩) (pcR_S (hP.sub (ws' := aW cI (ad 4) 16 (P 3)) [4] rfl) hK hn) rfl rfl hl.1 rfl (lv_room (Nat.le_of_ble_eq_true rfl)) dX2_reasonAgainst_86 ⟨Nat.zero_le _, Nat.zero_le _⟩) ?_
          refine lv_iload_n hx hb dX2_reasonAgainst_89 rfl (lv_at hl 5 rfl) ?_
          have K90 : ∀ (v90_0 : Int32), v90_0 = (if (fX3_at 16 (P 3) g) = tb then ((fX2_familyAt P tb (fX3_at 16 (P 0) g)) + (-1)) else (fX2_familyAt P tb (fX3_at 16 (P 0) g))) → ∀ (ls : Array Slot), lv_has ls 7 [(6, .int v90_0), (5, .int (fX3_at 16 (P 0) g)), (4, .int (fX2_holderAt P tb z)), (0, .ref (ad 0)), (1, .int g), (2, .int tb), (3, .int z)] → W p l e rmX2_reasonAgainst s m args below meth c s.heap [] 0 0 Q (F0 m 96 ls []) := by
            intro v90_0 hz90  ls hl
            have hz := hz90
            have hF := bd_at hF hz
            refine lv_iload hx hb dX2_reasonAgainst_96 (lv_at hl 0 rfl) ?_
            refine lv_aload_n hx hb dX2_reasonAgainst_98 rfl (lv_at hl 3 rfl) ?_
            refine va_get (D := (dC, dI)) (ci := 2) (v := .ref (ad 8)) (C := RX2) (T := TX2) (N := 14) hx hb htX2 (fun _ h => h) hown hK hP 0 rfl rfl 7 (by decide) (hts _ u_64) (fun _ h9 => h9) rfl dX2_reasonAgainst_99 ?_
            refine lv_iconst (v := 0) hx hb dX2_reasonAgainst_102 (by decide) ?_
            refine k_calli (W.runS (As := [.ref (ad 8), .int 0]) (rest := [.int v90_0]) ⟨hx, hb, hml, hown, hts0⟩ (mX3_at l dC dI cI (ad 8) 4 (by decide) (P 7) 0) (va_cwS 2 hts0 (gi_S u_302 u_303 u_7 u_304) rfl rfl rfl (by decide +kernel) ⟨Nat.le_of_ble_eq_true rfl, Nat.le_of_ble_eq_true rfl⟩) (pcR_S (hP.sub (ws' := aW cI (ad 8) 4 (P 7)) [8] rfl) hK hn) rfl rfl hl.1 rfl (lv_room (Nat.le_of_ble_eq_true rfl)) dX2_reasonAgainst_103 ⟨Nat.zero_le _, Nat.zero_le _⟩) ?_
            refine lv_icmp_lt (tgt := 113) hx hb dX2_reasonAgainst_106 (by decide) (fun c_106 => ?_) (fun c_106 => ?_)
            · have hF := hF.trans (if_pos c_106)
              refine lv_iconst (v := 0) hx hb dX2_reasonAgainst_113 (by decide) ?_
              rw [hQ]
              exact W.iret (v := 0) hx hb hr (fun t ht hW => ⟨0, rfl, hF.symm, ht⟩) (fun q hq => absurd hq List.not_mem_nil) dX2_reasonAgainst_114
            have hF := hF.trans (if_neg c_106)
            refine lv_iconst (v := 5) hx hb dX2_reasonAgainst_109 (by decide) ?_
            refine lv_goto (tgt := 114) hx hb dX2_reasonAgainst_110 (by decide) ?_
            rw [hQ]
            exact W.iret (v := 5) hx hb hr (fun t ht hW => ⟨5, rfl, hF.symm, ht⟩) (fun q hq => absurd hq List.not_mem_nil) dX2_reasonAgainst_114
          have hF : ((if (fX3_at 16 (P 3) g) = tb then ((fX2_familyAt P tb (fX3_at 16 (P 0) g)) + (-1)) else (fX2_familyAt P tb (fX3_at 16 (P 0) g))) : Int32) = (if (fX3_at 16 (P 3) g) = tb then ((fX2_familyAt P tb (fX3_at 16 (P 0) g)) + (-1)) else (fX2_familyAt P tb (fX3_at 16 (P 0) g))) := rfl
          refine lv_icmp_ne (tgt := 96) hx hb dX2_reasonAgainst_90 (by decide) (fun c_90 => ?_) (fun c_90 => ?_)
          · have hF := hF.trans (if_neg c_90)
            exact K90 _ hF.symm  ls (lv_sub hl [0, 1, 2, 3, 4, 5, 6] rfl)
          have hF := hF.trans (if_pos c_90)
          refine lv_iinc (v := ((fX2_familyAt P tb (fX3_at 16 (P 0) g)) + (-1))) (lv' := [(6, .int ((fX2_familyAt P tb (fX3_at 16 (P 0) g)) + (-1))), (5, .int (fX3_at 16 (P 0) g)), (4, .int (fX2_holderAt P tb z)), (0, .ref (ad 0)), (1, .int g), (2, .int tb), (3, .int z)]) hx hb dX2_reasonAgainst_93 hl (k := 0) rfl rfl (by decide) rfl (fun ls hl => ?_)
          exact K90 _ hF.symm  ls (lv_sub hl [0, 1, 2, 3, 4, 5, 6] rfl)
        have hF := hF.trans (if_neg c_67)
        refine lv_iconst (v := 4) hx hb dX2_reasonAgainst_70 (by decide) ?_
        rw [hQ]
        exact W.iret (v := 4) hx hb hr (fun t ht hW => ⟨4, rfl, hF.symm, ht⟩) (fun q hq => absurd hq List.not_mem_nil) dX2_reasonAgainst_71
      have hF := hF.trans (if_neg c_28)
      refine lv_aload_n hx hb dX2_reasonAgainst_31 rfl (lv_at hl 1 rfl) ?_
      refine va_get (D := (dC, dI)) (ci := 2) (v := .ref (ad 2)) (C := RX2) (T := TX2) (N := 14) hx hb htX2 (fun _ h => h) hown hK hP 0 rfl rfl 1 (by decide) (hts _ u_50) (fun _ h9 => h9) rfl dX2_reasonAgainst_32 ?_
      refine lv_iload_n hx hb dX2_reasonAgainst_35 rfl (lv_at hl 2 rfl) ?_
      refine k_calli (W.runS (As := [.ref (ad 2), .int g]) (rest := []) ⟨hx, hb, hml, hown, hts0⟩ (mX3_at l dC dI cI (ad 2) 16 (by decide) (P 1) g) (va_cwS 2 hts0 (gi_S u_302 u_303 u_7 u_304) rfl rfl rfl (by decide +kernel) ⟨Nat.le_of_ble_eq_true rfl, Nat.le_of_ble_eq_true rfl⟩) (pcR_S (hP.sub (ws' := aW cI (ad 2) 16 (P 1)) [2] rfl) hK hn) rfl rfl hl.1 rfl (lv_room (Nat.le_of_ble_eq_true rfl)) dX2_reasonAgainst_36 ⟨Nat.zero_le _, Nat.zero_le _⟩) ?_
      refine lv_iconst (v := 3) hx hb dX2_reasonAgainst_39 (by decide) ?_
      refine lv_icmp_ne (tgt := 45) hx hb dX2_reasonAgainst_40 (by decide) (fun c_40 => ?_) (fun c_40 => ?_)
      · have hF := hF.trans (if_neg c_40)
        refine lv_aload_n hx hb dX2_reasonAgainst_45 rfl (lv_at hl 1 rfl) ?_
        refine va_get (D := (dC, dI)) (ci := 2) (v := .ref (ad 1)) (C := RX2) (T := TX2) (N := 14) hx hb htX2 (fun _ h => h) hown hK hP 0 rfl rfl 0 (by decide) (hts _ u_48) (fun _ h9 => h9) rfl dX2_reasonAgainst_46 ?_
        refine lv_iload_n hx hb dX2_reasonAgainst_49 rfl (lv_at hl 2 rfl) ?_
        refine k_calli (W.runS (As := [.ref (ad 1), .int g]) (rest := []) ⟨hx, hb, hml, hown, hts0⟩ (mX3_at l dC dI cI (ad 1) 16 (by decide) (P 0) g) (va_cwS 2 hts0 (gi_S u_302 u_303 u_7 u_304) rfl rfl rfl (by decide +kernel) ⟨Nat.le_of_ble_eq_true rfl, Nat.le_of_ble_eq_true rfl⟩) (pcR_S (hP.sub (ws' := aW cI (ad 1) 16 (P 0)) [1] rfl) hK hn) rfl rfl hl.1 rfl (lv_room (Nat.le_of_ble_eq_true rfl)) dX2_reasonAgainst_50 ⟨Nat.zero_le _, Nat.zero_le _⟩) ?_
        refine lv_istore (lv' := [(5, .int (fX3_at 16 (P 0) g)), (4, .int (fX2_holderAt P tb z)), (0, .ref (ad 0)), (1, .int g), (2, .int tb), (3, .int z)]) hx hb dX2_reasonAgainst_53 hl (by decide) rfl (fun ls hl => ?_)
        refine lv_aload_n hx hb dX2_reasonAgainst_55 rfl (lv_at hl 2 rfl) ?_
        refine lv_iload hx hb dX2_reasonAgainst_56 (lv_at hl 0 rfl) ?_
        refine k_calli (W.runV (As := [.int (fX3_at 16 (P 0) g)]) (rest := []) ⟨hx, hb, hml, hown, hts0⟩ (mX2_foeMask l dC dI cI ad P (fX3_at 16 (P 0) g)) (cwV 1 hts0 (gi_V u_492 u_493 u_494 u_2 u_495) rfl rfl rfl (by decide +kernel) ⟨Nat.le_of_ble_eq_true rfl, Nat.le_of_ble_eq_true rfl⟩) (pcR_V (ci := 2) (q0 := 0) hP hK hn rfl rfl) rfl rfl hl.1 rfl (lv_room (Nat.le_of_ble_eq_true rfl)) dX2_reasonAgainst_58 ⟨Nat.zero_le _, Nat.zero_le _⟩) ?_
        refine lv_aload_n hx hb dX2_reasonAgainst_61 rfl (lv_at hl 2 rfl) ?_
        refine lv_iload_n hx hb dX2_reasonAgainst_62 rfl (lv_at hl 4 rfl) ?_
        refine k_calli (W.runV (As := [.int tb]) (rest := [.int (fX2_foeMask P (fX3_at 16 (P 0) g))]) ⟨hx, hb, hml, hown, hts0⟩ (mX2_familyMask l dC dI cI ad P tb) (cwV 1 hts0 (gi_V u_498 u_417 u_418 u_2 u_419) rfl rfl rfl (by decide +kernel) ⟨Nat.le_of_ble_eq_true rfl, Nat.le_of_ble_eq_true rfl⟩) (pcR_V (ci := 2) (q0 := 0) hP hK hn rfl rfl) rfl rfl hl.1 rfl (lv_room (Nat.le_of_ble_eq_true rfl)) dX2_reasonAgainst_63 ⟨Nat.zero_le _, Nat.zero_le _⟩) ?_
        refine lv_iand hx hb dX2_reasonAgainst_66 ?_
        refine lv_if_eq (tgt := 72) hx hb dX2_reasonAgainst_67 (by decide) (fun c_67 => ?_) (fun c_67 => ?_)
        · have hF := hF.trans (if_pos c_67)
          refine lv_aload_n hx hb dX2_reasonAgainst_72 rfl (lv_at hl 2 rfl) ?_
          refine lv_iload_n hx hb dX2_reasonAgainst_73 rfl (lv_at hl 4 rfl) ?_
          refine lv_iload hx hb dX2_reasonAgainst_74 (lv_at hl 0 rfl) ?_
          refine k_calli (W.runV (As := [.int tb, .int (fX3_at 16 (P 0) g)]) (rest := []) ⟨hx, hb, hml, hown, hts0⟩ (mX2_familyAt l dC dI cI ad P tb (fX3_at 16 (P 0) g)) (cwV 2 hts0 (gi_V u_499 u_500 u_501 u_2 u_502) rfl rfl rfl (by decide +kernel) ⟨Nat.le_of_ble_eq_true rfl, Nat.le_of_ble_eq_true rfl⟩) (pcR_V (ci := 2) (q0 := 0) hP hK hn rfl rfl) rfl rfl hl.1 rfl (lv_room (Nat.le_of_ble_eq_true rfl)) dX2_reasonAgainst_76 ⟨Nat.zero_le _, Nat.zero_le _⟩) ?_
          refine lv_istore (lv' := [(6, .int (fX2_familyAt P tb (fX3_at 16 (P 0) g))), (5, .int (fX3_at 16 (P 0) g)), (4, .int (fX2_holderAt P tb z)), (0, .ref (ad 0)), (1, .int g), (2, .int tb), (3, .int z)]) hx hb dX2_reasonAgainst_79 hl (by decide) rfl (fun ls hl => ?_)
          refine lv_aload_n hx hb dX2_reasonAgainst_81 rfl (lv_at hl 3 rfl) ?_
          refine va_get (D := (dC, dI)) (ci := 2) (v := .ref (ad 4)) (C := RX2) (T := TX2) (N := 14) hx hb htX2 (fun _ h => h) hown hK hP 0 rfl rfl 3 (by decide) (hts _ u_56) (fun _ h9 => h9) rfl dX2_reasonAgainst_82 ?_
          refine lv_iload_n hx hb dX2_reasonAgainst_85 rfl (lv_at hl 4 rfl) ?_
          refine k_calli (W.runS (As := [.ref (ad 4), .int g]) (rest := []) ⟨hx, hb, hml, hown, hts0⟩ (mX3_at l dC dI cI (ad 4) 16 (by decide) (P 3) g) (va_cwS 2 hts0 (gi_S u_302 u_303 u_7 u_304) rfl rfl rfl (by decide +kernel) ⟨Nat.le_of_ble_eq_true rfl, Nat.le_of_ble_eq_true rfl⟩) (pcR_S (hP.sub (ws' := aW cI (ad 4) 16 (P 3)) [4] rfl) hK hn) rfl rfl hl.1 rfl (lv_room (Nat.le_of_ble_eq_true rfl)) dX2_reasonAgainst_86 ⟨Nat.zero_le _, Nat.zero_le _⟩) ?_
          refine lv_iload_n hx hb dX2_reasonAgainst_89 rfl (lv_at hl 5 rfl) ?_
          have K90 : ∀ (v90_0 : Int32), v90_0 = (if (fX3_at 16 (P 3) g) = tb then ((fX2_familyAt P tb (fX3_at 16 (P 0) g)) + (-1)) else (fX2_familyAt P tb (fX3_at 16 (P 0) g))) → ∀ (ls : Array Slot), lv_has ls 7 [(6, .int v90_0), (5, .int (fX3_at 16 (P 0) g)), (4, .int (fX2_holderAt P tb z)), (0, .ref (ad 0)), (1, .int g), (2, .int tb), (3, .int z)] → W p l e rmX2_reasonAgainst s m args below meth c s.heap [] 0 0 Q (F0 m 96 ls []) := by
            intro v90_0 hz90  ls hl
            have hz := hz90
            have hF := bd_at hF hz
            refine lv_iload hx hb dX2_reasonAgainst_96 (lv_at hl 0 rfl) ?_
            refine lv_aload_n hx hb dX2_reasonAgainst_98 rfl (lv_at hl 3 rfl) ?_
            refine va_get (D := (dC, dI)) (ci := 2) (v := .ref (ad 8)) (C := RX2) (T := TX2) (N := 14) hx hb htX2 (fun _ h => h) hown hK hP 0 rfl rfl 7 (by decide) (hts _ u_64) (fun _ h9 => h9) rfl dX2_reasonAgainst_99 ?_
            refine lv_iconst (v := 0) hx hb dX2_reasonAgainst_102 (by decide) ?_
            refine k_calli (W.runS (As := [.ref (ad 8), .int 0]) (rest := [.int v90_0]) ⟨hx, hb, hml, hown, hts0⟩ (mX3_at l dC dI cI (ad 8) 4 (by decide) (P 7) 0) (va_cwS 2 hts0 (gi_S u_302 u_303 u_7 u_304) rfl rfl rfl (by decide +kernel) ⟨Nat.le_of_ble_eq_true rfl, Nat.le_of_ble_eq_true rfl⟩) (pcR_S (hP.sub (ws' := aW cI (ad 8) 4 (P 7)) [8] rfl) hK hn) rfl rfl hl.1 rfl (lv_room (Nat.le_of_ble_eq_true rfl)) dX2_reasonAgainst_103 ⟨Nat.zero_le _, Nat.zero_le _⟩) ?_
            refine lv_icmp_lt (tgt := 113) hx hb dX2_reasonAgainst_106 (by decide) (fun c_106 => ?_) (fun c_106 => ?_)
            · have hF := hF.trans (if_pos c_106)
              refine lv_iconst (v := 0) hx hb dX2_reasonAgainst_113 (by decide) ?_
              rw [hQ]
              exact W.iret (v := 0) hx hb hr (fun t ht hW => ⟨0, rfl, hF.symm, ht⟩) (fun q hq => absurd hq List.not_mem_nil) dX2_reasonAgainst_114
            have hF := hF.trans (if_neg c_106)
            refine lv_iconst (v := 5) hx hb dX2_reasonAgainst_109 (by decide) ?_
            refine lv_goto (tgt := 114) hx hb dX2_reasonAgainst_110 (by decide) ?_
            rw [hQ]
            exact W.iret (v := 5) hx hb hr (fun t ht hW => ⟨5, rfl, hF.symm, ht⟩) (fun q hq => absurd hq List.not_mem_nil) dX2_reasonAgainst_114
          have hF : ((if (fX3_at 16 (P 3) g) = tb then ((fX2_familyAt P tb (fX3_at 16 (P 0) g)) + (-1)) else (fX2_familyAt P tb (fX3_at 16 (P 0) g))) : Int32) = (if (fX3_at 16 (P 3) g) = tb then ((fX2_familyAt P tb (fX3_at 16 (P 0) g)) + (-1)) else (fX2_familyAt P tb (fX3_at 16 (P 0) g))) := rfl
          refine lv_icmp_ne (tgt := 96) hx hb dX2_reasonAgainst_90 (by decide) (fun c_90 => ?_) (fun c_90 => ?_)
          · have hF := hF.trans (if_neg c_90)
            exact K90 _ hF.symm  ls (lv_sub hl [0, 1, 2, 3, 4, 5, 6] rfl)
          have hF := hF.trans (if_pos c_90)
          refine lv_iinc (v := ((fX2_familyAt P tb (fX3_at 16 (P 0) g)) + (-1))) (lv' := [(6, .int ((fX2_familyAt P tb (fX3_at 16 (P 0) g)) + (-1))), (5, .int (fX3_at 16 (P 0) g)), (4, .int (fX2_holderAt P tb z)), (0, .ref (ad 0)), (1, .int g), (2, .int tb), (3, .int z)]) hx hb dX2_reasonAgainst_93 hl (k := 0) rfl rfl (by decide) rfl (fun ls hl => ?_)
          exact K90 _ hF.symm  ls (lv_sub hl [0, 1, 2, 3, 4, 5, 6] rfl)
        have hF := hF.trans (if_neg c_67)
        refine lv_iconst (v := 4) hx hb dX2_reasonAgainst_70 (by decide) ?_
        rw [hQ]
        exact W.iret (v := 4) hx hb hr (fun t ht hW => ⟨4, rfl, hF.symm, ht⟩) (fun q hq => absurd hq List.not_mem_nil) dX2_reasonAgainst_71
      have hF := hF.trans (if_pos c_40)
      refine lv_iconst (v := 3) hx hb dX2_reasonAgainst_43 (by decide) ?_
      rw [hQ]
      exact W.iret (v := 3) hx hb hr (fun t ht hW => ⟨3, rfl, hF.symm, ht⟩) (fun q hq => absurd hq List.not_mem_nil) dX2_reasonAgainst_44
    have hF := hF.trans (if_neg c_19)
    refine lv_iconst (v := 2) hx hb dX2_reasonAgainst_22 (by decide) ?_
    rw [hQ]
    exact W.iret (v := 2) hx hb hr (fun t ht hW => ⟨2, rfl, hF.symm, ht⟩) (fun q hq => absurd hq List.not_mem_nil) dX2_reasonAgainst_23
  have hF := hF.trans (if_pos c_11)
  refine lv_iconst (v := 1) hx hb dX2_reasonAgainst_14 (by decide) ?_
  rw [hQ]
  exact W.iret (v := 1) hx hb hr (fun t ht hW => ⟨1, rfl, hF.symm, ht⟩) (fun q hq => absurd hq List.not_mem_nil) dX2_reasonAgainst_15

def fX2_mayTake (P : PV) (g : Int32) (tb : Int32) (z : Int32) : Int32 :=
  (if (fX2_isGuest P g) = 0 then 0 else (if (fX2_isSeat P tb z) = 0 then 0 else (if (fX2_reasonAgainst P g tb z) = 0 then 1 else 0)))
abbrev rmX2_mayTake : Room := { frames := 3, cells := 0, slots := 0, locals := 74 }
