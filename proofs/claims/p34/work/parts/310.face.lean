/-! the face: its cell, three plans, the text, the history, as blocks. Mine. -/
def oW (a0 : Nat) (aN aT aS : Nat → Nat) (t0 h0 : Nat) (k : Int32) : va_W := [(a0, .inr (4, [.ref (aN 0), .ref (aT 0), .ref (aS 0), .ref h0, .ref t0, .int k]))]
def fW (cI cP : ClassId) (a0 : Nat) (aN aT aS : Nat → Nat) (t0 t1 t2 h0 h1 : Nat) (pa : Nat → Nat → Nat) (PN PT PS : PV) (f : Nat → Int32) (u : Int32) (Ps : Nat → PV) (oh vh : Nat) (k : Int32) : va_W :=
  fl [oW a0 aN aT aS t0 h0 k, pW cI aN PN, pW cI aT PT, pW cI aS PS, xW cI t0 t1 t2 f u, hW cI cP h0 h1 pa Ps (nI oh) (nI vh)]
theorem mX0_save (l : Launch) (dC : Nat → ClassId) (dI : Nat → Nat → Nat) (cI cP : ClassId) (h0 h1 : Nat) (pa : Nat → Nat → Nat) (Ps : Nat → PV) (o v : Nat) (ad : Nat → Nat) (P : PV) (ho : o < 6) (hv6 : v ≤ 6) : Met l yX0_save (ws_ yX0_save cX0_save 3 none) rmX0_save (pcM (dC, dI) [(cI, .int), (cP, .object "SupperSeats$Plan")] (fl [hW cI cP h0 h1 pa Ps (nI o) (nI v), pW cI ad P]) [.ref h0, .ref (ad 0)]) (va_Qv (fun (u9 : (Nat → PV) × Nat × Nat) => u9 = fX0_save Ps o v P) (fun u9 t => va_P (dC, dI) vwCl ((fun (v : (Nat → PV) × Nat × Nat) => fl [hW cI cP h0 h1 pa v.1 (nI v.2.1) (nI v.2.2), pW cI ad P]) u9) t.heap) (adr (fl [hW cI cP h0 h1 pa Ps (nI o) (nI v), pW cI ad P]))) 0 0 (adr (fl [hW cI cP h0 h1 pa Ps (nI o) (nI v), pW cI ad P])) := by
  simp only [hW_nest]
  exact mX0_save0 l dC dI cI cP h0 h1 pa Ps o v ad P ho hv6
theorem mX0_takeLatest (l : Launch) (dC : Nat → ClassId) (dI : Nat → Nat → Nat) (cI cP : ClassId) (h0 h1 : Nat) (pa : Nat → Nat → Nat) (Ps : Nat → PV) (o v : Nat) (ad : Nat → Nat) (P : PV) (ho : o < 6) (hv6 : v ≤ 6) : Met l yX0_takeLatest (ws_ yX0_takeLatest cX0_takeLatest 3 none) rmX0_takeLatest (pcM (dC, dI) [(cI, .int), (cP, .object "SupperSeats$Plan")] (fl [hW cI cP h0 h1 pa Ps (nI o) (nI v), pW cI ad P]) [.ref h0, .ref (ad 0)]) (va_Qv (fun (u9 : PV × Nat) => u9 = fX0_takeLatest Ps o v P) (fun u9 t => va_P (dC, dI) vwCl ((fun (z : PV × Nat) => fl [hW cI cP h0 h1 pa Ps (nI o) (nI z.2), pW cI ad z.1]) u9) t.heap) (adr (fl [hW cI cP h0 h1 pa Ps (nI o) (nI v), pW cI ad P]))) 0 0 (adr (fl [hW cI cP h0 h1 pa Ps (nI o) (nI v), pW cI ad P])) := by
  simp only [hW_nest]
  exact mX0_takeLatest0 l dC dI cI cP h0 h1 pa Ps o v ad P ho hv6
def fX0_length (Ps : Nat → PV) (o : Nat) (v : Nat) : Int32 :=
  (nI v)
abbrev rmX0_length : Room := { frames := 0, cells := 0, slots := 0, locals := 0 }
set_option maxHeartbeats 4000000 in
set_option maxRecDepth 100000 in
theorem mX0_length (l : Launch) (dC : Nat → ClassId) (dI : Nat → Nat → Nat) (cI cP : ClassId) (h0 h1 : Nat) (pa : Nat → Nat → Nat) (Ps : Nat → PV) (o v : Nat) : Met l yX0_length (ws_ yX0_length cX0_length 1 (some .int)) rmX0_length (pcR (dC, dI) [(cI, .int), (cP, .object "SupperSeats$Plan")] (hW cI cP h0 h1 pa Ps (nI o) (nI v)) [.ref h0]) (vp_Si (fun r => r = fX0_length Ps o v)) 0 0 (fun _ => False) := by
  refine Met.ofW (cc := cX0_length) (maxL := 1) (ret := (some .int)) (by decide) rfl ?_
  intro p e s m args below meth c s₁ B hml hv
  obtain ⟨ha, hP, hK, hn⟩ := hv
  have hx := B.exec
  have hb := B.bytes
  have hr := B.returns
  have hts0 := atoms_spec (ws := (ws_ yX0_length cX0_length 1 (some .int))) B.pre
  have hts : ∀ w ∈ lw_all, w.before args s = true := fun w h => hts0 w (List.mem_cons_of_mem _ h)
  have hown : s.vm.findClass RX0 = some m.cls := findClass_of_methodNamed B.named
  have hlocks := B.notSynchronized
  have htX0 : ∀ w ∈ wsX00, w.before args s = true := fun w h => hts w (wX0 w h)
  obtain ⟨Q, hQ⟩ : ∃ Q, Q = MQ below (vp_Si (fun r => r = fX0_length Ps o v)) args s 0 0 (fun _ => False) := ⟨_, rfl⟩
  rw [← hQ]
  have hl := lv_entry ([.ref h0]) (n := 1) (Nat.le_of_ble_eq_true rfl)
  rw [ha, lg_entry_eq, ← ha]
  generalize (lg_sl ([.ref h0]) ++ List.replicate (1 - (lg_sl ([.ref h0])).length) Slot.unset).toArray = ls at hl ⊢
  have hl : lv_has ls 1 [(0, .ref h0)] := hl
  show W p l e rmX0_length s m args below meth c s.heap [] 0 0 Q (F0 m 0 ls [])
  have hF : fX0_length Ps o v = fX0_length Ps o v := rfl
  refine lv_aload_n hx hb dX0_length_0 rfl (lv_at hl 0 rfl) ?_
  refine va_get (D := (dC, dI)) (ci := 0) (v := .int (nI v)) (C := RX0) (T := TX0) (N := 3) hx hb htX0 (fun _ h => h) hown hK hP 0 rfl rfl 2 (by decide) (hts _ u_121) (fun _ h9 => h9) rfl dX0_length_1 ?_
  rw [hQ]
  exact W.iret (v := (nI v)) hx hb hr (fun t ht hW => ⟨(nI v), rfl, hF.symm, ht⟩) (fun q hq => absurd hq List.not_mem_nil) dX0_length_4

def fX6_isFamily (a : Int32) : Int32 :=
  (if a < 0 then 0 else (if 6 ≤ a then 0 else 1))
abbrev rmX6_isFamily : Room := { frames := 0, cells := 0, slots := 0, locals := 0 }
set_option maxHeartbeats 4000000 in
set_option maxRecDepth 100000 in
theorem mX6_isFamily (l : Launch) (dC : Nat → ClassId) (dI : Nat → Nat → Nat)  (a : Int32) : Met l yX6_isFamily (ws_ yX6_isFamily cX6_isFamily 1 (some .boolean)) rmX6_isFamily (pcR (dC, dI) [] [] [.int a]) (vp_Si (fun r => r = fX6_isFamily a ∧ (r = 0 ∨ r = 1))) 0 0 (fun _ => False) := by
  refine Met.ofW (cc := cX6_isFamily) (maxL := 1) (ret := (some .boolean)) (by decide) rfl ?_
  intro p e s m args below meth c s₁ B hml hv
  obtain ⟨ha, hP, hK, hn⟩ := hv
  have hx := B.exec
  have hb := B.bytes
  have hr := B.returns
  have hts0 := atoms_spec (ws := (ws_ yX6_isFamily cX6_isFamily 1 (some .boolean))) B.pre
  have hts : ∀ w ∈ lw_all, w.before args s = true := fun w h => hts0 w (List.mem_cons_of_mem _ h)
  have hown : s.vm.findClass RX6 = some m.cls := findClass_of_methodNamed B.named
  have hlocks := B.notSynchronized
  obtain ⟨Q, hQ⟩ : ∃ Q, Q = MQ below (vp_Si (fun r => r = fX6_isFamily a ∧ (r = 0 ∨ r = 1))) args s 0 0 (fun _ => False) := ⟨_, rfl⟩
  rw [← hQ]
  have hl := lv_entry ([.int a]) (n := 1) (Nat.le_of_ble_eq_true rfl)
  rw [ha, lg_entry_eq, ← ha]
  generalize (lg_sl ([.int a]) ++ List.replicate (1 - (lg_sl ([.int a])).length) Slot.unset).toArray = ls at hl ⊢
  have hl : lv_has ls 1 [(0, .int a)] := hl
  show W p l e rmX6_isFamily s m args below meth c s.heap [] 0 0 Q (F0 m 0 ls [])
  have hF : fX6_isFamily a = fX6_isFamily a := rfl
  refine lv_iload_n hx hb dX6_isFamily_0 rfl (lv_at hl 0 rfl) ?_
  refine lv_if_lt (tgt := 14) hx hb dX6_isFamily_1 (by decide) (fun c_1 => ?_) (fun c_1 => ?_)
  · have hF := hF.trans (if_pos c_1)
    refine lv_iconst (v := 0) hx hb dX6_isFamily_14 (by decide) ?_
    rw [hQ]
    exact W.zret (ty := .boolean) (v := 0) hx hb hr rfl (fun t ht hW => ⟨0, rfl, ⟨hF.symm, Or.inl rfl⟩, ht⟩) (fun q hq => absurd hq List.not_mem_nil) dX6_isFamily_15
  have hF := hF.trans (if_neg c_1)
  refine lv_iload_n hx hb dX6_isFamily_4 rfl (lv_at hl 0 rfl) ?_
  refine lv_bipush (v := 6) hx hb dX6_isFamily_5 (by decide) ?_
  refine lv_icmp_ge (tgt := 14) hx hb dX6_isFamily_7 (by decide) (fun c_7 => ?_) (fun c_7 => ?_)
  · have hF := hF.trans (if_pos c_7)
    refine lv_iconst (v := 0) hx hb dX6_isFamily_14 (by decide) ?_
    rw [hQ]
    exact W.zret (ty := .boolean) (v := 0) hx hb hr rfl (fun t ht hW => ⟨0, rfl, ⟨hF.symm, Or.inl rfl⟩, ht⟩) (fun q hq => absurd hq List.not_mem_nil) dX6_isFamily_15
  have hF := hF.trans (if_neg c_7)
  refine lv_iconst (v := 1) hx hb dX6_isFamily_10 (by decide) ?_
  refine lv_goto (tgt := 15) hx hb dX6_isFamily_11 (by decide) ?_
  rw [hQ]
  exact W.zret (ty := .boolean) (v := 1) hx hb hr rfl (fun t ht hW => ⟨1, rfl, ⟨hF.symm, Or.inr rfl⟩, ht⟩) (fun q hq => absurd hq List.not_mem_nil) dX6_isFamily_15

def fX6_guestNumber (PN : PV) (g : Int32) (w : Int32) : Int32 :=
  (if w = 0 then (fX3_at 16 (PN 0) g) else (if w = 1 then (fX3_at 16 (PN 1) g) else (if w = 2 then (fX3_at 16 (PN 2) g) else (if w = 3 then (fX3_at 16 (PN 3) g) else (if w = 4 then (fX3_at 16 (PN 4) g) else (if w = 5 then (fX4_levelOfGuest PN g) else (fX4_ofGuest PN g)))))))
abbrev rmX6_guestNumber : Room := { frames := 4, cells := 0, slots := 0, locals := 108 }
set_option maxHeartbeats 4000000 in
set_option maxRecDepth 100000 in
theorem mX6_guestNumber (l : Launch) (dC : Nat → ClassId) (dI : Nat → Nat → Nat) (cI cP : ClassId) (a0 : Nat) (aN aT aS : Nat → Nat) (t0 t1 t2 h0 h1 : Nat) (pa : Nat → Nat → Nat) (PN PT PS : PV) (f : Nat → Int32) (u : Int32) (Ps : Nat → PV) (oh vh : Nat) (k : Int32) (g : Int32) (w : Int32) : Met l yX6_guestNumber (ws_ yX6_guestNumber cX6_guestNumber 3 (some .int)) rmX6_guestNumber (pcR (dC, dI) [(cI, .int), (cP, .object "SupperSeats$Plan")] (fW cI cP a0 aN aT aS t0 t1 t2 h0 h1 pa PN PT PS f u Ps oh vh k) [.ref a0, .int g, .int w]) (vp_Si (fun r => r = fX6_guestNumber PN g w)) 0 0 (fun _ => False) := by
  refine Met.ofW (cc := cX6_guestNumber) (maxL := 3) (ret := (some .int)) (by decide) rfl ?_
  intro p e s m args below meth c s₁ B hml hv
  obtain ⟨ha, hP, hK, hn⟩ := hv
  have hx := B.exec
  have hb := B.bytes
  have hr := B.returns
  have hts0 := atoms_spec (ws := (ws_ yX6_guestNumber cX6_guestNumber 3 (some .int))) B.pre
  have hts : ∀ w ∈ lw_all, w.before args s = true := fun w h => hts0 w (List.mem_cons_of_mem _ h)
  have hown : s.vm.findClass RX6 = some m.cls := findClass_of_methodNamed B.named
  have hlocks := B.notSynchronized
  have htX6 : ∀ w ∈ wsX60, w.before args s = true := fun w h => hts w (wX6 w h)
  have htX2 : ∀ w ∈ wsX20, w.before args s = true := fun w h => hts w (wX2 w h)
  obtain ⟨Q, hQ⟩ : ∃ Q, Q = MQ below (vp_Si (fun r => r = fX6_guestNumber PN g w)) args s 0 0 (fun _ => False) := ⟨_, rfl⟩
  rw [← hQ]
  have hl := lv_entry ([.ref a0, .int g, .int w]) (n := 3) (Nat.le_of_ble_eq_true rfl)
  rw [ha, lg_entry_eq, ← ha]
  generalize (lg_sl ([.ref a0, .int g, .int w]) ++ List.replicate (3 - (lg_sl ([.ref a0, .int g, .int w])).length) Slot.unset).toArray = ls at hl ⊢
  have hl : lv_has ls 3 [(0, .ref a0), (1, .int g), (2, .int w)] := hl
  show W p l e rmX6_guestNumber s m args below meth c s.heap [] 0 0 Q (F0 m 0 ls [])
  have hF : fX6_guestNumber PN g w = fX6_guestNumber PN g w := rfl
  refine lv_iload_n hx hb dX6_guestNumber_0 rfl (lv_at hl 2 rfl) ?_
  by_cases c_1_0 : w = 0
  · have hF := hF.trans (if_pos c_1_0)
    refine lv_tableIn (off := 39) (tgt := 40) hx hb dX6_guestNumber_1 (by rw [c_1_0]; decide) (by rw [c_1_0]; decide) (by rw [c_1_0]; rfl) (by decide) ?_
    refine lv_aload_n hx hb dX6_guestNumber_40 rfl (lv_at hl 0 rfl) ?_
    refine va_get (D := (dC, dI)) (ci := 4) (v := .ref (aN 0)) (C := RX6) (T := TX6) (N := 6) hx hb htX6 (fun _ h => h) hown hK (fl_at hP 0 rfl) 0 rfl rfl 0 (by decide) (hts _ u_141) (fun _ h9 => h9) rfl dX6_guestNumber_41 ?_
    refine va_getN (D := (dC, dI)) (ci := 2) (v := .ref (aN 1)) (C := RX2) (T := TX2) (N := 14) hx hb htX2 (fun _ h => h) hown hK (fl_at hP 1 rfl) 0 rfl rfl 0 (by decide) (va_Nw.use rfl (hn _ (List.mem_of_getElem? (i := 1) rfl))) (fun _ h9 => h9) rfl dX6_guestNumber_44 ?_
    refine lv_iload_n hx hb dX6_guestNumber_47 rfl (lv_at hl 1 rfl) ?_
    refine k_calli (W.runS (As := [.ref (aN 1), .int g]) (rest := []) ⟨hx, hb, hml, hown, hts0⟩ (mX3_at l dC dI cI (aN 1) 16 (by decide) (PN 0) g) (va_cwS 2 hts0 (gi_S u_345 u_303 u_7 u_304) rfl rfl rfl (by decide +kernel) ⟨Nat.le_of_ble_eq_true rfl, Nat.le_of_ble_eq_true rfl⟩) (pcR_S ((fl_at hP 1 rfl).sub (ws' := aW cI (aN 1) 16 (PN 0)) [1] rfl) (hK.sub (tys' := [(cI, .int)]) [0] rfl) hn) rfl rfl hl.1 rfl (lv_room (Nat.le_of_ble_eq_true rfl)) dX6_guestNumber_48 ⟨Nat.zero_le _, Nat.zero_le _⟩) ?_
    rw [hQ]
    exact W.iret (v := (fX3_at 16 (PN 0) g)) hx hb hr (fun t ht hW => ⟨(fX3_at 16 (PN 0) g), rfl, hF.symm, ht⟩) (fun q hq => absurd hq List.not_mem_nil) dX6_guestNumber_51
  have hF := hF.trans (if_neg c_1_0)
  by_cases c_1_1 : w = 1
  · have hF := hF.trans (if_pos c_1_1)
    refine lv_tableIn (off := 51) (tgt := 52) hx hb dX6_guestNumber_1 (by rw [c_1_1]; decide) (by rw [c_1_1]; decide) (by rw [c_1_1]; rfl) (by decide) ?_
    refine lv_aload_n hx hb dX6_guestNumber_52 rfl (lv_at hl 0 rfl) ?_
    refine va_get (D := (dC, dI)) (ci := 4) (v := .ref (aN 0)) (C := RX6) (T := TX6) (N := 6) hx hb htX6 (fun _ h => h) hown hK (fl_at hP 0 rfl) 0 rfl rfl 0 (by decide) (hts _ u_141) (fun _ h9 => h9) rfl dX6_guestNumber_53 ?_
    refine va_getN (D := (dC, dI)) (ci := 2) (v := .ref (aN 2)) (C := RX2) (T := TX2) (N := 14) hx hb htX2 (fun _ h => h) hown hK (fl_at hP 1 rfl) 0 rfl rfl 1 (by decide) (va_Nw.use rfl (hn _ (List.mem_of_getElem? (i := 3) rfl))) (fun _ h9 => h9) rfl dX6_guestNumber_56 ?_
    refine lv_iload_n hx hb dX6_guestNumber_59 rfl (lv_at hl 1 rfl) ?_
    refine k_calli (W.runS (As := [.ref (aN 2), .int g]) (rest := []) ⟨hx, hb, hml, hown, hts0⟩ (mX3_at l dC dI cI (aN 2) 16 (by decide) (PN 1) g) (va_cwS 2 hts0 (gi_S u_345 u_303 u_7 u_304) rfl rfl rfl (by decide +kernel) ⟨Nat.le_of_ble_eq_true rfl, Nat.le_of_ble_eq_true rfl⟩) (pcR_S ((fl_at hP 1 rfl).sub (ws' := aW cI (aN 2) 16 (PN 1)) [2] rfl) (hK.sub (tys' := [(cI, .int)]) [0] rfl) hn) rfl rfl hl.1 rfl (lv_room (Nat.le_of_ble_eq_true rfl)) dX6_guestNumber_60 ⟨Nat.zero_le _, Nat.zero_le _⟩) ?_
    rw [hQ]
    exact W.iret (v := (fX3_at 16 (PN 1) g)) hx hb hr (fun t ht hW => ⟨(fX3_at 16 (PN 1) g), rfl, hF.symm, ht⟩) (fun q hq => absurd hq List.not_mem_nil) dX6_guestNumber_63
  have hF := hF.trans (if_neg c_1_1)
  by_cases c_1_2 : w = 2
  · have hF := hF.trans (if_pos c_1_2)
    refine lv_tableIn (off := 63) (tgt := 64) hx hb dX6_guestNumber_1 (by rw [c_1_2]; decide) (by rw [c_1_2]; decide) (by rw [c_1_2]; rfl) (by decide) ?_
    refine lv_aload_n hx hb dX6_guestNumber_64 rfl (lv_at hl 0 rfl) ?_
    refine va_get (D := (dC, dI)) (ci := 4) (v := .ref (aN 0)) (C := RX6) (T := TX6) (N := 6) hx hb htX6 (fun _ h => h) hown hK (fl_at hP 0 rfl) 0 rfl rfl 0 (by decide) (hts _ u_141) (fun _ h9 => h9) rfl dX6_guestNumber_65 ?_
    refine va_getN (D := (dC, dI)) (ci := 2) (v := .ref (aN 3)) (C := RX2) (T := TX2) (N := 14) hx hb htX2 (fun _ h => h) hown hK (fl_at hP 1 rfl) 0 rfl rfl 2 (by decide) (va_Nw.use rfl (hn _ (List.mem_of_getElem? (i := 4) rfl))) (fun _ h9 => h9) rfl dX6_guestNumber_68 ?_
    refine lv_iload_n hx hb dX6_guestNumber_71 rfl (lv_at hl 1 rfl) ?_
    refine k_calli (W.runS (As := [.ref (aN 3), .int g]) (rest := []) ⟨hx, hb, hml, hown, hts0⟩ (mX3_at l dC dI cI (aN 3) 16 (by decide) (PN 2) g) (va_cwS 2 hts0 (gi_S u_345 u_303 u_7 u_304) rfl rfl rfl (by decide +kernel) ⟨Nat.le_of_ble_eq_true rfl, Nat.le_of_ble_eq_true rfl⟩) (pcR_S ((fl_at hP 1 rfl).sub (ws' := aW cI (aN 3) 16 (PN 2)) [3] rfl) (hK.sub (tys' := [(cI, .int)]) [0] rfl) hn) rfl rfl hl.1 rfl (lv_room (Nat.le_of_ble_eq_true rfl)) dX6_guestNumber_72 ⟨Nat.zero_le _, Nat.zero_le _⟩) ?_
    rw [hQ]
    exact W.iret (v := (fX3_at 16 (PN 2) g)) hx hb hr (fun t ht hW => ⟨(fX3_at 16 (PN 2) g), rfl, hF.symm, ht⟩) (fun q hq => absurd hq List.not_mem_nil) dX6_guestNumber_75
  have hF := hF.trans (if_neg c_1_2)
  by_cases c_1_3 : w = 3
  · have hF := hF.trans (if_pos c_1_3)
    refine lv_tableIn (off := 75) (tgt := 76) hx hb dX6_guestNumber_1 (by rw [c_1_3]; decide) (by rw [c_1_3]; decide) (by rw [c_1_3]; rfl) (by decide) ?_
    refine lv_aload_n hx hb dX6_guestNumber_76 rfl (lv_at hl 0 rfl) ?_
    refine va_get (D := (dC, dI)) (ci := 4) (v := .ref (aN 0)) (C := RX6) (T := TX6) (N := 6) hx hb htX6 (fun _ h => h) hown hK (fl_at hP 0 rfl) 0 rfl rfl 0 (by decide) (hts _ u_141) (fun _ h9 => h9) rfl dX6_guestNumber_77 ?_
    refine va_getN (D := (dC, dI)) (ci := 2) (v := .ref (aN 4)) (C := RX2) (T := TX2) (N := 14) hx hb htX2 (fun _ h => h) hown hK (fl_at hP 1 rfl) 0 rfl rfl 3 (by decide) (va_Nw.use rfl (hn _ (List.mem_of_getElem? (i := 7) rfl))) (fun _ h9 => h9) rfl dX6_guestNumber_80 ?_
    refine lv_iload_n hx hb dX6_guestNumber_83 rfl (lv_at hl 1 rfl) ?_
    refine k_calli (W.runS (As := [.ref (aN 4), .int g]) (rest := []) ⟨hx, hb, hml, hown, hts0⟩ (mX3_at l dC dI cI (aN 4) 16 (by decide) (PN 3) g) (va_cwS 2 hts0 (gi_S u_345 u_303 u_7 u_304) rfl rfl rfl (by decide +kernel) ⟨Nat.le_of_ble_eq_true rfl, Nat.le_of_ble_eq_true rfl⟩) (pcR_S ((fl_at hP 1 rfl).sub (ws' := aW cI (aN 4) 16 (PN 3)) [4] rfl) (hK.sub (tys' := [(cI, .int)]) [0] rfl) hn) rfl rfl hl.1 rfl (lv_room (Nat.le_of_ble_eq_true rfl)) dX6_guestNumber_84 ⟨Nat.zero_le _, Nat.zero_le _⟩) ?_
    rw [hQ]
    exact W.iret (v := (fX3_at 16 (PN 3) g)) hx hb hr (fun t ht hW => ⟨(fX3_at 16 (PN 3) g), rfl, hF.symm, ht⟩) (fun q hq => absurd hq List.not_mem_nil) dX6_guestNumber_87
  have hF := hF.trans (if_neg c_1_3)
  by_cases c_1_4 : w = 4
  · have hF := hF.trans (if_pos c_1_4)
    refine lv_tableIn (off := 87) (tgt := 88) hx hb dX6_guestNumber_1 (by rw [c_1_4]; decide) (by rw [c_1_4]; decide) (by rw [c_1_4]; rfl) (by decide) ?_
    refine lv_aload_n hx hb dX6_guestNumber_88 rfl (lv_at hl 0 rfl) ?_
    refine va_get (D := (dC, dI)) (ci := 4) (v := .ref (aN 0)) (C := RX6) (T := TX6) (N := 6) hx hb htX6 (fun _ h => h) hown hK (fl_at hP 0 rfl) 0 rfl rfl 0 (by decide) (hts _ u_141) (fun _ h9 => h9) rfl dX6_guestNumber_89 ?_
    refine va_getN (D := (dC, dI)) (ci := 2) (v := .ref (aN 5)) (C := RX2) (T := TX2) (N := 14) hx hb htX2 (fun _ h => h) hown hK (fl_at hP 1 rfl) 0 rfl rfl 4 (by decide) (va_Nw.use rfl (hn _ (List.mem_of_getElem? (i := 9) rfl))) (fun _ h9 => h9) rfl dX6_guestNumber_92 ?_
    refine lv_iload_n hx hb dX6_guestNumber_95 rfl (lv_at hl 1 rfl) ?_
    refine k_calli (W.runS (As := [.ref (aN 5), .int g]) (rest := []) ⟨hx, hb, hml, hown, hts0⟩ (mX3_at l dC dI cI (aN 5) 16 (by decide) (PN 4) g) (va_cwS 2 hts0 (gi_S u_345 u_303 u_7 u_304) rfl rfl rfl (by decide +kernel) ⟨Nat.le_of_ble_eq_true rfl, Nat.le_of_ble_eq_true rfl⟩) (pcR_S ((fl_at hP 1 rfl).sub (ws' := aW cI (aN 5) 16 (PN 4)) [5] rfl) (hK.sub (tys' := [(cI, .int)]) [0] rfl) hn) rfl rfl hl.1 rfl (lv_room (Nat.le_of_ble_eq_true rfl)) dX6_guestNumber_96 ⟨Nat.zero_le _, Nat.zero_le _⟩) ?_
    rw [hQ]
    exact W.iret (v := (fX3_at 16 (PN 4) g)) hx hb hr (fun t ht hW => ⟨(fX3_at 16 (PN 4) g), rfl, hF.symm, ht⟩) (fun q hq => absurd hq List.not_mem_nil) dX6_guestNumber_99
  have hF := hF.trans (if_neg c_1_4)
  by_cases c_1_5 : w = 5
  · have hF := hF.trans (if_pos c_1_5)
    refine lv_tableIn (off := 99) (tgt := 100) hx hb dX6_guestNumber_1 (by rw [c_1_5]; decide) (by rw [c_1_5]; decide) (by rw [c_1_5]; rfl) (by decide) ?_
    refine lv_aload_n hx hb dX6_guestNumber_100 rfl (lv_at hl 0 rfl) ?_
    refine va_get (D := (dC, dI)) (ci := 4) (v := .ref (aN 0)) (C := RX6) (T := TX6) (N := 6) hx hb htX6 (fun _ h => h) hown hK (fl_at hP 0 rfl) 0 rfl rfl 0 (by decide) (hts _ u_141) (fun _ h9 => h9) rfl dX6_guestNumber_101 ?_
    refine lv_iload_n hx hb dX6_guestNumber_104 rfl (lv_at hl 1 rfl) ?_
    refine k_calli (W.runS (As := [.ref (aN 0), .int g]) (rest := []) ⟨hx, hb, hml, hown, hts0⟩ (mX4_levelOfGuest l dC dI cI aN PN g) (va_cwS 2 hts0 (gi_S u_389 u_313 u_12 u_314) rfl rfl rfl (by decide +kernel) ⟨Nat.le_of_ble_eq_true rfl, Nat.le_of_ble_eq_true rfl⟩) (pcR_S (fl_at hP 1 rfl) (hK.sub (tys' := [(cI, .int)]) [0] rfl) hn) rfl rfl hl.1 rfl (lv_room (Nat.le_of_ble_eq_true rfl)) dX6_guestNumber_105 ⟨Nat.zero_le _, Nat.zero_le _⟩) ?_
    rw [hQ]
    exact W.iret (v := (fX4_levelOfGuest PN g)) hx hb hr (fun t ht hW => ⟨(fX4_levelOfGuest PN g), rfl, hF.symm, ht⟩) (fun q hq => absurd hq List.not_mem_nil) dX6_guestNumber_108
  have hF := hF.trans (if_neg c_1_5)
  refine lv_tableOut (tgt := 109) hx hb dX6_guestNumber_1 (by have hc_1_0 : (w).toInt ≠ 0 := neI c_1_0; have hc_1_1 : (w).toInt ≠ 1 := neI c_1_1; have hc_1_2 : (w).toInt ≠ 2 := neI c_1_2; have hc_1_3 : (w).toInt ≠ 3 := neI c_1_3; have hc_1_4 : (w).toInt ≠ 4 := neI c_1_4; have hc_1_5 : (w).toInt ≠ 5 := neI c_1_5; omega) (by decide) ?_
  refine lv_aload_n hx hb dX6_guestNumber_109 rfl (lv_at hl 0 rfl) ?_
  refine va_get (D := (dC, dI)) (ci := 4) (v := .ref (aN 0)) (C := RX6) (T := TX6) (N := 6) hx hb htX6 (fun _ h => h) hown hK (fl_at hP 0 rfl) 0 rfl rfl 0 (by decide) (hts _ u_141) (fun _ h9 => h9) rfl dX6_guestNumber_110 ?_
  refine lv_iload_n hx hb dX6_guestNumber_113 rfl (lv_at hl 1 rfl) ?_
  refine k_calli (W.runS (As := [.ref (aN 0), .int g]) (rest := []) ⟨hx, hb, hml, hown, hts0⟩ (mX4_ofGuest l dC dI cI aN PN g) (va_cwS 2 hts0 (gi_S u_390 u_296 u_12 u_297) rfl rfl rfl (by decide +kernel) ⟨Nat.le_of_ble_eq_true rfl, Nat.le_of_ble_eq_true rfl⟩) (pcR_S (fl_at hP 1 rfl) (hK.sub (tys' := [(cI, .int)]) [0] rfl) hn) rfl rfl hl.1 rfl (lv_room (Nat.le_of_ble_eq_true rfl)) dX6_guestNumber_114 ⟨Nat.zero_le _, Nat.zero_le _⟩) ?_
  rw [hQ]
  exact W.iret (v := (fX4_ofGuest PN g)) hx hb hr (fun t ht hW => ⟨(fX4_ofGuest PN g), rfl, hF.symm, ht⟩) (fun q hq => absurd hq List.not_mem_nil) dX6_guestNumber_117

def fX6_tableNumber (PN : PV) (tb : Int32) (w : Int32) : Int32 :=
  (if w = 0 then (fX2_seatsAt PN tb) else (if w = 1 then (fX2_sittingAt PN tb) else (if w = 2 then (fX2_familyMask PN tb) else (if w = 3 then (fX4_ofTable PN tb) else (fX2_easySeatsFree PN tb)))))
abbrev rmX6_tableNumber : Room := { frames := 3, cells := 0, slots := 0, locals := 90 }
set_option maxHeartbeats 4000000 in
set_option maxRecDepth 100000 in
theorem mX6_tableNumber (l : Launch) (dC : Nat → ClassId) (dI : Nat → Nat → Nat) (cI cP : ClassId) (a0 : Nat) (aN aT aS : Nat → Nat) (t0 t1 t2 h0 h1 : Nat) (pa : Nat → Nat → Nat) (PN PT PS : PV) (f : Nat → Int32) (u : Int32) (Ps : Nat → PV) (oh vh : Nat) (k : Int32) (tb : Int32) (w : Int32) : Met l yX6_tableNumber (ws_ yX6_tableNumber cX6_tableNumber 3 (some .int)) rmX6_tableNumber (pcR (dC, dI) [(cI, .int), (cP, .object "SupperSeats$Plan")] (fW cI cP a0 aN aT aS t0 t1 t2 h0 h1 pa PN PT PS f u Ps oh vh k) [.ref a0, .int tb, .int w]) (vp_Si (fun r => r = fX6_tableNumber PN tb w)) 0 0 (fun _ => False) := by
  refine Met.ofW (cc := cX6_tableNumber) (maxL := 3) (ret := (some .int)) (by decide) rfl ?_
  intro p e s m args below meth c s₁ B hml hv
  obtain ⟨ha, hP, hK, hn⟩ := hv
  have hx := B.exec
  have hb := B.bytes
  have hr := B.returns
  have hts0 := atoms_spec (ws := (ws_ yX6_tableNumber cX6_tableNumber 3 (some .int))) B.pre
  have hts : ∀ w ∈ lw_all, w.before args s = true := fun w h => hts0 w (List.mem_cons_of_mem _ h)
  have hown : s.vm.findClass RX6 = some m.cls := findClass_of_methodNamed B.named
  have hlocks := B.notSynchronized
  have htX6 : ∀ w ∈ wsX60, w.before args s = true := fun w h => hts w (wX6 w h)
  obtain ⟨Q, hQ⟩ : ∃ Q, Q = MQ below (vp_Si (fun r => r = fX6_tableNumber PN tb w)) args s 0 0 (fun _ => False) := ⟨_, rfl⟩
  rw [← hQ]
  have hl := lv_entry ([.ref a0, .int tb, .int w]) (n := 3) (Nat.le_of_ble_eq_true rfl)
  rw [ha, lg_entry_eq, ← ha]
  generalize (lg_sl ([.ref a0, .int tb, .int w]) ++ List.replicate (3 - (lg_sl ([.ref a0, .int tb, .int w])).length) Slot.unset).toArray = ls at hl ⊢
  have hl : lv_has ls 3 [(0, .ref a0), (1, .int tb), (2, .int w)] := hl
  show W p l e rmX6_tableNumber s m args below meth c s.heap [] 0 0 Q (F0 m 0 ls [])
  have hF : fX6_tableNumber PN tb w = fX6_tableNumber PN tb w := rfl
  refine lv_iload_n hx hb dX6_tableNumber_0 rfl (lv_at hl 2 rfl) ?_
  by_cases c_1_0 : w = 0
  · have hF := hF.trans (if_pos c_1_0)
    refine lv_tableIn (off := 31) (tgt := 32) hx hb dX6_tableNumber_1 (by rw [c_1_0]; decide) (by rw [c_1_0]; decide) (by rw [c_1_0]; rfl) (by decide) ?_
    refine lv_aload_n hx hb dX6_tableNumber_32 rfl (lv_at hl 0 rfl) ?_
    refine va_get (D := (dC, dI)) (ci := 4) (v := .ref (aN 0)) (C := RX6) (T := TX6) (N := 6) hx hb htX6 (fun _ h => h) hown hK (fl_at hP 0 rfl) 0 rfl rfl 0 (by decide) (hts _ u_141) (fun _ h9 => h9) rfl dX6_tableNumber_33 ?_
    refine lv_iload_n hx hb dX6_tableNumber_36 rfl (lv_at hl 1 rfl) ?_
    refine k_calli (W.runV (As := [.int tb]) (rest := []) ⟨hx, hb, hml, hown, hts0⟩ (mX2_seatsAt l dC dI cI aN PN tb) (cwV 1 hts0 (gi_V u_409 u_326 u_327 u_2 u_328) rfl rfl rfl (by decide +kernel) ⟨Nat.le_of_ble_eq_true rfl, Nat.le_of_ble_eq_true rfl⟩) (pcR_V (ci := 2) (q0 := 0) (fl_at hP 1 rfl) (hK.sub (tys' := [(cI, .int)]) [0] rfl) hn rfl rfl) rfl rfl hl.1 rfl (lv_room (Nat.le_of_ble_eq_true rfl)) dX6_tableNumber_37 ⟨Nat.zero_le _, Nat.zero_le _⟩) ?_
    rw [hQ]
    exact W.iret (v := (fX2_seatsAt PN tb)) hx hb hr (fun t ht hW => ⟨(fX2_seatsAt PN tb), rfl, hF.symm, ht⟩) (fun q hq => absurd hq List.not_mem_nil) dX6_tableNumber_40
  have hF := hF.trans (if_neg c_1_0)
  by_cases c_1_1 : w = 1
  · have hF := hF.trans (if_pos c_1_1)
    refine lv_tableIn (off := 40) (tgt := 41) hx hb dX6_tableNumber_1 (by rw [c_1_1]; decide) (by rw [c_1_1]; decide) (by rw [c_1_1]; rfl) (by decide) ?_
    refine lv_aload_n hx hb dX6_tableNumber_41 rfl (lv_at hl 0 rfl) ?_
    refine va_get (D := (dC, dI)) (ci := 4) (v := .ref (aN 0)) (C := RX6) (T := TX6) (N := 6) hx hb htX6 (fun _ h => h) hown hK (fl_at hP 0 rfl) 0 rfl rfl 0 (by decide) (hts _ u_141) (fun _ h9 => h9) rfl dX6_tableNumber_42 ?_
    refine lv_iload_n hx hb dX6_tableNumber_45 rfl (lv_at hl 1 rfl) ?_
    refine k_calli (W.runV (As := [.int tb]) (rest := []) ⟨hx, hb, hml, hown, hts0⟩ (mX2_sittingAt l dC dI cI aN PN tb) (cwV 1 hts0 (gi_V u_410 u_411 u_412 u_2 u_413) rfl rfl rfl (by decide +kernel) ⟨Nat.le_of_ble_eq_true rfl, Nat.le_of_ble_eq_true rfl⟩) (pcR_V (ci := 2) (q0 := 0) (fl_at hP 1 rfl) (hK.sub (tys' := [(cI, .int)]) [0] rfl) hn rfl rfl) rfl rfl hl.1 rfl (lv_room (Nat.le_of_ble_eq_true rfl)) dX6_tableNumber_46 ⟨Nat.zero_le _, Nat.zero_le _⟩) ?_
    rw [hQ]
    exact W.iret (v := (fX2_sittingAt PN tb)) hx hb hr (fun t ht hW => ⟨(fX2_sittingAt PN tb), rfl, hF.symm, ht⟩) (fun q hq => absurd hq List.not_mem_nil) dX6_tableNumber_49
  have hF := hF.trans (if_neg c_1_1)
  by_cases c_1_2 : w = 2
  · have hF := hF.trans (if_pos c_1_2)
    refine lv_tableIn (off := 49) (tgt := 50) hx hb dX6_tableNumber_1 (by rw [c_1_2]; decide) (by rw [c_1_2]; decide) (by rw [c_1_2]; rfl) (by decide) ?_
    refine lv_aload_n hx hb dX6_tableNumber_50 rfl (lv_at hl 0 rfl) ?_
    refine va_get (D := (dC, dI)) (ci := 4) (v := .ref (aN 0)) (C := RX6) (T := TX6) (N := 6) hx hb htX6 (fun _ h => h) hown hK (fl_at hP 0 rfl) 0 rfl rfl 0 (by decide) (hts _ u_141) (fun _ h9 => h9) rfl dX6_tableNumber_51 ?_
    refine lv_iload_n hx hb dX6_tableNumber_54 rfl (lv_at hl 1 rfl) ?_
    refine k_calli (W.runV (As := [.int tb]) (rest := []) ⟨hx, hb, hml, hown, hts0⟩ (mX2_familyMask l dC dI cI aN PN tb) (cwV 1 hts0 (gi_V u_416 u_417 u_418 u_2 u_419) rfl rfl rfl (by decide +kernel) ⟨Nat.le_of_ble_eq_true rfl, Nat.le_of_ble_eq_true rfl⟩) (pcR_V (ci := 2) (q0 := 0) (fl_at hP 1 rfl) (hK.sub (tys' := [(cI, .int)]) [0] rfl) hn rfl rfl) rfl rfl hl.1 rfl (lv_room (Nat.le_of_ble_eq_true rfl)) dX6_tableNumber_55 ⟨Nat.zero_le _, Nat.zero_le _⟩) ?_
    rw [hQ]
    exact W.iret (v := (fX2_familyMask PN tb)) hx hb hr (fun t ht hW => ⟨(fX2_familyMask PN tb), rfl, hF.symm, ht⟩) (fun q hq => absurd hq List.not_mem_nil) dX6_tableNumber_58
  have hF := hF.trans (if_neg c_1_2)
  by_cases c_1_3 : w = 3
  · have hF := hF.trans (if_pos c_1_3)
    refine lv_tableIn (off := 58) (tgt := 59) hx hb dX6_tableNumber_1 (by rw [c_1_3]; decide) (by rw [c_1_3]; decide) (by rw [c_1_3]; rfl) (by decide) ?_
    refine lv_aload_n hx hb dX6_tableNumber_59 rfl (lv_at hl 0 rfl) ?_
    refine va_get (D := (dC, dI)) (ci := 4) (v := .ref (aN 0)) (C := RX6) (T := TX6) (N := 6) hx hb htX6 (fun _ h => h) hown hK (fl_at hP 0 rfl) 0 rfl rfl 0 (by decide) (hts _ u_141) (fun _ h9 => h9) rfl dX6_tableNumber_60 ?_
    refine lv_iload_n hx hb dX6_tableNumber_63 rfl (lv_at hl 1 rfl) ?_
    refine k_calli (W.runS (As := [.ref (aN 0), .int tb]) (rest := []) ⟨hx, hb, hml, hown, hts0⟩ (mX4_ofTable l dC dI cI aN PN tb) (va_cwS 2 hts0 (gi_S u_420 u_336 u_12 u_337) rfl rfl rfl (by decide +kernel) ⟨Nat.le_of_ble_eq_true rfl, Nat.le_of_ble_eq_true rfl⟩) (pcR_S (fl_at hP 1 rfl) (hK.sub (tys' := [(cI, .int)]) [0] rfl) hn) rfl rfl hl.1 rfl (lv_room (Nat.le_of_ble_eq_true rfl)) dX6_tableNumber_64 ⟨Nat.zero_le _, Nat.zero_le _⟩) ?_
    rw [hQ]
    exact W.iret (v := (fX4_ofTable PN tb)) hx hb hr (fun t ht hW => ⟨(fX4_ofTable PN tb), rfl, hF.symm, ht⟩) (fun q hq => absurd hq List.not_mem_nil) dX6_tableNumber_67
  have hF := hF.trans (if_neg c_1_3)
  refine lv_tableOut (tgt := 68) hx hb dX6_tableNumber_1 (by have hc_1_0 : (w).toInt ≠ 0 := neI c_1_0; have hc_1_1 : (w).toInt ≠ 1 := neI c_1_1; have hc_1_2 : (w).toInt ≠ 2 := neI c_1_2; have hc_1_3 : (w).toInt ≠ 3 := neI c_1_3; omega) (by decide) ?_
  refine lv_aload_n hx hb dX6_tableNumber_68 rfl (lv_at hl 0 rfl) ?_
  refine va_get (D := (dC, dI)) (ci := 4) (v := .ref (aN 0)) (C := RX6) (T := TX6) (N := 6) hx hb htX6 (fun _ h => h) hown hK (fl_at hP 0 rfl) 0 rfl rfl 0 (by decide) (hts _ u_141) (fun _ h9 => h9) rfl dX6_tableNumber_69 ?_
  refine lv_iload_n hx hb dX6_tableNumber_72 rfl (lv_at hl 1 rfl) ?_
  refine k_calli (W.runV (As := [.int tb]) (rest := []) ⟨hx, hb, hml, hown, hts0⟩ (mX2_easySeatsFree l dC dI cI aN PN tb) (cwV 1 hts0 (gi_V u_421 u_422 u_423 u_2 u_424) rfl rfl rfl (by decide +kernel) ⟨Nat.le_of_ble_eq_true rfl, Nat.le_of_ble_eq_true rfl⟩) (pcR_V (ci := 2) (q0 := 0) (fl_at hP 1 rfl) (hK.sub (tys' := [(cI, .int)]) [0] rfl) hn rfl rfl) rfl rfl hl.1 rfl (lv_room (Nat.le_of_ble_eq_true rfl)) dX6_tableNumber_73 ⟨Nat.zero_le _, Nat.zero_le _⟩) ?_
  rw [hQ]
  exact W.iret (v := (fX2_easySeatsFree PN tb)) hx hb hr (fun t ht hW => ⟨(fX2_easySeatsFree PN tb), rfl, hF.symm, ht⟩) (fun q hq => absurd hq List.not_mem_nil) dX6_tableNumber_76

