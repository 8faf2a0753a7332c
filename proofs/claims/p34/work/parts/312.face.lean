def fX6_countNumber (PN : PV) (Ps : Nat → PV) (oh : Nat) (vh : Nat) (w : Int32) : Int32 :=
  (if w = 0 then (PN 10 0) else (if w = 1 then (PN 10 1) else (if w = 2 then (fX1_length 8 (PN 8) (PN 10 4)) else (if w = 3 then (fX1_length 16 (PN 9) (PN 10 5)) else (if w = 4 then (fX4_byGuests PN) else (if w = 5 then (fX4_byTables PN) else (if w = 6 then (fX4_wishesMet PN) else (if w = 7 then (PN 10 2) else (if w = 8 then (PN 10 3) else (if w = 9 then (fX3_at 4 (PN 7) (w - 9)) else (if w = 10 then (fX3_at 4 (PN 7) (w - 9)) else (if w = 11 then (fX3_at 4 (PN 7) (w - 9)) else (if w = 12 then (fX3_at 4 (PN 7) (w - 9)) else (if w = 13 then (fX0_length Ps oh vh) else (fX3_at 4 (PN 7) (w - 9))))))))))))))))
abbrev rmX6_countNumber : Room := { frames := 5, cells := 0, slots := 0, locals := 130 }
set_option maxHeartbeats 4000000 in
set_option maxRecDepth 100000 in
theorem mX6_countNumber (l : Launch) (dC : Nat → ClassId) (dI : Nat → Nat → Nat) (cI cP : ClassId) (a0 : Nat) (aN aT aS : Nat → Nat) (t0 t1 t2 h0 h1 : Nat) (pa : Nat → Nat → Nat) (PN PT PS : PV) (f : Nat → Int32) (u : Int32) (Ps : Nat → PV) (oh vh : Nat) (k : Int32) (w : Int32) : Met l yX6_countNumber (ws_ yX6_countNumber cX6_countNumber 2 (some .int)) rmX6_countNumber (pcR (dC, dI) [(cI, .int), (cP, .object "SupperSeats$Plan")] (fW cI cP a0 aN aT aS t0 t1 t2 h0 h1 pa PN PT PS f u Ps oh vh k) [.ref a0, .int w]) (vp_Si (fun r => r = fX6_countNumber PN Ps oh vh w)) 0 0 (fun _ => False) := by
  refine Met.ofW (cc := cX6_countNumber) (maxL := 2) (ret := (some .int)) (by decide) rfl ?_
  intro p e s m args below meth c s₁ B hml hv
  obtain ⟨ha, hP, hK, hn⟩ := hv
  have hx := B.exec
  have hb := B.bytes
  have hr := B.returns
  have hts0 := atoms_spec (ws := (ws_ yX6_countNumber cX6_countNumber 2 (some .int))) B.pre
  have hts : ∀ w ∈ lw_all, w.before args s = true := fun w h => hts0 w (List.mem_cons_of_mem _ h)
  have hown : s.vm.findClass RX6 = some m.cls := findClass_of_methodNamed B.named
  have hlocks := B.notSynchronized
  have htX6 : ∀ w ∈ wsX60, w.before args s = true := fun w h => hts w (wX6 w h)
  have htX2 : ∀ w ∈ wsX20, w.before args s = true := fun w h => hts w (wX2 w h)
  obtain ⟨Q, hQ⟩ : ∃ Q, Q = MQ below (vp_Si (fun r => r = fX6_countNumber PN Ps oh vh w)) args s 0 0 (fun _ => False) := ⟨_, rfl⟩
  rw [← hQ]
  have hl := lv_entry ([.ref a0, .int w]) (n := 2) (Nat.le_of_ble_eq_true rfl)
  rw [ha, lg_entry_eq, ← ha]
  generalize (lg_sl ([.ref a0, .int w]) ++ List.replicate (2 - (lg_sl ([.ref a0, .int w])).length) Slot.unset).toArray = ls at hl ⊢
  have hl : lv_has ls 2 [(0, .ref a0), (1, .int w)] := hl
  show W p l e rmX6_countNumber s m args below meth c s.heap [] 0 0 Q (F0 m 0 ls [])
  have hF : fX6_countNumber PN Ps oh vh w = fX6_countNumber PN Ps oh vh w := rfl
  refine lv_iload_n hx hb dX6_countNumber_0 rfl (lv_at hl 1 rfl) ?_
  by_cases c_1_0 : w = 0
  · have hF := hF.trans (if_pos c_1_0)
    refine lv_tableIn (off := 71) (tgt := 72) hx hb dX6_countNumber_1 (by rw [c_1_0]; decide) (by rw [c_1_0]; decide) (by rw [c_1_0]; rfl) (by decide) ?_
    refine lv_aload_n hx hb dX6_countNumber_72 rfl (lv_at hl 0 rfl) ?_
    refine va_get (D := (dC, dI)) (ci := 4) (v := .ref (aN 0)) (C := RX6) (T := TX6) (N := 6) hx hb htX6 (fun _ h => h) hown hK (fl_at hP 0 rfl) 0 rfl rfl 0 (by decide) (hts _ u_141) (fun _ h9 => h9) rfl dX6_countNumber_73 ?_
    refine va_getN (D := (dC, dI)) (ci := 2) (v := .int (PN 10 0)) (C := RX2) (T := TX2) (N := 14) hx hb htX2 (fun _ h => h) hown hK (fl_at hP 1 rfl) 0 rfl rfl 10 (by decide) (va_Nw.use rfl (hn _ (List.mem_of_getElem? (i := 15) rfl))) (fun _ h9 => h9) rfl dX6_countNumber_76 ?_
    rw [hQ]
    exact W.iret (v := (PN 10 0)) hx hb hr (fun t ht hW => ⟨(PN 10 0), rfl, hF.symm, ht⟩) (fun q hq => absurd hq List.not_mem_nil) dX6_countNumber_79
  have hF := hF.trans (if_neg c_1_0)
  by_cases c_1_1 : w = 1
  · have hF := hF.trans (if_pos c_1_1)
    refine lv_tableIn (off := 79) (tgt := 80) hx hb dX6_countNumber_1 (by rw [c_1_1]; decide) (by rw [c_1_1]; decide) (by rw [c_1_1]; rfl) (by decide) ?_
    refine lv_aload_n hx hb dX6_countNumber_80 rfl (lv_at hl 0 rfl) ?_
    refine va_get (D := (dC, dI)) (ci := 4) (v := .ref (aN 0)) (C := RX6) (T := TX6) (N := 6) hx hb htX6 (fun _ h => h) hown hK (fl_at hP 0 rfl) 0 rfl rfl 0 (by decide) (hts _ u_141) (fun _ h9 => h9) rfl dX6_countNumber_81 ?_
    refine va_getN (D := (dC, dI)) (ci := 2) (v := .int (PN 10 1)) (C := RX2) (T := TX2) (N := 14) hx hb htX2 (fun _ h => h) hown hK (fl_at hP 1 rfl) 0 rfl rfl 11 (by decide) (va_Nw.use rfl (hn _ (List.mem_of_getElem? (i := 17) rfl))) (fun _ h9 => h9) rfl dX6_countNumber_84 ?_
    rw [hQ]
    exact W.iret (v := (PN 10 1)) hx hb hr (fun t ht hW => ⟨(PN 10 1), rfl, hF.symm, ht⟩) (fun q hq => absurd hq List.not_mem_nil) dX6_countNumber_87
  have hF := hF.trans (if_neg c_1_1)
  by_cases c_1_2 : w = 2
  · have hF := hF.trans (if_pos c_1_2)
    refine lv_tableIn (off := 87) (tgt := 88) hx hb dX6_countNumber_1 (by rw [c_1_2]; decide) (by rw [c_1_2]; decide) (by rw [c_1_2]; rfl) (by decide) ?_
    refine lv_aload_n hx hb dX6_countNumber_88 rfl (lv_at hl 0 rfl) ?_
    refine va_get (D := (dC, dI)) (ci := 4) (v := .ref (aN 0)) (C := RX6) (T := TX6) (N := 6) hx hb htX6 (fun _ h => h) hown hK (fl_at hP 0 rfl) 0 rfl rfl 0 (by decide) (hts _ u_141) (fun _ h9 => h9) rfl dX6_countNumber_89 ?_
    refine va_getN (D := (dC, dI)) (ci := 2) (v := .ref (aN 9)) (C := RX2) (T := TX2) (N := 14) hx hb htX2 (fun _ h => h) hown hK (fl_at hP 1 rfl) 0 rfl rfl 8 (by decide) (va_Nw.use rfl (hn _ (List.mem_of_getElem? (i := 12) rfl))) (fun _ h9 => h9) rfl dX6_countNumber_92 ?_
    refine k_calli (W.runV (As := []) (rest := []) ⟨hx, hb, hml, hown, hts0⟩ (mX1_length l dC dI cI (aN 9) (aN 10) 8 (by decide) (PN 8) (PN 10 4) ) (cwV 0 hts0 (gi_V u_264 u_265 u_266 u_3 u_267) rfl rfl rfl (by decide +kernel) ⟨Nat.le_of_ble_eq_true rfl, Nat.le_of_ble_eq_true rfl⟩) (pcR_V (ci := 1) (q0 := 0) ((fl_at hP 1 rfl).sub (ws' := lW cI (aN 9) (aN 10) 8 (PN 8) (PN 10 4)) [9, 10] rfl) (hK.sub (tys' := [(cI, .int)]) [0] rfl) hn rfl rfl) rfl rfl hl.1 rfl (lv_room (Nat.le_of_ble_eq_true rfl)) dX6_countNumber_95 ⟨Nat.zero_le _, Nat.zero_le _⟩) ?_
    rw [hQ]
    exact W.iret (v := (fX1_length 8 (PN 8) (PN 10 4))) hx hb hr (fun t ht hW => ⟨(fX1_length 8 (PN 8) (PN 10 4)), rfl, hF.symm, ht⟩) (fun q hq => absurd hq List.not_mem_nil) dX6_countNumber_98
  have hF := hF.trans (if_neg c_1_2)
  by_cases c_1_3 : w = 3
  · have hF := hF.trans (if_pos c_1_3)
    refine lv_tableIn (off := 98) (tgt := 99) hx hb dX6_countNumber_1 (by rw [c_1_3]; decide) (by rw [c_1_3]; decide) (by rw [c_1_3]; rfl) (by decide) ?_
    refine lv_aload_n hx hb dX6_countNumber_99 rfl (lv_at hl 0 rfl) ?_
    refine va_get (D := (dC, dI)) (ci := 4) (v := .ref (aN 0)) (C := RX6) (T := TX6) (N := 6) hx hb htX6 (fun _ h => h) hown hK (fl_at hP 0 rfl) 0 rfl rfl 0 (by decide) (hts _ u_141) (fun _ h9 => h9) rfl dX6_countNumber_100 ?_
    refine va_getN (D := (dC, dI)) (ci := 2) (v := .ref (aN 11)) (C := RX2) (T := TX2) (N := 14) hx hb htX2 (fun _ h => h) hown hK (fl_at hP 1 rfl) 0 rfl rfl 9 (by decide) (va_Nw.use rfl (hn _ (List.mem_of_getElem? (i := 13) rfl))) (fun _ h9 => h9) rfl dX6_countNumber_103 ?_
    refine k_calli (W.runV (As := []) (rest := []) ⟨hx, hb, hml, hown, hts0⟩ (mX1_length l dC dI cI (aN 11) (aN 12) 16 (by decide) (PN 9) (PN 10 5) ) (cwV 0 hts0 (gi_V u_264 u_265 u_266 u_3 u_267) rfl rfl rfl (by decide +kernel) ⟨Nat.le_of_ble_eq_true rfl, Nat.le_of_ble_eq_true rfl⟩) (pcR_V (ci := 1) (q0 := 0) ((fl_at hP 1 rfl).sub (ws' := lW cI (aN 11) (aN 12) 16 (PN 9) (PN 10 5)) [11, 12] rfl) (hK.sub (tys' := [(cI, .int)]) [0] rfl) hn rfl rfl) rfl rfl hl.1 rfl (lv_room (Nat.le_of_ble_eq_true rfl)) dX6_countNumber_106 ⟨Nat.zero_le _, Nat.zero_le _⟩) ?_
    rw [hQ]
    exact W.iret (v := (fX1_length 16 (PN 9) (PN 10 5))) hx hb hr (fun t ht hW => ⟨(fX1_length 16 (PN 9) (PN 10 5)), rfl, hF.symm, ht⟩) (fun q hq => absurd hq List.not_mem_nil) dX6_countNumber_109
  have hF := hF.trans (if_neg c_1_3)
  by_cases c_1_4 : w = 4
  · have hF := hF.trans (if_pos c_1_4)
    refine lv_tableIn (off := 109) (tgt := 110) hx hb dX6_countNumber_1 (by rw [c_1_4]; decide) (by rw [c_1_4]; decide) (by rw [c_1_4]; rfl) (by decide) ?_
    refine lv_aload_n hx hb dX6_countNumber_110 rfl (lv_at hl 0 rfl) ?_
    refine va_get (D := (dC, dI)) (ci := 4) (v := .ref (aN 0)) (C := RX6) (T := TX6) (N := 6) hx hb htX6 (fun _ h => h) hown hK (fl_at hP 0 rfl) 0 rfl rfl 0 (by decide) (hts _ u_141) (fun _ h9 => h9) rfl dX6_countNumber_111 ?_
    refine k_calli (W.runS (As := [.ref (aN 0)]) (rest := []) ⟨hx, hb, hml, hown, hts0⟩ (mX4_byGuests l dC dI cI aN PN ) (va_cwS 1 hts0 (gi_S u_292 u_293 u_12 u_294) rfl rfl rfl (by decide +kernel) ⟨Nat.le_of_ble_eq_true rfl, Nat.le_of_ble_eq_true rfl⟩) (pcR_S (fl_at hP 1 rfl) (hK.sub (tys' := [(cI, .int)]) [0] rfl) hn) rfl rfl hl.1 rfl (lv_room (Nat.le_of_ble_eq_true rfl)) dX6_countNumber_114 ⟨Nat.zero_le _, Nat.zero_le _⟩) ?_
    rw [hQ]
    exact W.iret (v := (fX4_byGuests PN)) hx hb hr (fun t ht hW => ⟨(fX4_byGuests PN), rfl, hF.symm, ht⟩) (fun q hq => absurd hq List.not_mem_nil) dX6_countNumber_117
  have hF := hF.trans (if_neg c_1_4)
  by_cases c_1_5 : w = 5
  · have hF := hF.trans (if_pos c_1_5)
    refine lv_tableIn (off := 117) (tgt := 118) hx hb dX6_countNumber_1 (by rw [c_1_5]; decide) (by rw [c_1_5]; decide) (by rw [c_1_5]; rfl) (by decide) ?_
    refine lv_aload_n hx hb dX6_countNumber_118 rfl (lv_at hl 0 rfl) ?_
    refine va_get (D := (dC, dI)) (ci := 4) (v := .ref (aN 0)) (C := RX6) (T := TX6) (N := 6) hx hb htX6 (fun _ h => h) hown hK (fl_at hP 0 rfl) 0 rfl rfl 0 (by decide) (hts _ u_141) (fun _ h9 => h9) rfl dX6_countNumber_119 ?_
    refine k_calli (W.runS (As := [.ref (aN 0)]) (rest := []) ⟨hx, hb, hml, hown, hts0⟩ (mX4_byTables l dC dI cI aN PN ) (va_cwS 1 hts0 (gi_S u_332 u_333 u_12 u_334) rfl rfl rfl (by decide +kernel) ⟨Nat.le_of_ble_eq_true rfl, Nat.le_of_ble_eq_true rfl⟩) (pcR_S (fl_at hP 1 rfl) (hK.sub (tys' := [(cI, .int)]) [0] rfl) hn) rfl rfl hl.1 rfl (lv_room (Nat.le_of_ble_eq_true rfl)) dX6_countNumber_122 ⟨Nat.zero_le _, Nat.zero_le _⟩) ?_
    rw [hQ]
    exact W.iret (v := (fX4_byTables PN)) hx hb hr (fun t ht hW => ⟨(fX4_byTables PN), rfl, hF.symm, ht⟩) (fun q hq => absurd hq List.not_mem_nil) dX6_countNumber_125
  have hF := hF.trans (if_neg c_1_5)
  by_cases c_1_6 : w = 6
  · have hF := hF.trans (if_pos c_1_6)
    refine lv_tableIn (off := 125) (tgt := 126) hx hb dX6_countNumber_1 (by rw [c_1_6]; decide) (by rw [c_1_6]; decide) (by rw [c_1_6]; rfl) (by decide) ?_
    refine lv_aload_n hx hb dX6_countNumber_126 rfl (lv_at hl 0 rfl) ?_
    refine va_get (D := (dC, dI)) (ci := 4) (v := .ref (aN 0)) (C := RX6) (T := TX6) (N := 6) hx hb htX6 (fun _ h => h) hown hK (fl_at hP 0 rfl) 0 rfl rfl 0 (by decide) (hts _ u_141) (fun _ h9 => h9) rfl dX6_countNumber_127 ?_
    refine k_calli (W.runS (As := [.ref (aN 0)]) (rest := []) ⟨hx, hb, hml, hown, hts0⟩ (mX4_wishesMet l dC dI cI aN PN ) (va_cwS 1 hts0 (gi_S u_342 u_343 u_12 u_344) rfl rfl rfl (by decide +kernel) ⟨Nat.le_of_ble_eq_true rfl, Nat.le_of_ble_eq_true rfl⟩) (pcR_S (fl_at hP 1 rfl) (hK.sub (tys' := [(cI, .int)]) [0] rfl) hn) rfl rfl hl.1 rfl (lv_room (Nat.le_of_ble_eq_true rfl)) dX6_countNumber_130 ⟨Nat.zero_le _, Nat.zero_le _⟩) ?_
    rw [hQ]
    exact W.iret (v := (fX4_wishesMet PN)) hx hb hr (fun t ht hW => ⟨(fX4_wishesMet PN), rfl, hF.symm, ht⟩) (fun q hq => absurd hq List.not_mem_nil) dX6_countNumber_133
  have hF := hF.trans (if_neg c_1_6)
  by_cases c_1_7 : w = 7
  · have hF := hF.trans (if_pos c_1_7)
    refine lv_tableIn (off := 133) (tgt := 134) hx hb dX6_countNumber_1 (by rw [c_1_7]; decide) (by rw [c_1_7]; decide) (by rw [c_1_7]; rfl) (by decide) ?_
    refine lv_aload_n hx hb dX6_countNumber_134 rfl (lv_at hl 0 rfl) ?_
    refine va_get (D := (dC, dI)) (ci := 4) (v := .ref (aN 0)) (C := RX6) (T := TX6) (N := 6) hx hb htX6 (fun _ h => h) hown hK (fl_at hP 0 rfl) 0 rfl rfl 0 (by decide) (hts _ u_141) (fun _ h9 => h9) rfl dX6_countNumber_135 ?_
    refine va_getN (D := (dC, dI)) (ci := 2) (v := .int (PN 10 2)) (C := RX2) (T := TX2) (N := 14) hx hb htX2 (fun _ h => h) hown hK (fl_at hP 1 rfl) 0 rfl rfl 12 (by decide) (va_Nw.use rfl (hn _ (List.mem_of_getElem? (i := 18) rfl))) (fun _ h9 => h9) rfl dX6_countNumber_138 ?_
    rw [hQ]
    exact W.iret (v := (PN 10 2)) hx hb hr (fun t ht hW => ⟨(PN 10 2), rfl, hF.symm, ht⟩) (fun q hq => absurd hq List.not_mem_nil) dX6_countNumber_141
  have hF := hF.trans (if_neg c_1_7)
  by_cases c_1_8 : w = 8
  · have hF := hF.trans (if_pos c_1_8)
    refine lv_tableIn (off := 141) (tgt := 142) hx hb dX6_countNumber_1 (by rw [c_1_8]; decide) (by rw [c_1_8]; decide) (by rw [c_1_8]; rfl) (by decide) ?_
    refine lv_aload_n hx hb dX6_countNumber_142 rfl (lv_at hl 0 rfl) ?_
    refine va_get (D := (dC, dI)) (ci := 4) (v := .ref (aN 0)) (C := RX6) (T := TX6) (N := 6) hx hb htX6 (fun _ h => h) hown hK (fl_at hP 0 rfl) 0 rfl rfl 0 (by decide) (hts _ u_141) (fun _ h9 => h9) rfl dX6_countNumber_143 ?_
    refine va_getN (D := (dC, dI)) (ci := 2) (v := .int (PN 10 3)) (C := RX2) (T := TX2) (N := 14) hx hb htX2 (fun _ h => h) hown hK (fl_at hP 1 rfl) 0 rfl rfl 13 (by decide) (va_Nw.use rfl (hn _ (List.mem_of_getElem? (i := 19) rfl))) (fun _ h9 => h9) rfl dX6_countNumber_146 ?_
    rw [hQ]
    exact W.iret (v := (PN 10 3)) hx hb hr (fun t ht hW => ⟨(PN 10 3), rfl, hF.symm, ht⟩) (fun q hq => absurd hq List.not_mem_nil) dX6_countNumber_149
  have hF := hF.trans (if_neg c_1_8)
  by_cases c_1_9 : w = 9
  · have hF := hF.trans (if_pos c_1_9)
    refine lv_tableIn (off := 157) (tgt := 158) hx hb dX6_countNumber_1 (by rw [c_1_9]; decide) (by rw [c_1_9]; decide) (by rw [c_1_9]; rfl) (by decide) ?_
    refine lv_aload_n hx hb dX6_countNumber_158 rfl (lv_at hl 0 rfl) ?_
    refine va_get (D := (dC, dI)) (ci := 4) (v := .ref (aN 0)) (C := RX6) (T := TX6) (N := 6) hx hb htX6 (fun _ h => h) hown hK (fl_at hP 0 rfl) 0 rfl rfl 0 (by decide) (hts _ u_141) (fun _ h9 => h9) rfl dX6_countNumber_159 ?_
    refine va_getN (D := (dC, dI)) (ci := 2) (v := .ref (aN 8)) (C := RX2) (T := TX2) (N := 14) hx hb htX2 (fun _ h => h) hown hK (fl_at hP 1 rfl) 0 rfl rfl 7 (by decide) (va_Nw.use rfl (hn _ (List.mem_of_getElem? (i := 10) rfl))) (fun _ h9 => h9) rfl dX6_countNumber_162 ?_
    refine lv_iload_n hx hb dX6_countNumber_165 rfl (lv_at hl 1 rfl) ?_
    refine lv_bipush (v := 9) hx hb dX6_countNumber_166 (by decide) ?_
    refine lv_isub hx hb dX6_countNumber_168 ?_
    refine k_calli (W.runS (As := [.ref (aN 8), .int (w - 9)]) (rest := []) ⟨hx, hb, hml, hown, hts0⟩ (mX3_at l dC dI cI (aN 8) 4 (by decide) (PN 7) (w - 9)) (va_cwS 2 hts0 (gi_S u_345 u_303 u_7 u_304) rfl rfl rfl (by decide +kernel) ⟨Nat.le_of_ble_eq_true rfl, Nat.le_of_ble_eq_true rfl⟩) (pcR_S ((fl_at hP 1 rfl).sub (ws' := aW cI (aN 8) 4 (PN 7)) [8] rfl) (hK.sub (tys' := [(cI, .int)]) [0] rfl) hn) rfl rfl hl.1 rfl (lv_room (Nat.le_of_ble_eq_true rfl)) dX6_countNumber_169 ⟨Nat.zero_le _, Nat.zero_le _⟩) ?_
    rw [hQ]
    exact W.iret (v := (fX3_at 4 (PN 7) (w - 9))) hx hb hr (fun t ht hW => ⟨(fX3_at 4 (PN 7) (w - 9)), rfl, hF.symm, ht⟩) (fun q hq => absurd hq List.not_mem_nil) dX6_countNumber_172
  have hF := hF.trans (if_neg c_1_9)
  by_cases c_1_10 : w = 10
  · have hF := hF.trans (if_pos c_1_10)
    refine lv_tableIn (off := 157) (tgt := 158) hx hb dX6_countNumber_1 (by rw [c_1_10]; decide) (by rw [c_1_10]; decide) (by rw [c_1_10]; rfl) (by decide) ?_
    refine lv_aload_n hx hb dX6_countNumber_158 rfl (lv_at hl 0 rfl) ?_
    refine va_get (D := (dC, dI)) (ci := 4) (v := .ref (aN 0)) (C := RX6) (T := TX6) (N := 6) hx hb htX6 (fun _ h => h) hown hK (fl_at hP 0 rfl) 0 rfl rfl 0 (by decide) (hts _ u_141) (fun _ h9 => h9) rfl dX6_countNumber_159 ?_
    refine va_getN (D := (dC, dI)) (ci := 2) (v := .ref (aN 8)) (C := RX2) (T := TX2) (N := 14) hx hb htX2 (fun _ h => h) hown hK (fl_at hP 1 rfl) 0 rfl rfl 7 (by decide) (va_Nw.use rfl (hn _ (List.mem_of_getElem? (i := 10) rfl))) (fun _ h9 => h9) rfl dX6_countNumber_162 ?_
    refine lv_iload_n hx hb dX6_countNumber_165 rfl (lv_at hl 1 rfl) ?_
    refine lv_bipush (v := 9) hx hb dX6_countNumber_166 (by decide) ?_
    refine lv_isub hx hb dX6_countNumber_168 ?_
    refine k_calli (W.runS (As := [.ref (aN 8), .int (w - 9)]) (rest := []) ⟨hx, hb, hml, hown, hts0⟩ (mX3_at l dC dI cI (aN 8) 4 (by decide) (PN 7) (w - 9)) (va_cwS 2 hts0 (gi_S u_345 u_303 u_7 u_304) rfl rfl rfl (by decide +kernel) ⟨Nat.le_of_ble_eq_true rfl, Nat.le_of_ble_eq_true rfl⟩) (pcR_S ((fl_at hP 1 rfl).sub (ws' := aW cI (aN 8) 4 (PN 7)) [8] rfl) (hK.sub (tys' := [(cI, .int)]) [0] rfl) hn) rfl rfl hl.1 rfl (lv_room (Nat.le_of_ble_eq_true rfl)) dX6_countNumber_169 ⟨Nat.zero_le _, Nat.zero_le _⟩) ?_
    rw [hQ]
    exact W.iret (v := (fX3_at 4 (PN 7) (w - 9))) hx hb hr (fun t ht hW => ⟨(fX3_at 4 (PN 7) (w - 9)), rfl, hF.symm, ht⟩) (fun q hq => absurd hq List.not_mem_nil) dX6_countNumber_172
  have hF := hF.trans (if_neg c_1_10)
  by_cases c_1_11 : w = 11
  · have hF := hF.trans (if_pos c_1_11)
    refine lv_tableIn (off := 157) (tgt := 158) hx hb dX6_countNumber_1 (by rw [c_1_11]; decide) (by rw [c_1_11]; decide) (by rw [c_1_11]; rfl) (by decide) ?_
    refine lv_aload_n hx hb dX6_countNumber_158 rfl (lv_at hl 0 rfl) ?_
    refine va_get (D := (dC, dI)) (ci := 4) (v := .ref (aN 0)) (C := RX6) (T := TX6) (N := 6) hx hb htX6 (fun _ h => h) hown hK (fl_at hP 0 rfl) 0 rfl rfl 0 (by decide) (hts _ u_141) (fun _ h9 => h9) rfl dX6_countNumber_159 ?_
    refine va_getN (D := (dC, dI)) (ci := 2) (v := .ref (aN 8)) (C := RX2) (T := TX2) (N := 14) hx hb htX2 (fun _ h => h) hown hK (fl_at hP 1 rfl) 0 rfl rfl 7 (by decide) (va_Nw.use rfl (hn _ (List.mem_of_getElem? (i := 10) rfl))) (fun _ h9 => h9) rfl dX6_countNumber_162 ?_
    refine lv_iload_n hx hb dX6_countNumber_165 rfl (lv_at hl 1 rfl) ?_
    refine lv_bipush (v := 9) hx hb dX6_countNumber_166 (by decide) ?_
    refine lv_isub hx hb dX6_countNumber_168 ?_
    refine k_calli (W.runS (As := [.ref (aN 8), .int (w - 9)]) (rest := []) ⟨hx, hb, hml, hown, hts0⟩ (mX3_at l dC dI cI (aN 8) 4 (by decide) (PN 7) (w - 9)) (va_cwS 2 hts0 (gi_S u_345 u_303 u_7 u_304) rfl rfl rfl (by decide +kernel) ⟨Nat.le_of_ble_eq_true rfl, Nat.le_of_ble_eq_true rfl⟩) (pcR_S ((fl_at hP 1 rfl).sub (ws' := aW cI (aN 8) 4 (PN 7)) [8] rfl) (hK.sub (tys' := [(cI, .int)]) [0] rfl) hn) rfl rfl hl.1 rfl (lv_room (Nat.le_of_ble_eq_true rfl)) dX6_countNumber_169 ⟨Nat.zero_le _, Nat.zero_le _⟩) ?_
    rw [hQ]
    exact W.iret (v := (fX3_at 4 (PN 7) (w - 9))) hx hb hr (fun t ht hW => ⟨(fX3_at 4 (PN 7) (w - 9)), rfl, hF.symm, ht⟩) (fun q hq => absurd hq List.not_mem_nil) dX6_countNumber_172
  have hF := hF.trans (if_neg c_1_11)
  by_cases c_1_12 : w = 12
  · have hF := hF.trans (if_pos c_1_12)
    refine lv_tableIn (off := 157) (tgt := 158) hx hb dX6_countNumber_1 (by rw [c_1_12]; decide) (by rw [c_1_12]; decide) (by rw [c_1_12]; rfl) (by decide) ?_
    refine lv_aload_n hx hb dX6_countNumber_158 rfl (lv_at hl 0 rfl) ?_
    refine va_get (D := (dC, dI)) (ci := 4) (v := .ref (aN 0)) (C := RX6) (T := TX6) (N := 6) hx hb htX6 (fun _ h => h) hown hK (fl_at hP 0 rfl) 0 rfl rfl 0 (by decide) (hts _ u_141) (fun _ h9 => h9) rfl dX6_countNumber_159 ?_
    refine va_getN (D := (dC, dI)) (ci := 2) (v := .ref (aN 8)) (C := RX2) (T := TX2) (N := 14) hx hb htX2 (fun _ h => h) hown hK (fl_at hP 1 rfl) 0 rfl rfl 7 (by decide) (va_Nw.use rfl (hn _ (List.mem_of_getElem? (i := 10) rfl))) (fun _ h9 => h9) rfl dX6_countNumber_162 ?_
    refine lv_iload_n hx hb dX6_countNumber_165 rfl (lv_at hl 1 rfl) ?_
    refine lv_bipush (v := 9) hx hb dX6_countNumber_166 (by decide) ?_
    refine lv_isub hx hb dX6_countNumber_168 ?_
    refine k_calli (W.runS (As := [.ref (aN 8), .int (w - 9)]) (rest := []) ⟨hx, hb, hml, hown, hts0⟩ (mX3_at l dC dI cI (aN 8) 4 (by decide) (PN 7) (w - 9)) (va_cwS 2 hts0 (gi_S u_345 u_303 u_7 u_304) rfl rfl rfl (by decide +kernel) ⟨Nat.le_of_ble_eq_true rfl, Nat.le_of_ble_eq_true rfl⟩) (pcR_S ((fl_at hP 1 rfl).sub (ws' := aW cI (aN 8) 4 (PN 7)) [8] rfl) (hK.sub (tys' := [(cI, .int)]) [0] rfl) hn) rfl rfl hl.1 rfl (lv_room (Nat.le_of_ble_eq_true rfl)) dX6_countNumber_169 ⟨Nat.zero_le _, Nat.zero_le _⟩) ?_
    rw [hQ]
    exact W.iret (v := (fX3_at 4 (PN 7) (w - 9))) hx hb hr (fun t ht hW => ⟨(fX3_at 4 (PN 7) (w - 9)), rfl, hF.symm, ht⟩) (fun q hq => absurd hq List.not_mem_nil) dX6_countNumber_172
  have hF := hF.trans (if_neg c_1_12)
  by_cases c_1_13 : w = 13
  · have hF := hF.trans (if_pos c_1_13)
    refine lv_tableIn (off := 149) (tgt := 150) hx hb dX6_countNumber_1 (by rw [c_1_13]; decide) (by rw [c_1_13]; decide) (by rw [c_1_13]; rfl) (by decide) ?_
    refine lv_aload_n hx hb dX6_countNumber_150 rfl (lv_at hl 0 rfl) ?_
    refine va_get (D := (dC, dI)) (ci := 4) (v := .ref h0) (C := RX6) (T := TX6) (N := 6) hx hb htX6 (fun _ h => h) hown hK (fl_at hP 0 rfl) 0 rfl rfl 3 (by decide) (hts _ u_144) (fun _ h9 => h9) rfl dX6_countNumber_151 ?_
    refine k_calli (W.runV (As := []) (rest := []) ⟨hx, hb, hml, hown, hts0⟩ (mX0_length l dC dI cI cP h0 h1 pa Ps oh vh ) (cwV 0 hts0 (gi_V u_164 u_165 u_166 u_5 u_167) rfl rfl rfl (by decide +kernel) ⟨Nat.le_of_ble_eq_true rfl, Nat.le_of_ble_eq_true rfl⟩) (pcR_V (ci := 0) (q0 := 0) (fl_at hP 5 rfl) hK hn rfl rfl) rfl rfl hl.1 rfl (lv_room (Nat.le_of_ble_eq_true rfl)) dX6_countNumber_154 ⟨Nat.zero_le _, Nat.zero_le _⟩) ?_
    rw [hQ]
    exact W.iret (v := (fX0_length Ps oh vh)) hx hb hr (fun t ht hW => ⟨(fX0_length Ps oh vh), rfl, hF.symm, ht⟩) (fun q hq => absurd hq List.not_mem_nil) dX6_countNumber_157
  have hF := hF.trans (if_neg c_1_13)
  refine lv_tableOut (tgt := 158) hx hb dX6_countNumber_1 (by have hc_1_0 : (w).toInt ≠ 0 := neI c_1_0; have hc_1_1 : (w).toInt ≠ 1 := neI c_1_1; have hc_1_2 : (w).toInt ≠ 2 := neI c_1_2; have hc_1_3 : (w).toInt ≠ 3 := neI c_1_3; have hc_1_4 : (w).toInt ≠ 4 := neI c_1_4; have hc_1_5 : (w).toInt ≠ 5 := neI c_1_5; have hc_1_6 : (w).toInt ≠ 6 := neI c_1_6; have hc_1_7 : (w).toInt ≠ 7 := neI c_1_7; have hc_1_8 : (w).toInt ≠ 8 := neI c_1_8; have hc_1_9 : (w).toInt ≠ 9 := neI c_1_9; have hc_1_10 : (w).toInt ≠ 10 := neI c_1_10; have hc_1_11 : (w).toInt ≠ 11 := neI c_1_11; have hc_1_12 : (w).toInt ≠ 12 := neI c_1_12; have hc_1_13 : (w).toInt ≠ 13 := neI c_1_13; omega) (by decide) ?_
  refine lv_aload_n hx hb dX6_countNumber_158 rfl (lv_at hl 0 rfl) ?_
  refine va_get (D := (dC, dI)) (ci := 4) (v := .ref (aN 0)) (C := RX6) (T := TX6) (N := 6) hx hb htX6 (fun _ h => h) hown hK (fl_at hP 0 rfl) 0 rfl rfl 0 (by decide) (hts _ u_141) (fun _ h9 => h9) rfl dX6_countNumber_159 ?_
  refine va_getN (D := (dC, dI)) (ci := 2) (v := .ref (aN 8)) (C := RX2) (T := TX2) (N := 14) hx hb htX2 (fun _ h => h) hown hK (fl_at hP 1 rfl) 0 rfl rfl 7 (by decide) (va_Nw.use rfl (hn _ (List.mem_of_getElem? (i := 10) rfl))) (fun _ h9 => h9) rfl dX6_countNumber_162 ?_
  refine lv_iload_n hx hb dX6_countNumber_165 rfl (lv_at hl 1 rfl) ?_
  refine lv_bipush (v := 9) hx hb dX6_countNumber_166 (by decide) ?_
  refine lv_isub hx hb dX6_countNumber_168 ?_
  refine k_calli (W.runS (As := [.ref (aN 8), .int (w - 9)]) (rest := []) ⟨hx, hb, hml, hown, hts0⟩ (mX3_at l dC dI cI (aN 8) 4 (by decide) (PN 7) (w - 9)) (va_cwS 2 hts0 (gi_S u_345 u_303 u_7 u_304) rfl rfl rfl (by decide +kernel) ⟨Nat.le_of_ble_eq_true rfl, Nat.le_of_ble_eq_true rfl⟩) (pcR_S ((fl_at hP 1 rfl).sub (ws' := aW cI (aN 8) 4 (PN 7)) [8] rfl) (hK.sub (tys' := [(cI, .int)]) [0] rfl) hn) rfl rfl hl.1 rfl (lv_room (Nat.le_of_ble_eq_true rfl)) dX6_countNumber_169 ⟨Nat.zero_le _, Nat.zero_le _⟩) ?_
  rw [hQ]
  exact W.iret (v := (fX3_at 4 (PN 7) (w - 9))) hx hb hr (fun t ht hW => ⟨(fX3_at 4 (PN 7) (w - 9)), rfl, hF.symm, ht⟩) (fun q hq => absurd hq List.not_mem_nil) dX6_countNumber_172

def fX6_seatedNumber (PN : PV) (PT : PV) (w : Int32) : Int32 × (PV) :=
  (bd (fX2_copyFrom PT PN) (fun U8 => (bd2 (fX2_seatStanding U8) (fun r15 U15 => (if w = 0 then (r15, U15) else (((fX4_byGuests U15) + 1000), U15))))))
abbrev rmX6_seatedNumber : Room := { frames := 5, cells := 0, slots := 0, locals := 138 }
set_option maxHeartbeats 4000000 in
set_option maxRecDepth 100000 in
theorem mX6_seatedNumber (l : Launch) (dC : Nat → ClassId) (dI : Nat → Nat → Nat) (cI cP : ClassId) (a0 : Nat) (aN aT aS : Nat → Nat) (t0 t1 t2 h0 h1 : Nat) (pa : Nat → Nat → Nat) (PN PT PS : PV) (f : Nat → Int32) (u : Int32) (Ps : Nat → PV) (oh vh : Nat) (k : Int32) (w : Int32) : Met l yX6_seatedNumber (ws_ yX6_seatedNumber cX6_seatedNumber 3 (some .int)) rmX6_seatedNumber (pcM (dC, dI) [(cI, .int), (cP, .object "SupperSeats$Plan")] (fW cI cP a0 aN aT aS t0 t1 t2 h0 h1 pa PN PT PS f u Ps oh vh k) [.ref a0, .int w]) (va_Qi (fun (r9 : Int32) (u9 : PV) => (r9, u9) = fX6_seatedNumber PN PT w) (fun u9 t => va_P (dC, dI) vwCl ((fun (v9 : PV) => fW cI cP a0 aN aT aS t0 t1 t2 h0 h1 pa PN v9 PS f u Ps oh vh k) u9) t.heap) (adr (fW cI cP a0 aN aT aS t0 t1 t2 h0 h1 pa PN PT PS f u Ps oh vh k))) 0 0 (adr (fW cI cP a0 aN aT aS t0 t1 t2 h0 h1 pa PN PT PS f u Ps oh vh k)) := by
  refine Met.ofW (cc := cX6_seatedNumber) (maxL := 3) (ret := (some .int)) (by decide) rfl ?_
  intro p e s m args below meth c s₁ B hml hv
  obtain ⟨ha, hP, hK, hn, hD0⟩ := hv
  have hx := B.exec
  have hb := B.bytes
  have hr := B.returns
  have hts0 := atoms_spec (ws := (ws_ yX6_seatedNumber cX6_seatedNumber 3 (some .int))) B.pre
  have hts : ∀ w ∈ lw_all, w.before args s = true := fun w h => hts0 w (List.mem_cons_of_mem _ h)
  have hown : s.vm.findClass RX6 = some m.cls := findClass_of_methodNamed B.named
  have hlocks := B.notSynchronized
  have htX6 : ∀ w ∈ wsX60, w.before args s = true := fun w h => hts w (wX6 w h)
  have hD := adr_self hD0
  obtain ⟨A, hA⟩ : ∃ A, A = adr (fW cI cP a0 aN aT aS t0 t1 t2 h0 h1 pa PN PT PS f u Ps oh vh k) := ⟨_, rfl⟩
  rw [← hA] at hD
  have hS : va_S A s.heap s.heap [] := va_S.rf
  obtain ⟨Q, hQ⟩ : ∃ Q, Q = MQ below (va_Qi (fun (r9 : Int32) (u9 : PV) => (r9, u9) = fX6_seatedNumber PN PT w) (fun u9 t => va_P (dC, dI) vwCl ((fun (v9 : PV) => fW cI cP a0 aN aT aS t0 t1 t2 h0 h1 pa PN v9 PS f u Ps oh vh k) u9) t.heap) (adr (fW cI cP a0 aN aT aS t0 t1 t2 h0 h1 pa PN PT PS f u Ps oh vh k))) args s 0 0 (adr (fW cI cP a0 aN aT aS t0 t1 t2 h0 h1 pa PN PT PS f u Ps oh vh k)) := ⟨_, rfl⟩
  rw [← hQ]
  rw [← hA] at hQ
  have hl := lv_entry ([.ref a0, .int w]) (n := 3) (Nat.le_of_ble_eq_true rfl)
  rw [ha, lg_entry_eq, ← ha]
  generalize (lg_sl ([.ref a0, .int w]) ++ List.replicate (3 - (lg_sl ([.ref a0, .int w])).length) Slot.unset).toArray = ls at hl ⊢
  have hl : lv_has ls 3 [(0, .ref a0), (1, .int w)] := hl
  show W p l e rmX6_seatedNumber s m args below meth c s.heap [] 0 0 Q (F0 m 0 ls [])
  have hF : fX6_seatedNumber PN PT w = fX6_seatedNumber PN PT w := rfl
  refine lv_aload_n hx hb dX6_seatedNumber_0 rfl (lv_at hl 0 rfl) ?_
  refine va_get (D := (dC, dI)) (ci := 4) (v := .ref (aT 0)) (C := RX6) (T := TX6) (N := 6) hx hb htX6 (fun _ h => h) hown hK (fl_at hP 0 rfl) 0 rfl rfl 1 (by decide) (hts _ u_142) (fun _ h9 => h9) rfl dX6_seatedNumber_1 ?_
  refine lv_aload_n hx hb dX6_seatedNumber_4 rfl (lv_at hl 0 rfl) ?_
  refine va_get (D := (dC, dI)) (ci := 4) (v := .ref (aN 0)) (C := RX6) (T := TX6) (N := 6) hx hb htX6 (fun _ h => h) hown hK (fl_at hP 0 rfl) 0 rfl rfl 0 (by decide) (hts _ u_141) (fun _ h9 => h9) rfl dX6_seatedNumber_5 ?_
  refine k_bmutv (wc := [pW cI aT PT, pW cI aN PN]) (W1 := (fun (v : PV) => [pW cI aT v, pW cI aN PN])) (va_runV (As := [.ref (aN 0)]) (rest := []) ⟨hx, hb, hml, hown, hts0⟩ (mX2_copyFrom l dC dI cI aT PT aN PN ) (cwV 1 hts0 (gi_V u_263 u_245 u_246 u_2 u_247) rfl rfl rfl (by decide +kernel) ⟨Nat.le_of_ble_eq_true rfl, Nat.le_of_ble_eq_true rfl⟩) (pcM_V (ci := 2) (q0 := 0) (fl_sub (wc := [pW cI aT PT, pW cI aN PN]) hP [2, 1] rfl) (hK.sub (tys' := [(cI, .int)]) [0] rfl) hn (fl_D (wc := [pW cI aT PT, pW cI aN PN]) hD [2, 1] (by decide) rfl) rfl rfl) rfl rfl hl.1 rfl (lv_room (Nat.le_of_ble_eq_true rfl)) dX6_seatedNumber_8 ⟨Nat.zero_le _, Nat.zero_le _⟩) hP hD hS [2, 1] (by decide) rfl (fun _ => rfl) (fun U8 H locs hU8 hP hD hS => ?_)
  have hP : va_P (dC, dI) vwCl (fW cI cP a0 aN aT aS t0 t1 t2 h0 h1 pa PN U8 PS f u Ps oh vh k) H := hP
  have hD : va_D A (fW cI cP a0 aN aT aS t0 t1 t2 h0 h1 pa PN U8 PS f u Ps oh vh k) := hD
  have hF := bd_at hF hU8
  refine lv_aload_n hx hb dX6_seatedNumber_11 rfl (lv_at hl 0 rfl) ?_
  refine va_get (D := (dC, dI)) (ci := 4) (v := .ref (aT 0)) (C := RX6) (T := TX6) (N := 6) hx hb htX6 (fun _ h => h) hown hK (fl_at hP 0 rfl) 0 rfl rfl 1 (by decide) (hts _ u_142) (fun _ h9 => h9) rfl dX6_seatedNumber_12 ?_
  refine k_bmuti (wc := [pW cI aT U8]) (W1 := (fun (v : PV) => [pW cI aT v])) (va_runV (As := []) (rest := []) ⟨hx, hb, hml, hown, hts0⟩ (mX2_seatStanding l dC dI cI aT U8 ) (cwV 0 hts0 (gi_V u_479 u_480 u_481 u_2 u_482) rfl rfl rfl (by decide +kernel) ⟨Nat.le_of_ble_eq_true rfl, Nat.le_of_ble_eq_true rfl⟩) (pcM_V (ci := 2) (q0 := 0) (fl_at hP 2 rfl) (hK.sub (tys' := [(cI, .int)]) [0] rfl) hn (fl_D1 hD 2 rfl) rfl rfl) rfl rfl hl.1 rfl (lv_room (Nat.le_of_ble_eq_true rfl)) dX6_seatedNumber_15 ⟨Nat.zero_le _, Nat.zero_le _⟩) hP hD hS [2] (by decide) rfl (fun _ => rfl) (fun r15 U15 H locs hU15 hP hD hS => ?_)
  have hP : va_P (dC, dI) vwCl (fW cI cP a0 aN aT aS t0 t1 t2 h0 h1 pa PN U15 PS f u Ps oh vh k) H := hP
  have hD : va_D A (fW cI cP a0 aN aT aS t0 t1 t2 h0 h1 pa PN U15 PS f u Ps oh vh k) := hD
  have hF := bd2_at hF hU15
  refine lv_istore_n (lv' := [(2, .int r15), (0, .ref a0), (1, .int w)]) hx hb dX6_seatedNumber_18 rfl hl (by decide) rfl (fun ls hl => ?_)
  refine lv_iload_n hx hb dX6_seatedNumber_19 rfl (lv_at hl 2 rfl) ?_
  refine lv_if_ne (tgt := 27) hx hb dX6_seatedNumber_20 (by decide) (fun c_20 => ?_) (fun c_20 => ?_)
  · have hF := hF.trans (if_neg c_20)
    refine lv_aload_n hx hb dX6_seatedNumber_27 rfl (lv_at hl 1 rfl) ?_
    refine va_get (D := (dC, dI)) (ci := 4) (v := .ref (aT 0)) (C := RX6) (T := TX6) (N := 6) hx hb htX6 (fun _ h => h) hown hK (fl_at hP 0 rfl) 0 rfl rfl 1 (by decide) (hts _ u_142) (fun _ h9 => h9) rfl dX6_seatedNumber_28 ?_
    refine k_calli (W.runS (As := [.ref (aT 0)]) (rest := []) ⟨hx, hb, hml, hown, hts0⟩ (mX4_byGuests l dC dI cI aT U15 ) (va_cwS 1 hts0 (gi_S u_292 u_293 u_12 u_294) rfl rfl rfl (by decide +kernel) ⟨Nat.le_of_ble_eq_true rfl, Nat.le_of_ble_eq_true rfl⟩) (pcR_S (fl_at hP 2 rfl) (hK.sub (tys' := [(cI, .int)]) [0] rfl) hn) rfl rfl hl.1 rfl (lv_room (Nat.le_of_ble_eq_true rfl)) dX6_seatedNumber_31 ⟨Nat.zero_le _, Nat.zero_le _⟩) ?_
    refine lv_sipush (v := 1000) hx hb dX6_seatedNumber_34 (by decide) ?_
    refine lv_iadd hx hb dX6_seatedNumber_37 ?_
    rw [hQ]
    exact W.iret (v := ((fX4_byGuests U15) + 1000)) hx hb hr (fun t ht hW => ⟨⟨((fX4_byGuests U15) + 1000), U15, rfl, hF.symm, toH ht hP⟩, hS.F ht⟩) hS.2.2 dX6_seatedNumber_38
  have hF := hF.trans (if_pos c_20)
  refine lv_iload_n hx hb dX6_seatedNumber_23 rfl (lv_at hl 0 rfl) ?_
  refine lv_goto (tgt := 38) hx hb dX6_seatedNumber_24 (by decide) ?_
  rw [hQ]
  exact W.iret (v := r15) hx hb hr (fun t ht hW => ⟨⟨r15, U15, rfl, hF.symm, toH ht hP⟩, hS.F ht⟩) hS.2.2 dX6_seatedNumber_38

def fX6_hashLine_b5 (n : Nat) (f : Nat → Int32) (u : Int32) (kk5 : Nat) (x5_3 : Int64) (nextkk5 : Int64 → Int64) : Int64 :=
  (nextkk5 ((31 * x5_3) + (fX1_itemAt n f u (nI kk5)).toInt64))
def fX6_hashLine_r5 (x5_3 : Int64) : Int64 :=
  x5_3
def fX6_hashLine (n : Nat) (f : Nat → Int32) (u : Int32) (hh : Int64) : Int64 :=
  (lq1 (fX6_hashLine_b5 n f u) fX6_hashLine_r5 ((fX1_length n f u).toNatClampNeg) 0 hh)
abbrev rmX6_hashLine : Room := { frames := 1, cells := 0, slots := 0, locals := 21 }
def fX6_hashGuests_b20 (PN : PV) (kk5 : Nat) (kk20 : Nat) (x20_3 : Int64) (nextkk20 : Int64 → Int64) : Int64 :=
  (nextkk20 ((31 * x20_3) + (fX6_guestNumber PN (nI kk5) (nI kk20)).toInt64))
def fX6_hashGuests_r20 (nextkk5 : Int64 → Int64) (PN : PV) (kk5 : Nat) (x20_3 : Int64) : Int64 :=
  (nextkk5 ((31 * x20_3) + (fX2_bestPlace PN (nI kk5)).toInt64))
def fX6_hashGuests_b5 (PN : PV) (kk5 : Nat) (x5_3 : Int64) (nextkk5 : Int64 → Int64) : Int64 :=
  (lq1 (fX6_hashGuests_b20 PN kk5) (fX6_hashGuests_r20 nextkk5 PN kk5) ((7 : Int32).toNatClampNeg) 0 x5_3)
def fX6_hashGuests_r5 (x5_3 : Int64) : Int64 :=
  x5_3
def fX6_hashGuests (PN : PV) (hh : Int64) : Int64 :=
  (lq1 (fX6_hashGuests_b5 PN) fX6_hashGuests_r5 ((PN 10 0).toNatClampNeg) 0 hh)
abbrev rmX6_hashGuests : Room := { frames := 5, cells := 0, slots := 0, locals := 130 }
def fX6_hashTables_b104 (PN : PV) (kk5 : Nat) (kk104 : Nat) (x104_3 : Int64) (nextkk104 : Int64 → Int64) : Int64 :=
  (nextkk104 ((31 * x104_3) + (fX2_letterOfTable PN (nI kk5) (nI kk104)).toInt64))
def fX6_hashTables_r104 (nextkk5 : Int64 → Int64) (x104_3 : Int64) : Int64 :=
  (nextkk5 x104_3)
def fX6_hashTables_b51 (PN : PV) (kk5 : Nat) (kk51 : Nat) (x51_3 : Int64) (nextkk51 : Int64 → Int64) : Int64 :=
  (nextkk51 ((31 * x51_3) + (fX2_holderAt PN (nI kk5) (nI kk51)).toInt64))
def fX6_hashTables_r51 (nextkk5 : Int64 → Int64) (PN : PV) (kk5 : Nat) (x51_3 : Int64) : Int64 :=
  (lq1 (fX6_hashTables_b104 PN kk5) (fX6_hashTables_r104 nextkk5) ((fX2_lettersOfTable PN (nI kk5)).toNatClampNeg) 0 x51_3)
def fX6_hashTables_b20 (PN : PV) (kk5 : Nat) (kk20 : Nat) (x20_3 : Int64) (nextkk20 : Int64 → Int64) : Int64 :=
  (nextkk20 ((31 * x20_3) + (fX6_tableNumber PN (nI kk5) (nI kk20)).toInt64))
def fX6_hashTables_r20 (nextkk5 : Int64 → Int64) (PN : PV) (kk5 : Nat) (x20_3 : Int64) : Int64 :=
  (lq1 (fX6_hashTables_b51 PN kk5) (fX6_hashTables_r51 nextkk5 PN kk5) ((fX2_seatsAt PN (nI kk5)).toNatClampNeg) 0 x20_3)
def fX6_hashTables_b5 (PN : PV) (kk5 : Nat) (x5_3 : Int64) (nextkk5 : Int64 → Int64) : Int64 :=
  (lq1 (fX6_hashTables_b20 PN kk5) (fX6_hashTables_r20 nextkk5 PN kk5) ((5 : Int32).toNatClampNeg) 0 x5_3)
def fX6_hashTables_r5 (x5_3 : Int64) : Int64 :=
  x5_3
def fX6_hashTables (PN : PV) (hh : Int64) : Int64 :=
  (lq1 (fX6_hashTables_b5 PN) fX6_hashTables_r5 ((PN 10 1).toNatClampNeg) 0 hh)
abbrev rmX6_hashTables : Room := { frames := 4, cells := 0, slots := 0, locals := 112 }
def fX6_seatAll (PN : PV) (Ps : Nat → PV) (oh : Nat) (vh : Nat) : Int32 × (PV × (Nat → PV) × Nat × Nat) :=
  (bd (fX0_save Ps oh vh PN) (fun U8 => (bd2 (fX2_seatStanding PN) (fun r15 U15 => (r15, (U15, U8.1, U8.2.1, U8.2.2))))))
abbrev rmX6_seatAll : Room := { frames := 5, cells := 0, slots := 0, locals := 138 }
set_option maxHeartbeats 4000000 in
set_option maxRecDepth 100000 in
theorem mX6_seatAll (l : Launch) (dC : Nat → ClassId) (dI : Nat → Nat → Nat) (cI cP : ClassId) (a0 : Nat) (aN aT aS : Nat → Nat) (t0 t1 t2 h0 h1 : Nat) (pa : Nat → Nat → Nat) (PN PT PS : PV) (f : Nat → Int32) (u : Int32) (Ps : Nat → PV) (oh vh : Nat) (k : Int32) (ho6 : oh < 6) (hv6 : vh ≤ 6) : Met l yX6_seatAll (ws_ yX6_seatAll cX6_seatAll 1 (some .int)) rmX6_seatAll (pcM (dC, dI) [(cI, .int), (cP, .object "SupperSeats$Plan")] (fW cI cP a0 aN aT aS t0 t1 t2 h0 h1 pa PN PT PS f u Ps oh vh k) [.ref a0]) (va_Qi (fun (r9 : Int32) (u9 : PV × (Nat → PV) × Nat × Nat) => (r9, u9) = fX6_seatAll PN Ps oh vh) (fun u9 t => va_P (dC, dI) vwCl ((fun (v9 : PV × (Nat → PV) × Nat × Nat) => fW cI cP a0 aN aT aS t0 t1 t2 h0 h1 pa v9.1 PT PS f u v9.2.1 v9.2.2.1 v9.2.2.2 k) u9) t.heap) (adr (fW cI cP a0 aN aT aS t0 t1 t2 h0 h1 pa PN PT PS f u Ps oh vh k))) 0 0 (adr (fW cI cP a0 aN aT aS t0 t1 t2 h0 h1 pa PN PT PS f u Ps oh vh k)) := by
  refine Met.ofW (cc := cX6_seatAll) (maxL := 1) (ret := (some .int)) (by decide) rfl ?_
  intro p e s m args below meth c s₁ B hml hv
  obtain ⟨ha, hP, hK, hn, hD0⟩ := hv
  have hx := B.exec
  have hb := B.bytes
  have hr := B.returns
  have hts0 := atoms_spec (ws := (ws_ yX6_seatAll cX6_seatAll 1 (some .int))) B.pre
  have hts : ∀ w ∈ lw_all, w.before args s = true := fun w h => hts0 w (List.mem_cons_of_mem _ h)
  have hown : s.vm.findClass RX6 = some m.cls := findClass_of_methodNamed B.named
  have hlocks := B.notSynchronized
  have htX6 : ∀ w ∈ wsX60, w.before args s = true := fun w h => hts w (wX6 w h)
  have hD := adr_self hD0
  obtain ⟨A, hA⟩ : ∃ A, A = adr (fW cI cP a0 aN aT aS t0 t1 t2 h0 h1 pa PN PT PS f u Ps oh vh k) := ⟨_, rfl⟩
  rw [← hA] at hD
  have hS : va_S A s.heap s.heap [] := va_S.rf
  obtain ⟨Q, hQ⟩ : ∃ Q, Q = MQ below (va_Qi (fun (r9 : Int32) (u9 : PV × (Nat → PV) × Nat × Nat) => (r9, u9) = fX6_seatAll PN Ps oh vh) (fun u9 t => va_P (dC, dI) vwCl ((fun (v9 : PV × (Nat → PV) × Nat × Nat) => fW cI cP a0 aN aT aS t0 t1 t2 h0 h1 pa v9.1 PT PS f u v9.2.1 v9.2.2.1 v9.2.2.2 k) u9) t.heap) (adr (fW cI cP a0 aN aT aS t0 t1 t2 h0 h1 pa PN PT PS f u Ps oh vh k))) args s 0 0 (adr (fW cI cP a0 aN aT aS t0 t1 t2 h0 h1 pa PN PT PS f u Ps oh vh k)) := ⟨_, rfl⟩
  rw [← hQ]
  rw [← hA] at hQ
  have hl := lv_entry ([.ref a0]) (n := 1) (Nat.le_of_ble_eq_true rfl)
  rw [ha, lg_entry_eq, ← ha]
  generalize (lg_sl ([.ref a0]) ++ List.replicate (1 - (lg_sl ([.ref a0])).length) Slot.unset).toArray = ls at hl ⊢
  have hl : lv_has ls 1 [(0, .ref a0)] := hl
  show W p l e rmX6_seatAll s m args below meth c s.heap [] 0 0 Q (F0 m 0 ls [])
  have hF : fX6_seatAll PN Ps oh vh = fX6_seatAll PN Ps oh vh := rfl
  refine lv_aload_n hx hb dX6_seatAll_0 rfl (lv_at hl 0 rfl) ?_
  refine va_get (D := (dC, dI)) (ci := 4) (v := .ref h0) (C := RX6) (T := TX6) (N := 6) hx hb htX6 (fun _ h => h) hown hK (fl_at hP 0 rfl) 0 rfl rfl 3 (by decide) (hts _ u_144) (fun _ h9 => h9) rfl dX6_seatAll_1 ?_
  refine lv_aload_n hx hb dX6_seatAll_4 rfl (lv_at hl 0 rfl) ?_
  refine va_get (D := (dC, dI)) (ci := 4) (v := .ref (aN 0)) (C := RX6) (T := TX6) (N := 6) hx hb htX6 (fun _ h => h) hown hK (fl_at hP 0 rfl) 0 rfl rfl 0 (by decide) (hts _ u_141) (fun _ h9 => h9) rfl dX6_seatAll_5 ?_
  refine k_bmutv (wc := [hW cI cP h0 h1 pa Ps (nI oh) (nI vh), pW cI aN PN]) (W1 := (fun (v : (Nat → PV) × Nat × Nat) => [hW cI cP h0 h1 pa v.1 (nI v.2.1) (nI v.2.2), pW cI aN PN])) (va_runV (As := [.ref (aN 0)]) (rest := []) ⟨hx, hb, hml, hown, hts0⟩ (mX0_save l dC dI cI cP h0 h1 pa Ps oh vh aN PN  (by first | omega | assumption) (by first | omega | assumption)) (cwV 1 hts0 (gi_V u_451 u_452 u_453 u_5 u_454) rfl rfl rfl (by decide +kernel) ⟨Nat.le_of_ble_eq_true rfl, Nat.le_of_ble_eq_true rfl⟩) (pcM_V (ci := 0) (q0 := 0) (fl_sub (wc := [hW cI cP h0 h1 pa Ps (nI oh) (nI vh), pW cI aN PN]) hP [5, 1] rfl) hK hn (fl_D (wc := [hW cI cP h0 h1 pa Ps (nI oh) (nI vh), pW cI aN PN]) hD [5, 1] (by decide) rfl) rfl rfl) rfl rfl hl.1 rfl (lv_room (Nat.le_of_ble_eq_true rfl)) dX6_seatAll_8 ⟨Nat.zero_le _, Nat.zero_le _⟩) hP hD hS [5, 1] (by decide) rfl (fun _ => rfl) (fun U8 H locs hU8 hP hD hS => ?_)
  have hP : va_P (dC, dI) vwCl (fW cI cP a0 aN aT aS t0 t1 t2 h0 h1 pa PN PT PS f u U8.1 U8.2.1 U8.2.2 k) H := hP
  have hD : va_D A (fW cI cP a0 aN aT aS t0 t1 t2 h0 h1 pa PN PT PS f u U8.1 U8.2.1 U8.2.2 k) := hD
  have hF := bd_at hF hU8
  refine lv_aload_n hx hb dX6_seatAll_11 rfl (lv_at hl 0 rfl) ?_
  refine va_get (D := (dC, dI)) (ci := 4) (v := .ref (aN 0)) (C := RX6) (T := TX6) (N := 6) hx hb htX6 (fun _ h => h) hown hK (fl_at hP 0 rfl) 0 rfl rfl 0 (by decide) (hts _ u_141) (fun _ h9 => h9) rfl dX6_seatAll_12 ?_
  refine k_bmuti (wc := [pW cI aN PN]) (W1 := (fun (v : PV) => [pW cI aN v])) (va_runV (As := []) (rest := []) ⟨hx, hb, hml, hown, hts0⟩ (mX2_seatStanding l dC dI cI aN PN ) (cwV 0 hts0 (gi_V u_479 u_480 u_481 u_2 u_482) rfl rfl rfl (by decide +kernel) ⟨Nat.le_of_ble_eq_true rfl, Nat.le_of_ble_eq_true rfl⟩) (pcM_V (ci := 2) (q0 := 0) (fl_at hP 1 rfl) (hK.sub (tys' := [(cI, .int)]) [0] rfl) hn (fl_D1 hD 1 rfl) rfl rfl) rfl rfl hl.1 rfl (lv_room (Nat.le_of_ble_eq_true rfl)) dX6_seatAll_15 ⟨Nat.zero_le _, Nat.zero_le _⟩) hP hD hS [1] (by decide) rfl (fun _ => rfl) (fun r15 U15 H locs hU15 hP hD hS => ?_)
  have hP : va_P (dC, dI) vwCl (fW cI cP a0 aN aT aS t0 t1 t2 h0 h1 pa U15 PT PS f u U8.1 U8.2.1 U8.2.2 k) H := hP
  have hD : va_D A (fW cI cP a0 aN aT aS t0 t1 t2 h0 h1 pa U15 PT PS f u U8.1 U8.2.1 U8.2.2 k) := hD
  have hF := bd2_at hF hU15
  rw [hQ]
  exact W.iret (v := r15) hx hb hr (fun t ht hW => ⟨⟨r15, (U15, U8.1, U8.2.1, U8.2.2), rfl, hF.symm, toH ht hP⟩, hS.F ht⟩) hS.2.2 dX6_seatAll_18

def fX6_clearBuffer (f : Nat → Int32) (u : Int32) : Int32 × ((Nat → Int32) × Int32) :=
  (bd (fX1_dropAll 60 f u) (fun U18 => ((fX1_length 60 f u), (U18.1, U18.2))))
abbrev rmX6_clearBuffer : Room := { frames := 1, cells := 0, slots := 0, locals := 20 }
def fX6_firstError (f : Nat → Int32) (u : Int32) : Int32 :=
  (fX5_firstBroken f u)
abbrev rmX6_firstError : Room := { frames := 4, cells := 0, slots := 0, locals := 87 }
def fX6_keep (PN : PV) (PS : PV) : Int32 × (PV × Int32) :=
  (bd (fX2_copyFrom PS PN) (fun U8 => ((fX1_length 16 (PN 9) (PN 10 5)), (U8, 1))))
abbrev rmX6_keep : Room := { frames := 3, cells := 0, slots := 0, locals := 82 }
set_option maxHeartbeats 4000000 in
set_option maxRecDepth 100000 in
theorem mX6_keep (l : Launch) (dC : Nat → ClassId) (dI : Nat → Nat → Nat) (cI cP : ClassId) (a0 : Nat) (aN aT aS : Nat → Nat) (t0 t1 t2 h0 h1 : Nat) (pa : Nat → Nat → Nat) (PN PT PS : PV) (f : Nat → Int32) (u : Int32) (Ps : Nat → PV) (oh vh : Nat) (k : Int32) : Met l yX6_keep (ws_ yX6_keep cX6_keep 1 (some .int)) rmX6_keep (pcM (dC, dI) [(cI, .int), (cP, .object "SupperSeats$Plan")] (fW cI cP a0 aN aT aS t0 t1 t2 h0 h1 pa PN PT PS f u Ps oh vh k) [.ref a0]) (va_Qi (fun (r9 : Int32) (u9 : PV × Int32) => (r9, u9) = fX6_keep PN PS) (fun u9 t => va_P (dC, dI) vwCl ((fun (v9 : PV × Int32) => fW cI cP a0 aN aT aS t0 t1 t2 h0 h1 pa PN PT v9.1 f u Ps oh vh v9.2) u9) t.heap) (adr (fW cI cP a0 aN aT aS t0 t1 t2 h0 h1 pa PN PT PS f u Ps oh vh k))) 0 0 (adr (fW cI cP a0 aN aT aS t0 t1 t2 h0 h1 pa PN PT PS f u Ps oh vh k)) := by
  refine Met.ofW (cc := cX6_keep) (maxL := 1) (ret := (some .int)) (by decide) rfl ?_
  intro p e s m args below meth c s₁ B hml hv
  obtain ⟨ha, hP, hK, hn, hD0⟩ := hv
  have hx := B.exec
  have hb := B.bytes
  have hr := B.returns
  have hts0 := atoms_spec (ws := (ws_ yX6_keep cX6_keep 1 (some .int))) B.pre
  have hts : ∀ w ∈ lw_all, w.before args s = true := fun w h => hts0 w (List.mem_cons_of_mem _ h)
  have hown : s.vm.findClass RX6 = some m.cls := findClass_of_methodNamed B.named
  have hlocks := B.notSynchronized
  have htX6 : ∀ w ∈ wsX60, w.before args s = true := fun w h => hts w (wX6 w h)
  have htX2 : ∀ w ∈ wsX20, w.before args s = true := fun w h => hts w (wX2 w h)
  have hD := adr_self hD0
  obtain ⟨A, hA⟩ : ∃ A, A = adr (fW cI cP a0 aN aT aS t0 t1 t2 h0 h1 pa PN PT PS f u Ps oh vh k) := ⟨_, rfl⟩
  rw [← hA] at hD
  have hS : va_S A s.heap s.heap [] := va_S.rf
  obtain ⟨Q, hQ⟩ : ∃ Q, Q = MQ below (va_Qi (fun (r9 : Int32) (u9 : PV × Int32) => (r9, u9) = fX6_keep PN PS) (fun u9 t => va_P (dC, dI) vwCl ((fun (v9 : PV × Int32) => fW cI cP a0 aN aT aS t0 t1 t2 h0 h1 pa PN PT v9.1 f u Ps oh vh v9.2) u9) t.heap) (adr (fW cI cP a0 aN aT aS t0 t1 t2 h0 h1 pa PN PT PS f u Ps oh vh k))) args s 0 0 (adr (fW cI cP a0 aN aT aS t0 t1 t2 h0 h1 pa PN PT PS f u Ps oh vh k)) := ⟨_, rfl⟩
  rw [← hQ]
  rw [← hA] at hQ
  have hl := lv_entry ([.ref a0]) (n := 1) (Nat.le_of_ble_eq_true rfl)
  rw [ha, lg_entry_eq, ← ha]
  generalize (lg_sl ([.ref a0]) ++ List.replicate (1 - (lg_sl ([.ref a0])).length) Slot.unset).toArray = ls at hl ⊢
  have hl : lv_has ls 1 [(0, .ref a0)] := hl
  show W p l e rmX6_keep s m args below meth c s.heap [] 0 0 Q (F0 m 0 ls [])
  have hF : fX6_keep PN PS = fX6_keep PN PS := rfl
  refine lv_aload_n hx hb dX6_keep_0 rfl (lv_at hl 0 rfl) ?_
  refine va_get (D := (dC, dI)) (ci := 4) (v := .ref (aS 0)) (C := RX6) (T := TX6) (N := 6) hx hb htX6 (fun _ h => h) hown hK (fl_at hP 0 rfl) 0 rfl rfl 2 (by decide) (hts _ u_143) (fun _ h9 => h9) rfl dX6_keep_1 ?_
  refine lv_aload_n hx hb dX6_keep_4 rfl (lv_at hl 0 rfl) ?_
  refine va_get (D := (dC, dI)) (ci := 4) (v := .ref (aN 0)) (C := RX6) (T := TX6) (N := 6) hx hb htX6 (fun _ h => h) hown hK (fl_at hP 0 rfl) 0 rfl rfl 0 (by decide) (hts _ u_141) (fun _ h9 => h9) rfl dX6_keep_5 ?_
  refine k_bmutv (wc := [pW cI aS PS, pW cI aN PN]) (W1 := (fun (v : PV) => [pW cI aS v, pW cI aN PN])) (va_runV (As := [.ref (aN 0)]) (rest := []) ⟨hx, hb, hml, hown, hts0⟩ (mX2_copyFrom l dC dI cI aS PS aN PN ) (cwV 1 hts0 (gi_V u_263 u_245 u_246 u_2 u_247) rfl rfl rfl (by decide +kernel) ⟨Nat.le_of_ble_eq_true rfl, Nat.le_of_ble_eq_true rfl⟩) (pcM_V (ci := 2) (q0 := 0) (fl_sub (wc := [pW cI aS PS, pW cI aN PN]) hP [3, 1] rfl) (hK.sub (tys' := [(cI, .int)]) [0] rfl) hn (fl_D (wc := [pW cI aS PS, pW cI aN PN]) hD [3, 1] (by decide) rfl) rfl rfl) rfl rfl hl.1 rfl (lv_room (Nat.le_of_ble_eq_true rfl)) dX6_keep_8 ⟨Nat.zero_le _, Nat.zero_le _⟩) hP hD hS [3, 1] (by decide) rfl (fun _ => rfl) (fun U8 H locs hU8 hP hD hS => ?_)
  have hP : va_P (dC, dI) vwCl (fW cI cP a0 aN aT aS t0 t1 t2 h0 h1 pa PN PT U8 f u Ps oh vh k) H := hP
  have hD : va_D A (fW cI cP a0 aN aT aS t0 t1 t2 h0 h1 pa PN PT U8 f u Ps oh vh k) := hD
  have hF := bd_at hF hU8
  refine lv_aload_n hx hb dX6_keep_11 rfl (lv_at hl 0 rfl) ?_
  refine lv_iconst (v := 1) hx hb dX6_keep_12 (by decide) ?_
  refine va_put (D := (dC, dI)) (ci := 4) (v := .int 1) (ty := .boolean) (C := RX6) (T := TX6) (N := 6) hx hb htX6 (fun _ h => h) tyX6 tyX6_ok nmX6 hown hK hP hD hS 0 rfl rfl 5 (by decide) (hts _ u_146) (fun _ h9 => h9) rfl (by decide +kernel) rfl rfl (Nat.le_of_ble_eq_true rfl) dX6_keep_13 (fun H locs hP hD hS => ?_)
  have hP : va_P (dC, dI) vwCl (fW cI cP a0 aN aT aS t0 t1 t2 h0 h1 pa PN PT U8 f u Ps oh vh 1) H := hP
  have hD : va_D A (fW cI cP a0 aN aT aS t0 t1 t2 h0 h1 pa PN PT U8 f u Ps oh vh 1) := hD
  refine lv_aload_n hx hb dX6_keep_16 rfl (lv_at hl 0 rfl) ?_
  refine va_get (D := (dC, dI)) (ci := 4) (v := .ref (aN 0)) (C := RX6) (T := TX6) (N := 6) hx hb htX6 (fun _ h => h) hown hK (fl_at hP 0 rfl) 0 rfl rfl 0 (by decide) (hts _ u_141) (fun _ h9 => h9) rfl dX6_keep_17 ?_
  refine va_getN (D := (dC, dI)) (ci := 2) (v := .ref (aN 11)) (C := RX2) (T := TX2) (N := 14) hx hb htX2 (fun _ h => h) hown hK (fl_at hP 1 rfl) 0 rfl rfl 9 (by decide) (va_Nw.use rfl (hn _ (List.mem_of_getElem? (i := 13) rfl))) (fun _ h9 => h9) rfl dX6_keep_20 ?_
  refine k_calli (W.runV (As := []) (rest := []) ⟨hx, hb, hml, hown, hts0⟩ (mX1_length l dC dI cI (aN 11) (aN 12) 16 (by decide) (PN 9) (PN 10 5) ) (cwV 0 hts0 (gi_V u_264 u_265 u_266 u_3 u_267) rfl rfl rfl (by decide +kernel) ⟨Nat.le_of_ble_eq_true rfl, Nat.le_of_ble_eq_true rfl⟩) (pcR_V (ci := 1) (q0 := 0) ((fl_at hP 1 rfl).sub (ws' := lW cI (aN 11) (aN 12) 16 (PN 9) (PN 10 5)) [11, 12] rfl) (hK.sub (tys' := [(cI, .int)]) [0] rfl) hn rfl rfl) rfl rfl hl.1 rfl (lv_room (Nat.le_of_ble_eq_true rfl)) dX6_keep_23 ⟨Nat.zero_le _, Nat.zero_le _⟩) ?_
  rw [hQ]
  exact W.iret (v := (fX1_length 16 (PN 9) (PN 10 5))) hx hb hr (fun t ht hW => ⟨⟨(fX1_length 16 (PN 9) (PN 10 5)), (U8, 1), rfl, hF.symm, toH ht hP⟩, hS.F ht⟩) hS.2.2 dX6_keep_26

