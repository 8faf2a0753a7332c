def fX6_countNumber (PN : PV) (Ps : Nat → PV) (oh : Nat) (vh : Nat) (w : Int32) : Int32 :=
  (if w = 0 then (PN 10 0) else (if w = 1 then (PN 10 1) else (if w = 2 then (fX1_length 8 (PN 8) (PN 10 4)) else (if w = 3 then (fX1_length 16 (PN 9) (PN 10 5)) else (if w = 4 then (fX4_byGuests PN) else (if w = 5 then (fX4_byTables PN) else (if w = 6 then (fX4_wishesMet PN) else (if w = 7 then (PN 10 2) else (if w = 8 then (PN 10 3) else (if w = 9 then (fX3_at 4 (PN 7) (w - 9)) else (if w = 10 then (fX3_at 4 (PN 7) (w - 9)) else (if w = 11 then (fX3_at 4 (PN 7) (w - 9)) else (if w = 12 then (fX3_at 4 (PN 7) (w - 9)) else (if w = 13 then (fX0_length Ps oh vh) else (fX3_at 4 (PN 7) (w - 9))))))))))))))))
abbrev rmX6_countNumber : Room := { frames := 5, cells := 0, slots := 0, locals := 130 }
set_option maxHeartbeats 4000000 in
set_option maxRecDepth 100000 in
theorem mX6_countNumber (l : Launch) (dC : Nat → ClassId) (dI : Nat → Nat → Nat) (cI cP : ClassId) (a0 : Nat) (aN aT aS : Nat → Nat) (t0 t1 t2 h0 h1 : Nat) (pa : Nat → Nat → Nat) (PN PT PS : PV) (f : Nat → Int32) (u : Int32) (Ps : Nat → PV) (oh vh : Nat) (k : Int32) (w : Int32) : Met l yX6_countNumber (ws_ yX6_countNumber cX6_countNumber 2 (some .int)) rmX6_countNumber (pcR (dC, dI) [(cI, .int), (cP, .object "SupperSeats$Plan")] (fW cI cP a0 aN aT aS t0 t1 t2 h0 h1 pa PN PT PS f u Ps oh vh k) [.ref a0, .int w]) (vp_Si (fun r => r = fX6_countNumber PN Ps oh vh w)) 0 0 (fun _ => False) := by
  refine Met.ofW (cc := cX6_countNumber) (maxL := 2) (ret := (some .int)) (by decide) rfl ?_
  intro p e s m args below meth c s₁ B hml hv
  obtain ⟨ha, hP, hK, hn⟩ := hv
  have hx := B.exec
  have hb := B.bytes
  have hr := B.returns
  have hts0 := atoms_spec (ws := (ws_ yX6_countNumber cX6_countNumber 2 (some .int))) B.pre
  have hts : ∀ w ∈ lw_all, w.before args s = true := fun w h => hts0 w (List.mem_cons_of_mem _ h)
  have hown : s.vm.findClass RX6 = some m.cls := findClass_of_methodNamed B.named
  have hlocks := B.notSynchronized
  have htX6 : ∀ w ∈ wsX60, w.before args s = true := fun w h => hts w (wX6 w h)
  have htX2 : ∀ w ∈ wsX20, w.before args s = true := fun w h => hts w (wX2 w h)
  obtain ⟨Q, hQ⟩ : ∃ Q, Q = MQ below (vp_Si (fun r => r = fX6_countNumber PN Ps oh vh w)) args s 0 0 (fun _ => False) := ⟨_, rfl⟩
  rw [← hQ]
  have hl := lv_entry ([.ref a0, .int w]) (n := 2) (Nat.le_of_ble_eq_true rfl)
  rw [ha, lg_entry_eq, ← ha]
  generalize (lg_sl ([.ref a0, .int w]) ++ List.replicate (2 - (lg_sl ([.ref a0, .int w])).length) Slot.unset).toArray = ls at hl ⊢
  have hl : lv_has ls 2 [(0, .ref a0), (1, .int w)] := hl
  show W p l e rmX6_countNumber s m args below meth c s.heap [] 0 0 Q (F0 m 0 ls [])
  have hF : fX6_countNumber PN Ps oh vh w = fX6_countNumber PN Ps oh vh w := rfl
  refine lv_iload_n hx hb dX6_countNumber_0 rfl (lv_at hl 1 rfl) ?_
  by_cases c_1_0 : w = 0
  · have hF := hF.trans (if_pos c_1_0)
    refine lv_tableIn (off := 71) (tgt := 72) hx hb dX6_countNumber_1 (by rw [c_1_0]; decide) (by rw [c_1_0]; decide) (by rw [c_1_0]; rfl) (by decide) ?_
    refine lv_aload_n hx hb dX6_countNumber_72 rfl (lv_at hl 0 rfl) ?_
    refine va_get (D := (dC, dI)) (ci := 4) (v := .ref (aN 0)) (C := RX6) (T := TX6) (N := 6) hx hb htX6 (fun _ h => h) hown hK (fl_at hP 0 rfl) 0 rfl rfl 0 (by decide) (hts _ u_143) (fun _ h9 => h9) rfl dX6_countNumber_73 ?_
    refine va_getN (D := (dC, dI)) (ci := 2) (v := .int (PN 10 0)) (C := RX2) (T := TX2) (N := 14) hx hb htX2 (fun _ h => h) hown hK (fl_at hP 1 rfl) 0 rfl rfl 10 (by decide) (va_Nw.use rfl (hn _ (List.mem_of_getElem? (i := 15) rfl))) (fun _ h9 => h9) rfl dX6_countNumber_76 ?_
    rw [hQ]
    exact W.iret (v := (PN 10 0)) hx hb hr (fun t ht hW => ⟨(PN 10 0), rfl, hF.symm, ht⟩) (fun q hq => absurd hq List.not_mem_nil) dX6_countNumber_79
  have hF := hF.trans (if_neg c_1_0)
  by_cases c_1_1 : w = 1
  · have hF := hF.trans (if_pos c_1_1)
    refine lv_tableIn (off := 79) (tgt := 80) hx hb dX6_countNumber_1 (by rw [c_1_1]; decide) (by rw [c_1_1]; decide) (by rw [c_1_1]; rfl) (by decide) ?_
    refine lv_aload_n hx hb dX6_countNumber_80 rfl (lv_at hl 0 rfl) ?_
    refine va_get (D := (dC, dI)) (ci := 4) (v := .ref (aN 0)) (C := RX6) (T := TX6) (N := 6) hx hb htX6 (fun _ h => h) hown hK (fl_at hP 0 rfl) 0 rfl rfl 0 (by decide) (hts _ u_143) (fun _ h9 => h9) rfl dX6_countNumber_81 ?_
    refine va_getN (D := (dC, dI)) (ci := 2) (v := .int (PN 10 1)) (C := RX2) (T := TX2) (N := 14) hx hb htX2 (fun _ h => h) hown hK (fl_at hP 1 rfl) 0 rfl rfl 11 (by decide) (va_Nw.use rfl (hn _ (List.mem_of_getElem? (i := 17) rfl))) (fun _ h9 => h9) rfl dX6_countNumber_84 ?_
    rw [hQ]
    exact W.iret (v := (PN 10 1)) hx hb hr (fun t ht hW => ⟨(PN 10 1), rfl, hF.symm, ht⟩) (fun q hq => absurd hq List.not_mem_nil) dX6_countNumber_87
  have hF := hF.trans (if_neg c_1_1)
  by_cases c_1_2 : w = 2
  · have hF := hF.trans (if_pos c_1_2)
    refine lv_tableIn (off := 87) (tgt := 88) hx hb dX6_countNumber_1 (by rw [c_1_2]; decide) (by rw [c_1_2]; decide) (by rw [c_1_2]; rfl) (by decide) ?_
    refine lv_aload_n hx hb dX6_countNumber_88 rfl (lv_at hl 0 rfl) ?_
    refine va_get (D := (dC, dI)) (ci := 4) (v := .ref (aN 0)) (C := RX6) (T := TX6) (N := 6) hx hb htX6 (fun _ h => h) hown hK (fl_at hP 0 rfl) 0 rfl rfl 0 (by decide) (hts _ u_143) (fun _ h9 => h9) rfl dX6_countNumber_89 ?_
    refine va_getN (D := (dC, dI)) (ci := 2) (v := .ref (aN 9)) (C := RX2) (T := TX2) (N := 14) hx hb htX2 (fun _ h => h) hown hK (fl_at hP 1 rfl) 0 rfl rfl 8 (by decide) (va_Nw.use rfl (hn _ (List.mem_of_getElem? (i := 12) rfl))) (fun _ h9 => h9) rfl dX6_countNumber_92 ?_
    refine k_calli (W.runV (As := []) (rest := []) ⟨hx, hb, hml, hown, hts0⟩ (mX1_length l dC dI cI (aN 9) (aN 10) 8 (by decide) (PN 8) (PN 10 4) ) (cwV 0 hts0 (gi_V u_290 u_224 u_225 u_3 u_226) rfl rfl rfl (by decide +kernel) ⟨Nat.le_of_ble_eq_true rfl, Nat.le_of_ble_eq_true rfl⟩) (pcR_V (ci := 1) (q0 := 0) ((fl_at hP 1 rfl).sub (ws' := lW cI (aN 9) (aN 10) 8 (PN 8) (PN 10 4)) [9, 10] rfl) (hK.sub (tys' := [(cI, .int)]) [0] rfl) hn rfl rfl) rfl rfl hl.1 rfl (lv_room (Nat.le_of_ble_eq_true rfl)) dX6_countNumber_95 ⟨Nat.zero_le _, Nat.zero_le _⟩) ?_
    rw [hQ]
    exact W.iret (v := (fX1_length 8 (PN 8) (PN 10 4))) hx hb hr (fun t ht hW => ⟨(fX1_length 8 (PN 8) (PN 10 4)), rfl, hF.symm, ht⟩) (fun q hq => absurd hq List.not_mem_nil) dX6_countNumber_98
  have hF := hF.trans (if_neg c_1_2)
  by_cases c_1_3 : w = 3
  · have hF := hF.trans (if_pos c_1_3)
    refine lv_tableIn (off := 98) (tgt := 99) hx hb dX6_countNumber_1 (by rw [c_1_3]; decide) (by rw [c_1_3]; decide) (by rw [c_1_3]; rfl) (by decide) ?_
    refine lv_aload_n hx hb dX6_countNumber_99 rfl (lv_at hl 0 rfl) ?_
    refine va_get (D := (dC, dI)) (ci := 4) (v := .ref (aN 0)) (C := RX6) (T := TX6) (N := 6) hx hb htX6 (fun _ h => h) hown hK (fl_at hP 0 rfl) 0 rfl rfl 0 (by decide) (hts _ u_143) (fun _ h9 => h9) rfl dX6_countNumber_100 ?_
    refine va_getN (D := (dC, dI)) (ci := 2) (v := .ref (aN 11)) (C := RX2) (T := TX2) (N := 14) hx hb htX2 (fun _ h => h) hown hK (fl_at hP 1 rfl) 0 rfl rfl 9 (by decide) (va_Nw.use rfl (hn _ (List.mem_of_getElem? (i := 13) rfl))) (fun _ h9 => h9) rfl dX6_countNumber_103 ?_
    refine k_calli (W.runV (As := []) (rest := []) ⟨hx, hb, hml, hown, hts0⟩ (mX1_length l dC dI cI (aN 11) (aN 12) 16 (by decide) (PN 9) (PN 10 5) ) (cwV 0 hts0 (gi_V u_290 u_224 u_225 u_3 u_226) rfl rfl rfl (by decide +kernel) ⟨Nat.le_of_ble_eq_true rfl, Nat.le_of_ble_eq_true rfl⟩) (pcR_V (ci := 1) (q0 := 0) ((fl_at hP 1 rfl).sub (ws' := lW cI (aN 11) (aN 12) 16 (PN 9) (PN 10 5)) [11, 12] rfl) (hK.sub (tys' := [(cI, .int)]) [0] rfl) hn rfl rfl) rfl rfl hl.1 rfl (lv_room (Nat.le_of_ble_eq_true rfl)) dX6_countNumber_106 ⟨Nat.zero_le _, Nat.zero_le _⟩) ?_
    rw [hQ]
    exact W.iret (v := (fX1_length 16 (PN 9) (PN 10 5))) hx hb hr (fun t ht hW => ⟨(fX1_length 16 (PN 9) (PN 10 5)), rfl, hF.symm, ht⟩) (fun q hq => absurd hq List.not_mem_nil) dX6_countNumber_109
  have hF := hF.trans (if_neg c_1_3)
  by_cases c_1_4 : w = 4
  · have hF := hF.trans (if_pos c_1_4)
    refine lv_tableIn (off := 109) (tgt := 110) hx hb dX6_countNumber_1 (by rw [c_1_4]; decide) (by rw [c_1_4]; decide) (by rw [c_1_4]; rfl) (by decide) ?_
    refine lv_aload_n hx hb dX6_countNumber_110 rfl (lv_at hl 0 rfl) ?_
    refine va_get (D := (dC, dI)) (ci := 4) (v := .ref (aN 0)) (C := RX6) (T := TX6) (N := 6) hx hb htX6 (fun _ h => h) hown hK (fl_at hP 0 rfl) 0 rfl rfl 0 (by decide) (hts _ u_143) (fun _ h9 => h9) rfl dX6_countNumber_111 ?_
    refine k_calli (W.runS (As := [.ref (aN 0)]) (rest := []) ⟨hx, hb, hml, hown, hts0⟩ (mX4_byGuests l dC dI cI aN PN ) (va_cwS 1 hts0 (gi_S u_346 u_347 u_15 u_348) rfl rfl rfl (by decide +kernel) ⟨Nat.le_of_ble_eq_true rfl, Nat.le_of_ble_eq_true rfl⟩) (pcR_S (fl_at hP 1 rfl) (hK.sub (tys' := [(cI, .int)]) [0] rfl) hn) rfl rfl hl.1 rfl (lv_room (Nat.le_of_ble_eq_true rfl)) dX6_countNumber_114 ⟨Nat.zero_le _, Nat.zero_le _⟩) ?_
    rw [hQ]
    exact W.iret (v := (fX4_byGuests PN)) hx hb hr (fun t ht hW => ⟨(fX4_byGuests PN), rfl, hF.symm, ht⟩) (fun q hq => absurd hq List.not_mem_nil) dX6_countNumber_117
  have hF := hF.trans (if_neg c_1_4)
  by_cases c_1_5 : w = 5
  · have hF := hF.trans (if_pos c_1_5)
    refine lv_tableIn (off := 117) (tgt := 118) hx hb dX6_countNumber_1 (by rw [c_1_5]; decide) (by rw [c_1_5]; decide) (by rw [c_1_5]; rfl) (by decide) ?_
    refine lv_aload_n hx hb dX6_countNumber_118 rfl (lv_at hl 0 rfl) ?_
    refine va_get (D := (dC, dI)) (ci := 4) (v := .ref (aN 0)) (C := RX6) (T := TX6) (N := 6) hx hb htX6 (fun _ h => h) hown hK (fl_at hP 0 rfl) 0 rfl rfl 0 (by decide) (hts _ u_143) (fun _ h9 => h9) rfl dX6_countNumber_119 ?_
    refine k_calli (W.runS (As := [.ref (aN 0)]) (rest := []) ⟨hx, hb, hml, hown, hts0⟩ (mX4_byTables l dC dI cI aN PN ) (va_cwS 1 hts0 (gi_S u_352 u_353 u_15 u_354) rfl rfl rfl (by decide +kernel) ⟨Nat.le_of_ble_eq_true rfl, Nat.le_of_ble_eq_true rfl⟩) (pcR_S (fl_at hP 1 rfl) (hK.sub (tys' := [(cI, .int)]) [0] rfl) hn) rfl rfl hl.1 rfl (lv_room (Nat.le_of_ble_eq_true rfl)) dX6_countNumber_122 ⟨Nat.zero_le _, Nat.zero_le _⟩) ?_
    rw [hQ]
    exact W.iret (v := (fX4_byTables PN)) hx hb hr (fun t ht hW => ⟨(fX4_byTables PN), rfl, hF.symm, ht⟩) (fun q hq => absurd hq List.not_mem_nil) dX6_countNumber_125
  have hF := hF.trans (if_neg c_1_5)
  by_cases c_1_6 : w = 6
  · have hF := hF.trans (if_pos c_1_6)
    refine lv_tableIn (off := 125) (tgt := 126) hx hb dX6_countNumber_1 (by rw [c_1_6]; decide) (by rw [c_1_6]; decide) (by rw [c_1_6]; rfl) (by decide) ?_
    refine lv_aload_n hx hb dX6_countNumber_126 rfl (lv_at hl 0 rfl) ?_
    refine va_get (D := (dC, dI)) (ci := 4) (v := .ref (aN 0)) (C := RX6) (T := TX6) (N := 6) hx hb htX6 (fun _ h => h) hown hK (fl_at hP 0 rfl) 0 rfl rfl 0 (by decide) (hts _ u_143) (fun _ h9 => h9) rfl dX6_countNumber_127 ?_
    refine k_calli (W.runS (As := [.ref (aN 0)]) (rest := []) ⟨hx, hb, hml, hown, hts0⟩ (mX4_wishesMet l dC dI cI aN PN ) (va_cwS 1 hts0 (gi_S u_359 u_330 u_15 u_331) rfl rfl rfl (by decide +kernel) ⟨Nat.le_of_ble_eq_true rfl, Nat.le_of_ble_eq_true rfl⟩) (pcR_S (fl_at hP 1 rfl) (hK.sub (tys' := [(cI, .int)]) [0] rfl) hn) rfl rfl hl.1 rfl (lv_room (Nat.le_of_ble_eq_true rfl)) dX6_countNumber_130 ⟨Nat.zero_le _, Nat.zero_le _⟩) ?_
    rw [hQ]
    exact W.iret (v := (fX4_wishesMet PN)) hx hb hr (fun t ht hW => ⟨(fX4_wishesMet PN), rfl, hF.symm, ht⟩) (fun q hq => absurd hq List.not_mem_nil) dX6_countNumber_133
  have hF := hF.trans (if_neg c_1_6)
  by_cases c_1_7 : w = 7
  · have hF := hF.trans (if_pos c_1_7)
    refine lv_tableIn (off := 133) (tgt := 134) hx hb dX6_countNumber_1 (by rw [c_1_7]; decide) (by rw [c_1_7]; decide) (by rw [c_1_7]; rfl) (by decide) ?_
    refine lv_aload_n hx hb dX6_countNumber_134 rfl (lv_at hl 0 rfl) ?_
    refine va_get (D := (dC, dI)) (ci := 4) (v := .ref (aN 0)) (C := RX6) (T := TX6) (N := 6) hx hb htX6 (fun _ h => h) hown hK (fl_at hP 0 rfl) 0 rfl rfl 0 (by decide) (hts _ u_143) (fun _ h9 => h9) rfl dX6_countNumber_135 ?_
    refine va_getN (D := (dC, dI)) (ci := 2) (v := .int (PN 10 2)) (C := RX2) (T := TX2) (N := 14) hx hb htX2 (fun _ h => h) hown hK (fl_at hP 1 rfl) 0 rfl rfl 12 (by decide) (va_Nw.use rfl (hn _ (List.mem_of_getElem? (i := 18) rfl))) (fun _ h9 => h9) rfl dX6_countNumber_138 ?_
    rw [hQ]
    exact W.iret (v := (PN 10 2)) hx hb hr (fun t ht hW => ⟨(PN 10 2), rfl, hF.symm, ht⟩) (fun q hq => absurd hq List.not_mem_nil) dX6_countNumber_141
  have hF := hF.trans (if_neg c_1_7)
  by_cases c_1_8 : w = 8
  · have hF := hF.trans (if_pos c_1_8)
    refine lv_tableIn (off := 141) (tgt := 142) hx hb dX6_countNumber_1 (by rw [c_1_8]; decide) (by rw [c_1_8]; decide) (by rw [c_1_8]; rfl) (by decide) ?_
    refine lv_aload_n hx hb dX6_countNumber_142 rfl (lv_at hl 0 rfl) ?_
    refine va_get (D := (dC, dI)) (ci := 4) (v := .ref (aN 0)) (C := RX6) (T := TX6) (N := 6) hx hb htX6 (fun _ h => h) hown hK (fl_at hP 0 rfl) 0 rfl rfl 0 (by decide) (hts _ u_143) (fun _ h9 => h9) rfl dX6_countNumber_143 ?_
    refine va_getN (D := (dC, dI)) (ci := 2) (v := .int (PN 10 3)) (C := RX2) (T := TX2) (N := 14) hx hb htX2 (fun _ h => h) hown hK (fl_at hP 1 rfl) 0 rfl rfl 13 (by decide) (va_Nw.use rfl (hn _ (List.mem_of_getElem? (i := 19) rfl))) (fun _ h9 => h9) rfl dX6_countNumber_146 ?_
    rw [hQ]
    exact W.iret (v := (PN 10 3)) hx hb hr (fun t ht hW => ⟨(PN 10 3), rfl, hF.symm, ht⟩) (fun q hq => absurd hq List.not_mem_nil) dX6_countNumber_149
  have hF := hF.trans (if_neg c_1_8)
  by_cases c_1_9 : w = 9
  · have hF := hF.trans (if_pos c_1_9)
    refine lv_tableIn (off := 157) (tgt := 158) hx hb dX6_countNumber_1 (by rw [c_1_9]; decide) (by rw [c_1_9]; decide) (by rw [c_1_9]; rfl) (by decide) ?_
    refine lv_aload_n hx hb dX6_countNumber_158 rfl (lv_at hl 0 rfl) ?_
    refine va_get (D := (dC, dI)) (ci := 4) (v := .ref (aN 0)) (C := RX6) (T := TX6) (N := 6) hx hb htX6 (fun _ h => h) hown hK (fl_at hP 0 rfl) 0 rfl rfl 0 (by decide) (hts _ u_143) (fun _ h9 => h9) rfl dX6_countNumber_159 ?_
    refine va_getN (D := (dC, dI)) (ci := 2) (v := .ref (aN 8)) (C := RX2) (T := TX2) (N := 14) hx hb htX2 (fun _ h => h) hown hK (fl_at hP 1 rfl) 0 rfl rfl 7 (by decide) (va_Nw.use rfl (hn _ (List.mem_of_getElem? (i := 10) rfl))) (fun _ h9 => h9) rfl dX6_countNumber_162 ?_
    refine lv_iload_n hx hb dX6_countNumber_165 rfl (lv_at hl 1 rfl) ?_
    refine lv_bipush (v := 9) hx hb dX6_countNumber_166 (by decide) ?_
    refine lv_isub hx hb dX6_countNumber_168 ?_
    refine k_calli (W.runS (As := [.ref (aN 8), .int (w - 9)]) (rest := []) ⟨hx, hb, hml, hown, hts0⟩ (mX3_at l dC dI cI (aN 8) 4 (by decide) (PN 7) (w - 9)) (va_cwS 2 hts0 (gi_S u_364 u_198 u_13 u_199) rfl rfl rfl (by decide +kernel) ⟨Nat.le_of_ble_eq_true rfl, Nat.le_of_ble_eq_true rfl⟩) (pcR_S ((fl_at hP 1 rfl).sub (ws' := aW cI (aN 8) 4 (PN 7)) [8] rfl) (hK.sub (tys' := [(cI, .int)]) [0] rfl) hn) rfl rfl hl.1 rfl (lv_room (Nat.le_of_ble_eq_true rfl)) dX6_countNumber_169 ⟨Nat.zero_le _, Nat.zero_le _⟩) ?_
    rw [hQ]
    exact W.iret (v := (fX3_at 4 (PN 7) (w - 9))) hx hb hr (fun t ht hW => ⟨(fX3_at 4 (PN 7) (w - 9)), rfl, hF.symm, ht⟩) (fun q hq => absurd hq List.not_mem_nil) dX6_countNumber_172
  have hF := hF.trans (if_neg c_1_9)
  by_cases c_1_10 : w = 10
  · have hF := hF.trans (if_pos c_1_10)
    refine lv_tableIn (off := 157) (tgt := 158) hx hb dX6_countNumber_1 (by rw [c_1_10]; decide) (by rw [c_1_10]; decide) (by rw [c_1_10]; rfl) (by decide) ?_
    refine lv_aload_n hx hb dX6_countNumber_158 rfl (lv_at hl 0 rfl) ?_
    refine va_get (D := (dC, dI)) (ci := 4) (v := .ref (aN 0)) (C := RX6) (T := TX6) (N := 6) hx hb htX6 (fun _ h => h) hown hK (fl_at hP 0 rfl) 0 rfl rfl 0 (by decide) (hts _ u_143) (fun _ h9 => h9) rfl dX6_countNumber_159 ?_
    refine va_getN (D := (dC, dI)) (ci := 2) (v := .ref (aN 8)) (C := RX2) (T := TX2) (N := 14) hx hb htX2 (fun _ h => h) hown hK (fl_at hP 1 rfl) 0 rfl rfl 7 (by decide) (va_Nw.use rfl (hn _ (List.mem_of_getElem? (i := 10) rfl))) (fun _ h9 => h9) rfl dX6_countNumber_162 ?_
    refine lv_iload_n hx hb dX6_countNumber_165 rfl (lv_at hl 1 rfl) ?_
    refine lv_bipush (v := 9) hx hb dX6_countNumber_166 (by decide) ?_
    refine lv_isub hx hb dX6_countNumber_168 ?_
    refine k_calli (W.runS (As := [.ref (aN 8), .int (w - 9)]) (rest := []) ⟨hx, hb, hml, hown, hts0⟩ (mX3_at l dC dI cI (aN 8) 4 (by decide) (PN 7) (w - 9)) (va_cwS 2 hts0 (gi_S u_364 u_198 u_13 u_199) rfl rfl rfl (by decide +kernel) ⟨Nat.le_of_ble_eq_true rfl, Nat.le_of_ble_eq_true rfl⟩) (pcR_S ((fl_at hP 1 rfl).sub (ws' := aW cI (aN 8) 4 (PN 7)) [8] rfl) (hK.sub (tys' := [(cI, .int)]) [0] rfl) hn) rfl rfl hl.1 rfl (lv_room (Nat.le_of_ble_eq_true rfl)) dX6_countNumber_169 ⟨Nat.zero_le _, Nat.zero_le _⟩) ?_
    rw [hQ]
    exact W.iret (v := (fX3_at 4 (PN 7) (w - 9))) hx hb hr (fun t ht hW => ⟨(fX3_at 4 (PN 7) (w - 9)), rfl, hF.symm, ht⟩) (fun q hq => absurd hq List.not_mem_nil) dX6_countNumber_172
  have hF := hF.trans (if_neg c_1_10)
  by_cases c_1_11 : w = 11
  · have hF := hF.trans (if_pos c_1_11)
    refine lv_tableIn (off := 157) (tgt := 158) hx hb dX6_countNumber_1 (by rw [c_1_11]; decide) (by rw [c_1_11]; decide) (by rw [c_1_11]; rfl) (by decide) ?_
    refine lv_aload_n hx hb dX6_countNumber_158 rfl (lv_at hl 0 rfl) ?_
    refine va_get (D := (dC, dI)) (ci := 4) (v := .ref (aN 0)) (C := RX6) (T := TX6) (N := 6) hx hb htX6 (fun _ h => h) hown hK (fl_at hP 0 rfl) 0 rfl rfl 0 (by decide) (hts _ u_143) (fun _ h9 => h9) rfl dX6_countNumber_159 ?_
    refine va_getN (D := (dC, dI)) (ci := 2) (v := .ref (aN 8)) (C := RX2) (T := TX2) (N := 14) hx hb htX2 (fun _ h => h) hown hK (fl_at hP 1 rfl) 0 rfl rfl 7 (by decide) (va_Nw.use rfl (hn _ (List.mem_of_getElem? (i := 10) rfl))) (fun _ h9 => h9) rfl dX6_countNumber_162 ?_
    refine lv_iload_n hx hb dX6_countNumber_165 rfl (lv_at hl 1 rfl) ?_
    refine lv_bipush (v := 9) hx hb dX6_countNumber_166 (by decide) ?_
    refine lv_isub hx hb dX6_countNumber_168 ?_
    refine k_calli (W.runS (As := [.ref (aN 8), .int (w - 9)]) (rest := []) ⟨hx, hb, hml, hown, hts0⟩ (mX3_at l dC dI cI (aN 8) 4 (by decide) (PN 7) (w - 9)) (va_cwS 2 hts0 (gi_S u_364 u_198 u_13 u_199) rfl rfl rfl (by decide +kernel) ⟨Nat.le_of_ble_eq_true rfl, Nat.le_of_ble_eq_true rfl⟩) (pcR_S ((fl_at hP 1 rfl).sub (ws' := aW cI (aN 8) 4 (PN 7)) [8] rfl) (hK.sub (tys' := [(cI, .int)]) [0] rfl) hn) rfl rfl hl.1 rfl (lv_room (Nat.le_of_ble_eq_true rfl)) dX6_countNumber_169 ⟨Nat.zero_le _, Nat.zero_le _⟩) ?_
    rw [hQ]
    exact W.iret (v := (fX3_at 4 (PN 7) (w - 9))) hx hb hr (fun t ht hW => ⟨(fX3_at 4 (PN 7) (w - 9)), rfl, hF.symm, ht⟩) (fun q hq => absurd hq List.not_mem_nil) dX6_countNumber_172
  have hF := hF.trans (if_neg c_1_11)
  by_cases c_1_12 : w = 12
  · have hF := hF.trans (if_pos c_1_12)
    refine lv_tableIn (off := 157) (tgt := 158) hx hb dX6_countNumber_1 (by rw [c_1_12]; decide) (by rw [c_1_12]; decide) (by rw [c_1_12]; rfl) (by decide) ?_
    refine lv_aload_n hx hb dX6_countNumber_158 rfl (lv_at hl 0 rfl) ?_
    refine va_get (D := (dC, dI)) (ci := 4) (v := .ref (aN 0)) (C := RX6) (T := TX6) (N := 6) hx hb htX6 (fun _ h => h) hown hK (fl_at hP 0 rfl) 0 rfl rfl 0 (by decide) (hts _ u_143) (fun _ h9 => h9) rfl dX6_countNumber_159 ?_
    refine va_getN (D := (dC, dI)) (ci := 2) (v := .ref (aN 8)) (C := RX2) (T := TX2) (N := 14) hx hb htX2 (fun _ h => h) hown hK (fl_at hP 1 rfl) 0 rfl rfl 7 (by decide) (va_Nw.use rfl (hn _ (List.mem_of_getElem? (i := 10) rfl))) (fun _ h9 => h9) rfl dX6_countNumber_162 ?_
    refine lv_iload_n hx hb dX6_countNumber_165 rfl (lv_at hl 1 rfl) ?_
    refine lv_bipush (v := 9) hx hb dX6_countNumber_166 (by decide) ?_
    refine lv_isub hx hb dX6_countNumber_168 ?_
    refine k_calli (W.runS (As := [.ref (aN 8), .int (w - 9)]) (rest := []) ⟨hx, hb, hml, hown, hts0⟩ (mX3_at l dC dI cI (aN 8) 4 (by decide) (PN 7) (w - 9)) (va_cwS 2 hts0 (gi_S u_364 u_198 u_13 u_199) rfl rfl rfl (by decide +kernel) ⟨Nat.le_of_ble_eq_true rfl, Nat.le_of_ble_eq_true rfl⟩) (pcR_S ((fl_at hP 1 rfl).sub (ws' := aW cI (aN 8) 4 (PN 7)) [8] rfl) (hK.sub (tys' := [(cI, .int)]) [0] rfl) hn) rfl rfl hl.1 rfl (lv_room (Nat.le_of_ble_eq_true rfl)) dX6_countNumber_169 ⟨Nat.zero_le _, Nat.zero_le _⟩) ?_
    rw [hQ]
    exact W.iret (v := (fX3_at 4 (PN 7) (w - 9))) hx hb hr (fun t ht hW => ⟨(fX3_at 4 (PN 7) (w - 9)), rfl, hF.symm, ht⟩) (fun q hq => absurd hq List.not_mem_nil) dX6_countNumber_172
  have hF := hF.trans (if_neg c_1_12)
  by_cases c_1_13 : w = 13
  · have hF := hF.trans (if_pos c_1_13)
    refine lv_tableIn (off := 149) (tgt := 150) hx hb dX6_countNumber_1 (by rw [c_1_13]; decide) (by rw [c_1_13]; decide) (by rw [c_1_13]; rfl) (by decide) ?_
    refine lv_aload_n hx hb dX6_countNumber_150 rfl (lv_at hl 0 rfl) ?_
    refine va_get (D := (dC, dI)) (ci := 4) (v := .ref h0) (C := RX6) (T := TX6) (N := 6) hx hb htX6 (fun _ h => h) hown hK (fl_at hP 0 rfl) 0 rfl rfl 3 (by decide) (hts _ u_146) (fun _ h9 => h9) rfl dX6_countNumber_151 ?_
    refine k_calli (W.runV (As := []) (rest := []) ⟨hx, hb, hml, hown, hts0⟩ (mX0_length l dC dI cI cP h0 h1 pa Ps oh vh ) (cwV 0 hts0 (gi_V u_360 u_361 u_362 u_5 u_363) rfl rfl rfl (by decide +kernel) ⟨Nat.le_of_ble_eq_true rfl, Nat.le_of_ble_eq_true rfl⟩) (pcR_V (ci := 0) (q0 := 0) (fl_at hP 5 rfl) hK hn rfl rfl) rfl rfl hl.1 rfl (lv_room (Nat.le_of_ble_eq_true rfl)) dX6_countNumber_154 ⟨Nat.zero_le _, Nat.zero_le _⟩) ?_
    rw [hQ]
    exact W.iret (v := (fX0_length Ps oh vh)) hx hb hr (fun t ht hW => ⟨(fX0_length Ps oh vh), rfl, hF.symm, ht⟩) (fun q hq => absurd hq List.not_mem_nil) dX6_countNumber_157
  have hF := hF.trans (if_neg c_1_13)
  refine lv_tableOut (tgt := 158) hx hb dX6_countNumber_1 (by have hc_1_0 : (w).toInt ≠ 0 := neI c_1_0; have hc_1_1 : (w).toInt ≠ 1 := neI c_1_1; have hc_1_2 : (w).toInt ≠ 2 := neI c_1_2; have hc_1_3 : (w).toInt ≠ 3 := neI c_1_3; have hc_1_4 : (w).toInt ≠ 4 := neI c_1_4; have hc_1_5 : (w).toInt ≠ 5 := neI c_1_5; have hc_1_6 : (w).toInt ≠ 6 := neI c_1_6; have hc_1_7 : (w).toInt ≠ 7 := neI c_1_7; have hc_1_8 : (w).toInt ≠ 8 := neI c_1_8; have hc_1_9 : (w).toInt ≠ 9 := neI c_1_9; have hc_1_10 : (w).toInt ≠ 10 := neI c_1_10; have hc_1_11 : (w).toInt ≠ 11 := neI c_1_11; have hc_1_12 : (w).toInt ≠ 12 := neI c_1_12; have hc_1_13 : (w).toInt ≠ 13 := neI c_1_13; omega) (by decide) ?_
  refine lv_aload_n hx hb dX6_countNumber_158 rfl (lv_at hl 0 rfl) ?_
  refine va_get (D := (dC, dI)) (ci := 4) (v := .ref (aN 0)) (C := RX6) (T := TX6) (N := 6) hx hb htX6 (fun _ h => h) hown hK (fl_at hP 0 rfl) 0 rfl rfl 0 (by decide) (hts _ u_143) (fun _ h9 => h9) rfl dX6_countNumber_159 ?_
  refine va_getN (D := (dC, dI)) (ci := 2) (v := .ref (aN 8)) (C := RX2) (T := TX2) (N := 14) hx hb htX2 (fun _ h => h) hown hK (fl_at hP 1 rfl) 0 rfl rfl 7 (by decide) (va_Nw.use rfl (hn _ (List.mem_of_getElem? (i := 10) rfl))) (fun _ h9 => h9) rfl dX6_countNumber_162 ?_
  refine lv_iload_n hx hb dX6_countNumber_165 rfl (lv_at hl 1 rfl) ?_
  refine lv_bipush (v := 9) hx hb dX6_countNumber_166 (by decide) ?_
  refine lv_isub hx hb dX6_countNumber_168 ?_
  refine k_calli (W.runS (As := [.ref (aN 8), .int (w - 9)]) (rest := []) ⟨hx, hb, hml, hown, hts0⟩ (mX3_at l dC dI cI (aN 8) 4 (by decide) (PN 7) (w - 9)) (va_cwS 2 hts0 (gi_S u_364 u_198 u_13 u_199) rfl rfl rfl (by decide +kernel) ⟨Nat.le_of_ble_eq_true rfl, Nat.le_of_ble_eq_true rfl⟩) (pcR_S ((fl_at hP 1 rfl).sub (ws' := aW cI (aN 8) 4 (PN 7)) [8] rfl) (hK.sub (tys' := [(cI, .int)]) [0] rfl) hn) rfl rfl hl.1 rfl (lv_room (Nat.le_of_ble_eq_true rfl)) dX6_countNumber_169 ⟨Nat.zero_le _, Nat.zero_le _⟩) ?_
  rw [hQ]
  exact W.iret (v := (fX3_at 4 (PN 7) (w - 9))) hx hb hr (fun t ht hW => ⟨(fX3_at 4 (PN 7) (w - 9)), rfl, hF.symm, ht⟩) (fun q hq => absurd hq List.not_mem_nil) dX6_countNumber_172

def fX6_seatedNumber (PN : PV) (PT : PV) (w : Int32) : Int32 × (PV) :=
  (bd (fX2_copyFrom PT PN) (fun U8 => (bd2 (fX2_seatStanding U8) (fun r15 U15 => (if w = 0 then (r15, U15) else (((fX4_byGuests U15) + 1000), U15))))))
abbrev rmX6_seatedNumber : Room := { frames := 5, cells := 0, slots := 0, locals := 138 }
set_option maxHeartbeats 4000000 in
set_option maxRecDepth 100000 in
theorem mX6_seatedNumber (l : Launch) (dC : Nat → ClassId) (dI : Nat → Nat → Nat) (cI cP : ClassId) (a0 : Nat) (aN aT aS : Nat → Nat) (t0 t1 t2 h0 h1 : Nat) (pa : Nat → Nat → Nat) (PN PT PS : PV) (f : Nat → Int32) (u : Int32) (Ps : Nat → PV) (oh vh : Nat) (k : Int32) (w : Int32) : Met l yX6_seatedNumber (ws_ yX6_seatedNumber cX6_seatedNumber 3 (some .int)) rmX6_seatedNumber (pcM (dC, dI) [(cI, .int), (cP, .object "SupperSeats$Plan")] (fW cI cP a0 aN aT aS t0 t1 t2 h0 h1 pa PN PT PS f u Ps oh vh k) [.ref a0, .int w]) (va_Qi (fun (r9 : Int32) (u9 : PV) => (r9, u9) = fX6_seatedNumber PN PT w) (fun u9 t => va_P (dC, dI) vwCl ((fun (v9 : PV) => fW cI cP a0 aN aT aS t0 t1 t2 h0 h1 pa PN v9 PS f u Ps oh vh k) u9) t.heap) (adr (fW cI cP a0 aN aT aS t0 t1 t2 h0 h1 pa PN PT PS f u Ps oh vh k))) 0 0 (adr (fW cI cP a0 aN aT aS t0 t1 t2 h0 h1 pa PN PT PS f u Ps oh vh k)) := by
  refine Met.ofW (cc := cX6_seatedNumber) (maxL := 3) (ret := (some .int)) (by decide) rfl ?_
  intro p e s m args below meth c s₁ B hml hv
  obtain ⟨ha, hP, hK, hn, hD0⟩ := hv
  have hx := B.exec
  have hb := B.bytes
  have hr := B.returns
  have hts0 := atoms_spec (ws := (ws_ yX6_seatedNumber cX6_seatedNumber 3 (some .int))) B.pre
  have hts : ∀ w ∈ lw_all, w.before args s = true := fun w h => hts0 w (List.mem_cons_of_mem _ h)
  have hown : s.vm.findClass RX6 = some m.cls := findClass_of_methodNamed B.named
  have hlocks := B.notSynchronized
  have htX6 : ∀ w ∈ wsX60, w.before args s = true := fun w h => hts w (wX6 w h)
  have hD := adr_self hD0
  obtain ⟨A, hA⟩ : ∃ A, A = adr (fW cI cP a0 aN aT aS t0 t1 t2 h0 h1 pa PN PT PS f u Ps oh vh k) := ⟨_, rfl⟩
  rw [← hA] at hD
  have hS : va_S A s.heap s.heap [] := va_S.rf
  obtain ⟨Q, hQ⟩ : ∃ Q, Q = MQ below (va_Qi (fun (r9 : Int32) (u9 : PV) => (r9, u9) = fX6_seatedNumber PN PT w) (fun u9 t => va_P (dC, dI) vwCl ((fun (v9 : PV) => fW cI cP a0 aN aT aS t0 t1 t2 h0 h1 pa PN v9 PS f u Ps oh vh k) u9) t.heap) (adr (fW cI cP a0 aN aT aS t0 t1 t2 h0 h1 pa PN PT PS f u Ps oh vh k))) args s 0 0 (adr (fW cI cP a0 aN aT aS t0 t1 t2 h0 h1 pa PN PT PS f u Ps oh vh k)) := ⟨_, rfl⟩
  rw [← hQ]
  rw [← hA] at hQ
  have hl := lv_entry ([.ref a0, .int w]) (n := 3) (Nat.le_of_ble_eq_true rfl)
  rw [ha, lg_entry_eq, ← ha]
  generalize (lg_sl ([.ref a0, .int w]) ++ List.replicate (3 - (lg_sl ([.ref a0, .int w])).length) Slot.unset).toArray = ls at hl ⊢
  have hl : lv_has ls 3 [(0, .ref a0), (1, .int w)] := hl
  show W p l e rmX6_seatedNumber s m args below meth c s.heap [] 0 0 Q (F0 m 0 ls [])
  have hF : fX6_seatedNumber PN PT w = fX6_seatedNumber PN PT w := rfl
  refine lv_aload_n hx hb dX6_seatedNumber_0 rfl (lv_at hl 0 rfl) ?_
  refine va_get (D := (dC, dI)) (ci := 4) (v := .ref (aT 0)) (C := RX6) (T := TX6) (N := 6) hx hb htX6 (fun _ h => h) hown hK (fl_at hP 0 rfl) 0 rfl rfl 1 (by decide) (hts _ u_144) (fun _ h9 => h9) rfl dX6_seatedNumber_1 ?_
  refine lv_aload_n hx hb dX6_seatedNumber_4 rfl (lv_at hl 0 rfl) ?_
  refine va_get (D := (dC, dI)) (ci := 4) (v := .ref (aN 0)) (C := RX6) (T := TX6) (N := 6) hx hb htX6 (fun _ h => h) hown hK (fl_at hP 0 rfl) 0 rfl rfl 0 (by decide) (hts _ u_143) (fun _ h9 => h9) rfl dX6_seatedNumber_5 ?_
  refine k_bmutv (wc := [pW cI aT PT, pW cI aN PN]) (W1 := (fun (v : PV) => [pW cI aT v, pW cI aN PN])) (va_runV (As := [.ref (aN 0)]) (rest := []) ⟨hx, hb, hml, hown, hts0⟩ (mX2_copyFrom l dC dI cI aT PT aN PN ) (cwV 1 hts0 (gi_V u_321 u_175 u_176 u_2 u_177) rfl rfl rfl (by decide +kernel) ⟨Nat.le_of_ble_eq_true rfl, Nat.le_of_ble_eq_true rfl⟩) (pcM_V (ci := 2) (q0 := 0) (fl_sub (wc := [pW cI aT PT, pW cI aN PN]) hP [2, 1] rfl) (hK.sub (tys' := [(cI, .int)]) [0] rfl) hn (fl_D (wc := [pW cI aT PT, pW cI aN PN]) hD [2, 1] (by decide) rfl) rfl rfl) rfl rfl hl.1 rfl (lv_room (Nat.le_of_ble_eq_true rfl)) dX6_seatedNumber_8 ⟨Nat.zero_le _, Nat.zero_le _⟩) hP hD hS [2, 1] (by decide) rfl (fun _ => rfl) (fun U8 H locs hU8 hP hD hS => ?_)
  have hP : va_P (dC, dI) vwCl (fW cI cP a0 aN aT aS t0 t1 t2 h0 h1 pa PN U8 PS f u Ps oh vh k) H := hP
  have hD : va_D A (fW cI cP a0 aN aT aS t0 t1 t2 h0 h1 pa PN U8 PS f u Ps oh vh k) := hD
  have hF := bd_at hF hU8
  refine lv_aload_n hx hb dX6_seatedNumber_11 rfl (lv_at hl 0 rfl) ?_
  refine va_get (D := (dC, dI)) (ci := 4) (v := .ref (aT 0)) (C := RX6) (T := TX6) (N := 6) hx hb htX6 (fun _ h => h) hown hK (fl_at hP 0 rfl) 0 rfl rfl 1 (by decide) (hts _ u_144) (fun _ h9 => h9) rfl dX6_seatedNumber_12 ?_
  refine k_bmuti (wc := [pW cI aT U8]) (W1 := (fun (v : PV) => [pW cI aT v])) (va_runV (As := []) (rest := []) ⟨hx, hb, hml, hown, hts0⟩ (mX2_seatStanding l dC dI cI aT U8 ) (cwV 0 hts0 (gi_V u_189 u_190 u_191 u_2 u_192) rfl rfl rfl (by decide +kernel) ⟨Nat.le_of_ble_eq_true rfl, Nat.le_of_ble_eq_true rfl⟩) (pcM_V (ci := 2) (q0 := 0) (fl_at hP 2 rfl) (hK.sub (tys' := [(cI, .int)]) [0] rfl) hn (fl_D1 hD 2 rfl) rfl rfl) rfl rfl hl.1 rfl (lv_room (Nat.le_of_ble_eq_true rfl)) dX6_seatedNumber_15 ⟨Nat.zero_le _, Nat.zero_le _⟩) hP hD hS [2] (by decide) rfl (fun _ => rfl) (fun r15 U15 H locs hU15 hP hD hS => ?_)
  have hP : va_P (dC, dI) vwCl (fW cI cP a0 aN aT aS t0 t1 t2 h0 h1 pa PN U15 PS f u Ps oh vh k) H := hP
  have hD : va_D A (fW cI cP a0 aN aT aS t0 t1 t2 h0 h1 pa PN U15 PS f u Ps oh vh k) := hD
  have hF := bd2_at hF hU15
  refine lv_istore_n (lv' := [(2, .int r15), (0, .ref a0), (1, .int w)]) hx hb dX6_seatedNumber_18 rfl hl (by decide) rfl (fun ls hl => ?_)
  refine lv_iload_n hx hb dX6_seatedNumber_19 rfl (lv_at hl 2 rfl) ?_
  refine lv_if_ne (tgt := 27) hx hb dX6_seatedNumber_20 (by decide) (fun c_20 => ?_) (fun c_20 => ?_)
  · have hF := hF.trans (if_neg c_20)
    refine lv_aload_n hx hb dX6_seatedNumber_27 rfl (lv_at hl 1 rfl) ?_
    refine va_get (D := (dC, dI)) (ci := 4) (v := .ref (aT 0)) (C := RX6) (T := TX6) (N := 6) hx hb htX6 (fun _ h => h) hown hK (fl_at hP 0 rfl) 0 rfl rfl 1 (by decide) (hts _ u_144) (fun _ h9 => h9) rfl dX6_seatedNumber_28 ?_
    refine k_calli (W.runS (As := [.ref (aT 0)]) (rest := []) ⟨hx, hb, hml, hown, hts0⟩ (mX4_byGuests l dC dI cI aT U15 ) (va_cwS 1 hts0 (gi_S u_346 u_347 u_15 u_348) rfl rfl rfl (by decide +kernel) ⟨Nat.le_of_ble_eq_true rfl, Nat.le_of_ble_eq_true rfl⟩) (pcR_S (fl_at hP 2 rfl) (hK.sub (tys' := [(cI, .int)]) [0] rfl) hn) rfl rfl hl.1 rfl (lv_room (Nat.le_of_ble_eq_true rfl)) dX6_seatedNumber_31 ⟨Nat.zero_le _, Nat.zero_le _⟩) ?_
    refine lv_sipush (v := 1000) hx hb dX6_seatedNumber_34 (by decide) ?_
    refine lv_iadd hx hb dX6_seatedNumber_37 ?_
    rw [hQ]
    exact W.iret (v := ((fX4_byGuests U15) + 1000)) hx hb hr (fun t ht hW => ⟨⟨((fX4_byGuests U15) + 1000), U15, rfl, hF.symm, toH ht hP⟩, hS.F ht⟩) hS.2.2 dX6_seatedNumber_38
  have hF := hF.trans (if_pos c_20)
  refine lv_iload_n hx hb dX6_seatedNumber_23 rfl (lv_at hl 0 rfl) ?_
  refine lv_goto (tgt := 38) hx hb dX6_seatedNumber_24 (by decide) ?_
  rw [hQ]
  exact W.iret (v := r15) hx hb hr (fun t ht hW => ⟨⟨r15, U15, rfl, hF.symm, toH ht hP⟩, hS.F ht⟩) hS.2.2 dX6_seatedNumber_38

def fX6_hashLine_b5 (n : Nat) (f : Nat → Int32) (u : Int32) (kk5 : Nat) (x5_3 : Int64) (nextkk5 : Int64 → Int64) : Int64 :=
  (nextkk5 ((31 * x5_3) + (fX1_itemAt n f u (nI kk5)).toInt64))
def fX6_hashLine_r5 (x5_3 : Int64) : Int64 :=
  x5_3
def fX6_hashLine (n : Nat) (f : Nat → Int32) (u : Int32) (hh : Int64) : Int64 :=
  (lq1 (fX6_hashLine_b5 n f u) fX6_hashLine_r5 ((fX1_length n f u).toNatClampNeg) 0 hh)
abbrev rmX6_hashLine : Room := { frames := 1, cells := 0, slots := 0, locals := 21 }
set_option maxHeartbeats 4000000 in
set_option maxRecDepth 100000 in
theorem mX6_hashLine (l : Launch) (dC : Nat → ClassId) (dI : Nat → Nat → Nat) (cI : ClassId) (q0 q1 n : Nat) (hn9 : n < 2 ^ 31) (f : Nat → Int32) (u : Int32) (hh : Int64) : Met l yX6_hashLine (ws_ yX6_hashLine cX6_hashLine 6 (some .long)) rmX6_hashLine (pcR (dC, dI) [(cI, .int)] (lW cI q0 q1 n f u) [.long hh, .ref q0]) (vp_Sl (fun r => r = fX6_hashLine n f u hh)) 0 0 (fun _ => False) := by
  refine Met.ofW (cc := cX6_hashLine) (maxL := 6) (ret := (some .long)) (by decide) rfl ?_
  intro p e s m args below meth c s₁ B hml hv
  obtain ⟨ha, hP, hK, hn⟩ := hv
  have hx := B.exec
  have hb := B.bytes
  have hr := B.returns
  have hts0 := atoms_spec (ws := (ws_ yX6_hashLine cX6_hashLine 6 (some .long))) B.pre
  have hts : ∀ w ∈ lw_all, w.before args s = true := fun w h => hts0 w (List.mem_cons_of_mem _ h)
  have hown : s.vm.findClass RX6 = some m.cls := findClass_of_methodNamed B.named
  have hlocks := B.notSynchronized
  obtain ⟨Q, hQ⟩ : ∃ Q, Q = MQ below (vp_Sl (fun r => r = fX6_hashLine n f u hh)) args s 0 0 (fun _ => False) := ⟨_, rfl⟩
  rw [← hQ]
  have hl := lv_entry ([.long hh, .ref q0]) (n := 6) (Nat.le_of_ble_eq_true rfl)
  rw [ha, lg_entry_eq, ← ha]
  generalize (lg_sl ([.long hh, .ref q0]) ++ List.replicate (6 - (lg_sl ([.long hh, .ref q0])).length) Slot.unset).toArray = ls at hl ⊢
  have hl : lv_has ls 6 [(0, .long hh), (2, .ref q0)] := hl
  show W p l e rmX6_hashLine s m args below meth c s.heap [] 0 0 Q (F0 m 0 ls [])
  have hF : fX6_hashLine n f u hh = fX6_hashLine n f u hh := rfl
  refine lv_lload_n hx hb dX6_hashLine_0 rfl (lv_at hl 0 rfl) ?_
  refine lv_lstore_n (lv' := [(3, .long hh), (0, .long hh), (2, .ref q0)]) hx hb dX6_hashLine_1 rfl hl (by decide) rfl (fun ls hl => ?_)
  refine lv_iconst (v := 0) hx hb dX6_hashLine_2 (by decide) ?_
  refine lv_istore (lv' := [(5, .int 0), (3, .long hh), (0, .long hh), (2, .ref q0)]) hx hb dX6_hashLine_3 hl (by decide) rfl (fun ls hl => ?_)
  have L5 : ∀ (jj5 kk5 : Nat) (x5_3 : Int64), kk5 + jj5 = ((fX1_length n f u).toNatClampNeg) → fX6_hashLine n f u hh = lq1 (fX6_hashLine_b5 n f u) fX6_hashLine_r5 jj5 kk5 x5_3 → ∀ (ls : Array Slot), lv_has ls 6 [(5, .int (nI kk5)), (3, .long x5_3), (0, .long hh), (2, .ref q0)] → W p l e rmX6_hashLine s m args below meth c s.heap [] 0 0 Q (F0 m 5 ls []) := by
    intro jj5
    induction jj5 using Nat.strongRecOn with
    | _ jj5 ihkk5 =>
      intro kk5 x5_3 hkkk5 hF  ls hl
      refine lv_iload hx hb dX6_hashLine_5 (lv_at hl 0 rfl) ?_
      refine lv_aload_n hx hb dX6_hashLine_7 rfl (lv_at hl 3 rfl) ?_
      refine k_calli (W.runV (As := []) (rest := [.int (nI kk5)]) ⟨hx, hb, hml, hown, hts0⟩ (mX1_length l dC dI cI q0 q1 n hn9 f u ) (cwV 0 hts0 (gi_V u_290 u_224 u_225 u_3 u_226) rfl rfl rfl (by decide +kernel) ⟨Nat.le_of_ble_eq_true rfl, Nat.le_of_ble_eq_true rfl⟩) (pcR_V (ci := 1) (q0 := 0) hP hK hn rfl rfl) rfl rfl hl.1 rfl (lv_room (Nat.le_of_ble_eq_true rfl)) dX6_hashLine_8 ⟨Nat.zero_le _, Nat.zero_le _⟩) ?_
      refine lv_icmp_ge (tgt := 34) hx hb dX6_hashLine_11 (by decide) (fun c_11 => ?_) (fun c_11 => ?_)
      · obtain rfl := cn_exit hkkk5 c_11
        have hF := hF.trans (lq1_z _ _ _ _)
        refine lv_lload_n hx hb dX6_hashLine_34 rfl (lv_at hl 1 rfl) ?_
        rw [hQ]
        exact W.lret (v := x5_3) hx hb hr (fun t ht hW => ⟨x5_3, rfl, hF.symm, ht⟩) (fun q hq => absurd hq List.not_mem_nil) dX6_hashLine_35
      obtain ⟨jj5, rfl⟩ := cn_go hkkk5 c_11
      have hF := hF.trans (lq1_s _ _ _ _ _)
      obtain ⟨nextkk5, hnextkk5⟩ : ∃ y9, y9 = lq1 (fX6_hashLine_b5 n f u) fX6_hashLine_r5 jj5 (kk5 + 1) := ⟨_, rfl⟩
      rw [← hnextkk5] at hF
      refine lv_ldc2 (v := 31) hx hb hown (hts _ u_341) dX6_hashLine_14 ?_
      refine lv_lload_n hx hb dX6_hashLine_17 rfl (lv_at hl 1 rfl) ?_
      refine lv_lmul hx hb dX6_hashLine_18 ?_
      refine lv_aload_n hx hb dX6_hashLine_19 rfl (lv_at hl 3 rfl) ?_
      refine lv_iload hx hb dX6_hashLine_20 (lv_at hl 0 rfl) ?_
      refine k_calli (W.runV (As := [.int (nI kk5)]) (rest := [.long (31 * x5_3)]) ⟨hx, hb, hml, hown, hts0⟩ (mX1_itemAt l dC dI cI q0 q1 n hn9 f u (nI kk5)) (cwV 1 hts0 (gi_V u_407 u_228 u_229 u_3 u_230) rfl rfl rfl (by decide +kernel) ⟨Nat.le_of_ble_eq_true rfl, Nat.le_of_ble_eq_true rfl⟩) (pcR_V (ci := 1) (q0 := 0) hP hK hn rfl rfl) rfl rfl hl.1 rfl (lv_room (Nat.le_of_ble_eq_true rfl)) dX6_hashLine_22 ⟨Nat.zero_le _, Nat.zero_le _⟩) ?_
      refine lv_i2l (v := (fX1_itemAt n f u (nI kk5)).toInt64) hx hb dX6_hashLine_25 rfl ?_
      refine lv_ladd hx hb dX6_hashLine_26 ?_
      refine lv_lstore_n (lv' := [(3, .long ((31 * x5_3) + (fX1_itemAt n f u (nI kk5)).toInt64)), (5, .int (nI kk5)), (0, .long hh), (2, .ref q0)]) hx hb dX6_hashLine_27 rfl hl (by decide) rfl (fun ls hl => ?_)
      refine lv_iinc (v := (nI (kk5 + 1))) (lv' := [(5, .int (nI (kk5 + 1))), (3, .long ((31 * x5_3) + (fX1_itemAt n f u (nI kk5)).toInt64)), (0, .long hh), (2, .ref q0)]) hx hb dX6_hashLine_28 hl (k := 1) rfl (nI_1 _) (by decide) rfl (fun ls hl => ?_)
      refine lv_goto (tgt := 5) hx hb dX6_hashLine_31 (by decide) ?_
      have hF : fX6_hashLine n f u hh = nextkk5 ((31 * x5_3) + (fX1_itemAt n f u (nI kk5)).toInt64) := hF
      rw [hnextkk5] at hF
      exact ihkk5 jj5 (Nat.lt_succ_self _) (kk5 + 1) ((31 * x5_3) + (fX1_itemAt n f u (nI kk5)).toInt64) (cn_next hkkk5) hF ls (lv_sub hl [0, 1, 2, 3] rfl)
  exact L5 ((fX1_length n f u).toNatClampNeg) 0 hh (Nat.zero_add _) hF ls (lv_sub hl [0, 1, 2, 3] rfl)

def fX6_hashGuests_b20 (PN : PV) (kk5 : Nat) (kk20 : Nat) (x20_3 : Int64) (nextkk20 : Int64 → Int64) : Int64 :=
  (nextkk20 ((31 * x20_3) + (fX6_guestNumber PN (nI kk5) (nI kk20)).toInt64))
def fX6_hashGuests_r20 (nextkk5 : Int64 → Int64) (PN : PV) (kk5 : Nat) (x20_3 : Int64) : Int64 :=
  (nextkk5 ((31 * x20_3) + (fX2_bestPlace PN (nI kk5)).toInt64))
def fX6_hashGuests_b5 (PN : PV) (kk5 : Nat) (x5_3 : Int64) (nextkk5 : Int64 → Int64) : Int64 :=
  (lq1 (fX6_hashGuests_b20 PN kk5) (fX6_hashGuests_r20 nextkk5 PN kk5) ((7 : Int32).toNatClampNeg) 0 x5_3)
def fX6_hashGuests_r5 (x5_3 : Int64) : Int64 :=
  x5_3
def fX6_hashGuests (PN : PV) (hh : Int64) : Int64 :=
  (lq1 (fX6_hashGuests_b5 PN) fX6_hashGuests_r5 ((PN 10 0).toNatClampNeg) 0 hh)
abbrev rmX6_hashGuests : Room := { frames := 5, cells := 0, slots := 0, locals := 130 }
set_option maxHeartbeats 4000000 in
set_option maxRecDepth 100000 in
theorem mX6_hashGuests (l : Launch) (dC : Nat → ClassId) (dI : Nat → Nat → Nat) (cI cP : ClassId) (a0 : Nat) (aN aT aS : Nat → Nat) (t0 t1 t2 h0 h1 : Nat) (pa : Nat → Nat → Nat) (PN PT PS : PV) (f : Nat → Int32) (u : Int32) (Ps : Nat → PV) (oh vh : Nat) (k : Int32) (hh : Int64) : Met l yX6_hashGuests (ws_ yX6_hashGuests cX6_hashGuests 7 (some .long)) rmX6_hashGuests (pcR (dC, dI) [(cI, .int), (cP, .object "SupperSeats$Plan")] (fW cI cP a0 aN aT aS t0 t1 t2 h0 h1 pa PN PT PS f u Ps oh vh k) [.ref a0, .long hh]) (vp_Sl (fun r => r = fX6_hashGuests PN hh)) 0 0 (fun _ => False) := by
  refine Met.ofW (cc := cX6_hashGuests) (maxL := 7) (ret := (some .long)) (by decide) rfl ?_
  intro p e s m args below meth c s₁ B hml hv
  obtain ⟨ha, hP, hK, hn⟩ := hv
  have hx := B.exec
  have hb := B.bytes
  have hr := B.returns
  have hts0 := atoms_spec (ws := (ws_ yX6_hashGuests cX6_hashGuests 7 (some .long))) B.pre
  have hts : ∀ w ∈ lw_all, w.before args s = true := fun w h => hts0 w (List.mem_cons_of_mem _ h)
  have hown : s.vm.findClass RX6 = some m.cls := findClass_of_methodNamed B.named
  have hlocks := B.notSynchronized
  have htX6 : ∀ w ∈ wsX60, w.before args s = true := fun w h => hts w (wX6 w h)
  have htX2 : ∀ w ∈ wsX20, w.before args s = true := fun w h => hts w (wX2 w h)
  obtain ⟨Q, hQ⟩ : ∃ Q, Q = MQ below (vp_Sl (fun r => r = fX6_hashGuests PN hh)) args s 0 0 (fun _ => False) := ⟨_, rfl⟩
  rw [← hQ]
  have hl := lv_entry ([.ref a0, .long hh]) (n := 7) (Nat.le_of_ble_eq_true rfl)
  rw [ha, lg_entry_eq, ← ha]
  generalize (lg_sl ([.ref a0, .long hh]) ++ List.replicate (7 - (lg_sl ([.ref a0, .long hh])).length) Slot.unset).toArray = ls at hl ⊢
  have hl : lv_has ls 7 [(0, .ref a0), (1, .long hh)] := hl
  show W p l e rmX6_hashGuests s m args below meth c s.heap [] 0 0 Q (F0 m 0 ls [])
  have hF : fX6_hashGuests PN hh = fX6_hashGuests PN hh := rfl
  refine lv_lload_n hx hb dX6_hashGuests_0 rfl (lv_at hl 1 rfl) ?_
  refine lv_lstore_n (lv' := [(3, .long hh), (0, .ref a0), (1, .long hh)]) hx hb dX6_hashGuests_1 rfl hl (by decide) rfl (fun ls hl => ?_)
  refine lv_iconst (v := 0) hx hb dX6_hashGuests_2 (by decide) ?_
  refine lv_istore (lv' := [(5, .int 0), (3, .long hh), (0, .ref a0), (1, .long hh)]) hx hb dX6_hashGuests_3 hl (by decide) rfl (fun ls hl => ?_)
  have L5 : ∀ (jj5 kk5 : Nat) (x5_3 : Int64), kk5 + jj5 = ((PN 10 0).toNatClampNeg) → fX6_hashGuests PN hh = lq1 (fX6_hashGuests_b5 PN) fX6_hashGuests_r5 jj5 kk5 x5_3 → ∀ (ls : Array Slot), lv_has ls 7 [(5, .int (nI kk5)), (3, .long x5_3), (0, .ref a0), (1, .long hh)] → W p l e rmX6_hashGuests s m args below meth c s.heap [] 0 0 Q (F0 m 5 ls []) := by
    intro jj5
    induction jj5 using Nat.strongRecOn with
    | _ jj5 ihkk5 =>
      intro kk5 x5_3 hkkk5 hF  ls hl
      refine lv_iload hx hb dX6_hashGuests_5 (lv_at hl 0 rfl) ?_
      refine lv_aload_n hx hb dX6_hashGuests_7 rfl (lv_at hl 2 rfl) ?_
      refine va_get (D := (dC, dI)) (ci := 4) (v := .ref (aN 0)) (C := RX6) (T := TX6) (N := 6) hx hb htX6 (fun _ h => h) hown hK (fl_at hP 0 rfl) 0 rfl rfl 0 (by decide) (hts _ u_143) (fun _ h9 => h9) rfl dX6_hashGuests_8 ?_
      refine va_getN (D := (dC, dI)) (ci := 2) (v := .int (PN 10 0)) (C := RX2) (T := TX2) (N := 14) hx hb htX2 (fun _ h => h) hown hK (fl_at hP 1 rfl) 0 rfl rfl 10 (by decide) (va_Nw.use rfl (hn _ (List.mem_of_getElem? (i := 15) rfl))) (fun _ h9 => h9) rfl dX6_hashGuests_11 ?_
      refine lv_icmp_ge (tgt := 72) hx hb dX6_hashGuests_14 (by decide) (fun c_14 => ?_) (fun c_14 => ?_)
      · obtain rfl := cn_exit hkkk5 c_14
        have hF := hF.trans (lq1_z _ _ _ _)
        refine lv_lload_n hx hb dX6_hashGuests_72 rfl (lv_at hl 1 rfl) ?_
        rw [hQ]
        exact W.lret (v := x5_3) hx hb hr (fun t ht hW => ⟨x5_3, rfl, hF.symm, ht⟩) (fun q hq => absurd hq List.not_mem_nil) dX6_hashGuests_73
      obtain ⟨jj5, rfl⟩ := cn_go hkkk5 c_14
      have hF := hF.trans (lq1_s _ _ _ _ _)
      obtain ⟨nextkk5, hnextkk5⟩ : ∃ y9, y9 = lq1 (fX6_hashGuests_b5 PN) fX6_hashGuests_r5 jj5 (kk5 + 1) := ⟨_, rfl⟩
      rw [← hnextkk5] at hF
      refine lv_iconst (v := 0) hx hb dX6_hashGuests_17 (by decide) ?_
      refine lv_istore (lv' := [(6, .int 0), (5, .int (nI kk5)), (3, .long x5_3), (0, .ref a0), (1, .long hh)]) hx hb dX6_hashGuests_18 hl (by decide) rfl (fun ls hl => ?_)
      have L20 : ∀ (jj20 kk20 : Nat) (x20_3 : Int64), kk20 + jj20 = ((7 : Int32).toNatClampNeg) → fX6_hashGuests PN hh = lq1 (fX6_hashGuests_b20 PN kk5) (fX6_hashGuests_r20 nextkk5 PN kk5) jj20 kk20 x20_3 → ∀ (ls : Array Slot), lv_has ls 7 [(6, .int (nI kk20)), (5, .int (nI kk5)), (3, .long x20_3), (0, .ref a0), (1, .long hh)] → W p l e rmX6_hashGuests s m args below meth c s.heap [] 0 0 Q (F0 m 20 ls []) := by
        intro jj20
        induction jj20 using Nat.strongRecOn with
        | _ jj20 ihkk20 =>
          intro kk20 x20_3 hkkk20 hF  ls hl
          refine lv_iload hx hb dX6_hashGuests_20 (lv_at hl 0 rfl) ?_
          refine lv_bipush (v := 7) hx hb dX6_hashGuests_22 (by decide) ?_
          refine lv_icmp_ge (tgt := 49) hx hb dX6_hashGuests_24 (by decide) (fun c_24 => ?_) (fun c_24 => ?_)
          · obtain rfl := cn_exit hkkk20 c_24
            have hF := hF.trans (lq1_z _ _ _ _)
            refine lv_ldc2 (v := 31) hx hb hown (hts _ u_341) dX6_hashGuests_49 ?_
            refine lv_lload_n hx hb dX6_hashGuests_52 rfl (lv_at hl 2 rfl) ?_
            refine lv_lmul hx hb dX6_hashGuests_53 ?_
            refine lv_aload_n hx hb dX6_hashGuests_54 rfl (lv_at hl 3 rfl) ?_
            refine va_get (D := (dC, dI)) (ci := 4) (v := .ref (aN 0)) (C := RX6) (T := TX6) (N := 6) hx hb htX6 (fun _ h => h) hown hK (fl_at hP 0 rfl) 0 rfl rfl 0 (by decide) (hts _ u_143) (fun _ h9 => h9) rfl dX6_hashGuests_55 ?_
            refine lv_iload hx hb dX6_hashGuests_58 (lv_at hl 1 rfl) ?_
            refine k_calli (W.runV (As := [.int (nI kk5)]) (rest := [.long (31 * x20_3)]) ⟨hx, hb, hml, hown, hts0⟩ (mX2_bestPlace l dC dI cI aN PN (nI kk5)) (cwV 1 hts0 (gi_V u_375 u_201 u_202 u_2 u_203) rfl rfl rfl (by decide +kernel) ⟨Nat.le_of_ble_eq_true rfl, Nat.le_of_ble_eq_true rfl⟩) (pcR_V (ci := 2) (q0 := 0) (fl_at hP 1 rfl) (hK.sub (tys' := [(cI, .int)]) [0] rfl) hn rfl rfl) rfl rfl hl.1 rfl (lv_room (Nat.le_of_ble_eq_true rfl)) dX6_hashGuests_60 ⟨Nat.zero_le _, Nat.zero_le _⟩) ?_
            refine lv_i2l (v := (fX2_bestPlace PN (nI kk5)).toInt64) hx hb dX6_hashGuests_63 rfl ?_
            refine lv_ladd hx hb dX6_hashGuests_64 ?_
            refine lv_lstore_n (lv' := [(3, .long ((31 * x20_3) + (fX2_bestPlace PN (nI kk5)).toInt64)), (6, .int (nI kk20)), (5, .int (nI kk5)), (0, .ref a0), (1, .long hh)]) hx hb dX6_hashGuests_65 rfl hl (by decide) rfl (fun ls hl => ?_)
            refine lv_iinc (v := (nI (kk5 + 1))) (lv' := [(5, .int (nI (kk5 + 1))), (3, .long ((31 * x20_3) + (fX2_bestPlace PN (nI kk5)).toInt64)), (6, .int (nI kk20)), (0, .ref a0), (1, .long hh)]) hx hb dX6_hashGuests_66 hl (k := 2) rfl (nI_1 _) (by decide) rfl (fun ls hl => ?_)
            refine lv_goto (tgt := 5) hx hb dX6_hashGuests_69 (by decide) ?_
            have hF : fX6_hashGuests PN hh = nextkk5 ((31 * x20_3) + (fX2_bestPlace PN (nI kk5)).toInt64) := hF
            rw [hnextkk5] at hF
            exact ihkk5 jj5 (Nat.lt_succ_self _) (kk5 + 1) ((31 * x20_3) + (fX2_bestPlace PN (nI kk5)).toInt64) (cn_next hkkk5) hF ls (lv_sub hl [0, 1, 3, 4] rfl)
          obtain ⟨jj20, rfl⟩ := cn_go hkkk20 c_24
          have hF := hF.trans (lq1_s _ _ _ _ _)
          obtain ⟨nextkk20, hnextkk20⟩ : ∃ y9, y9 = lq1 (fX6_hashGuests_b20 PN kk5) (fX6_hashGuests_r20 nextkk5 PN kk5) jj20 (kk20 + 1) := ⟨_, rfl⟩
          rw [← hnextkk20] at hF
          refine lv_ldc2 (v := 31) hx hb hown (hts _ u_341) dX6_hashGuests_27 ?_
          refine lv_lload_n hx hb dX6_hashGuests_30 rfl (lv_at hl 2 rfl) ?_
          refine lv_lmul hx hb dX6_hashGuests_31 ?_
          refine lv_aload_n hx hb dX6_hashGuests_32 rfl (lv_at hl 3 rfl) ?_
          refine lv_iload hx hb dX6_hashGuests_33 (lv_at hl 1 rfl) ?_
          refine lv_iload hx hb dX6_hashGuests_35 (lv_at hl 0 rfl) ?_
          refine k_calli (W.runV (As := [.int (nI kk5), .int (nI kk20)]) (rest := [.long (31 * x20_3)]) ⟨hx, hb, hml, hown, hts0⟩ (mX6_guestNumber l dC dI cI cP a0 aN aT aS t0 t1 t2 h0 h1 pa PN PT PS f u Ps oh vh k (nI kk5) (nI kk20)) (cwV 2 hts0 (gi_V u_369 u_371 us_3 u_1 u_372) rfl rfl rfl (by decide +kernel) ⟨Nat.le_of_ble_eq_true rfl, Nat.le_of_ble_eq_true rfl⟩) (pcR_V (ci := 4) (q0 := 0) hP hK hn rfl rfl) rfl rfl hl.1 rfl (lv_room (Nat.le_of_ble_eq_true rfl)) dX6_hashGuests_37 ⟨Nat.zero_le _, Nat.zero_le _⟩) ?_
          refine lv_i2l (v := (fX6_guestNumber PN (nI kk5) (nI kk20)).toInt64) hx hb dX6_hashGuests_40 rfl ?_
          refine lv_ladd hx hb dX6_hashGuests_41 ?_
          refine lv_lstore_n (lv' := [(3, .long ((31 * x20_3) + (fX6_guestNumber PN (nI kk5) (nI kk20)).toInt64)), (6, .int (nI kk20)), (5, .int (nI kk5)), (0, .ref a0), (1, .long hh)]) hx hb dX6_hashGuests_42 rfl hl (by decide) rfl (fun ls hl => ?_)
          refine lv_iinc (v := (nI (kk20 + 1))) (lv' := [(6, .int (nI (kk20 + 1))), (3, .long ((31 * x20_3) + (fX6_guestNumber PN (nI kk5) (nI kk20)).toInt64)), (5, .int (nI kk5)), (0, .ref a0), (1, .long hh)]) hx hb dX6_hashGuests_43 hl (k := 1) rfl (nI_1 _) (by decide) rfl (fun ls hl => ?_)
          refine lv_goto (tgt := 20) hx hb dX6_hashGuests_46 (by decide) ?_
          have hF : fX6_hashGuests PN hh = nextkk20 ((31 * x20_3) + (fX6_guestNumber PN (nI kk5) (nI kk20)).toInt64) := hF
          rw [hnextkk20] at hF
          exact ihkk20 jj20 (Nat.lt_succ_self _) (kk20 + 1) ((31 * x20_3) + (fX6_guestNumber PN (nI kk5) (nI kk20)).toInt64) (cn_next hkkk20) hF ls (lv_sub hl [0, 2, 1, 3, 4] rfl)
      exact L20 ((7 : Int32).toNatClampNeg) 0 x5_3 (Nat.zero_add _) hF ls (lv_sub hl [0, 1, 2, 3, 4] rfl)
  exact L5 ((PN 10 0).toNatClampNeg) 0 hh (Nat.zero_add _) hF ls (lv_sub hl [0, 1, 2, 3] rfl)

def fX6_hashTables_b104 (PN : PV) (kk5 : Nat) (kk104 : Nat) (x104_3 : Int64) (nextkk104 : Int64 → Int64) : Int64 :=
  (nextkk104 ((31 * x104_3) + (fX2_letterOfTable PN (nI kk5) (nI kk104)).toInt64))
def fX6_hashTables_r104 (nextkk5 : Int64 → Int64) (x104_3 : Int64) : Int64 :=
  (nextkk5 x104_3)
def fX6_hashTables_b51 (PN : PV) (kk5 : Nat) (kk51 : Nat) (x51_3 : Int64) (nextkk51 : Int64 → Int64) : Int64 :=
  (nextkk51 ((31 * x51_3) + (fX2_holderAt PN (nI kk5) (nI kk51)).toInt64))
def fX6_hashTables_r51 (nextkk5 : Int64 → Int64) (PN : PV) (kk5 : Nat) (x51_3 : Int64) : Int64 :=
  (lq1 (fX6_hashTables_b104 PN kk5) (fX6_hashTables_r104 nextkk5) ((fX2_lettersOfTable PN (nI kk5)).toNatClampNeg) 0 x51_3)
def fX6_hashTables_b20 (PN : PV) (kk5 : Nat) (kk20 : Nat) (x20_3 : Int64) (nextkk20 : Int64 → Int64) : Int64 :=
  (nextkk20 ((31 * x20_3) + (fX6_tableNumber PN (nI kk5) (nI kk20)).toInt64))
def fX6_hashTables_r20 (nextkk5 : Int64 → Int64) (PN : PV) (kk5 : Nat) (x20_3 : Int64) : Int64 :=
  (lq1 (fX6_hashTables_b51 PN kk5) (fX6_hashTables_r51 nextkk5 PN kk5) ((fX2_seatsAt PN (nI kk5)).toNatClampNeg) 0 x20_3)
def fX6_hashTables_b5 (PN : PV) (kk5 : Nat) (x5_3 : Int64) (nextkk5 : Int64 → Int64) : Int64 :=
  (lq1 (fX6_hashTables_b20 PN kk5) (fX6_hashTables_r20 nextkk5 PN kk5) ((5 : Int32).toNatClampNeg) 0 x5_3)
def fX6_hashTables_r5 (x5_3 : Int64) : Int64 :=
  x5_3
def fX6_hashTables (PN : PV) (hh : Int64) : Int64 :=
  (lq1 (fX6_hashTables_b5 PN) fX6_hashTables_r5 ((PN 10 1).toNatClampNeg) 0 hh)
abbrev rmX6_hashTables : Room := { frames := 4, cells := 0, slots := 0, locals := 112 }
set_option maxHeartbeats 4000000 in
set_option maxRecDepth 100000 in
theorem mX6_hashTables (l : Launch) (dC : Nat → ClassId) (dI : Nat → Nat → Nat) (cI cP : ClassId) (a0 : Nat) (aN aT aS : Nat → Nat) (t0 t1 t2 h0 h1 : Nat) (pa : Nat → Nat → Nat) (PN PT PS : PV) (f : Nat → Int32) (u : Int32) (Ps : Nat → PV) (oh vh : Nat) (k : Int32) (hh : Int64) : Met l yX6_hashTables (ws_ yX6_hashTables cX6_hashTables 8 (some .long)) rmX6_hashTables (pcR (dC, dI) [(cI, .int), (cP, .object "SupperSeats$Plan")] (fW cI cP a0 aN aT aS t0 t1 t2 h0 h1 pa PN PT PS f u Ps oh vh k) [.ref a0, .long hh]) (vp_Sl (fun r => r = fX6_hashTables PN hh)) 0 0 (fun _ => False) := by
  refine Met.ofW (cc := cX6_hashTables) (maxL := 8) (ret := (some .long)) (by decide) rfl ?_
  intro p e s m args below meth c s₁ B hml hv
  obtain ⟨ha, hP, hK, hn⟩ := hv
  have hx := B.exec
  have hb := B.bytes
  have hr := B.returns
  have hts0 := atoms_spec (ws := (ws_ yX6_hashTables cX6_hashTables 8 (some .long))) B.pre
  have hts : ∀ w ∈ lw_all, w.before args s = true := fun w h => hts0 w (List.mem_cons_of_mem _ h)
  have hown : s.vm.findClass RX6 = some m.cls := findClass_of_methodNamed B.named
  have hlocks := B.notSynchronized
  have htX6 : ∀ w ∈ wsX60, w.before args s = true := fun w h => hts w (wX6 w h)
  have htX2 : ∀ w ∈ wsX20, w.before args s = true := fun w h => hts w (wX2 w h)
  obtain ⟨Q, hQ⟩ : ∃ Q, Q = MQ below (vp_Sl (fun r => r = fX6_hashTables PN hh)) args s 0 0 (fun _ => False) := ⟨_, rfl⟩
  rw [← hQ]
  have hl := lv_entry ([.ref a0, .long hh]) (n := 8) (Nat.le_of_ble_eq_true rfl)
  rw [ha, lg_entry_eq, ← ha]
  generalize (lg_sl ([.ref a0, .long hh]) ++ List.replicate (8 - (lg_sl ([.ref a0, .long hh])).length) Slot.unset).toArray = ls at hl ⊢
  have hl : lv_has ls 8 [(0, .ref a0), (1, .long hh)] := hl
  show W p l e rmX6_hashTables s m args below meth c s.heap [] 0 0 Q (F0 m 0 ls [])
  have hF : fX6_hashTables PN hh = fX6_hashTables PN hh := rfl
  refine lv_lload_n hx hb dX6_hashTables_0 rfl (lv_at hl 1 rfl) ?_
  refine lv_lstore_n (lv' := [(3, .long hh), (0, .ref a0), (1, .long hh)]) hx hb dX6_hashTables_1 rfl hl (by decide) rfl (fun ls hl => ?_)
  refine lv_iconst (v := 0) hx hb dX6_hashTables_2 (by decide) ?_
  refine lv_istore (lv' := [(5, .int 0), (3, .long hh), (0, .ref a0), (1, .long hh)]) hx hb dX6_hashTables_3 hl (by decide) rfl (fun ls hl => ?_)
  have L5 : ∀ (jj5 kk5 : Nat) (x5_3 : Int64), kk5 + jj5 = ((PN 10 1).toNatClampNeg) → fX6_hashTables PN hh = lq1 (fX6_hashTables_b5 PN) fX6_hashTables_r5 jj5 kk5 x5_3 → ∀ (ls : Array Slot), lv_has ls 8 [(5, .int (nI kk5)), (3, .long x5_3), (0, .ref a0), (1, .long hh)] → W p l e rmX6_hashTables s m args below meth c s.heap [] 0 0 Q (F0 m 5 ls []) := by
    intro jj5
    induction jj5 using Nat.strongRecOn with
    | _ jj5 ihkk5 =>
      intro kk5 x5_3 hkkk5 hF  ls hl
      refine lv_iload hx hb dX6_hashTables_5 (lv_at hl 0 rfl) ?_
      refine lv_aload_n hx hb dX6_hashTables_7 rfl (lv_at hl 2 rfl) ?_
      refine va_get (D := (dC, dI)) (ci := 4) (v := .ref (aN 0)) (C := RX6) (T := TX6) (N := 6) hx hb htX6 (fun _ h => h) hown hK (fl_at hP 0 rfl) 0 rfl rfl 0 (by decide) (hts _ u_143) (fun _ h9 => h9) rfl dX6_hashTables_8 ?_
      refine va_getN (D := (dC, dI)) (ci := 2) (v := .int (PN 10 1)) (C := RX2) (T := TX2) (N := 14) hx hb htX2 (fun _ h => h) hown hK (fl_at hP 1 rfl) 0 rfl rfl 11 (by decide) (va_Nw.use rfl (hn _ (List.mem_of_getElem? (i := 17) rfl))) (fun _ h9 => h9) rfl dX6_hashTables_11 ?_
      refine lv_icmp_ge (tgt := 142) hx hb dX6_hashTables_14 (by decide) (fun c_14 => ?_) (fun c_14 => ?_)
      · obtain rfl := cn_exit hkkk5 c_14
        have hF := hF.trans (lq1_z _ _ _ _)
        refine lv_lload_n hx hb dX6_hashTables_142 rfl (lv_at hl 1 rfl) ?_
        rw [hQ]
        exact W.lret (v := x5_3) hx hb hr (fun t ht hW => ⟨x5_3, rfl, hF.symm, ht⟩) (fun q hq => absurd hq List.not_mem_nil) dX6_hashTables_143
      obtain ⟨jj5, rfl⟩ := cn_go hkkk5 c_14
      have hF := hF.trans (lq1_s _ _ _ _ _)
      obtain ⟨nextkk5, hnextkk5⟩ : ∃ y9, y9 = lq1 (fX6_hashTables_b5 PN) fX6_hashTables_r5 jj5 (kk5 + 1) := ⟨_, rfl⟩
      rw [← hnextkk5] at hF
      refine lv_iconst (v := 0) hx hb dX6_hashTables_17 (by decide) ?_
      refine lv_istore (lv' := [(6, .int 0), (5, .int (nI kk5)), (3, .long x5_3), (0, .ref a0), (1, .long hh)]) hx hb dX6_hashTables_18 hl (by decide) rfl (fun ls hl => ?_)
      have L20 : ∀ (jj20 kk20 : Nat) (x20_3 : Int64), kk20 + jj20 = ((5 : Int32).toNatClampNeg) → fX6_hashTables PN hh = lq1 (fX6_hashTables_b20 PN kk5) (fX6_hashTables_r20 nextkk5 PN kk5) jj20 kk20 x20_3 → ∀ (ls : Array Slot), lv_has ls 8 [(6, .int (nI kk20)), (5, .int (nI kk5)), (3, .long x20_3), (0, .ref a0), (1, .long hh)] → W p l e rmX6_hashTables s m args below meth c s.heap [] 0 0 Q (F0 m 20 ls []) := by
        intro jj20
        induction jj20 using Nat.strongRecOn with
        | _ jj20 ihkk20 =>
          intro kk20 x20_3 hkkk20 hF  ls hl
          refine lv_iload hx hb dX6_hashTables_20 (lv_at hl 0 rfl) ?_
          refine lv_iconst (v := 5) hx hb dX6_hashTables_22 (by decide) ?_
          refine lv_icmp_ge (tgt := 48) hx hb dX6_hashTables_23 (by decide) (fun c_23 => ?_) (fun c_23 => ?_)
          · obtain rfl := cn_exit hkkk20 c_23
            have hF := hF.trans (lq1_z _ _ _ _)
            refine lv_iconst (v := 0) hx hb dX6_hashTables_48 (by decide) ?_
            refine lv_istore (lv' := [(6, .int 0), (5, .int (nI kk5)), (3, .long x20_3), (0, .ref a0), (1, .long hh)]) hx hb dX6_hashTables_49 hl (by decide) rfl (fun ls hl => ?_)
            have L51 : ∀ (jj51 kk51 : Nat) (x51_3 : Int64), kk51 + jj51 = ((fX2_seatsAt PN (nI kk5)).toNatClampNeg) → fX6_hashTables PN hh = lq1 (fX6_hashTables_b51 PN kk5) (fX6_hashTables_r51 nextkk5 PN kk5) jj51 kk51 x51_3 → ∀ (ls : Array Slot), lv_has ls 8 [(6, .int (nI kk51)), (5, .int (nI kk5)), (3, .long x51_3), (0, .ref a0), (1, .long hh)] → W p l e rmX6_hashTables s m args below meth c s.heap [] 0 0 Q (F0 m 51 ls []) := by
              intro jj51
              induction jj51 using Nat.strongRecOn with
              | _ jj51 ihkk51 =>
                intro kk51 x51_3 hkkk51 hF  ls hl
                refine lv_iload hx hb dX6_hashTables_51 (lv_at hl 0 rfl) ?_
                refine lv_aload_n hx hb dX6_hashTables_53 rfl (lv_at hl 3 rfl) ?_
                refine va_get (D := (dC, dI)) (ci := 4) (v := .ref (aN 0)) (C := RX6) (T := TX6) (N := 6) hx hb htX6 (fun _ h => h) hown hK (fl_at hP 0 rfl) 0 rfl rfl 0 (by decide) (hts _ u_143) (fun _ h9 => h9) rfl dX6_hashTables_54 ?_
                refine lv_iload hx hb dX6_hashTables_57 (lv_at hl 1 rfl) ?_
                refine k_calli (W.runV (As := [.int (nI kk5)]) (rest := [.int (nI kk51)]) ⟨hx, hb, hml, hown, hts0⟩ (mX2_seatsAt l dC dI cI aN PN (nI kk5)) (cwV 1 hts0 (gi_V u_384 u_205 u_206 u_2 u_207) rfl rfl rfl (by decide +kernel) ⟨Nat.le_of_ble_eq_true rfl, Nat.le_of_ble_eq_true rfl⟩) (pcR_V (ci := 2) (q0 := 0) (fl_at hP 1 rfl) (hK.sub (tys' := [(cI, .int)]) [0] rfl) hn rfl rfl) rfl rfl hl.1 rfl (lv_room (Nat.le_of_ble_eq_true rfl)) dX6_hashTables_59 ⟨Nat.zero_le _, Nat.zero_le _⟩) ?_
                refine lv_icmp_ge (tgt := 90) hx hb dX6_hashTables_62 (by decide) (fun c_62 => ?_) (fun c_62 => ?_)
                · obtain rfl := cn_exit hkkk51 c_62
                  have hF := hF.trans (lq1_z _ _ _ _)
                  refine lv_aload_n hx hb dX6_hashTables_90 rfl (lv_at hl 3 rfl) ?_
                  refine va_get (D := (dC, dI)) (ci := 4) (v := .ref (aN 0)) (C := RX6) (T := TX6) (N := 6) hx hb htX6 (fun _ h => h) hown hK (fl_at hP 0 rfl) 0 rfl rfl 0 (by decide) (hts _ u_143) (fun _ h9 => h9) rfl dX6_hashTables_91 ?_
                  refine lv_iload hx hb dX6_hashTables_94 (lv_at hl 1 rfl) ?_
                  refine k_calli (W.runV (As := [.int (nI kk5)]) (rest := []) ⟨hx, hb, hml, hown, hts0⟩ (mX2_lettersOfTable l dC dI cI aN PN (nI kk5)) (cwV 1 hts0 (gi_V u_396 u_397 u_398 u_2 u_399) rfl rfl rfl (by decide +kernel) ⟨Nat.le_of_ble_eq_true rfl, Nat.le_of_ble_eq_true rfl⟩) (pcR_V (ci := 2) (q0 := 0) (fl_at hP 1 rfl) (hK.sub (tys' := [(cI, .int)]) [0] rfl) hn rfl rfl) rfl rfl hl.1 rfl (lv_room (Nat.le_of_ble_eq_true rfl)) dX6_hashTables_96 ⟨Nat.zero_le _, Nat.zero_le _⟩) ?_
                  refine lv_istore (lv' := [(6, .int (fX2_lettersOfTable PN (nI kk5))), (5, .int (nI kk5)), (3, .long x51_3), (0, .ref a0), (1, .long hh)]) hx hb dX6_hashTables_99 hl (by decide) rfl (fun ls hl => ?_)
                  refine lv_iconst (v := 0) hx hb dX6_hashTables_101 (by decide) ?_
                  refine lv_istore (lv' := [(7, .int 0), (6, .int (fX2_lettersOfTable PN (nI kk5))), (5, .int (nI kk5)), (3, .long x51_3), (0, .ref a0), (1, .long hh)]) hx hb dX6_hashTables_102 hl (by decide) rfl (fun ls hl => ?_)
                  have L104 : ∀ (jj104 kk104 : Nat) (x104_3 : Int64), kk104 + jj104 = ((fX2_lettersOfTable PN (nI kk5)).toNatClampNeg) → fX6_hashTables PN hh = lq1 (fX6_hashTables_b104 PN kk5) (fX6_hashTables_r104 nextkk5) jj104 kk104 x104_3 → ∀ (ls : Array Slot), lv_has ls 8 [(7, .int (nI kk104)), (6, .int (fX2_lettersOfTable PN (nI kk5))), (5, .int (nI kk5)), (3, .long x104_3), (0, .ref a0), (1, .long hh)] → W p l e rmX6_hashTables s m args below meth c s.heap [] 0 0 Q (F0 m 104 ls []) := by
                    intro jj104
                    induction jj104 using Nat.strongRecOn with
                    | _ jj104 ihkk104 =>
                      intro kk104 x104_3 hkkk104 hF  ls hl
                      refine lv_iload hx hb dX6_hashTables_104 (lv_at hl 0 rfl) ?_
                      refine lv_iload hx hb dX6_hashTables_106 (lv_at hl 1 rfl) ?_
                      refine lv_icmp_ge (tgt := 136) hx hb dX6_hashTables_108 (by decide) (fun c_108 => ?_) (fun c_108 => ?_)
                      · obtain rfl := cn_exit hkkk104 c_108
                        have hF := hF.trans (lq1_z _ _ _ _)
                        refine lv_iinc (v := (nI (kk5 + 1))) (lv' := [(5, .int (nI (kk5 + 1))), (7, .int (nI kk104)), (6, .int (fX2_lettersOfTable PN (nI kk5))), (3, .long x104_3), (0, .ref a0), (1, .long hh)]) hx hb dX6_hashTables_136 hl (k := 2) rfl (nI_1 _) (by decide) rfl (fun ls hl => ?_)
                        refine lv_goto (tgt := 5) hx hb dX6_hashTables_139 (by decide) ?_
                        have hF : fX6_hashTables PN hh = nextkk5 x104_3 := hF
                        rw [hnextkk5] at hF
                        exact ihkk5 jj5 (Nat.lt_succ_self _) (kk5 + 1) x104_3 (cn_next hkkk5) hF ls (lv_sub hl [0, 3, 4, 5] rfl)
                      obtain ⟨jj104, rfl⟩ := cn_go hkkk104 c_108
                      have hF := hF.trans (lq1_s _ _ _ _ _)
                      obtain ⟨nextkk104, hnextkk104⟩ : ∃ y9, y9 = lq1 (fX6_hashTables_b104 PN kk5) (fX6_hashTables_r104 nextkk5) jj104 (kk104 + 1) := ⟨_, rfl⟩
                      rw [← hnextkk104] at hF
                      refine lv_ldc2 (v := 31) hx hb hown (hts _ u_341) dX6_hashTables_111 ?_
                      refine lv_lload_n hx hb dX6_hashTables_114 rfl (lv_at hl 3 rfl) ?_
                      refine lv_lmul hx hb dX6_hashTables_115 ?_
                      refine lv_aload_n hx hb dX6_hashTables_116 rfl (lv_at hl 4 rfl) ?_
                      refine va_get (D := (dC, dI)) (ci := 4) (v := .ref (aN 0)) (C := RX6) (T := TX6) (N := 6) hx hb htX6 (fun _ h => h) hown hK (fl_at hP 0 rfl) 0 rfl rfl 0 (by decide) (hts _ u_143) (fun _ h9 => h9) rfl dX6_hashTables_117 ?_
                      refine lv_iload hx hb dX6_hashTables_120 (lv_at hl 2 rfl) ?_
                      refine lv_iload hx hb dX6_hashTables_122 (lv_at hl 0 rfl) ?_
                      refine k_calli (W.runV (As := [.int (nI kk5), .int (nI kk104)]) (rest := [.long (31 * x104_3)]) ⟨hx, hb, hml, hown, hts0⟩ (mX2_letterOfTable l dC dI cI aN PN (nI kk5) (nI kk104)) (cwV 2 hts0 (gi_V u_400 u_401 u_402 u_2 u_403) rfl rfl rfl (by decide +kernel) ⟨Nat.le_of_ble_eq_true rfl, Nat.le_of_ble_eq_true rfl⟩) (pcR_V (ci := 2) (q0 := 0) (fl_at hP 1 rfl) (hK.sub (tys' := [(cI, .int)]) [0] rfl) hn rfl rfl) rfl rfl hl.1 rfl (lv_room (Nat.le_of_ble_eq_true rfl)) dX6_hashTables_124 ⟨Nat.zero_le _, Nat.zero_le _⟩) ?_
                      refine lv_i2l (v := (fX2_letterOfTable PN (nI kk5) (nI kk104)).toInt64) hx hb dX6_hashTables_127 rfl ?_
                      refine lv_ladd hx hb dX6_hashTables_128 ?_
                      refine lv_lstore_n (lv' := [(3, .long ((31 * x104_3) + (fX2_letterOfTable PN (nI kk5) (nI kk104)).toInt64)), (7, .int (nI kk104)), (6, .int (fX2_lettersOfTable PN (nI kk5))), (5, .int (nI kk5)), (0, .ref a0), (1, .long hh)]) hx hb dX6_hashTables_129 rfl hl (by decide) rfl (fun ls hl => ?_)
                      refine lv_iinc (v := (nI (kk104 + 1))) (lv' := [(7, .int (nI (kk104 + 1))), (3, .long ((31 * x104_3) + (fX2_letterOfTable PN (nI kk5) (nI kk104)).toInt64)), (6, .int (fX2_lettersOfTable PN (nI kk5))), (5, .int (nI kk5)), (0, .ref a0), (1, .long hh)]) hx hb dX6_hashTables_130 hl (k := 1) rfl (nI_1 _) (by decide) rfl (fun ls hl => ?_)
                      refine lv_goto (tgt := 104) hx hb dX6_hashTables_133 (by decide) ?_
                      have hF : fX6_hashTables PN hh = nextkk104 ((31 * x104_3) + (fX2_letterOfTable PN (nI kk5) (nI kk104)).toInt64) := hF
                      rw [hnextkk104] at hF
                      exact ihkk104 jj104 (Nat.lt_succ_self _) (kk104 + 1) ((31 * x104_3) + (fX2_letterOfTable PN (nI kk5) (nI kk104)).toInt64) (cn_next hkkk104) hF ls (lv_sub hl [0, 2, 3, 1, 4, 5] rfl)
                  exact L104 ((fX2_lettersOfTable PN (nI kk5)).toNatClampNeg) 0 x51_3 (Nat.zero_add _) hF ls (lv_sub hl [0, 1, 2, 3, 4, 5] rfl)
                obtain ⟨jj51, rfl⟩ := cn_go hkkk51 c_62
                have hF := hF.trans (lq1_s _ _ _ _ _)
                obtain ⟨nextkk51, hnextkk51⟩ : ∃ y9, y9 = lq1 (fX6_hashTables_b51 PN kk5) (fX6_hashTables_r51 nextkk5 PN kk5) jj51 (kk51 + 1) := ⟨_, rfl⟩
                rw [← hnextkk51] at hF
                refine lv_ldc2 (v := 31) hx hb hown (hts _ u_341) dX6_hashTables_65 ?_
                refine lv_lload_n hx hb dX6_hashTables_68 rfl (lv_at hl 2 rfl) ?_
                refine lv_lmul hx hb dX6_hashTables_69 ?_
                refine lv_aload_n hx hb dX6_hashTables_70 rfl (lv_at hl 3 rfl) ?_
                refine va_get (D := (dC, dI)) (ci := 4) (v := .ref (aN 0)) (C := RX6) (T := TX6) (N := 6) hx hb htX6 (fun _ h => h) hown hK (fl_at hP 0 rfl) 0 rfl rfl 0 (by decide) (hts _ u_143) (fun _ h9 => h9) rfl dX6_hashTables_71 ?_
                refine lv_iload hx hb dX6_hashTables_74 (lv_at hl 1 rfl) ?_
                refine lv_iload hx hb dX6_hashTables_76 (lv_at hl 0 rfl) ?_
                refine k_calli (W.runV (As := [.int (nI kk5), .int (nI kk51)]) (rest := [.long (31 * x51_3)]) ⟨hx, hb, hml, hown, hts0⟩ (mX2_holderAt l dC dI cI aN PN (nI kk5) (nI kk51)) (cwV 2 hts0 (gi_V u_395 u_213 u_214 u_2 u_215) rfl rfl rfl (by decide +kernel) ⟨Nat.le_of_ble_eq_true rfl, Nat.le_of_ble_eq_true rfl⟩) (pcR_V (ci := 2) (q0 := 0) (fl_at hP 1 rfl) (hK.sub (tys' := [(cI, .int)]) [0] rfl) hn rfl rfl) rfl rfl hl.1 rfl (lv_room (Nat.le_of_ble_eq_true rfl)) dX6_hashTables_78 ⟨Nat.zero_le _, Nat.zero_le _⟩) ?_
                refine lv_i2l (v := (fX2_holderAt PN (nI kk5) (nI kk51)).toInt64) hx hb dX6_hashTables_81 rfl ?_
                refine lv_ladd hx hb dX6_hashTables_82 ?_
                refine lv_lstore_n (lv' := [(3, .long ((31 * x51_3) + (fX2_holderAt PN (nI kk5) (nI kk51)).toInt64)), (6, .int (nI kk51)), (5, .int (nI kk5)), (0, .ref a0), (1, .long hh)]) hx hb dX6_hashTables_83 rfl hl (by decide) rfl (fun ls hl => ?_)
                refine lv_iinc (v := (nI (kk51 + 1))) (lv' := [(6, .int (nI (kk51 + 1))), (3, .long ((31 * x51_3) + (fX2_holderAt PN (nI kk5) (nI kk51)).toInt64)), (5, .int (nI kk5)), (0, .ref a0), (1, .long hh)]) hx hb dX6_hashTables_84 hl (k := 1) rfl (nI_1 _) (by decide) rfl (fun ls hl => ?_)
                refine lv_goto (tgt := 51) hx hb dX6_hashTables_87 (by decide) ?_
                have hF : fX6_hashTables PN hh = nextkk51 ((31 * x51_3) + (fX2_holderAt PN (nI kk5) (nI kk51)).toInt64) := hF
                rw [hnextkk51] at hF
                exact ihkk51 jj51 (Nat.lt_succ_self _) (kk51 + 1) ((31 * x51_3) + (fX2_holderAt PN (nI kk5) (nI kk51)).toInt64) (cn_next hkkk51) hF ls (lv_sub hl [0, 2, 1, 3, 4] rfl)
            exact L51 ((fX2_seatsAt PN (nI kk5)).toNatClampNeg) 0 x20_3 (Nat.zero_add _) hF ls (lv_sub hl [0, 1, 2, 3, 4] rfl)
          obtain ⟨jj20, rfl⟩ := cn_go hkkk20 c_23
          have hF := hF.trans (lq1_s _ _ _ _ _)
          obtain ⟨nextkk20, hnextkk20⟩ : ∃ y9, y9 = lq1 (fX6_hashTables_b20 PN kk5) (fX6_hashTables_r20 nextkk5 PN kk5) jj20 (kk20 + 1) := ⟨_, rfl⟩
          rw [← hnextkk20] at hF
          refine lv_ldc2 (v := 31) hx hb hown (hts _ u_341) dX6_hashTables_26 ?_
          refine lv_lload_n hx hb dX6_hashTables_29 rfl (lv_at hl 2 rfl) ?_
          refine lv_lmul hx hb dX6_hashTables_30 ?_
          refine lv_aload_n hx hb dX6_hashTables_31 rfl (lv_at hl 3 rfl) ?_
          refine lv_iload hx hb dX6_hashTables_32 (lv_at hl 1 rfl) ?_
          refine lv_iload hx hb dX6_hashTables_34 (lv_at hl 0 rfl) ?_
          refine k_calli (W.runV (As := [.int (nI kk5), .int (nI kk20)]) (rest := [.long (31 * x20_3)]) ⟨hx, hb, hml, hown, hts0⟩ (mX6_tableNumber l dC dI cI cP a0 aN aT aS t0 t1 t2 h0 h1 pa PN PT PS f u Ps oh vh k (nI kk5) (nI kk20)) (cwV 2 hts0 (gi_V u_380 u_382 us_5 u_1 u_383) rfl rfl rfl (by decide +kernel) ⟨Nat.le_of_ble_eq_true rfl, Nat.le_of_ble_eq_true rfl⟩) (pcR_V (ci := 4) (q0 := 0) hP hK hn rfl rfl) rfl rfl hl.1 rfl (lv_room (Nat.le_of_ble_eq_true rfl)) dX6_hashTables_36 ⟨Nat.zero_le _, Nat.zero_le _⟩) ?_
          refine lv_i2l (v := (fX6_tableNumber PN (nI kk5) (nI kk20)).toInt64) hx hb dX6_hashTables_39 rfl ?_
          refine lv_ladd hx hb dX6_hashTables_40 ?_
          refine lv_lstore_n (lv' := [(3, .long ((31 * x20_3) + (fX6_tableNumber PN (nI kk5) (nI kk20)).toInt64)), (6, .int (nI kk20)), (5, .int (nI kk5)), (0, .ref a0), (1, .long hh)]) hx hb dX6_hashTables_41 rfl hl (by decide) rfl (fun ls hl => ?_)
          refine lv_iinc (v := (nI (kk20 + 1))) (lv' := [(6, .int (nI (kk20 + 1))), (3, .long ((31 * x20_3) + (fX6_tableNumber PN (nI kk5) (nI kk20)).toInt64)), (5, .int (nI kk5)), (0, .ref a0), (1, .long hh)]) hx hb dX6_hashTables_42 hl (k := 1) rfl (nI_1 _) (by decide) rfl (fun ls hl => ?_)
          refine lv_goto (tgt := 20) hx hb dX6_hashTables_45 (by decide) ?_
          have hF : fX6_hashTables PN hh = nextkk20 ((31 * x20_3) + (fX6_tableNumber PN (nI kk5) (nI kk20)).toInt64) := hF
          rw [hnextkk20] at hF
          exact ihkk20 jj20 (Nat.lt_succ_self _) (kk20 + 1) ((31 * x20_3) + (fX6_tableNumber PN (nI kk5) (nI kk20)).toInt64) (cn_next hkkk20) hF ls (lv_sub hl [0, 2, 1, 3, 4] rfl)
      exact L20 ((5 : Int32).toNatClampNeg) 0 x5_3 (Nat.zero_add _) hF ls (lv_sub hl [0, 1, 2, 3, 4] rfl)
  exact L5 ((PN 10 1).toNatClampNeg) 0 hh (Nat.zero_add _) hF ls (lv_sub hl [0, 1, 2, 3] rfl)

def fX6_seatAll (PN : PV) (Ps : Nat → PV) (oh : Nat) (vh : Nat) : Int32 × (PV × (Nat → PV) × Nat × Nat) :=
  (bd (fX0_save Ps oh vh PN) (fun U8 => (bd2 (fX2_seatStanding PN) (fun r15 U15 => (r15, (U15, U8.1, U8.2.1, U8.2.2))))))
abbrev rmX6_seatAll : Room := { frames := 5, cells := 0, slots := 0, locals := 138 }
set_option maxHeartbeats 4000000 in
set_option maxRecDepth 100000 in
theorem mX6_seatAll (l : Launch) (dC : Nat → ClassId) (dI : Nat → Nat → Nat) (cI cP : ClassId) (a0 : Nat) (aN aT aS : Nat → Nat) (t0 t1 t2 h0 h1 : Nat) (pa : Nat → Nat → Nat) (PN PT PS : PV) (f : Nat → Int32) (u : Int32) (Ps : Nat → PV) (oh vh : Nat) (k : Int32) (ho6 : oh < 6) (hv6 : vh ≤ 6) : Met l yX6_seatAll (ws_ yX6_seatAll cX6_seatAll 1 (some .int)) rmX6_seatAll (pcM (dC, dI) [(cI, .int), (cP, .object "SupperSeats$Plan")] (fW cI cP a0 aN aT aS t0 t1 t2 h0 h1 pa PN PT PS f u Ps oh vh k) [.ref a0]) (va_Qi (fun (r9 : Int32) (u9 : PV × (Nat → PV) × Nat × Nat) => (r9, u9) = fX6_seatAll PN Ps oh vh) (fun u9 t => va_P (dC, dI) vwCl ((fun (v9 : PV × (Nat → PV) × Nat × Nat) => fW cI cP a0 aN aT aS t0 t1 t2 h0 h1 pa v9.1 PT PS f u v9.2.1 v9.2.2.1 v9.2.2.2 k) u9) t.heap) (adr (fW cI cP a0 aN aT aS t0 t1 t2 h0 h1 pa PN PT PS f u Ps oh vh k))) 0 0 (adr (fW cI cP a0 aN aT aS t0 t1 t2 h0 h1 pa PN PT PS f u Ps oh vh k)) := by
  refine Met.ofW (cc := cX6_seatAll) (maxL := 1) (ret := (some .int)) (by decide) rfl ?_
  intro p e s m args below meth c s₁ B hml hv
  obtain ⟨ha, hP, hK, hn, hD0⟩ := hv
  have hx := B.exec
  have hb := B.bytes
  have hr := B.returns
  have hts0 := atoms_spec (ws := (ws_ yX6_seatAll cX6_seatAll 1 (some .int))) B.pre
  have hts : ∀ w ∈ lw_all, w.before args s = true := fun w h => hts0 w (List.mem_cons_of_mem _ h)
  have hown : s.vm.findClass RX6 = some m.cls := findClass_of_methodNamed B.named
  have hlocks := B.notSynchronized
  have htX6 : ∀ w ∈ wsX60, w.before args s = true := fun w h => hts w (wX6 w h)
  have hD := adr_self hD0
  obtain ⟨A, hA⟩ : ∃ A, A = adr (fW cI cP a0 aN aT aS t0 t1 t2 h0 h1 pa PN PT PS f u Ps oh vh k) := ⟨_, rfl⟩
  rw [← hA] at hD
  have hS : va_S A s.heap s.heap [] := va_S.rf
  obtain ⟨Q, hQ⟩ : ∃ Q, Q = MQ below (va_Qi (fun (r9 : Int32) (u9 : PV × (Nat → PV) × Nat × Nat) => (r9, u9) = fX6_seatAll PN Ps oh vh) (fun u9 t => va_P (dC, dI) vwCl ((fun (v9 : PV × (Nat → PV) × Nat × Nat) => fW cI cP a0 aN aT aS t0 t1 t2 h0 h1 pa v9.1 PT PS f u v9.2.1 v9.2.2.1 v9.2.2.2 k) u9) t.heap) (adr (fW cI cP a0 aN aT aS t0 t1 t2 h0 h1 pa PN PT PS f u Ps oh vh k))) args s 0 0 (adr (fW cI cP a0 aN aT aS t0 t1 t2 h0 h1 pa PN PT PS f u Ps oh vh k)) := ⟨_, rfl⟩
  rw [← hQ]
  rw [← hA] at hQ
  have hl := lv_entry ([.ref a0]) (n := 1) (Nat.le_of_ble_eq_true rfl)
  rw [ha, lg_entry_eq, ← ha]
  generalize (lg_sl ([.ref a0]) ++ List.replicate (1 - (lg_sl ([.ref a0])).length) Slot.unset).toArray = ls at hl ⊢
  have hl : lv_has ls 1 [(0, .ref a0)] := hl
  show W p l e rmX6_seatAll s m args below meth c s.heap [] 0 0 Q (F0 m 0 ls [])
  have hF : fX6_seatAll PN Ps oh vh = fX6_seatAll PN Ps oh vh := rfl
  refine lv_aload_n hx hb dX6_seatAll_0 rfl (lv_at hl 0 rfl) ?_
  refine va_get (D := (dC, dI)) (ci := 4) (v := .ref h0) (C := RX6) (T := TX6) (N := 6) hx hb htX6 (fun _ h => h) hown hK (fl_at hP 0 rfl) 0 rfl rfl 3 (by decide) (hts _ u_146) (fun _ h9 => h9) rfl dX6_seatAll_1 ?_
  refine lv_aload_n hx hb dX6_seatAll_4 rfl (lv_at hl 0 rfl) ?_
  refine va_get (D := (dC, dI)) (ci := 4) (v := .ref (aN 0)) (C := RX6) (T := TX6) (N := 6) hx hb htX6 (fun _ h => h) hown hK (fl_at hP 0 rfl) 0 rfl rfl 0 (by decide) (hts _ u_143) (fun _ h9 => h9) rfl dX6_seatAll_5 ?_
  refine k_bmutv (wc := [hW cI cP h0 h1 pa Ps (nI oh) (nI vh), pW cI aN PN]) (W1 := (fun (v : (Nat → PV) × Nat × Nat) => [hW cI cP h0 h1 pa v.1 (nI v.2.1) (nI v.2.2), pW cI aN PN])) (va_runV (As := [.ref (aN 0)]) (rest := []) ⟨hx, hb, hml, hown, hts0⟩ (mX0_save l dC dI cI cP h0 h1 pa Ps oh vh aN PN  (by first | omega | assumption) (by first | omega | assumption)) (cwV 1 hts0 (gi_V u_166 u_167 u_168 u_5 u_169) rfl rfl rfl (by decide +kernel) ⟨Nat.le_of_ble_eq_true rfl, Nat.le_of_ble_eq_true rfl⟩) (pcM_V (ci := 0) (q0 := 0) (fl_sub (wc := [hW cI cP h0 h1 pa Ps (nI oh) (nI vh), pW cI aN PN]) hP [5, 1] rfl) hK hn (fl_D (wc := [hW cI cP h0 h1 pa Ps (nI oh) (nI vh), pW cI aN PN]) hD [5, 1] (by decide) rfl) rfl rfl) rfl rfl hl.1 rfl (lv_room (Nat.le_of_ble_eq_true rfl)) dX6_seatAll_8 ⟨Nat.zero_le _, Nat.zero_le _⟩) hP hD hS [5, 1] (by decide) rfl (fun _ => rfl) (fun U8 H locs hU8 hP hD hS => ?_)
  have hP : va_P (dC, dI) vwCl (fW cI cP a0 aN aT aS t0 t1 t2 h0 h1 pa PN PT PS f u U8.1 U8.2.1 U8.2.2 k) H := hP
  have hD : va_D A (fW cI cP a0 aN aT aS t0 t1 t2 h0 h1 pa PN PT PS f u U8.1 U8.2.1 U8.2.2 k) := hD
  have hF := bd_at hF hU8
  refine lv_aload_n hx hb dX6_seatAll_11 rfl (lv_at hl 0 rfl) ?_
  refine va_get (D := (dC, dI)) (ci := 4) (v := .ref (aN 0)) (C := RX6) (T := TX6) (N := 6) hx hb htX6 (fun _ h => h) hown hK (fl_at hP 0 rfl) 0 rfl rfl 0 (by decide) (hts _ u_143) (fun _ h9 => h9) rfl dX6_seatAll_12 ?_
  refine k_bmuti (wc := [pW cI aN PN]) (W1 := (fun (v : PV) => [pW cI aN v])) (va_runV (As := []) (rest := []) ⟨hx, hb, hml, hown, hts0⟩ (mX2_seatStanding l dC dI cI aN PN ) (cwV 0 hts0 (gi_V u_189 u_190 u_191 u_2 u_192) rfl rfl rfl (by decide +kernel) ⟨Nat.le_of_ble_eq_true rfl, Nat.le_of_ble_eq_true rfl⟩) (pcM_V (ci := 2) (q0 := 0) (fl_at hP 1 rfl) (hK.sub (tys' := [(cI, .int)]) [0] rfl) hn (fl_D1 hD 1 rfl) rfl rfl) rfl rfl hl.1 rfl (lv_room (Nat.le_of_ble_eq_true rfl)) dX6_seatAll_15 ⟨Nat.zero_le _, Nat.zero_le _⟩) hP hD hS [1] (by decide) rfl (fun _ => rfl) (fun r15 U15 H locs hU15 hP hD hS => ?_)
  have hP : va_P (dC, dI) vwCl (fW cI cP a0 aN aT aS t0 t1 t2 h0 h1 pa U15 PT PS f u U8.1 U8.2.1 U8.2.2 k) H := hP
  have hD : va_D A (fW cI cP a0 aN aT aS t0 t1 t2 h0 h1 pa U15 PT PS f u U8.1 U8.2.1 U8.2.2 k) := hD
  have hF := bd2_at hF hU15
  rw [hQ]
  exact W.iret (v := r15) hx hb hr (fun t ht hW => ⟨⟨r15, (U15, U8.1, U8.2.1, U8.2.2), rfl, hF.symm, toH ht hP⟩, hS.F ht⟩) hS.2.2 dX6_seatAll_18

def fX6_clearBuffer (f : Nat → Int32) (u : Int32) : Int32 × ((Nat → Int32) × Int32) :=
  (bd (fX1_dropAll 60 f u) (fun U18 => ((fX1_length 60 f u), (U18.1, U18.2))))
abbrev rmX6_clearBuffer : Room := { frames := 1, cells := 0, slots := 0, locals := 20 }
set_option maxHeartbeats 4000000 in
set_option maxRecDepth 100000 in
theorem mX6_clearBuffer (l : Launch) (dC : Nat → ClassId) (dI : Nat → Nat → Nat) (cI cP : ClassId) (a0 : Nat) (aN aT aS : Nat → Nat) (t0 t1 t2 h0 h1 : Nat) (pa : Nat → Nat → Nat) (PN PT PS : PV) (f : Nat → Int32) (u : Int32) (Ps : Nat → PV) (oh vh : Nat) (k : Int32) : Met l yX6_clearBuffer (ws_ yX6_clearBuffer cX6_clearBuffer 2 (some .int)) rmX6_clearBuffer (pcM (dC, dI) [(cI, .int), (cP, .object "SupperSeats$Plan")] (fW cI cP a0 aN aT aS t0 t1 t2 h0 h1 pa PN PT PS f u Ps oh vh k) [.ref a0]) (va_Qi (fun (r9 : Int32) (u9 : (Nat → Int32) × Int32) => (r9, u9) = fX6_clearBuffer f u) (fun u9 t => va_P (dC, dI) vwCl ((fun (v9 : (Nat → Int32) × Int32) => fW cI cP a0 aN aT aS t0 t1 t2 h0 h1 pa PN PT PS v9.1 v9.2 Ps oh vh k) u9) t.heap) (adr (fW cI cP a0 aN aT aS t0 t1 t2 h0 h1 pa PN PT PS f u Ps oh vh k))) 0 0 (adr (fW cI cP a0 aN aT aS t0 t1 t2 h0 h1 pa PN PT PS f u Ps oh vh k)) := by
  refine Met.ofW (cc := cX6_clearBuffer) (maxL := 2) (ret := (some .int)) (by decide) rfl ?_
  intro p e s m args below meth c s₁ B hml hv
  obtain ⟨ha, hP, hK, hn, hD0⟩ := hv
  have hx := B.exec
  have hb := B.bytes
  have hr := B.returns
  have hts0 := atoms_spec (ws := (ws_ yX6_clearBuffer cX6_clearBuffer 2 (some .int))) B.pre
  have hts : ∀ w ∈ lw_all, w.before args s = true := fun w h => hts0 w (List.mem_cons_of_mem _ h)
  have hown : s.vm.findClass RX6 = some m.cls := findClass_of_methodNamed B.named
  have hlocks := B.notSynchronized
  have htX6 : ∀ w ∈ wsX60, w.before args s = true := fun w h => hts w (wX6 w h)
  have htX5 : ∀ w ∈ wsX50, w.before args s = true := fun w h => hts w (wX5 w h)
  have hD := adr_self hD0
  obtain ⟨A, hA⟩ : ∃ A, A = adr (fW cI cP a0 aN aT aS t0 t1 t2 h0 h1 pa PN PT PS f u Ps oh vh k) := ⟨_, rfl⟩
  rw [← hA] at hD
  have hS : va_S A s.heap s.heap [] := va_S.rf
  obtain ⟨Q, hQ⟩ : ∃ Q, Q = MQ below (va_Qi (fun (r9 : Int32) (u9 : (Nat → Int32) × Int32) => (r9, u9) = fX6_clearBuffer f u) (fun u9 t => va_P (dC, dI) vwCl ((fun (v9 : (Nat → Int32) × Int32) => fW cI cP a0 aN aT aS t0 t1 t2 h0 h1 pa PN PT PS v9.1 v9.2 Ps oh vh k) u9) t.heap) (adr (fW cI cP a0 aN aT aS t0 t1 t2 h0 h1 pa PN PT PS f u Ps oh vh k))) args s 0 0 (adr (fW cI cP a0 aN aT aS t0 t1 t2 h0 h1 pa PN PT PS f u Ps oh vh k)) := ⟨_, rfl⟩
  rw [← hQ]
  rw [← hA] at hQ
  have hl := lv_entry ([.ref a0]) (n := 2) (Nat.le_of_ble_eq_true rfl)
  rw [ha, lg_entry_eq, ← ha]
  generalize (lg_sl ([.ref a0]) ++ List.replicate (2 - (lg_sl ([.ref a0])).length) Slot.unset).toArray = ls at hl ⊢
  have hl : lv_has ls 2 [(0, .ref a0)] := hl
  show W p l e rmX6_clearBuffer s m args below meth c s.heap [] 0 0 Q (F0 m 0 ls [])
  have hF : fX6_clearBuffer f u = fX6_clearBuffer f u := rfl
  refine lv_aload_n hx hb dX6_clearBuffer_0 rfl (lv_at hl 0 rfl) ?_
  refine va_get (D := (dC, dI)) (ci := 4) (v := .ref t0) (C := RX6) (T := TX6) (N := 6) hx hb htX6 (fun _ h => h) hown hK (fl_at hP 0 rfl) 0 rfl rfl 4 (by decide) (hts _ u_147) (fun _ h9 => h9) rfl dX6_clearBuffer_1 ?_
  refine va_getN (D := (dC, dI)) (ci := 3) (v := .ref t1) (C := RX5) (T := TX5) (N := 1) hx hb htX5 (fun _ h => h) hown hK (fl_at hP 4 rfl) 0 rfl rfl 0 (by decide) (va_Nw.use rfl (hn _ (List.mem_of_getElem? (i := 21) rfl))) (fun _ h9 => h9) rfl dX6_clearBuffer_4 ?_
  refine k_calli (W.runV (As := []) (rest := []) ⟨hx, hb, hml, hown, hts0⟩ (mX1_length l dC dI cI t1 t2 60 (by decide) f u ) (cwV 0 hts0 (gi_V u_290 u_224 u_225 u_3 u_226) rfl rfl rfl (by decide +kernel) ⟨Nat.le_of_ble_eq_true rfl, Nat.le_of_ble_eq_true rfl⟩) (pcR_V (ci := 1) (q0 := 0) ((fl_at hP 4 rfl).sub (ws' := lW cI t1 t2 60 f u) [1, 2] rfl) (hK.sub (tys' := [(cI, .int)]) [0] rfl) hn rfl rfl) rfl rfl hl.1 rfl (lv_room (Nat.le_of_ble_eq_true rfl)) dX6_clearBuffer_7 ⟨Nat.zero_le _, Nat.zero_le _⟩) ?_
  refine lv_istore_n (lv' := [(1, .int (fX1_length 60 f u)), (0, .ref a0)]) hx hb dX6_clearBuffer_10 rfl hl (by decide) rfl (fun ls hl => ?_)
  refine lv_aload_n hx hb dX6_clearBuffer_11 rfl (lv_at hl 1 rfl) ?_
  refine va_get (D := (dC, dI)) (ci := 4) (v := .ref t0) (C := RX6) (T := TX6) (N := 6) hx hb htX6 (fun _ h => h) hown hK (fl_at hP 0 rfl) 0 rfl rfl 4 (by decide) (hts _ u_147) (fun _ h9 => h9) rfl dX6_clearBuffer_12 ?_
  refine va_getN (D := (dC, dI)) (ci := 3) (v := .ref t1) (C := RX5) (T := TX5) (N := 1) hx hb htX5 (fun _ h => h) hown hK (fl_at hP 4 rfl) 0 rfl rfl 0 (by decide) (va_Nw.use rfl (hn _ (List.mem_of_getElem? (i := 21) rfl))) (fun _ h9 => h9) rfl dX6_clearBuffer_15 ?_
  refine k_smutv (Wd := (fun (v : (Nat → Int32) × Int32) => lW cI t1 t2 60 v.1 v.2)) (va_runV (As := []) (rest := []) ⟨hx, hb, hml, hown, hts0⟩ (mX1_dropAll l dC dI cI t1 t2 60 (by decide) f u ) (cwV 0 hts0 (gi_V u_291 u_292 u_293 u_3 u_294) rfl rfl rfl (by decide +kernel) ⟨Nat.le_of_ble_eq_true rfl, Nat.le_of_ble_eq_true rfl⟩) (pcM_V (ci := 1) (q0 := 0) ((fl_at hP 4 rfl).sub (ws' := lW cI t1 t2 60 f u) [1, 2] rfl) (hK.sub (tys' := [(cI, .int)]) [0] rfl) hn ((fl_D1 hD 4 rfl).sub (ws' := lW cI t1 t2 60 f u) [1, 2] (by decide) rfl) rfl rfl) rfl rfl hl.1 rfl (lv_room (Nat.le_of_ble_eq_true rfl)) dX6_clearBuffer_18 ⟨Nat.zero_le _, Nat.zero_le _⟩) hP hD hS 4 rfl [1, 2] rfl rfl (fun _ => rfl) (fun U18 H locs hU18 hP hD hS => ?_)
  have hP : va_P (dC, dI) vwCl (fW cI cP a0 aN aT aS t0 t1 t2 h0 h1 pa PN PT PS U18.1 U18.2 Ps oh vh k) H := hP
  have hD : va_D A (fW cI cP a0 aN aT aS t0 t1 t2 h0 h1 pa PN PT PS U18.1 U18.2 Ps oh vh k) := hD
  have hF := bd_at hF hU18
  refine lv_iload_n hx hb dX6_clearBuffer_21 rfl (lv_at hl 0 rfl) ?_
  rw [hQ]
  exact W.iret (v := (fX1_length 60 f u)) hx hb hr (fun t ht hW => ⟨⟨(fX1_length 60 f u), (U18.1, U18.2), rfl, hF.symm, toH ht hP⟩, hS.F ht⟩) hS.2.2 dX6_clearBuffer_22

def fX6_firstError (f : Nat → Int32) (u : Int32) : Int32 :=
  (fX5_firstBroken f u)
abbrev rmX6_firstError : Room := { frames := 4, cells := 0, slots := 0, locals := 87 }
set_option maxHeartbeats 4000000 in
set_option maxRecDepth 100000 in
theorem mX6_firstError (l : Launch) (dC : Nat → ClassId) (dI : Nat → Nat → Nat) (cI cP : ClassId) (a0 : Nat) (aN aT aS : Nat → Nat) (t0 t1 t2 h0 h1 : Nat) (pa : Nat → Nat → Nat) (PN PT PS : PV) (f : Nat → Int32) (u : Int32) (Ps : Nat → PV) (oh vh : Nat) (k : Int32) : Met l yX6_firstError (ws_ yX6_firstError cX6_firstError 1 (some .int)) rmX6_firstError (pcR (dC, dI) [(cI, .int), (cP, .object "SupperSeats$Plan")] (fW cI cP a0 aN aT aS t0 t1 t2 h0 h1 pa PN PT PS f u Ps oh vh k) [.ref a0]) (vp_Si (fun r => r = fX6_firstError f u)) 0 0 (fun _ => False) := by
  refine Met.ofW (cc := cX6_firstError) (maxL := 1) (ret := (some .int)) (by decide) rfl ?_
  intro p e s m args below meth c s₁ B hml hv
  obtain ⟨ha, hP, hK, hn⟩ := hv
  have hx := B.exec
  have hb := B.bytes
  have hr := B.returns
  have hts0 := atoms_spec (ws := (ws_ yX6_firstError cX6_firstError 1 (some .int))) B.pre
  have hts : ∀ w ∈ lw_all, w.before args s = true := fun w h => hts0 w (List.mem_cons_of_mem _ h)
  have hown : s.vm.findClass RX6 = some m.cls := findClass_of_methodNamed B.named
  have hlocks := B.notSynchronized
  have htX6 : ∀ w ∈ wsX60, w.before args s = true := fun w h => hts w (wX6 w h)
  obtain ⟨Q, hQ⟩ : ∃ Q, Q = MQ below (vp_Si (fun r => r = fX6_firstError f u)) args s 0 0 (fun _ => False) := ⟨_, rfl⟩
  rw [← hQ]
  have hl := lv_entry ([.ref a0]) (n := 1) (Nat.le_of_ble_eq_true rfl)
  rw [ha, lg_entry_eq, ← ha]
  generalize (lg_sl ([.ref a0]) ++ List.replicate (1 - (lg_sl ([.ref a0])).length) Slot.unset).toArray = ls at hl ⊢
  have hl : lv_has ls 1 [(0, .ref a0)] := hl
  show W p l e rmX6_firstError s m args below meth c s.heap [] 0 0 Q (F0 m 0 ls [])
  have hF : fX6_firstError f u = fX6_firstError f u := rfl
  refine lv_aload_n hx hb dX6_firstError_0 rfl (lv_at hl 0 rfl) ?_
  refine va_get (D := (dC, dI)) (ci := 4) (v := .ref t0) (C := RX6) (T := TX6) (N := 6) hx hb htX6 (fun _ h => h) hown hK (fl_at hP 0 rfl) 0 rfl rfl 4 (by decide) (hts _ u_147) (fun _ h9 => h9) rfl dX6_firstError_1 ?_
  refine k_calli (W.runV (As := []) (rest := []) ⟨hx, hb, hml, hown, hts0⟩ (mX5_firstBroken l dC dI cI t0 t1 t2 f u ) (cwV 0 hts0 (gi_V u_299 u_300 u_301 u_6 u_302) rfl rfl rfl (by decide +kernel) ⟨Nat.le_of_ble_eq_true rfl, Nat.le_of_ble_eq_true rfl⟩) (pcR_V (ci := 3) (q0 := 0) (fl_at hP 4 rfl) (hK.sub (tys' := [(cI, .int)]) [0] rfl) hn rfl rfl) rfl rfl hl.1 rfl (lv_room (Nat.le_of_ble_eq_true rfl)) dX6_firstError_4 ⟨Nat.zero_le _, Nat.zero_le _⟩) ?_
  rw [hQ]
  exact W.iret (v := (fX5_firstBroken f u)) hx hb hr (fun t ht hW => ⟨(fX5_firstBroken f u), rfl, hF.symm, ht⟩) (fun q hq => absurd hq List.not_mem_nil) dX6_firstError_7

def fX6_keep (PN : PV) (PS : PV) : Int32 × (PV × Int32) :=
  (bd (fX2_copyFrom PS PN) (fun U8 => ((fX1_length 16 (PN 9) (PN 10 5)), (U8, 1))))
abbrev rmX6_keep : Room := { frames := 3, cells := 0, slots := 0, locals := 82 }
set_option maxHeartbeats 4000000 in
set_option maxRecDepth 100000 in
theorem mX6_keep (l : Launch) (dC : Nat → ClassId) (dI : Nat → Nat → Nat) (cI cP : ClassId) (a0 : Nat) (aN aT aS : Nat → Nat) (t0 t1 t2 h0 h1 : Nat) (pa : Nat → Nat → Nat) (PN PT PS : PV) (f : Nat → Int32) (u : Int32) (Ps : Nat → PV) (oh vh : Nat) (k : Int32) : Met l yX6_keep (ws_ yX6_keep cX6_keep 1 (some .int)) rmX6_keep (pcM (dC, dI) [(cI, .int), (cP, .object "SupperSeats$Plan")] (fW cI cP a0 aN aT aS t0 t1 t2 h0 h1 pa PN PT PS f u Ps oh vh k) [.ref a0]) (va_Qi (fun (r9 : Int32) (u9 : PV × Int32) => (r9, u9) = fX6_keep PN PS) (fun u9 t => va_P (dC, dI) vwCl ((fun (v9 : PV × Int32) => fW cI cP a0 aN aT aS t0 t1 t2 h0 h1 pa PN PT v9.1 f u Ps oh vh v9.2) u9) t.heap) (adr (fW cI cP a0 aN aT aS t0 t1 t2 h0 h1 pa PN PT PS f u Ps oh vh k))) 0 0 (adr (fW cI cP a0 aN aT aS t0 t1 t2 h0 h1 pa PN PT PS f u Ps oh vh k)) := by
  refine Met.ofW (cc := cX6_keep) (maxL := 1) (ret := (some .int)) (by decide) rfl ?_
  intro p e s m args below meth c s₁ B hml hv
  obtain ⟨ha, hP, hK, hn, hD0⟩ := hv
  have hx := B.exec
  have hb := B.bytes
  have hr := B.returns
  have hts0 := atoms_spec (ws := (ws_ yX6_keep cX6_keep 1 (some .int))) B.pre
  have hts : ∀ w ∈ lw_all, w.before args s = true := fun w h => hts0 w (List.mem_cons_of_mem _ h)
  have hown : s.vm.findClass RX6 = some m.cls := findClass_of_methodNamed B.named
  have hlocks := B.notSynchronized
  have htX6 : ∀ w ∈ wsX60, w.before args s = true := fun w h => hts w (wX6 w h)
  have htX2 : ∀ w ∈ wsX20, w.before args s = true := fun w h => hts w (wX2 w h)
  have hD := adr_self hD0
  obtain ⟨A, hA⟩ : ∃ A, A = adr (fW cI cP a0 aN aT aS t0 t1 t2 h0 h1 pa PN PT PS f u Ps oh vh k) := ⟨_, rfl⟩
  rw [← hA] at hD
  have hS : va_S A s.heap s.heap [] := va_S.rf
  obtain ⟨Q, hQ⟩ : ∃ Q, Q = MQ below (va_Qi (fun (r9 : Int32) (u9 : PV × Int32) => (r9, u9) = fX6_keep PN PS) (fun u9 t => va_P (dC, dI) vwCl ((fun (v9 : PV × Int32) => fW cI cP a0 aN aT aS t0 t1 t2 h0 h1 pa PN PT v9.1 f u Ps oh vh v9.2) u9) t.heap) (adr (fW cI cP a0 aN aT aS t0 t1 t2 h0 h1 pa PN PT PS f u Ps oh vh k))) args s 0 0 (adr (fW cI cP a0 aN aT aS t0 t1 t2 h0 h1 pa PN PT PS f u Ps oh vh k)) := ⟨_, rfl⟩
  rw [← hQ]
  rw [← hA] at hQ
  have hl := lv_entry ([.ref a0]) (n := 1) (Nat.le_of_ble_eq_true rfl)
  rw [ha, lg_entry_eq, ← ha]
  generalize (lg_sl ([.ref a0]) ++ List.replicate (1 - (lg_sl ([.ref a0])).length) Slot.unset).toArray = ls at hl ⊢
  have hl : lv_has ls 1 [(0, .ref a0)] := hl
  show W p l e rmX6_keep s m args below meth c s.heap [] 0 0 Q (F0 m 0 ls [])
  have hF : fX6_keep PN PS = fX6_keep PN PS := rfl
  refine lv_aload_n hx hb dX6_keep_0 rfl (lv_at hl 0 rfl) ?_
  refine va_get (D := (dC, dI)) (ci := 4) (v := .ref (aS 0)) (C := RX6) (T := TX6) (N := 6) hx hb htX6 (fun _ h => h) hown hK (fl_at hP 0 rfl) 0 rfl rfl 2 (by decide) (hts _ u_145) (fun _ h9 => h9) rfl dX6_keep_1 ?_
  refine lv_aload_n hx hb dX6_keep_4 rfl (lv_at hl 0 rfl) ?_
  refine va_get (D := (dC, dI)) (ci := 4) (v := .ref (aN 0)) (C := RX6) (T := TX6) (N := 6) hx hb htX6 (fun _ h => h) hown hK (fl_at hP 0 rfl) 0 rfl rfl 0 (by decide) (hts _ u_143) (fun _ h9 => h9) rfl dX6_keep_5 ?_
  refine k_bmutv (wc := [pW cI aS PS, pW cI aN PN]) (W1 := (fun (v : PV) => [pW cI aS v, pW cI aN PN])) (va_runV (As := [.ref (aN 0)]) (rest := []) ⟨hx, hb, hml, hown, hts0⟩ (mX2_copyFrom l dC dI cI aS PS aN PN ) (cwV 1 hts0 (gi_V u_321 u_175 u_176 u_2 u_177) rfl rfl rfl (by decide +kernel) ⟨Nat.le_of_ble_eq_true rfl, Nat.le_of_ble_eq_true rfl⟩) (pcM_V (ci := 2) (q0 := 0) (fl_sub (wc := [pW cI aS PS, pW cI aN PN]) hP [3, 1] rfl) (hK.sub (tys' := [(cI, .int)]) [0] rfl) hn (fl_D (wc := [pW cI aS PS, pW cI aN PN]) hD [3, 1] (by decide) rfl) rfl rfl) rfl rfl hl.1 rfl (lv_room (Nat.le_of_ble_eq_true rfl)) dX6_keep_8 ⟨Nat.zero_le _, Nat.zero_le _⟩) hP hD hS [3, 1] (by decide) rfl (fun _ => rfl) (fun U8 H locs hU8 hP hD hS => ?_)
  have hP : va_P (dC, dI) vwCl (fW cI cP a0 aN aT aS t0 t1 t2 h0 h1 pa PN PT U8 f u Ps oh vh k) H := hP
  have hD : va_D A (fW cI cP a0 aN aT aS t0 t1 t2 h0 h1 pa PN PT U8 f u Ps oh vh k) := hD
  have hF := bd_at hF hU8
  refine lv_aload_n hx hb dX6_keep_11 rfl (lv_at hl 0 rfl) ?_
  refine lv_iconst (v := 1) hx hb dX6_keep_12 (by decide) ?_
  refine va_put (D := (dC, dI)) (ci := 4) (v := .int 1) (ty := .boolean) (C := RX6) (T := TX6) (N := 6) hx hb htX6 (fun _ h => h) tyX6 tyX6_ok nmX6 hown hK hP hD hS 0 rfl rfl 5 (by decide) (hts _ u_148) (fun _ h9 => h9) rfl (by decide +kernel) rfl rfl (Nat.le_of_ble_eq_true rfl) dX6_keep_13 (fun H locs hP hD hS => ?_)
  have hP : va_P (dC, dI) vwCl (fW cI cP a0 aN aT aS t0 t1 t2 h0 h1 pa PN PT U8 f u Ps oh vh 1) H := hP
  have hD : va_D A (fW cI cP a0 aN aT aS t0 t1 t2 h0 h1 pa PN PT U8 f u Ps oh vh 1) := hD
  refine lv_aload_n hx hb dX6_keep_16 rfl (lv_at hl 0 rfl) ?_
  refine va_get (D := (dC, dI)) (ci := 4) (v := .ref (aN 0)) (C := RX6) (T := TX6) (N := 6) hx hb htX6 (fun _ h => h) hown hK (fl_at hP 0 rfl) 0 rfl rfl 0 (by decide) (hts _ u_143) (fun _ h9 => h9) rfl dX6_keep_17 ?_
  refine va_getN (D := (dC, dI)) (ci := 2) (v := .ref (aN 11)) (C := RX2) (T := TX2) (N := 14) hx hb htX2 (fun _ h => h) hown hK (fl_at hP 1 rfl) 0 rfl rfl 9 (by decide) (va_Nw.use rfl (hn _ (List.mem_of_getElem? (i := 13) rfl))) (fun _ h9 => h9) rfl dX6_keep_20 ?_
  refine k_calli (W.runV (As := []) (rest := []) ⟨hx, hb, hml, hown, hts0⟩ (mX1_length l dC dI cI (aN 11) (aN 12) 16 (by decide) (PN 9) (PN 10 5) ) (cwV 0 hts0 (gi_V u_290 u_224 u_225 u_3 u_226) rfl rfl rfl (by decide +kernel) ⟨Nat.le_of_ble_eq_true rfl, Nat.le_of_ble_eq_true rfl⟩) (pcR_V (ci := 1) (q0 := 0) ((fl_at hP 1 rfl).sub (ws' := lW cI (aN 11) (aN 12) 16 (PN 9) (PN 10 5)) [11, 12] rfl) (hK.sub (tys' := [(cI, .int)]) [0] rfl) hn rfl rfl) rfl rfl hl.1 rfl (lv_room (Nat.le_of_ble_eq_true rfl)) dX6_keep_23 ⟨Nat.zero_le _, Nat.zero_le _⟩) ?_
  rw [hQ]
  exact W.iret (v := (fX1_length 16 (PN 9) (PN 10 5))) hx hb hr (fun t ht hW => ⟨⟨(fX1_length 16 (PN 9) (PN 10 5)), (U8, 1), rfl, hF.symm, toH ht hP⟩, hS.F ht⟩) hS.2.2 dX6_keep_26
