def fX6_set (PN : PV) (Ps : Nat → PV) (oh : Nat) (vh : Nat) (a : Int32) (b : Int32) : Nat ⊕ (Int32 × (PV × (Nat → PV) × Nat × Nat)) :=
  (if a < 0 then (Sum.inl 2) else (if a < 4 then (if b < (fX3_at 4 fLV a) then (Sum.inl 0) else (if b ≤ (fX3_at 4 fGV a) then (bd (fX0_save Ps oh vh PN) (fun U59 => (bd (fX3_put 4 (PN 7) a b) (fun U83 => (Sum.inr ((fX3_at 4 (PN 7) a), ((rset PN 7 U83), U59.1, U59.2.1, U59.2.2))))))) else (Sum.inl 0))) else (Sum.inl 2)))
abbrev rmX6_set : Room := { frames := 4, cells := 0, slots := 0, locals := 104 }
set_option maxHeartbeats 4000000 in
set_option maxRecDepth 100000 in
theorem mX6_set (l : Launch) (dC : Nat → ClassId) (dI : Nat → Nat → Nat) (cI cP : ClassId) (a0 : Nat) (aN aT aS : Nat → Nat) (t0 t1 t2 h0 h1 : Nat) (pa : Nat → Nat → Nat) (PN PT PS : PV) (f : Nat → Int32) (u : Int32) (Ps : Nat → PV) (oh vh : Nat) (k : Int32) (a : Int32) (b : Int32) (qL qG : Nat) (ho6 : oh < 6) (hv6 : vh ≤ 6) (hok : isOk (fX6_set PN Ps oh vh a b) = true) : Met l yX6_set (ws_ yX6_set cX6_set 4 (some .int)) rmX6_set (pcZ (dC, dI) [(cI, .int), (cP, .object "SupperSeats$Plan")] (fW cI cP a0 aN aT aS t0 t1 t2 h0 h1 pa PN PT PS f u Ps oh vh k) [.ref a0, .int a, .int b] cI qL qG) (va_Qi (fun (r9 : Int32) (u9 : PV × (Nat → PV) × Nat × Nat) => (r9, u9) = okp (fX6_set PN Ps oh vh a b)) (fun u9 t => va_P (dC, dI) vwCl ((fun (v9 : PV × (Nat → PV) × Nat × Nat) => fW cI cP a0 aN aT aS t0 t1 t2 h0 h1 pa v9.1 PT PS f u v9.2.1 v9.2.2.1 v9.2.2.2 k) u9) t.heap) (adr (fW cI cP a0 aN aT aS t0 t1 t2 h0 h1 pa PN PT PS f u Ps oh vh k))) 0 0 (adr (fW cI cP a0 aN aT aS t0 t1 t2 h0 h1 pa PN PT PS f u Ps oh vh k)) := by
  refine Met.ofW (cc := cX6_set) (maxL := 4) (ret := (some .int)) (by decide) rfl ?_
  intro p e s m args below meth c s₁ B hml hv
  obtain ⟨ha, hP, hK, hn, hD0, hT⟩ := hv
  have hx := B.exec
  have hb := B.bytes
  have hr := B.returns
  have hts0 := atoms_spec (ws := (ws_ yX6_set cX6_set 4 (some .int))) B.pre
  have hts : ∀ w ∈ lw_all, w.before args s = true := fun w h => hts0 w (List.mem_cons_of_mem _ h)
  have hown : s.vm.findClass RX6 = some m.cls := findClass_of_methodNamed B.named
  have hlocks := B.notSynchronized
  have htX6 : ∀ w ∈ wsX60, w.before args s = true := fun w h => hts w (wX6 w h)
  have htX2 : ∀ w ∈ wsX20, w.before args s = true := fun w h => hts w (wX2 w h)
  have hD := adr_self hD0
  obtain ⟨A, hA⟩ : ∃ A, A = adr (fW cI cP a0 aN aT aS t0 t1 t2 h0 h1 pa PN PT PS f u Ps oh vh k) := ⟨_, rfl⟩
  rw [← hA] at hD hT
  have hS : va_S A s.heap s.heap [] := va_S.rf
  obtain ⟨Q, hQ⟩ : ∃ Q, Q = MQ below (va_Qi (fun (r9 : Int32) (u9 : PV × (Nat → PV) × Nat × Nat) => (r9, u9) = okp (fX6_set PN Ps oh vh a b)) (fun u9 t => va_P (dC, dI) vwCl ((fun (v9 : PV × (Nat → PV) × Nat × Nat) => fW cI cP a0 aN aT aS t0 t1 t2 h0 h1 pa v9.1 PT PS f u v9.2.1 v9.2.2.1 v9.2.2.2 k) u9) t.heap) (adr (fW cI cP a0 aN aT aS t0 t1 t2 h0 h1 pa PN PT PS f u Ps oh vh k))) args s 0 0 (adr (fW cI cP a0 aN aT aS t0 t1 t2 h0 h1 pa PN PT PS f u Ps oh vh k)) := ⟨_, rfl⟩
  rw [← hQ]
  rw [← hA] at hQ
  have hl := lv_entry ([.ref a0, .int a, .int b]) (n := 4) (Nat.le_of_ble_eq_true rfl)
  rw [ha, lg_entry_eq, ← ha]
  generalize (lg_sl ([.ref a0, .int a, .int b]) ++ List.replicate (4 - (lg_sl ([.ref a0, .int a, .int b])).length) Slot.unset).toArray = ls at hl ⊢
  have hl : lv_has ls 4 [(0, .ref a0), (1, .int a), (2, .int b)] := hl
  show W p l e rmX6_set s m args below meth c s.heap [] 0 0 Q (F0 m 0 ls [])
  have hF : fX6_set PN Ps oh vh a b = fX6_set PN Ps oh vh a b := rfl
  refine lv_iload_n hx hb dX6_set_0 rfl (lv_at hl 1 rfl) ?_
  refine lv_if_lt (tgt := 9) hx hb dX6_set_1 (by decide) (fun c_1 => ?_) (fun c_1 => ?_)
  · have hF := hF.trans (if_pos c_1)
    exact (k_no hF hok).elim
  have hF := hF.trans (if_neg c_1)
  refine lv_iload_n hx hb dX6_set_4 rfl (lv_at hl 1 rfl) ?_
  refine lv_iconst (v := 4) hx hb dX6_set_5 (by decide) ?_
  refine lv_icmp_lt (tgt := 19) hx hb dX6_set_6 (by decide) (fun c_6 => ?_) (fun c_6 => ?_)
  · have hF := hF.trans (if_pos c_6)
    refine lv_iload_n hx hb dX6_set_19 rfl (lv_at hl 2 rfl) ?_
    refine va_gets (C := RX6) (n := "LEAST_VALUES") (d := "[I") (v := .ref qL) hx hb hT.1 hS hown (hts _ u_533) (fun _ h9 => h9) dX6_set_20 ?_
    refine lv_iload_n hx hb dX6_set_23 rfl (lv_at hl 1 rfl) ?_
    refine k_calli (W.runS (As := [.ref qL, .int a]) (rest := [.int b]) ⟨hx, hb, hml, hown, hts0⟩ (mX3_atT l qL 4 (by decide) fLV a) (va_cwS 2 hts0 (gi_S u_345 u_303 u_7 u_304) rfl rfl rfl (by decide +kernel) ⟨Nat.le_of_ble_eq_true rfl, Nat.le_of_ble_eq_true rfl⟩) (pcT_S hT.2.2.1 hn hS) rfl rfl hl.1 rfl (lv_room (Nat.le_of_ble_eq_true rfl)) dX6_set_24 ⟨Nat.le_of_ble_eq_true rfl, Nat.le_of_ble_eq_true rfl⟩) ?_
    refine lv_icmp_lt (tgt := 41) hx hb dX6_set_27 (by decide) (fun c_27 => ?_) (fun c_27 => ?_)
    · have hF := hF.trans (if_pos c_27)
      exact (k_no hF hok).elim
    have hF := hF.trans (if_neg c_27)
    refine lv_iload_n hx hb dX6_set_30 rfl (lv_at hl 2 rfl) ?_
    refine va_gets (C := RX6) (n := "GREATEST_VALUES") (d := "[I") (v := .ref qG) hx hb hT.2.1 hS hown (hts _ u_535) (fun _ h9 => h9) dX6_set_31 ?_
    refine lv_iload_n hx hb dX6_set_34 rfl (lv_at hl 1 rfl) ?_
    refine k_calli (W.runS (As := [.ref qG, .int a]) (rest := [.int b]) ⟨hx, hb, hml, hown, hts0⟩ (mX3_atT l qG 4 (by decide) fGV a) (va_cwS 2 hts0 (gi_S u_345 u_303 u_7 u_304) rfl rfl rfl (by decide +kernel) ⟨Nat.le_of_ble_eq_true rfl, Nat.le_of_ble_eq_true rfl⟩) (pcT_S hT.2.2.2.1 hn hS) rfl rfl hl.1 rfl (lv_room (Nat.le_of_ble_eq_true rfl)) dX6_set_35 ⟨Nat.le_of_ble_eq_true rfl, Nat.le_of_ble_eq_true rfl⟩) ?_
    refine lv_icmp_le (tgt := 51) hx hb dX6_set_38 (by decide) (fun c_38 => ?_) (fun c_38 => ?_)
    · have hF := hF.trans (if_pos c_38)
      refine lv_aload_n hx hb dX6_set_51 rfl (lv_at hl 0 rfl) ?_
      refine va_get (D := (dC, dI)) (ci := 4) (v := .ref h0) (C := RX6) (T := TX6) (N := 6) hx hb htX6 (fun _ h => h) hown hK (fl_at hP 0 rfl) 0 rfl rfl 3 (by decide) (hts _ u_144) (fun _ h9 => h9) rfl dX6_set_52 ?_
      refine lv_aload_n hx hb dX6_set_55 rfl (lv_at hl 0 rfl) ?_
      refine va_get (D := (dC, dI)) (ci := 4) (v := .ref (aN 0)) (C := RX6) (T := TX6) (N := 6) hx hb htX6 (fun _ h => h) hown hK (fl_at hP 0 rfl) 0 rfl rfl 0 (by decide) (hts _ u_141) (fun _ h9 => h9) rfl dX6_set_56 ?_
      refine k_bmutv (wc := [hW cI cP h0 h1 pa Ps (nI oh) (nI vh), pW cI aN PN]) (W1 := (fun (v : (Nat → PV) × Nat × Nat) => [hW cI cP h0 h1 pa v.1 (nI v.2.1) (nI v.2.2), pW cI aN PN])) (va_runV (As := [.ref (aN 0)]) (rest := []) ⟨hx, hb, hml, hown, hts0⟩ (mX0_save l dC dI cI cP h0 h1 pa Ps oh vh aN PN  (by first | omega | assumption) (by first | omega | assumption)) (cwV 1 hts0 (gi_V u_451 u_452 u_453 u_5 u_454) rfl rfl rfl (by decide +kernel) ⟨Nat.le_of_ble_eq_true rfl, Nat.le_of_ble_eq_true rfl⟩) (pcM_V (ci := 0) (q0 := 0) (fl_sub (wc := [hW cI cP h0 h1 pa Ps (nI oh) (nI vh), pW cI aN PN]) hP [5, 1] rfl) hK hn (fl_D (wc := [hW cI cP h0 h1 pa Ps (nI oh) (nI vh), pW cI aN PN]) hD [5, 1] (by decide) rfl) rfl rfl) rfl rfl hl.1 rfl (lv_room (Nat.le_of_ble_eq_true rfl)) dX6_set_59 ⟨Nat.zero_le _, Nat.zero_le _⟩) hP hD hS [5, 1] (by decide) rfl (fun _ => rfl) (fun U59 H locs hU59 hP hD hS => ?_)
      have hP : va_P (dC, dI) vwCl (fW cI cP a0 aN aT aS t0 t1 t2 h0 h1 pa PN PT PS f u U59.1 U59.2.1 U59.2.2 k) H := hP
      have hD : va_D A (fW cI cP a0 aN aT aS t0 t1 t2 h0 h1 pa PN PT PS f u U59.1 U59.2.1 U59.2.2 k) := hD
      have hF := bd_at hF hU59
      refine lv_aload_n hx hb dX6_set_62 rfl (lv_at hl 0 rfl) ?_
      refine va_get (D := (dC, dI)) (ci := 4) (v := .ref (aN 0)) (C := RX6) (T := TX6) (N := 6) hx hb htX6 (fun _ h => h) hown hK (fl_at hP 0 rfl) 0 rfl rfl 0 (by decide) (hts _ u_141) (fun _ h9 => h9) rfl dX6_set_63 ?_
      refine va_getN (D := (dC, dI)) (ci := 2) (v := .ref (aN 8)) (C := RX2) (T := TX2) (N := 14) hx hb htX2 (fun _ h => h) hown hK (fl_at hP 1 rfl) 0 rfl rfl 7 (by decide) (va_Nw.use rfl (hn _ (List.mem_of_getElem? (i := 10) rfl))) (fun _ h9 => h9) rfl dX6_set_66 ?_
      refine lv_iload_n hx hb dX6_set_69 rfl (lv_at hl 1 rfl) ?_
      refine k_calli (W.runS (As := [.ref (aN 8), .int a]) (rest := []) ⟨hx, hb, hml, hown, hts0⟩ (mX3_at l dC dI cI (aN 8) 4 (by decide) (PN 7) a) (va_cwS 2 hts0 (gi_S u_345 u_303 u_7 u_304) rfl rfl rfl (by decide +kernel) ⟨Nat.le_of_ble_eq_true rfl, Nat.le_of_ble_eq_true rfl⟩) (pcR_S ((fl_at hP 1 rfl).sub (ws' := aW cI (aN 8) 4 (PN 7)) [8] rfl) (hK.sub (tys' := [(cI, .int)]) [0] rfl) hn) rfl rfl hl.1 rfl (lv_room (Nat.le_of_ble_eq_true rfl)) dX6_set_70 ⟨Nat.zero_le _, Nat.zero_le _⟩) ?_
      refine lv_istore_n (lv' := [(3, .int (fX3_at 4 (PN 7) a)), (0, .ref a0), (1, .int a), (2, .int b)]) hx hb dX6_set_73 rfl hl (by decide) rfl (fun ls hl => ?_)
      refine lv_aload_n hx hb dX6_set_74 rfl (lv_at hl 1 rfl) ?_
      refine va_get (D := (dC, dI)) (ci := 4) (v := .ref (aN 0)) (C := RX6) (T := TX6) (N := 6) hx hb htX6 (fun _ h => h) hown hK (fl_at hP 0 rfl) 0 rfl rfl 0 (by decide) (hts _ u_141) (fun _ h9 => h9) rfl dX6_set_75 ?_
      refine va_getN (D := (dC, dI)) (ci := 2) (v := .ref (aN 8)) (C := RX2) (T := TX2) (N := 14) hx hb htX2 (fun _ h => h) hown hK (fl_at hP 1 rfl) 0 rfl rfl 7 (by decide) (va_Nw.use rfl (hn _ (List.mem_of_getElem? (i := 10) rfl))) (fun _ h9 => h9) rfl dX6_set_78 ?_
      refine lv_iload_n hx hb dX6_set_81 rfl (lv_at hl 2 rfl) ?_
      refine lv_iload_n hx hb dX6_set_82 rfl (lv_at hl 3 rfl) ?_
      refine k_smutv (Wd := (fun (v : Nat → Int32) => aW cI (aN 8) 4 v)) (va_runS (As := [.ref (aN 8), .int a, .int b]) (rest := []) ⟨hx, hb, hml, hown, hts0⟩ (mX3_put l dC dI cI (aN 8) 4 (by decide) (PN 7) a b) (va_cwS 3 hts0 (gi_S u_538 u_460 u_7 u_461) rfl rfl rfl (by decide +kernel) ⟨Nat.le_of_ble_eq_true rfl, Nat.le_of_ble_eq_true rfl⟩) (pcM_S ((fl_at hP 1 rfl).sub (ws' := aW cI (aN 8) 4 (PN 7)) [8] rfl) (hK.sub (tys' := [(cI, .int)]) [0] rfl) hn ((fl_D1 hD 1 rfl).sub (ws' := aW cI (aN 8) 4 (PN 7)) [8] (by decide) rfl)) rfl rfl hl.1 rfl (lv_room (Nat.le_of_ble_eq_true rfl)) dX6_set_83 ⟨Nat.zero_le _, Nat.zero_le _⟩) hP hD hS 1 rfl [8] rfl rfl (fun _ => rfl) (fun U83 H locs hU83 hP hD hS => ?_)
      have hP : va_P (dC, dI) vwCl (fW cI cP a0 aN aT aS t0 t1 t2 h0 h1 pa (rset PN 7 U83) PT PS f u U59.1 U59.2.1 U59.2.2 k) H := hP
      have hD : va_D A (fW cI cP a0 aN aT aS t0 t1 t2 h0 h1 pa (rset PN 7 U83) PT PS f u U59.1 U59.2.1 U59.2.2 k) := hD
      have hF := bd_at hF hU83
      refine lv_iload_n hx hb dX6_set_86 rfl (lv_at hl 0 rfl) ?_
      rw [hQ]
      exact W.iret (v := (fX3_at 4 (PN 7) a)) hx hb hr (fun t ht hW => ⟨⟨(fX3_at 4 (PN 7) a), ((rset PN 7 U83), U59.1, U59.2.1, U59.2.2), rfl, k_okp hF, toH ht hP⟩, hS.F ht⟩) hS.2.2 dX6_set_87
    have hF := hF.trans (if_neg c_38)
    exact (k_no hF hok).elim
  have hF := hF.trans (if_neg c_6)
  exact (k_no hF hok).elim
