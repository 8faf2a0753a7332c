/-! what is told ahead comes true. Mine (rows laid by program). -/
abbrev rmL_isAhead : Room := { frames := 8, cells := 0, slots := 0, locals := 196 }
set_option maxHeartbeats 4000000 in
set_option maxRecDepth 100000 in
theorem mL_isAhead (l : Launch) (dC : Nat → ClassId) (dI : Nat → Nat → Nat) (cI cP : ClassId) (a0 : Nat) (aN aT aS : Nat → Nat) (t0 t1 t2 h0 h1 : Nat) (pa : Nat → Nat → Nat) (PN PT PS : PV) (f : Nat → Int32) (u : Int32) (Ps : Nat → PV) (oh vh : Nat) (k : Int32) (g9 : Nat) (xa : Int32) (f9 : Nat → Int32) (G T : Nat) (L : List Nat) (hR : REL PN f9 0 G T L) (hX : XI f9 G L) (hg9 : g9 < G) (ho6 : oh < 6) (hv6 : vh ≤ 6) : Met l yL_isAhead (ws_ yL_isAhead cL_isAhead 14 (some .boolean)) rmL_isAhead (pcM (dC, dI) [(cI, .int), (cP, .object "SupperSeats$Plan")] (fW cI cP a0 aN aT aS t0 t1 t2 h0 h1 pa PN PT PS f u Ps oh vh k) [.ref a0, .int (nI g9), .int xa]) (va_Qi (fun (r9 : Int32) (u9 : PV × (Nat → PV) × Nat × Nat) => r9 = 1 ∧ u9.2.2.1 < 6 ∧ u9.2.2.2 ≤ 6) (fun u9 t => va_P (dC, dI) vwCl (fW cI cP a0 aN aT aS t0 t1 t2 h0 h1 pa PN u9.1 PS f u u9.2.1 u9.2.2.1 u9.2.2.2 k) t.heap) (adr (fW cI cP a0 aN aT aS t0 t1 t2 h0 h1 pa PN PT PS f u Ps oh vh k))) 0 0 (adr (fW cI cP a0 aN aT aS t0 t1 t2 h0 h1 pa PN PT PS f u Ps oh vh k)) := by
  refine Met.ofW (cc := cL_isAhead) (maxL := 14) (ret := (some .boolean)) (by decide) rfl ?_
  intro p e s m args below meth c s₁ B hml hv
  obtain ⟨ha, hP, hK, hn, hD0⟩ := hv
  have hx := B.exec
  have hb := B.bytes
  have hr := B.returns
  have hts0 := atoms_spec (ws := (ws_ yL_isAhead cL_isAhead 14 (some .boolean))) B.pre
  have hts : ∀ w ∈ lw_all, w.before args s = true := fun w h => hts0 w (List.mem_cons_of_mem _ h)
  have hown : s.vm.findClass RL = some m.cls := findClass_of_methodNamed B.named
  have hlocks := B.notSynchronized
  have hD := adr_self hD0
  obtain ⟨A, hA⟩ : ∃ A, A = adr (fW cI cP a0 aN aT aS t0 t1 t2 h0 h1 pa PN PT PS f u Ps oh vh k) := ⟨_, rfl⟩
  rw [← hA] at hD
  have hS : va_S A s.heap s.heap [] := va_S.rf
  obtain ⟨Q, hQ⟩ : ∃ Q, Q = MQ below (va_Qi (fun (r9 : Int32) (u9 : PV × (Nat → PV) × Nat × Nat) => r9 = 1 ∧ u9.2.2.1 < 6 ∧ u9.2.2.2 ≤ 6) (fun u9 t => va_P (dC, dI) vwCl (fW cI cP a0 aN aT aS t0 t1 t2 h0 h1 pa PN u9.1 PS f u u9.2.1 u9.2.2.1 u9.2.2.2 k) t.heap) (adr (fW cI cP a0 aN aT aS t0 t1 t2 h0 h1 pa PN PT PS f u Ps oh vh k))) args s 0 0 (adr (fW cI cP a0 aN aT aS t0 t1 t2 h0 h1 pa PN PT PS f u Ps oh vh k)) := ⟨_, rfl⟩
  rw [← hQ]
  rw [← hA] at hQ
  have hl := lv_entry ([.ref a0, .int (nI g9), .int xa]) (n := 14) (Nat.le_of_ble_eq_true rfl)
  rw [ha, lg_entry_eq, ← ha]
  generalize (lg_sl ([.ref a0, .int (nI g9), .int xa]) ++ List.replicate (14 - (lg_sl ([.ref a0, .int (nI g9), .int xa])).length) Slot.unset).toArray = ls at hl ⊢
  have hl : lv_has ls 14 [(0, .ref a0), (1, .int (nI g9)), (2, .int xa)] := hl
  show W p l e rmL_isAhead s m args below meth c s.heap [] 0 0 Q (F0 m 0 ls [])
  have hG16 := hR.wf.G16
  have K569 : ∀ (Ps : Nat → PV) (oh vh : Nat), oh < 6 → vh ≤ 6 → ∀ (H : Heap) (locs : List Loc), va_P (dC, dI) vwCl (fW cI cP a0 aN aT aS t0 t1 t2 h0 h1 pa PN PT PS f u Ps oh vh k) H → va_D A (fW cI cP a0 aN aT aS t0 t1 t2 h0 h1 pa PN PT PS f u Ps oh vh k) → va_S A s.heap H locs → ∀ (ls : Array Slot), lv_has ls 14 [(7, .int 1), (3, .long (fL_looks PN)), (0, .ref a0), (1, .int (nI g9)), (2, .int xa)] → W p l e rmL_isAhead s m args below meth c H locs 0 0 Q (F0 m 569 ls []) := by
    intro Ps oh vh ho6 hv6 H locs hP hD hS ls hl
    refine lv_aload_n hx hb dL_isAhead_569 rfl (lv_at hl 2 rfl) ?_
    refine lv_iconst (v := 0) hx hb dL_isAhead_570 (by decide) ?_
    obtain ⟨T1, eT1⟩ : ∃ y, y = (fX2_seatStanding (fX2_copyFrom PT PN)).2 := ⟨_, rfl⟩
    have e_571 : (fX6_ifSeated PN PT 0) = Sum.inr ((fX2_seatStanding PN).1, T1) := (by rw [eT1, ← (all_same (copy_REL0 (P := PT) hR) hR).1]; exact seated_0)
    refine k_deed (W1 := (fun (v9 : PV) => fW cI cP a0 aN aT aS t0 t1 t2 h0 h1 pa PN v9 PS f u Ps oh vh k)) (r0 := (fX2_seatStanding PN).1) (u0 := T1) e_571 (va_runV (As := [.int 0]) (rest := []) ⟨hx, hb, hml, hown, hts0⟩ (mX6_ifSeated l dC dI cI cP a0 aN aT aS t0 t1 t2 h0 h1 pa PN PT PS f u Ps oh vh k 0 (ok_inr e_571)) (cwV 1 hts0 (gi_V u_680 u_681 u_682 u_1 u_683) rfl rfl rfl (by decide +kernel) ⟨Nat.le_of_ble_eq_true rfl, Nat.le_of_ble_eq_true rfl⟩) (pcM_V (ci := 4) (q0 := 0) hP hK hn hD rfl rfl) rfl rfl hl.1 rfl (lv_room (Nat.le_of_ble_eq_true rfl)) dL_isAhead_571 ⟨Nat.zero_le _, Nat.zero_le _⟩) hP hD hS rfl (fun H locs hP hD hS => ?_)
    have hP : va_P (dC, dI) vwCl (fW cI cP a0 aN aT aS t0 t1 t2 h0 h1 pa PN T1 PS f u Ps oh vh k) H := hP
    have hD : va_D A (fW cI cP a0 aN aT aS t0 t1 t2 h0 h1 pa PN T1 PS f u Ps oh vh k) := hD
    refine lv_istore (lv' := [(12, .int ((fX2_seatStanding PN).1)), (7, .int 1), (3, .long (fL_looks PN)), (0, .ref a0), (1, .int (nI g9)), (2, .int xa)]) hx hb dL_isAhead_574 hl (by decide) rfl (fun ls hl => ?_)
    refine lv_aload_n hx hb dL_isAhead_576 rfl (lv_at hl 3 rfl) ?_
    refine lv_iconst (v := 1) hx hb dL_isAhead_577 (by decide) ?_
    obtain ⟨T2, eT2⟩ : ∃ y, y = (fX2_seatStanding (fX2_copyFrom T1 PN)).2 := ⟨_, rfl⟩
    have e_578 : (fX6_ifSeated PN T1 1) = Sum.inr ((fX4_byGuests (fX2_seatStanding PN).2 + 1000), T2) := (by rw [eT2, ← (all_same (copy_REL0 (P := T1) hR) hR).2]; exact seated_1)
    refine k_deed (W1 := (fun (v9 : PV) => fW cI cP a0 aN aT aS t0 t1 t2 h0 h1 pa PN v9 PS f u Ps oh vh k)) (r0 := (fX4_byGuests (fX2_seatStanding PN).2 + 1000)) (u0 := T2) e_578 (va_runV (As := [.int 1]) (rest := []) ⟨hx, hb, hml, hown, hts0⟩ (mX6_ifSeated l dC dI cI cP a0 aN aT aS t0 t1 t2 h0 h1 pa PN T1 PS f u Ps oh vh k 1 (ok_inr e_578)) (cwV 1 hts0 (gi_V u_680 u_681 u_682 u_1 u_683) rfl rfl rfl (by decide +kernel) ⟨Nat.le_of_ble_eq_true rfl, Nat.le_of_ble_eq_true rfl⟩) (pcM_V (ci := 4) (q0 := 0) hP hK hn hD rfl rfl) rfl rfl hl.1 rfl (lv_room (Nat.le_of_ble_eq_true rfl)) dL_isAhead_578 ⟨Nat.zero_le _, Nat.zero_le _⟩) hP hD hS rfl (fun H locs hP hD hS => ?_)
    have hP : va_P (dC, dI) vwCl (fW cI cP a0 aN aT aS t0 t1 t2 h0 h1 pa PN T2 PS f u Ps oh vh k) H := hP
    have hD : va_D A (fW cI cP a0 aN aT aS t0 t1 t2 h0 h1 pa PN T2 PS f u Ps oh vh k) := hD
    refine lv_istore (lv' := [(13, .int (fX4_byGuests (fX2_seatStanding PN).2 + 1000)), (12, .int ((fX2_seatStanding PN).1)), (7, .int 1), (3, .long (fL_looks PN)), (0, .ref a0), (1, .int (nI g9)), (2, .int xa)]) hx hb dL_isAhead_581 hl (by decide) rfl (fun ls hl => ?_)
    refine lv_iload hx hb dL_isAhead_583 (lv_at hl 2 rfl) ?_
    refine lv_if_eq (tgt := 647) hx hb dL_isAhead_585 (by decide) (fun c_585 => ?_) (fun c_585 => ?_)
    · exact absurd c_585 (by decide)
    refine lv_aload_n hx hb dL_isAhead_588 rfl (lv_at hl 4 rfl) ?_
    obtain ⟨P8, eP8⟩ : ∃ y, y = (fX2_seatStanding PN).2 := ⟨_, rfl⟩
    obtain ⟨Q8, eQ8⟩ : ∃ y, y = (fX0_save Ps oh vh PN).1 := ⟨_, rfl⟩
    obtain ⟨o8, eo8⟩ : ∃ y, y = (fX0_save Ps oh vh PN).2.1 := ⟨_, rfl⟩
    obtain ⟨v8, ev8⟩ : ∃ y, y = (fX0_save Ps oh vh PN).2.2 := ⟨_, rfl⟩
    obtain ⟨ho8, hv8, hve8, hvp8, hQ8⟩ := save_ok (PN := PN) (Ps := Ps) (o := oh) (v := vh) ho6 hv6
    rw [← eo8] at ho8
    rw [← ev8] at hv8 hve8 hvp8
    rw [← eQ8, ← eo8, ← ev8] at hQ8
    have e_589 : (fX6_seatAll PN Ps oh vh) = ((fX2_seatStanding PN).1, (P8, Q8, o8, v8)) := (by rw [eP8, eQ8, eo8, ev8]; exact (D_all (Ps := Ps) (o := oh) (v := vh) hR hX).1)
    refine k_deed2 (W1 := (fun (v9 : PV × (Nat → PV) × Nat × Nat) => fW cI cP a0 aN aT aS t0 t1 t2 h0 h1 pa v9.1 T2 PS f u v9.2.1 v9.2.2.1 v9.2.2.2 k)) (r0 := (fX2_seatStanding PN).1) (u0 := (P8, Q8, o8, v8)) e_589 (va_runV (As := []) (rest := []) ⟨hx, hb, hml, hown, hts0⟩ (mX6_seatAll l dC dI cI cP a0 aN aT aS t0 t1 t2 h0 h1 pa PN T2 PS f u Ps oh vh k  ho6 hv6) (cwV 0 hts0 (gi_V u_475 u_476 u_477 u_1 u_478) rfl rfl rfl (by decide +kernel) ⟨Nat.le_of_ble_eq_true rfl, Nat.le_of_ble_eq_true rfl⟩) (pcM_V (ci := 4) (q0 := 0) hP hK hn hD rfl rfl) rfl rfl hl.1 rfl (lv_room (Nat.le_of_ble_eq_true rfl)) dL_isAhead_589 ⟨Nat.zero_le _, Nat.zero_le _⟩) hP hD hS rfl (fun H locs hP hD hS => ?_)
    have hP : va_P (dC, dI) vwCl (fW cI cP a0 aN aT aS t0 t1 t2 h0 h1 pa P8 T2 PS f u Q8 o8 v8 k) H := hP
    have hD : va_D A (fW cI cP a0 aN aT aS t0 t1 t2 h0 h1 pa P8 T2 PS f u Q8 o8 v8 k) := hD
    refine lv_iload hx hb dL_isAhead_592 (lv_at hl 1 rfl) ?_
    refine lv_icmp_ne (tgt := 647) hx hb dL_isAhead_594 (by decide) (fun c_594 => ?_) (fun c_594 => ?_)
    · exact absurd rfl c_594
    refine lv_aload_n hx hb dL_isAhead_597 rfl (lv_at hl 4 rfl) ?_
    refine lv_iconst (v := 4) hx hb dL_isAhead_598 (by decide) ?_
    have e_599 : (fX6_count P8 Q8 o8 v8 4) = Sum.inr ((fX4_byGuests P8), ()) := count_4
    refine k_calli (W.runV (As := [.int 4]) (rest := []) ⟨hx, hb, hml, hown, hts0⟩ (mX6_count l dC dI cI cP a0 aN aT aS t0 t1 t2 h0 h1 pa P8 T2 PS f u Q8 o8 v8 k 4 (ok_inr e_599)) (cwV 1 hts0 (gi_V u_268 u_269 u_270 u_1 u_271) rfl rfl rfl (by decide +kernel) ⟨Nat.le_of_ble_eq_true rfl, Nat.le_of_ble_eq_true rfl⟩) (pcR_V (ci := 4) (q0 := 0) hP hK hn rfl rfl) rfl rfl hl.1 rfl (lv_room (Nat.le_of_ble_eq_true rfl)) dL_isAhead_599 ⟨Nat.zero_le _, Nat.zero_le _⟩) ?_
    refine lv_tope (y := (fX4_byGuests P8)) (ok1_inr e_599) ?_
    refine lv_iload hx hb dL_isAhead_602 (lv_at hl 0 rfl) ?_
    refine lv_sipush (v := 1000) hx hb dL_isAhead_604 (by decide) ?_
    refine lv_isub hx hb dL_isAhead_607 ?_
    refine lv_icmp_ne (tgt := 647) hx hb dL_isAhead_608 (by decide) (fun c_608 => ?_) (fun c_608 => ?_)
    · exact absurd (by rw [eP8, Int32.add_sub_cancel]) c_608
    refine lv_aload_n hx hb dL_isAhead_611 rfl (lv_at hl 4 rfl) ?_
    refine lv_iconst (v := 0) hx hb dL_isAhead_612 (by decide) ?_
    have e_613 : (fX6_count P8 Q8 o8 v8 0) = Sum.inr ((P8 10 0), ()) := count_0
    refine k_calli (W.runV (As := [.int 0]) (rest := []) ⟨hx, hb, hml, hown, hts0⟩ (mX6_count l dC dI cI cP a0 aN aT aS t0 t1 t2 h0 h1 pa P8 T2 PS f u Q8 o8 v8 k 0 (ok_inr e_613)) (cwV 1 hts0 (gi_V u_268 u_269 u_270 u_1 u_271) rfl rfl rfl (by decide +kernel) ⟨Nat.le_of_ble_eq_true rfl, Nat.le_of_ble_eq_true rfl⟩) (pcR_V (ci := 4) (q0 := 0) hP hK hn rfl rfl) rfl rfl hl.1 rfl (lv_room (Nat.le_of_ble_eq_true rfl)) dL_isAhead_613 ⟨Nat.zero_le _, Nat.zero_le _⟩) ?_
    refine lv_tope (y := (P8 10 0)) (ok1_inr e_613) ?_
    refine lv_aload_n hx hb dL_isAhead_616 rfl (lv_at hl 4 rfl) ?_
    refine lv_iconst (v := 3) hx hb dL_isAhead_617 (by decide) ?_
    have e_618 : (fX6_count P8 Q8 o8 v8 3) = Sum.inr ((P8 10 5), ()) := count_3
    refine k_calli (W.runV (As := [.int 3]) (rest := [.int (P8 10 0)]) ⟨hx, hb, hml, hown, hts0⟩ (mX6_count l dC dI cI cP a0 aN aT aS t0 t1 t2 h0 h1 pa P8 T2 PS f u Q8 o8 v8 k 3 (ok_inr e_618)) (cwV 1 hts0 (gi_V u_268 u_269 u_270 u_1 u_271) rfl rfl rfl (by decide +kernel) ⟨Nat.le_of_ble_eq_true rfl, Nat.le_of_ble_eq_true rfl⟩) (pcR_V (ci := 4) (q0 := 0) hP hK hn rfl rfl) rfl rfl hl.1 rfl (lv_room (Nat.le_of_ble_eq_true rfl)) dL_isAhead_618 ⟨Nat.zero_le _, Nat.zero_le _⟩) ?_
    refine lv_tope (y := (P8 10 5)) (ok1_inr e_618) ?_
    refine lv_isub hx hb dL_isAhead_621 ?_
    refine lv_iload hx hb dL_isAhead_622 (lv_at hl 1 rfl) ?_
    refine lv_icmp_ne (tgt := 647) hx hb dL_isAhead_624 (by decide) (fun c_624 => ?_) (fun c_624 => ?_)
    · exact absurd (by rw [eP8]; exact all_left hR hX) c_624
    refine lv_aload_n hx hb dL_isAhead_627 rfl (lv_at hl 4 rfl) ?_
    obtain ⟨B8, eB8⟩ : ∃ y, y = fX2_copyFrom P8 (Q8 ((o8 + (v8 - 1)) % 6)) := ⟨_, rfl⟩
    have e_628 : (fX6_undo P8 Q8 o8 v8) = Sum.inr ((nI (v8 - 1)), (B8, v8 - 1)) := (by rw [eB8]; exact undo_is hvp8 hv8)
    refine k_deed (W1 := (fun (v9 : PV × Nat) => fW cI cP a0 aN aT aS t0 t1 t2 h0 h1 pa v9.1 T2 PS f u Q8 o8 v9.2 k)) (r0 := (nI (v8 - 1))) (u0 := (B8, v8 - 1)) e_628 (va_runV (As := []) (rest := []) ⟨hx, hb, hml, hown, hts0⟩ (mX6_undo l dC dI cI cP a0 aN aT aS t0 t1 t2 h0 h1 pa P8 T2 PS f u Q8 o8 v8 k  ho8 hv8 (ok_inr e_628)) (cwV 0 hts0 (gi_V u_160 u_161 u_162 u_1 u_163) rfl rfl rfl (by decide +kernel) ⟨Nat.le_of_ble_eq_true rfl, Nat.le_of_ble_eq_true rfl⟩) (pcM_V (ci := 4) (q0 := 0) hP hK hn hD rfl rfl) rfl rfl hl.1 rfl (lv_room (Nat.le_of_ble_eq_true rfl)) dL_isAhead_628 ⟨Nat.zero_le _, Nat.zero_le _⟩) hP hD hS rfl (fun H locs hP hD hS => ?_)
    have hP : va_P (dC, dI) vwCl (fW cI cP a0 aN aT aS t0 t1 t2 h0 h1 pa B8 T2 PS f u Q8 o8 (v8 - 1) k) H := hP
    have hD : va_D A (fW cI cP a0 aN aT aS t0 t1 t2 h0 h1 pa B8 T2 PS f u Q8 o8 (v8 - 1) k) := hD
    obtain ⟨hP, hD⟩ := fW_PE (by rw [eB8]; exact back_PE hR hQ8) hP hD
    have hP : va_P (dC, dI) vwCl (fW cI cP a0 aN aT aS t0 t1 t2 h0 h1 pa PN T2 PS f u Q8 o8 (v8 - 1) k) H := hP
    have hD : va_D A (fW cI cP a0 aN aT aS t0 t1 t2 h0 h1 pa PN T2 PS f u Q8 o8 (v8 - 1) k) := hD
    refine lv_if_lt (tgt := 647) hx hb dL_isAhead_631 (by decide) (fun c_631 => ?_) (fun c_631 => ?_)
    · exact absurd c_631 (nI_pos (by omega))
    refine lv_aload_n hx hb dL_isAhead_634 rfl (lv_at hl 4 rfl) ?_
    refine k_calll (W.runS (As := [.ref a0]) (rest := []) ⟨hx, hb, hml, hown, hts0⟩ (mL_looks l dC dI cI cP a0 aN aT aS t0 t1 t2 h0 h1 pa PN T2 PS f u Q8 o8 (v8 - 1) k  f9 G T L hR) (va_cwS 1 hts0 (gi_S u_354 u_355 u_0 u_356) rfl rfl rfl (by decide +kernel) ⟨Nat.le_of_ble_eq_true rfl, Nat.le_of_ble_eq_true rfl⟩) (pcR_S hP hK hn) rfl rfl hl.1 rfl (lv_room (Nat.le_of_ble_eq_true rfl)) dL_isAhead_635 ⟨Nat.zero_le _, Nat.zero_le _⟩) ?_
    refine lv_lload_n hx hb dL_isAhead_638 rfl (lv_at hl 3 rfl) ?_
    refine W.lcmp hx hb dL_isAhead_639 ?_
    refine lv_if_ne (tgt := 647) hx hb dL_isAhead_640 (by decide) (fun c_640 => ?_) (fun c_640 => ?_)
    · exact absurd (lg_same _) c_640
    refine lv_iconst (v := 1) hx hb dL_isAhead_643 (by decide) ?_
    refine lv_goto (tgt := 648) hx hb dL_isAhead_644 (by decide) ?_
    rw [hQ]
    exact W.zret (ty := .boolean) (v := 1) hx hb hr rfl (fun t ht hW => ⟨⟨1, (T2, Q8, o8, (v8 - 1)), rfl, ⟨rfl, ho8, (by show (v8 - 1) ≤ 6; omega)⟩, toH ht hP⟩, hS.F ht⟩) hS.2.2 dL_isAhead_648
  have K440 : ∀ (p9 q9 : Nat), p9 < 6 → q9 < 6 → p9 ≠ q9 → ∀ (Ps : Nat → PV) (oh vh : Nat), oh < 6 → vh ≤ 6 → ∀ (H : Heap) (locs : List Loc), va_P (dC, dI) vwCl (fW cI cP a0 aN aT aS t0 t1 t2 h0 h1 pa PN PT PS f u Ps oh vh k) H → va_D A (fW cI cP a0 aN aT aS t0 t1 t2 h0 h1 pa PN PT PS f u Ps oh vh k) → va_S A s.heap H locs → ∀ (ls : Array Slot), lv_has ls 14 [(11, .int (fX2_risersOfFeud PN (nI p9) (nI q9))), (10, .int (nI q9)), (9, .int (nI p9)), (8, .int (PN 10 3)), (7, .int 1), (3, .long (fL_looks PN)), (0, .ref a0), (1, .int (nI g9)), (2, .int xa)] → W p l e rmL_isAhead s m args below meth c H locs 0 0 Q (F0 m 440 ls []) := by
    intro p9 q9 hp9 hq9 hpq9 Ps oh vh ho6 hv6 H locs hP hD hS ls hl
    refine lv_iload hx hb dL_isAhead_440 (lv_at hl 4 rfl) ?_
    refine lv_if_eq (tgt := 569) hx hb dL_isAhead_442 (by decide) (fun c_442 => ?_) (fun c_442 => ?_)
    · exact absurd c_442 (by decide)
    refine lv_aload_n hx hb dL_isAhead_445 rfl (lv_at hl 6 rfl) ?_
    refine lv_iload hx hb dL_isAhead_446 (lv_at hl 2 rfl) ?_
    refine lv_iload hx hb dL_isAhead_448 (lv_at hl 1 rfl) ?_
    refine k_callb (W.runS (As := [.ref a0, .int (nI p9), .int (nI q9)]) (rest := []) ⟨hx, hb, hml, hown, hts0⟩ (mL_isFeud l dC dI cI cP a0 aN aT aS t0 t1 t2 h0 h1 pa PN PT PS f u Ps oh vh k (nI p9) (nI q9)) (va_cwS 3 hts0 (gi_S u_539 u_540 u_0 u_541) rfl rfl rfl (by decide +kernel) ⟨Nat.le_of_ble_eq_true rfl, Nat.le_of_ble_eq_true rfl⟩) (pcR_S hP hK hn) rfl rfl hl.1 rfl (lv_room (Nat.le_of_ble_eq_true rfl)) dL_isAhead_450 ⟨Nat.zero_le _, Nat.zero_le _⟩) (fun br450 => ?_)
    refine lv_if_ne (tgt := 569) hx hb dL_isAhead_453 (by decide) (fun c_453 => ?_) (fun c_453 => ?_)
    · exact K569 Ps oh vh ho6 hv6 _ _ hP hD hS ls (lv_sub hl [4, 5, 6, 7, 8] rfl)
    refine lv_aload_n hx hb dL_isAhead_456 rfl (lv_at hl 6 rfl) ?_
    refine lv_iconst (v := 2) hx hb dL_isAhead_457 (by decide) ?_
    have e_458 : (fX6_count PN Ps oh vh 2) = Sum.inr ((PN 10 4), ()) := count_2
    refine k_calli (W.runV (As := [.int 2]) (rest := []) ⟨hx, hb, hml, hown, hts0⟩ (mX6_count l dC dI cI cP a0 aN aT aS t0 t1 t2 h0 h1 pa PN PT PS f u Ps oh vh k 2 (ok_inr e_458)) (cwV 1 hts0 (gi_V u_268 u_269 u_270 u_1 u_271) rfl rfl rfl (by decide +kernel) ⟨Nat.le_of_ble_eq_true rfl, Nat.le_of_ble_eq_true rfl⟩) (pcR_V (ci := 4) (q0 := 0) hP hK hn rfl rfl) rfl rfl hl.1 rfl (lv_room (Nat.le_of_ble_eq_true rfl)) dL_isAhead_458 ⟨Nat.zero_le _, Nat.zero_le _⟩) ?_
    refine lv_tope (y := (PN 10 4)) (ok1_inr e_458) ?_
    refine lv_bipush (v := 8) hx hb dL_isAhead_461 (by decide) ?_
    refine lv_icmp_ge (tgt := 569) hx hb dL_isAhead_463 (by decide) (fun c_463 => ?_) (fun c_463 => ?_)
    · exact K569 Ps oh vh ho6 hv6 _ _ hP hD hS ls (lv_sub hl [4, 5, 6, 7, 8] rfl)
    refine lv_aload_n hx hb dL_isAhead_466 rfl (lv_at hl 6 rfl) ?_
    refine lv_iconst (v := 3) hx hb dL_isAhead_467 (by decide) ?_
    have e_468 : (fX6_count PN Ps oh vh 3) = Sum.inr ((PN 10 5), ()) := count_3
    refine k_calli (W.runV (As := [.int 3]) (rest := []) ⟨hx, hb, hml, hown, hts0⟩ (mX6_count l dC dI cI cP a0 aN aT aS t0 t1 t2 h0 h1 pa PN PT PS f u Ps oh vh k 3 (ok_inr e_468)) (cwV 1 hts0 (gi_V u_268 u_269 u_270 u_1 u_271) rfl rfl rfl (by decide +kernel) ⟨Nat.le_of_ble_eq_true rfl, Nat.le_of_ble_eq_true rfl⟩) (pcR_V (ci := 4) (q0 := 0) hP hK hn rfl rfl) rfl rfl hl.1 rfl (lv_room (Nat.le_of_ble_eq_true rfl)) dL_isAhead_468 ⟨Nat.zero_le _, Nat.zero_le _⟩) ?_
    refine lv_tope (y := (PN 10 5)) (ok1_inr e_468) ?_
    refine lv_istore (lv' := [(12, .int (PN 10 5)), (11, .int (fX2_risersOfFeud PN (nI p9) (nI q9))), (10, .int (nI q9)), (9, .int (nI p9)), (8, .int (PN 10 3)), (7, .int 1), (3, .long (fL_looks PN)), (0, .ref a0), (1, .int (nI g9)), (2, .int xa)]) hx hb dL_isAhead_471 hl (by decide) rfl (fun ls hl => ?_)
    refine lv_aload_n hx hb dL_isAhead_473 rfl (lv_at hl 7 rfl) ?_
    refine lv_iload hx hb dL_isAhead_474 (lv_at hl 3 rfl) ?_
    refine lv_iload hx hb dL_isAhead_476 (lv_at hl 2 rfl) ?_
    obtain ⟨P5, eP5⟩ : ∃ y, y = (fX2_beginFeud PN (nI p9) (nI q9)).2 := ⟨_, rfl⟩
    obtain ⟨Q5, eQ5⟩ : ∃ y, y = (fX0_save Ps oh vh PN).1 := ⟨_, rfl⟩
    obtain ⟨o5, eo5⟩ : ∃ y, y = (fX0_save Ps oh vh PN).2.1 := ⟨_, rfl⟩
    obtain ⟨v5, ev5⟩ : ∃ y, y = (fX0_save Ps oh vh PN).2.2 := ⟨_, rfl⟩
    obtain ⟨ho5, hv5, hve5, hvp5, hQ5⟩ := save_ok (PN := PN) (Ps := Ps) (o := oh) (v := vh) ho6 hv6
    rw [← eo5] at ho5
    rw [← ev5] at hv5 hve5 hvp5
    rw [← eQ5, ← eo5, ← ev5] at hQ5
    obtain ⟨fa1, fa8, fa5, fa0, fap⟩ := feud_ahead hR hX hp9 hq9 hpq9 c_453 c_463 eP5
    have e_478 : (fX6_feud PN Ps oh vh (nI p9) (nI q9)) = Sum.inr ((fX2_risersOfFeud PN (nI p9) (nI q9)), (P5, Q5, o5, v5)) := (by rw [← fa1, eP5, eQ5, eo5, ev5]; exact (A_feud (Ps := Ps) (o := oh) (v := vh) hR hX ⟨p9, q9, hp9, hq9, hpq9, rfl, rfl⟩ c_453 c_463).1)
    refine k_deed (W1 := (fun (v9 : PV × (Nat → PV) × Nat × Nat) => fW cI cP a0 aN aT aS t0 t1 t2 h0 h1 pa v9.1 PT PS f u v9.2.1 v9.2.2.1 v9.2.2.2 k)) (r0 := (fX2_risersOfFeud PN (nI p9) (nI q9))) (u0 := (P5, Q5, o5, v5)) e_478 (va_runV (As := [.int (nI p9), .int (nI q9)]) (rest := []) ⟨hx, hb, hml, hown, hts0⟩ (mX6_feud l dC dI cI cP a0 aN aT aS t0 t1 t2 h0 h1 pa PN PT PS f u Ps oh vh k (nI p9) (nI q9) ho6 hv6 (ok_inr e_478)) (cwV 2 hts0 (gi_V u_566 u_567 u_568 u_1 u_569) rfl rfl rfl (by decide +kernel) ⟨Nat.le_of_ble_eq_true rfl, Nat.le_of_ble_eq_true rfl⟩) (pcM_V (ci := 4) (q0 := 0) hP hK hn hD rfl rfl) rfl rfl hl.1 rfl (lv_room (Nat.le_of_ble_eq_true rfl)) dL_isAhead_478 ⟨Nat.zero_le _, Nat.zero_le _⟩) hP hD hS rfl (fun H locs hP hD hS => ?_)
    have hP : va_P (dC, dI) vwCl (fW cI cP a0 aN aT aS t0 t1 t2 h0 h1 pa P5 PT PS f u Q5 o5 v5 k) H := hP
    have hD : va_D A (fW cI cP a0 aN aT aS t0 t1 t2 h0 h1 pa P5 PT PS f u Q5 o5 v5 k) := hD
    refine lv_iload hx hb dL_isAhead_481 (lv_at hl 1 rfl) ?_
    refine lv_icmp_ne (tgt := 566) hx hb dL_isAhead_483 (by decide) (fun c_483 => ?_) (fun c_483 => ?_)
    · exact absurd rfl c_483
    refine lv_aload_n hx hb dL_isAhead_486 rfl (lv_at hl 7 rfl) ?_
    refine lv_bipush (v := 8) hx hb dL_isAhead_487 (by decide) ?_
    have e_489 : (fX6_count P5 Q5 o5 v5 8) = Sum.inr ((P5 10 3), ()) := count_8
    refine k_calli (W.runV (As := [.int 8]) (rest := []) ⟨hx, hb, hml, hown, hts0⟩ (mX6_count l dC dI cI cP a0 aN aT aS t0 t1 t2 h0 h1 pa P5 PT PS f u Q5 o5 v5 k 8 (ok_inr e_489)) (cwV 1 hts0 (gi_V u_268 u_269 u_270 u_1 u_271) rfl rfl rfl (by decide +kernel) ⟨Nat.le_of_ble_eq_true rfl, Nat.le_of_ble_eq_true rfl⟩) (pcR_V (ci := 4) (q0 := 0) hP hK hn rfl rfl) rfl rfl hl.1 rfl (lv_room (Nat.le_of_ble_eq_true rfl)) dL_isAhead_489 ⟨Nat.zero_le _, Nat.zero_le _⟩) ?_
    refine lv_tope (y := (P5 10 3)) (ok1_inr e_489) ?_
    refine lv_iload hx hb dL_isAhead_492 (lv_at hl 4 rfl) ?_
    refine lv_iload hx hb dL_isAhead_494 (lv_at hl 1 rfl) ?_
    refine lv_iadd hx hb dL_isAhead_496 ?_
    refine lv_icmp_ne (tgt := 566) hx hb dL_isAhead_497 (by decide) (fun c_497 => ?_) (fun c_497 => ?_)
    · exact absurd fa8 c_497
    refine lv_aload_n hx hb dL_isAhead_500 rfl (lv_at hl 7 rfl) ?_
    refine lv_iconst (v := 3) hx hb dL_isAhead_501 (by decide) ?_
    have e_502 : (fX6_count P5 Q5 o5 v5 3) = Sum.inr ((P5 10 5), ()) := count_3
    refine k_calli (W.runV (As := [.int 3]) (rest := []) ⟨hx, hb, hml, hown, hts0⟩ (mX6_count l dC dI cI cP a0 aN aT aS t0 t1 t2 h0 h1 pa P5 PT PS f u Q5 o5 v5 k 3 (ok_inr e_502)) (cwV 1 hts0 (gi_V u_268 u_269 u_270 u_1 u_271) rfl rfl rfl (by decide +kernel) ⟨Nat.le_of_ble_eq_true rfl, Nat.le_of_ble_eq_true rfl⟩) (pcR_V (ci := 4) (q0 := 0) hP hK hn rfl rfl) rfl rfl hl.1 rfl (lv_room (Nat.le_of_ble_eq_true rfl)) dL_isAhead_502 ⟨Nat.zero_le _, Nat.zero_le _⟩) ?_
    refine lv_tope (y := (P5 10 5)) (ok1_inr e_502) ?_
    refine lv_iload hx hb dL_isAhead_505 (lv_at hl 0 rfl) ?_
    refine lv_iload hx hb dL_isAhead_507 (lv_at hl 1 rfl) ?_
    refine lv_isub hx hb dL_isAhead_509 ?_
    refine lv_icmp_ne (tgt := 566) hx hb dL_isAhead_510 (by decide) (fun c_510 => ?_) (fun c_510 => ?_)
    · exact absurd fa5 c_510
    refine lv_aload_n hx hb dL_isAhead_513 rfl (lv_at hl 7 rfl) ?_
    refine lv_iload hx hb dL_isAhead_514 (lv_at hl 3 rfl) ?_
    refine lv_iload hx hb dL_isAhead_516 (lv_at hl 2 rfl) ?_
    have e_518 : (fX6_ifFeud P5 (nI p9) (nI q9)) = Sum.inr ((fX2_risersOfFeud P5 (nI p9) (nI q9)), ()) := (ifFeud_in hp9 hq9 hpq9)
    refine k_calli (W.runV (As := [.int (nI p9), .int (nI q9)]) (rest := []) ⟨hx, hb, hml, hown, hts0⟩ (mX6_ifFeud l dC dI cI cP a0 aN aT aS t0 t1 t2 h0 h1 pa P5 PT PS f u Q5 o5 v5 k (nI p9) (nI q9) (ok_inr e_518)) (cwV 2 hts0 (gi_V u_671 u_672 u_673 u_1 u_674) rfl rfl rfl (by decide +kernel) ⟨Nat.le_of_ble_eq_true rfl, Nat.le_of_ble_eq_true rfl⟩) (pcR_V (ci := 4) (q0 := 0) hP hK hn rfl rfl) rfl rfl hl.1 rfl (lv_room (Nat.le_of_ble_eq_true rfl)) dL_isAhead_518 ⟨Nat.zero_le _, Nat.zero_le _⟩) ?_
    refine lv_tope (y := (fX2_risersOfFeud P5 (nI p9) (nI q9))) (ok1_inr e_518) ?_
    refine lv_if_ne (tgt := 566) hx hb dL_isAhead_521 (by decide) (fun c_521 => ?_) (fun c_521 => ?_)
    · exact absurd fa0 c_521
    refine lv_aload_n hx hb dL_isAhead_524 rfl (lv_at hl 7 rfl) ?_
    refine lv_iload hx hb dL_isAhead_525 (lv_at hl 2 rfl) ?_
    refine lv_iload hx hb dL_isAhead_527 (lv_at hl 3 rfl) ?_
    obtain ⟨m9, hm9, epc9, ep6⟩ := fap Q5 o5 v5
    obtain ⟨P6, eP6⟩ : ∃ y, y = (dPeace P5 (nI q9) (nI p9)).2 := ⟨_, rfl⟩
    rw [← eP6] at ep6
    obtain ⟨Q6, eQ6⟩ : ∃ y, y = (fX0_save Q5 o5 v5 P5).1 := ⟨_, rfl⟩
    obtain ⟨o6, eo6⟩ : ∃ y, y = (fX0_save Q5 o5 v5 P5).2.1 := ⟨_, rfl⟩
    obtain ⟨v6, ev6⟩ : ∃ y, y = (fX0_save Q5 o5 v5 P5).2.2 := ⟨_, rfl⟩
    obtain ⟨ho6b, hv6b, hve6, hvp6, hQ6⟩ := save_ok (PN := P5) (Ps := Q5) (o := o5) (v := v5) ho5 hv5
    rw [← eo6] at ho6b
    rw [← ev6] at hv6b hve6 hvp6
    rw [← eQ6, ← eo6, ← ev6] at hQ6
    obtain ⟨h2p, h2q⟩ := save_two (PN := PN) (Ps := Ps) (o := oh) (v := vh) (P1 := P5) ho6 hv6 eQ5 eo5 ev5
    rw [← ev6] at h2p
    rw [← eQ6, ← eo6, ← ev6] at h2q
    have e_529 : (fX6_peace P5 Q5 o5 v5 (nI q9) (nI p9)) = Sum.inr ((nI m9), (P6, Q6, o6, v6)) := (by rw [eP6, eQ6, eo6, ev6]; exact epc9)
    refine k_deed (W1 := (fun (v9 : PV × (Nat → PV) × Nat × Nat) => fW cI cP a0 aN aT aS t0 t1 t2 h0 h1 pa v9.1 PT PS f u v9.2.1 v9.2.2.1 v9.2.2.2 k)) (r0 := (nI m9)) (u0 := (P6, Q6, o6, v6)) e_529 (va_runV (As := [.int (nI q9), .int (nI p9)]) (rest := []) ⟨hx, hb, hml, hown, hts0⟩ (mX6_peace l dC dI cI cP a0 aN aT aS t0 t1 t2 h0 h1 pa P5 PT PS f u Q5 o5 v5 k (nI q9) (nI p9) ho5 hv5 (ok_inr e_529)) (cwV 2 hts0 (gi_V u_542 u_543 u_544 u_1 u_545) rfl rfl rfl (by decide +kernel) ⟨Nat.le_of_ble_eq_true rfl, Nat.le_of_ble_eq_true rfl⟩) (pcM_V (ci := 4) (q0 := 0) hP hK hn hD rfl rfl) rfl rfl hl.1 rfl (lv_room (Nat.le_of_ble_eq_true rfl)) dL_isAhead_529 ⟨Nat.zero_le _, Nat.zero_le _⟩) hP hD hS rfl (fun H locs hP hD hS => ?_)
    have hP : va_P (dC, dI) vwCl (fW cI cP a0 aN aT aS t0 t1 t2 h0 h1 pa P6 PT PS f u Q6 o6 v6 k) H := hP
    have hD : va_D A (fW cI cP a0 aN aT aS t0 t1 t2 h0 h1 pa P6 PT PS f u Q6 o6 v6 k) := hD
    refine lv_if_lt (tgt := 566) hx hb dL_isAhead_532 (by decide) (fun c_532 => ?_) (fun c_532 => ?_)
    · exact absurd c_532 (nI_pos (by omega))
    refine lv_aload_n hx hb dL_isAhead_535 rfl (lv_at hl 7 rfl) ?_
    refine lv_iconst (v := 3) hx hb dL_isAhead_536 (by decide) ?_
    have e_537 : (fX6_count P6 Q6 o6 v6 3) = Sum.inr ((P6 10 5), ()) := count_3
    refine k_calli (W.runV (As := [.int 3]) (rest := []) ⟨hx, hb, hml, hown, hts0⟩ (mX6_count l dC dI cI cP a0 aN aT aS t0 t1 t2 h0 h1 pa P6 PT PS f u Q6 o6 v6 k 3 (ok_inr e_537)) (cwV 1 hts0 (gi_V u_268 u_269 u_270 u_1 u_271) rfl rfl rfl (by decide +kernel) ⟨Nat.le_of_ble_eq_true rfl, Nat.le_of_ble_eq_true rfl⟩) (pcR_V (ci := 4) (q0 := 0) hP hK hn rfl rfl) rfl rfl hl.1 rfl (lv_room (Nat.le_of_ble_eq_true rfl)) dL_isAhead_537 ⟨Nat.zero_le _, Nat.zero_le _⟩) ?_
    refine lv_tope (y := (P6 10 5)) (ok1_inr e_537) ?_
    refine lv_iload hx hb dL_isAhead_540 (lv_at hl 0 rfl) ?_
    refine lv_iload hx hb dL_isAhead_542 (lv_at hl 1 rfl) ?_
    refine lv_isub hx hb dL_isAhead_544 ?_
    refine lv_icmp_ne (tgt := 566) hx hb dL_isAhead_545 (by decide) (fun c_545 => ?_) (fun c_545 => ?_)
    · exact absurd (by rw [ep6]; exact fa5) c_545
    refine lv_aload_n hx hb dL_isAhead_548 rfl (lv_at hl 7 rfl) ?_
    obtain ⟨B6, eB6⟩ : ∃ y, y = fX2_copyFrom P6 (Q6 ((o6 + (v6 - 1)) % 6)) := ⟨_, rfl⟩
    have e_549 : (fX6_undo P6 Q6 o6 v6) = Sum.inr ((nI (v6 - 1)), (B6, v6 - 1)) := (by rw [eB6]; exact undo_is hvp6 hv6b)
    refine k_deed (W1 := (fun (v9 : PV × Nat) => fW cI cP a0 aN aT aS t0 t1 t2 h0 h1 pa v9.1 PT PS f u Q6 o6 v9.2 k)) (r0 := (nI (v6 - 1))) (u0 := (B6, v6 - 1)) e_549 (va_runV (As := []) (rest := []) ⟨hx, hb, hml, hown, hts0⟩ (mX6_undo l dC dI cI cP a0 aN aT aS t0 t1 t2 h0 h1 pa P6 PT PS f u Q6 o6 v6 k  ho6b hv6b (ok_inr e_549)) (cwV 0 hts0 (gi_V u_160 u_161 u_162 u_1 u_163) rfl rfl rfl (by decide +kernel) ⟨Nat.le_of_ble_eq_true rfl, Nat.le_of_ble_eq_true rfl⟩) (pcM_V (ci := 4) (q0 := 0) hP hK hn hD rfl rfl) rfl rfl hl.1 rfl (lv_room (Nat.le_of_ble_eq_true rfl)) dL_isAhead_549 ⟨Nat.zero_le _, Nat.zero_le _⟩) hP hD hS rfl (fun H locs hP hD hS => ?_)
    have hP : va_P (dC, dI) vwCl (fW cI cP a0 aN aT aS t0 t1 t2 h0 h1 pa B6 PT PS f u Q6 o6 (v6 - 1) k) H := hP
    have hD : va_D A (fW cI cP a0 aN aT aS t0 t1 t2 h0 h1 pa B6 PT PS f u Q6 o6 (v6 - 1) k) := hD
    refine lv_if_lt (tgt := 566) hx hb dL_isAhead_552 (by decide) (fun c_552 => ?_) (fun c_552 => ?_)
    · exact absurd c_552 (nI_pos (by omega))
    refine lv_aload_n hx hb dL_isAhead_555 rfl (lv_at hl 7 rfl) ?_
    obtain ⟨C6, eC6⟩ : ∃ y, y = fX2_copyFrom B6 (Q6 ((o6 + (v6 - 1 - 1)) % 6)) := ⟨_, rfl⟩
    have e_556 : (fX6_undo B6 Q6 o6 (v6 - 1)) = Sum.inr ((nI (v6 - 1 - 1)), (C6, v6 - 1 - 1)) := (by rw [eC6]; exact undo_is h2p (by omega))
    refine k_deed (W1 := (fun (v9 : PV × Nat) => fW cI cP a0 aN aT aS t0 t1 t2 h0 h1 pa v9.1 PT PS f u Q6 o6 v9.2 k)) (r0 := (nI (v6 - 1 - 1))) (u0 := (C6, v6 - 1 - 1)) e_556 (va_runV (As := []) (rest := []) ⟨hx, hb, hml, hown, hts0⟩ (mX6_undo l dC dI cI cP a0 aN aT aS t0 t1 t2 h0 h1 pa B6 PT PS f u Q6 o6 (v6 - 1) k  ho6b (by omega) (ok_inr e_556)) (cwV 0 hts0 (gi_V u_160 u_161 u_162 u_1 u_163) rfl rfl rfl (by decide +kernel) ⟨Nat.le_of_ble_eq_true rfl, Nat.le_of_ble_eq_true rfl⟩) (pcM_V (ci := 4) (q0 := 0) hP hK hn hD rfl rfl) rfl rfl hl.1 rfl (lv_room (Nat.le_of_ble_eq_true rfl)) dL_isAhead_556 ⟨Nat.zero_le _, Nat.zero_le _⟩) hP hD hS rfl (fun H locs hP hD hS => ?_)
    have hP : va_P (dC, dI) vwCl (fW cI cP a0 aN aT aS t0 t1 t2 h0 h1 pa C6 PT PS f u Q6 o6 (v6 - 1 - 1) k) H := hP
    have hD : va_D A (fW cI cP a0 aN aT aS t0 t1 t2 h0 h1 pa C6 PT PS f u Q6 o6 (v6 - 1 - 1) k) := hD
    obtain ⟨hP, hD⟩ := fW_PE (by rw [eC6]; exact back_PE hR h2q) hP hD
    have hP : va_P (dC, dI) vwCl (fW cI cP a0 aN aT aS t0 t1 t2 h0 h1 pa PN PT PS f u Q6 o6 (v6 - 1 - 1) k) H := hP
    have hD : va_D A (fW cI cP a0 aN aT aS t0 t1 t2 h0 h1 pa PN PT PS f u Q6 o6 (v6 - 1 - 1) k) := hD
    refine lv_if_lt (tgt := 566) hx hb dL_isAhead_559 (by decide) (fun c_559 => ?_) (fun c_559 => ?_)
    · exact absurd c_559 (nI_pos (by omega))
    refine lv_iconst (v := 1) hx hb dL_isAhead_562 (by decide) ?_
    refine lv_goto (tgt := 567) hx hb dL_isAhead_563 (by decide) ?_
    refine lv_istore (lv' := [(7, .int 1), (12, .int (PN 10 5)), (11, .int (fX2_risersOfFeud PN (nI p9) (nI q9))), (10, .int (nI q9)), (9, .int (nI p9)), (8, .int (PN 10 3)), (3, .long (fL_looks PN)), (0, .ref a0), (1, .int (nI g9)), (2, .int xa)]) hx hb dL_isAhead_567 hl (by decide) rfl (fun ls hl => ?_)
    exact K569 Q6 o6 (v6 - 1 - 1) ho6b (by omega) _ _ hP hD hS ls (lv_sub hl [0, 6, 7, 8, 9] rfl)
  have K371 : ∀ (Ps : Nat → PV) (oh vh : Nat), oh < 6 → vh ≤ 6 → ∀ (H : Heap) (locs : List Loc), va_P (dC, dI) vwCl (fW cI cP a0 aN aT aS t0 t1 t2 h0 h1 pa PN PT PS f u Ps oh vh k) H → va_D A (fW cI cP a0 aN aT aS t0 t1 t2 h0 h1 pa PN PT PS f u Ps oh vh k) → va_S A s.heap H locs → ∀ (ls : Array Slot), lv_has ls 14 [(8, .int (PN 10 3)), (7, .int 1), (3, .long (fL_looks PN)), (0, .ref a0), (1, .int (nI g9)), (2, .int xa)] → W p l e rmL_isAhead s m args below meth c H locs 0 0 Q (F0 m 371 ls []) := by
    intro Ps oh vh ho6 hv6 H locs hP hD hS ls hl
    refine lv_iload_n hx hb dL_isAhead_371 rfl (lv_at hl 5 rfl) ?_
    refine lv_bipush (v := 6) hx hb dL_isAhead_372 (by decide) ?_
    refine k_calli (W.runS (As := [.int xa, .int 6]) (rest := []) ⟨hx, hb, hml, hown, hts0⟩ (mL_up l dC dI  xa 6 (by decide)) (va_cwS 2 hts0 (gi_S u_350 u_351 u_0 u_352) rfl rfl rfl (by decide +kernel) ⟨Nat.le_of_ble_eq_true rfl, Nat.le_of_ble_eq_true rfl⟩) (pcR_S (hP.sub (ws' := []) [] rfl) (hK.sub (tys' := []) [] rfl) hn) rfl rfl hl.1 rfl (lv_room (Nat.le_of_ble_eq_true rfl)) dL_isAhead_374 ⟨Nat.zero_le _, Nat.zero_le _⟩) ?_
    obtain ⟨p9, hp9, ep9⟩ := up_is (v := xa) (n := 6) (by decide) (by decide)
    refine lv_tope (y := nI p9) ep9 ?_
    refine lv_istore (lv' := [(9, .int (nI p9)), (8, .int (PN 10 3)), (7, .int 1), (3, .long (fL_looks PN)), (0, .ref a0), (1, .int (nI g9)), (2, .int xa)]) hx hb dL_isAhead_377 hl (by decide) rfl (fun ls hl => ?_)
    refine lv_iload hx hb dL_isAhead_379 (lv_at hl 0 rfl) ?_
    refine lv_iconst (v := 1) hx hb dL_isAhead_381 (by decide) ?_
    refine lv_iadd hx hb dL_isAhead_382 ?_
    refine lv_iload_n hx hb dL_isAhead_383 rfl (lv_at hl 6 rfl) ?_
    refine lv_iconst (v := 3) hx hb dL_isAhead_384 (by decide) ?_
    refine lv_ishr hx hb dL_isAhead_385 ?_
    refine lv_iconst (v := 5) hx hb dL_isAhead_386 (by decide) ?_
    refine k_calli (W.runS (As := [.int (xa >>> (3 &&& 31)), .int 5]) (rest := [.int ((nI p9) + (1 : Int32))]) ⟨hx, hb, hml, hown, hts0⟩ (mL_up l dC dI  (xa >>> (3 &&& 31)) 5 (by decide)) (va_cwS 2 hts0 (gi_S u_350 u_351 u_0 u_352) rfl rfl rfl (by decide +kernel) ⟨Nat.le_of_ble_eq_true rfl, Nat.le_of_ble_eq_true rfl⟩) (pcR_S (hP.sub (ws' := []) [] rfl) (hK.sub (tys' := []) [] rfl) hn) rfl rfl hl.1 rfl (lv_room (Nat.le_of_ble_eq_true rfl)) dL_isAhead_387 ⟨Nat.zero_le _, Nat.zero_le _⟩) ?_
    refine lv_iadd hx hb dL_isAhead_390 ?_
    refine lv_bipush (v := 6) hx hb dL_isAhead_391 (by decide) ?_
    refine lv_irem hx hb dL_isAhead_393 (by decide) ?_
    obtain ⟨q9, hq9, hpq9, eq9⟩ := act_q hp9 (xa >>> (3 &&& 31))
    refine lv_tope (y := nI q9) eq9 ?_
    refine lv_istore (lv' := [(10, .int (nI q9)), (9, .int (nI p9)), (8, .int (PN 10 3)), (7, .int 1), (3, .long (fL_looks PN)), (0, .ref a0), (1, .int (nI g9)), (2, .int xa)]) hx hb dL_isAhead_394 hl (by decide) rfl (fun ls hl => ?_)
    refine lv_aload_n hx hb dL_isAhead_396 rfl (lv_at hl 5 rfl) ?_
    refine lv_iload hx hb dL_isAhead_397 (lv_at hl 1 rfl) ?_
    refine lv_iload hx hb dL_isAhead_399 (lv_at hl 0 rfl) ?_
    have e_401 : (fX6_ifFeud PN (nI p9) (nI q9)) = Sum.inr ((fX2_risersOfFeud PN (nI p9) (nI q9)), ()) := (ifFeud_in hp9 hq9 hpq9)
    refine k_calli (W.runV (As := [.int (nI p9), .int (nI q9)]) (rest := []) ⟨hx, hb, hml, hown, hts0⟩ (mX6_ifFeud l dC dI cI cP a0 aN aT aS t0 t1 t2 h0 h1 pa PN PT PS f u Ps oh vh k (nI p9) (nI q9) (ok_inr e_401)) (cwV 2 hts0 (gi_V u_671 u_672 u_673 u_1 u_674) rfl rfl rfl (by decide +kernel) ⟨Nat.le_of_ble_eq_true rfl, Nat.le_of_ble_eq_true rfl⟩) (pcR_V (ci := 4) (q0 := 0) hP hK hn rfl rfl) rfl rfl hl.1 rfl (lv_room (Nat.le_of_ble_eq_true rfl)) dL_isAhead_401 ⟨Nat.zero_le _, Nat.zero_le _⟩) ?_
    refine lv_tope (y := (fX2_risersOfFeud PN (nI p9) (nI q9))) (ok1_inr e_401) ?_
    refine lv_istore (lv' := [(11, .int (fX2_risersOfFeud PN (nI p9) (nI q9))), (10, .int (nI q9)), (9, .int (nI p9)), (8, .int (PN 10 3)), (7, .int 1), (3, .long (fL_looks PN)), (0, .ref a0), (1, .int (nI g9)), (2, .int xa)]) hx hb dL_isAhead_404 hl (by decide) rfl (fun ls hl => ?_)
    refine lv_iload hx hb dL_isAhead_406 (lv_at hl 4 rfl) ?_
    refine lv_if_eq (tgt := 437) hx hb dL_isAhead_408 (by decide) (fun c_408 => ?_) (fun c_408 => ?_)
    · exact absurd c_408 (by decide)
    refine lv_iload hx hb dL_isAhead_411 (lv_at hl 0 rfl) ?_
    refine lv_aload_n hx hb dL_isAhead_413 rfl (lv_at hl 6 rfl) ?_
    refine lv_iload hx hb dL_isAhead_414 (lv_at hl 1 rfl) ?_
    refine lv_iload hx hb dL_isAhead_416 (lv_at hl 2 rfl) ?_
    have e_418 : (fX6_ifFeud PN (nI q9) (nI p9)) = Sum.inr ((fX2_risersOfFeud PN (nI p9) (nI q9)), ()) := (by rw [ifFeud_in hq9 hp9 (Ne.symm hpq9), risers_sym hR hp9 hq9 hpq9])
    refine k_calli (W.runV (As := [.int (nI q9), .int (nI p9)]) (rest := [.int (fX2_risersOfFeud PN (nI p9) (nI q9))]) ⟨hx, hb, hml, hown, hts0⟩ (mX6_ifFeud l dC dI cI cP a0 aN aT aS t0 t1 t2 h0 h1 pa PN PT PS f u Ps oh vh k (nI q9) (nI p9) (ok_inr e_418)) (cwV 2 hts0 (gi_V u_671 u_672 u_673 u_1 u_674) rfl rfl rfl (by decide +kernel) ⟨Nat.le_of_ble_eq_true rfl, Nat.le_of_ble_eq_true rfl⟩) (pcR_V (ci := 4) (q0 := 0) hP hK hn rfl rfl) rfl rfl hl.1 rfl (lv_room (Nat.le_of_ble_eq_true rfl)) dL_isAhead_418 ⟨Nat.zero_le _, Nat.zero_le _⟩) ?_
    refine lv_tope (y := (fX2_risersOfFeud PN (nI p9) (nI q9))) (ok1_inr e_418) ?_
    refine lv_icmp_ne (tgt := 437) hx hb dL_isAhead_421 (by decide) (fun c_421 => ?_) (fun c_421 => ?_)
    · exact absurd rfl c_421
    refine lv_aload_n hx hb dL_isAhead_424 rfl (lv_at hl 6 rfl) ?_
    refine k_calll (W.runS (As := [.ref a0]) (rest := []) ⟨hx, hb, hml, hown, hts0⟩ (mL_looks l dC dI cI cP a0 aN aT aS t0 t1 t2 h0 h1 pa PN PT PS f u Ps oh vh k  f9 G T L hR) (va_cwS 1 hts0 (gi_S u_354 u_355 u_0 u_356) rfl rfl rfl (by decide +kernel) ⟨Nat.le_of_ble_eq_true rfl, Nat.le_of_ble_eq_true rfl⟩) (pcR_S hP hK hn) rfl rfl hl.1 rfl (lv_room (Nat.le_of_ble_eq_true rfl)) dL_isAhead_425 ⟨Nat.zero_le _, Nat.zero_le _⟩) ?_
    refine lv_lload_n hx hb dL_isAhead_428 rfl (lv_at hl 5 rfl) ?_
    refine W.lcmp hx hb dL_isAhead_429 ?_
    refine lv_if_ne (tgt := 437) hx hb dL_isAhead_430 (by decide) (fun c_430 => ?_) (fun c_430 => ?_)
    · exact absurd (lg_same _) c_430
    refine lv_iconst (v := 1) hx hb dL_isAhead_433 (by decide) ?_
    refine lv_goto (tgt := 438) hx hb dL_isAhead_434 (by decide) ?_
    refine lv_istore (lv' := [(7, .int 1), (11, .int (fX2_risersOfFeud PN (nI p9) (nI q9))), (10, .int (nI q9)), (9, .int (nI p9)), (8, .int (PN 10 3)), (3, .long (fL_looks PN)), (0, .ref a0), (1, .int (nI g9)), (2, .int xa)]) hx hb dL_isAhead_438 hl (by decide) rfl (fun ls hl => ?_)
    exact K440 p9 q9 hp9 hq9 hpq9 Ps oh vh ho6 hv6 _ _ hP hD hS ls (lv_sub hl [1, 2, 3, 4, 0, 5, 6, 7, 8] rfl)
  have K309 : ∀ (Ps : Nat → PV) (oh vh : Nat), oh < 6 → vh ≤ 6 → ∀ (H : Heap) (locs : List Loc), va_P (dC, dI) vwCl (fW cI cP a0 aN aT aS t0 t1 t2 h0 h1 pa PN PT PS f u Ps oh vh k) H → va_D A (fW cI cP a0 aN aT aS t0 t1 t2 h0 h1 pa PN PT PS f u Ps oh vh k) → va_S A s.heap H locs → ∀ (ls : Array Slot), lv_has ls 14 [(7, .int 1), (3, .long (fL_looks PN)), (0, .ref a0), (1, .int (nI g9)), (2, .int xa)] → W p l e rmL_isAhead s m args below meth c H locs 0 0 Q (F0 m 309 ls []) := by
    intro Ps oh vh ho6 hv6 H locs hP hD hS ls hl
    refine lv_aload_n hx hb dL_isAhead_309 rfl (lv_at hl 2 rfl) ?_
    refine lv_bipush (v := 8) hx hb dL_isAhead_310 (by decide) ?_
    have e_312 : (fX6_count PN Ps oh vh 8) = Sum.inr ((PN 10 3), ()) := count_8
    refine k_calli (W.runV (As := [.int 8]) (rest := []) ⟨hx, hb, hml, hown, hts0⟩ (mX6_count l dC dI cI cP a0 aN aT aS t0 t1 t2 h0 h1 pa PN PT PS f u Ps oh vh k 8 (ok_inr e_312)) (cwV 1 hts0 (gi_V u_268 u_269 u_270 u_1 u_271) rfl rfl rfl (by decide +kernel) ⟨Nat.le_of_ble_eq_true rfl, Nat.le_of_ble_eq_true rfl⟩) (pcR_V (ci := 4) (q0 := 0) hP hK hn rfl rfl) rfl rfl hl.1 rfl (lv_room (Nat.le_of_ble_eq_true rfl)) dL_isAhead_312 ⟨Nat.zero_le _, Nat.zero_le _⟩) ?_
    refine lv_tope (y := (PN 10 3)) (ok1_inr e_312) ?_
    refine lv_istore (lv' := [(8, .int (PN 10 3)), (7, .int 1), (3, .long (fL_looks PN)), (0, .ref a0), (1, .int (nI g9)), (2, .int xa)]) hx hb dL_isAhead_315 hl (by decide) rfl (fun ls hl => ?_)
    refine lv_iload hx hb dL_isAhead_317 (lv_at hl 1 rfl) ?_
    refine lv_if_eq (tgt := 371) hx hb dL_isAhead_319 (by decide) (fun c_319 => ?_) (fun c_319 => ?_)
    · exact absurd c_319 (by decide)
    refine lv_aload_n hx hb dL_isAhead_322 rfl (lv_at hl 3 rfl) ?_
    refine lv_iload_n hx hb dL_isAhead_323 rfl (lv_at hl 4 rfl) ?_
    refine lv_iconst (v := 3) hx hb dL_isAhead_324 (by decide) ?_
    have e_325 : (fX6_guestOf PN (nI g9) 3) = Sum.inr ((fX6_guestNumber PN (nI g9) 3), ()) := (guestOf_in hR (w := 3) hg9 (by decide))
    refine k_calli (W.runV (As := [.int (nI g9), .int 3]) (rest := []) ⟨hx, hb, hml, hown, hts0⟩ (mX6_guestOf l dC dI cI cP a0 aN aT aS t0 t1 t2 h0 h1 pa PN PT PS f u Ps oh vh k (nI g9) 3 (ok_inr e_325)) (cwV 2 hts0 (gi_V u_359 u_360 u_361 u_1 u_362) rfl rfl rfl (by decide +kernel) ⟨Nat.le_of_ble_eq_true rfl, Nat.le_of_ble_eq_true rfl⟩) (pcR_V (ci := 4) (q0 := 0) hP hK hn rfl rfl) rfl rfl hl.1 rfl (lv_room (Nat.le_of_ble_eq_true rfl)) dL_isAhead_325 ⟨Nat.zero_le _, Nat.zero_le _⟩) ?_
    refine lv_tope (y := (fX6_guestNumber PN (nI g9) 3)) (ok1_inr e_325) ?_
    refine lv_if_lt (tgt := 371) hx hb dL_isAhead_328 (by decide) (fun c_328 => ?_) (fun c_328 => ?_)
    · exact K371 Ps oh vh ho6 hv6 _ _ hP hD hS ls (lv_sub hl [0, 1, 2, 3, 4, 5] rfl)
    have hs9 := g3_ne hR hg9 c_328
    refine lv_aload_n hx hb dL_isAhead_331 rfl (lv_at hl 3 rfl) ?_
    refine lv_iload_n hx hb dL_isAhead_332 rfl (lv_at hl 4 rfl) ?_
    obtain ⟨P4, eP4⟩ : ∃ y, y = (fX2_standUp PN (nI g9)) := ⟨_, rfl⟩
    obtain ⟨Q4, eQ4⟩ : ∃ y, y = (fX0_save Ps oh vh PN).1 := ⟨_, rfl⟩
    obtain ⟨o4, eo4⟩ : ∃ y, y = (fX0_save Ps oh vh PN).2.1 := ⟨_, rfl⟩
    obtain ⟨v4, ev4⟩ : ∃ y, y = (fX0_save Ps oh vh PN).2.2 := ⟨_, rfl⟩
    obtain ⟨ho4, hv4, hve4, hvp4, hQ4⟩ := save_ok (PN := PN) (Ps := Ps) (o := oh) (v := vh) ho6 hv6
    rw [← eo4] at ho4
    rw [← ev4] at hv4 hve4 hvp4
    rw [← eQ4, ← eo4, ← ev4] at hQ4
    have e_333 : (fX6_rise PN Ps oh vh (nI g9)) = Sum.inr ((fX4_byGuests P4), (P4, Q4, o4, v4)) := (by rw [eP4, eQ4, eo4, ev4]; exact (D_rise (Ps := Ps) (o := oh) (v := vh) hR hX hg9 hs9).1)
    refine k_deed (W1 := (fun (v9 : PV × (Nat → PV) × Nat × Nat) => fW cI cP a0 aN aT aS t0 t1 t2 h0 h1 pa v9.1 PT PS f u v9.2.1 v9.2.2.1 v9.2.2.2 k)) (r0 := (fX4_byGuests P4)) (u0 := (P4, Q4, o4, v4)) e_333 (va_runV (As := [.int (nI g9)]) (rest := []) ⟨hx, hb, hml, hown, hts0⟩ (mX6_rise l dC dI cI cP a0 aN aT aS t0 t1 t2 h0 h1 pa PN PT PS f u Ps oh vh k (nI g9) ho6 hv6 (ok_inr e_333)) (cwV 1 hts0 (gi_V u_589 u_590 u_591 u_1 u_592) rfl rfl rfl (by decide +kernel) ⟨Nat.le_of_ble_eq_true rfl, Nat.le_of_ble_eq_true rfl⟩) (pcM_V (ci := 4) (q0 := 0) hP hK hn hD rfl rfl) rfl rfl hl.1 rfl (lv_room (Nat.le_of_ble_eq_true rfl)) dL_isAhead_333 ⟨Nat.zero_le _, Nat.zero_le _⟩) hP hD hS rfl (fun H locs hP hD hS => ?_)
    have hP : va_P (dC, dI) vwCl (fW cI cP a0 aN aT aS t0 t1 t2 h0 h1 pa P4 PT PS f u Q4 o4 v4 k) H := hP
    have hD : va_D A (fW cI cP a0 aN aT aS t0 t1 t2 h0 h1 pa P4 PT PS f u Q4 o4 v4 k) := hD
    refine lv_aload_n hx hb dL_isAhead_336 rfl (lv_at hl 3 rfl) ?_
    refine lv_iconst (v := 4) hx hb dL_isAhead_337 (by decide) ?_
    have e_338 : (fX6_count P4 Q4 o4 v4 4) = Sum.inr ((fX4_byGuests P4), ()) := count_4
    refine k_calli (W.runV (As := [.int 4]) (rest := [.int (fX4_byGuests P4)]) ⟨hx, hb, hml, hown, hts0⟩ (mX6_count l dC dI cI cP a0 aN aT aS t0 t1 t2 h0 h1 pa P4 PT PS f u Q4 o4 v4 k 4 (ok_inr e_338)) (cwV 1 hts0 (gi_V u_268 u_269 u_270 u_1 u_271) rfl rfl rfl (by decide +kernel) ⟨Nat.le_of_ble_eq_true rfl, Nat.le_of_ble_eq_true rfl⟩) (pcR_V (ci := 4) (q0 := 0) hP hK hn rfl rfl) rfl rfl hl.1 rfl (lv_room (Nat.le_of_ble_eq_true rfl)) dL_isAhead_338 ⟨Nat.zero_le _, Nat.zero_le _⟩) ?_
    refine lv_tope (y := (fX4_byGuests P4)) (ok1_inr e_338) ?_
    refine lv_icmp_ne (tgt := 368) hx hb dL_isAhead_341 (by decide) (fun c_341 => ?_) (fun c_341 => ?_)
    · exact absurd rfl c_341
    refine lv_aload_n hx hb dL_isAhead_344 rfl (lv_at hl 3 rfl) ?_
    refine lv_bipush (v := 8) hx hb dL_isAhead_345 (by decide) ?_
    have e_347 : (fX6_count P4 Q4 o4 v4 8) = Sum.inr ((P4 10 3), ()) := count_8
    refine k_calli (W.runV (As := [.int 8]) (rest := []) ⟨hx, hb, hml, hown, hts0⟩ (mX6_count l dC dI cI cP a0 aN aT aS t0 t1 t2 h0 h1 pa P4 PT PS f u Q4 o4 v4 k 8 (ok_inr e_347)) (cwV 1 hts0 (gi_V u_268 u_269 u_270 u_1 u_271) rfl rfl rfl (by decide +kernel) ⟨Nat.le_of_ble_eq_true rfl, Nat.le_of_ble_eq_true rfl⟩) (pcR_V (ci := 4) (q0 := 0) hP hK hn rfl rfl) rfl rfl hl.1 rfl (lv_room (Nat.le_of_ble_eq_true rfl)) dL_isAhead_347 ⟨Nat.zero_le _, Nat.zero_le _⟩) ?_
    refine lv_tope (y := (P4 10 3)) (ok1_inr e_347) ?_
    refine lv_iload hx hb dL_isAhead_350 (lv_at hl 0 rfl) ?_
    refine lv_iconst (v := 1) hx hb dL_isAhead_352 (by decide) ?_
    refine lv_iadd hx hb dL_isAhead_353 ?_
    refine lv_icmp_ne (tgt := 368) hx hb dL_isAhead_354 (by decide) (fun c_354 => ?_) (fun c_354 => ?_)
    · exact absurd (by rw [eP4]; exact rise_8 hR hg9 hs9) c_354
    refine lv_aload_n hx hb dL_isAhead_357 rfl (lv_at hl 3 rfl) ?_
    obtain ⟨B4, eB4⟩ : ∃ y, y = fX2_copyFrom P4 (Q4 ((o4 + (v4 - 1)) % 6)) := ⟨_, rfl⟩
    have e_358 : (fX6_undo P4 Q4 o4 v4) = Sum.inr ((nI (v4 - 1)), (B4, v4 - 1)) := (by rw [eB4]; exact undo_is hvp4 hv4)
    refine k_deed (W1 := (fun (v9 : PV × Nat) => fW cI cP a0 aN aT aS t0 t1 t2 h0 h1 pa v9.1 PT PS f u Q4 o4 v9.2 k)) (r0 := (nI (v4 - 1))) (u0 := (B4, v4 - 1)) e_358 (va_runV (As := []) (rest := []) ⟨hx, hb, hml, hown, hts0⟩ (mX6_undo l dC dI cI cP a0 aN aT aS t0 t1 t2 h0 h1 pa P4 PT PS f u Q4 o4 v4 k  ho4 hv4 (ok_inr e_358)) (cwV 0 hts0 (gi_V u_160 u_161 u_162 u_1 u_163) rfl rfl rfl (by decide +kernel) ⟨Nat.le_of_ble_eq_true rfl, Nat.le_of_ble_eq_true rfl⟩) (pcM_V (ci := 4) (q0 := 0) hP hK hn hD rfl rfl) rfl rfl hl.1 rfl (lv_room (Nat.le_of_ble_eq_true rfl)) dL_isAhead_358 ⟨Nat.zero_le _, Nat.zero_le _⟩) hP hD hS rfl (fun H locs hP hD hS => ?_)
    have hP : va_P (dC, dI) vwCl (fW cI cP a0 aN aT aS t0 t1 t2 h0 h1 pa B4 PT PS f u Q4 o4 (v4 - 1) k) H := hP
    have hD : va_D A (fW cI cP a0 aN aT aS t0 t1 t2 h0 h1 pa B4 PT PS f u Q4 o4 (v4 - 1) k) := hD
    obtain ⟨hP, hD⟩ := fW_PE (by rw [eB4]; exact back_PE hR hQ4) hP hD
    have hP : va_P (dC, dI) vwCl (fW cI cP a0 aN aT aS t0 t1 t2 h0 h1 pa PN PT PS f u Q4 o4 (v4 - 1) k) H := hP
    have hD : va_D A (fW cI cP a0 aN aT aS t0 t1 t2 h0 h1 pa PN PT PS f u Q4 o4 (v4 - 1) k) := hD
    refine lv_if_lt (tgt := 368) hx hb dL_isAhead_361 (by decide) (fun c_361 => ?_) (fun c_361 => ?_)
    · exact absurd c_361 (nI_pos (by omega))
    refine lv_iconst (v := 1) hx hb dL_isAhead_364 (by decide) ?_
    refine lv_goto (tgt := 369) hx hb dL_isAhead_365 (by decide) ?_
    refine lv_istore (lv' := [(7, .int 1), (8, .int (PN 10 3)), (3, .long (fL_looks PN)), (0, .ref a0), (1, .int (nI g9)), (2, .int xa)]) hx hb dL_isAhead_369 hl (by decide) rfl (fun ls hl => ?_)
    exact K371 Q4 o4 (v4 - 1) ho4 (by omega) _ _ hP hD hS ls (lv_sub hl [1, 0, 2, 3, 4, 5] rfl)
  have K246 : ∀ (bv mv : Int32), BM PN f9 T g9 bv mv → ∀ (H : Heap) (locs : List Loc), va_P (dC, dI) vwCl (fW cI cP a0 aN aT aS t0 t1 t2 h0 h1 pa PN PT PS f u Ps oh vh k) H → va_D A (fW cI cP a0 aN aT aS t0 t1 t2 h0 h1 pa PN PT PS f u Ps oh vh k) → va_S A s.heap H locs → ∀ (ls : Array Slot), lv_has ls 14 [(7, .int 1), (6, .int mv), (5, .int bv), (3, .long (fL_looks PN)), (0, .ref a0), (1, .int (nI g9)), (2, .int xa)] → W p l e rmL_isAhead s m args below meth c H locs 0 0 Q (F0 m 246 ls []) := by
    intro bv mv hB9 H locs hP hD hS ls hl
    refine lv_iload hx hb dL_isAhead_246 (lv_at hl 0 rfl) ?_
    refine lv_if_eq (tgt := 309) hx hb dL_isAhead_248 (by decide) (fun c_248 => ?_) (fun c_248 => ?_)
    · exact absurd c_248 (by decide)
    refine lv_iload hx hb dL_isAhead_251 (lv_at hl 2 rfl) ?_
    refine lv_if_lt (tgt := 309) hx hb dL_isAhead_253 (by decide) (fun c_253 => ?_) (fun c_253 => ?_)
    · exact K309 Ps oh vh ho6 hv6 _ _ hP hD hS ls (lv_sub hl [0, 3, 4, 5, 6] rfl)
    obtain ⟨t9, z9, n9, ht9, hn9, hn89, hz9, ed9, em9, hr09, emv9⟩ := BM_pos hR hB9 c_253
    refine lv_aload_n hx hb dL_isAhead_256 rfl (lv_at hl 4 rfl) ?_
    refine lv_iload_n hx hb dL_isAhead_257 rfl (lv_at hl 5 rfl) ?_
    refine lv_iload hx hb dL_isAhead_258 (lv_at hl 2 rfl) ?_
    refine lv_bipush (v := 8) hx hb dL_isAhead_260 (by decide) ?_
    refine lv_idiv hx hb dL_isAhead_262 (by decide) ?_
    refine lv_iload hx hb dL_isAhead_263 (lv_at hl 2 rfl) ?_
    refine lv_bipush (v := 8) hx hb dL_isAhead_265 (by decide) ?_
    refine lv_irem hx hb dL_isAhead_267 (by decide) ?_
    obtain ⟨P3, eP3⟩ : ∃ y, y = (fX2_takeSeat PN (nI g9) (nI t9) (nI z9)) := ⟨_, rfl⟩
    obtain ⟨Q3, eQ3⟩ : ∃ y, y = (fX0_save Ps oh vh PN).1 := ⟨_, rfl⟩
    obtain ⟨o3, eo3⟩ : ∃ y, y = (fX0_save Ps oh vh PN).2.1 := ⟨_, rfl⟩
    obtain ⟨v3, ev3⟩ : ∃ y, y = (fX0_save Ps oh vh PN).2.2 := ⟨_, rfl⟩
    obtain ⟨ho3, hv3, hve3, hvp3, hQ3⟩ := save_ok (PN := PN) (Ps := Ps) (o := oh) (v := vh) ho6 hv6
    rw [← eo3] at ho3
    rw [← ev3] at hv3 hve3 hvp3
    rw [← eQ3, ← eo3, ← ev3] at hQ3
    have e_268 : (fX6_sit PN Ps oh vh (nI g9) (bv / 8) (bv - bv / 8 * 8)) = Sum.inr ((mv - 1000), (P3, Q3, o3, v3)) := (by rw [em9, ed9, emv9, Int32.add_sub_cancel, ← sit_after hR hg9 ht9 hn9 hz9 hn89 hr09, eP3, eQ3, eo3, ev3]; exact (D_sit (Ps := Ps) (o := oh) (v := vh) hR hX hg9 ht9 hn9 hz9 hn89 hr09).1)
    refine k_deed (W1 := (fun (v9 : PV × (Nat → PV) × Nat × Nat) => fW cI cP a0 aN aT aS t0 t1 t2 h0 h1 pa v9.1 PT PS f u v9.2.1 v9.2.2.1 v9.2.2.2 k)) (r0 := (mv - 1000)) (u0 := (P3, Q3, o3, v3)) e_268 (va_runV (As := [.int (nI g9), .int (bv / 8), .int (bv - bv / 8 * 8)]) (rest := []) ⟨hx, hb, hml, hown, hts0⟩ (mX6_sit l dC dI cI cP a0 aN aT aS t0 t1 t2 h0 h1 pa PN PT PS f u Ps oh vh k (nI g9) (bv / 8) (bv - bv / 8 * 8) ho6 hv6 (ok_inr e_268)) (cwV 3 hts0 (gi_V u_620 u_621 u_622 u_1 u_623) rfl rfl rfl (by decide +kernel) ⟨Nat.le_of_ble_eq_true rfl, Nat.le_of_ble_eq_true rfl⟩) (pcM_V (ci := 4) (q0 := 0) hP hK hn hD rfl rfl) rfl rfl hl.1 rfl (lv_room (Nat.le_of_ble_eq_true rfl)) dL_isAhead_268 ⟨Nat.zero_le _, Nat.zero_le _⟩) hP hD hS rfl (fun H locs hP hD hS => ?_)
    have hP : va_P (dC, dI) vwCl (fW cI cP a0 aN aT aS t0 t1 t2 h0 h1 pa P3 PT PS f u Q3 o3 v3 k) H := hP
    have hD : va_D A (fW cI cP a0 aN aT aS t0 t1 t2 h0 h1 pa P3 PT PS f u Q3 o3 v3 k) := hD
    refine lv_iload hx hb dL_isAhead_271 (lv_at hl 1 rfl) ?_
    refine lv_sipush (v := 1000) hx hb dL_isAhead_273 (by decide) ?_
    refine lv_isub hx hb dL_isAhead_276 ?_
    refine lv_icmp_ne (tgt := 306) hx hb dL_isAhead_277 (by decide) (fun c_277 => ?_) (fun c_277 => ?_)
    · exact absurd rfl c_277
    refine lv_aload_n hx hb dL_isAhead_280 rfl (lv_at hl 4 rfl) ?_
    refine lv_aload_n hx hb dL_isAhead_281 rfl (lv_at hl 4 rfl) ?_
    refine lv_iconst (v := 3) hx hb dL_isAhead_282 (by decide) ?_
    have e_283 : (fX6_count P3 Q3 o3 v3 3) = Sum.inr ((P3 10 5), ()) := count_3
    refine k_calli (W.runV (As := [.int 3]) (rest := [.ref a0]) ⟨hx, hb, hml, hown, hts0⟩ (mX6_count l dC dI cI cP a0 aN aT aS t0 t1 t2 h0 h1 pa P3 PT PS f u Q3 o3 v3 k 3 (ok_inr e_283)) (cwV 1 hts0 (gi_V u_268 u_269 u_270 u_1 u_271) rfl rfl rfl (by decide +kernel) ⟨Nat.le_of_ble_eq_true rfl, Nat.le_of_ble_eq_true rfl⟩) (pcR_V (ci := 4) (q0 := 0) hP hK hn rfl rfl) rfl rfl hl.1 rfl (lv_room (Nat.le_of_ble_eq_true rfl)) dL_isAhead_283 ⟨Nat.zero_le _, Nat.zero_le _⟩) ?_
    refine lv_tope (y := (P3 10 5)) (ok1_inr e_283) ?_
    refine lv_iconst (v := 1) hx hb dL_isAhead_286 (by decide) ?_
    refine lv_isub hx hb dL_isAhead_287 ?_
    obtain ⟨k9, hk9, ek9, es9⟩ := last_seat hR hg9 ht9 hn9 hz9 hn89 hr09 eP3
    refine lv_tope (y := nI k9) ek9 ?_
    have e_288 : (fX6_seated P3 (nI k9)) = Sum.inr ((nI g9), ()) := (by rw [seated_in (by omega), es9])
    refine k_calli (W.runV (As := [.int (nI k9)]) (rest := []) ⟨hx, hb, hml, hown, hts0⟩ (mX6_seated l dC dI cI cP a0 aN aT aS t0 t1 t2 h0 h1 pa P3 PT PS f u Q3 o3 v3 k (nI k9) (ok_inr e_288)) (cwV 1 hts0 (gi_V u_426 u_427 u_428 u_1 u_429) rfl rfl rfl (by decide +kernel) ⟨Nat.le_of_ble_eq_true rfl, Nat.le_of_ble_eq_true rfl⟩) (pcR_V (ci := 4) (q0 := 0) hP hK hn rfl rfl) rfl rfl hl.1 rfl (lv_room (Nat.le_of_ble_eq_true rfl)) dL_isAhead_288 ⟨Nat.zero_le _, Nat.zero_le _⟩) ?_
    refine lv_tope (y := (nI g9)) (ok1_inr e_288) ?_
    refine lv_iload_n hx hb dL_isAhead_291 rfl (lv_at hl 5 rfl) ?_
    refine lv_icmp_ne (tgt := 306) hx hb dL_isAhead_292 (by decide) (fun c_292 => ?_) (fun c_292 => ?_)
    · exact absurd rfl c_292
    refine lv_aload_n hx hb dL_isAhead_295 rfl (lv_at hl 4 rfl) ?_
    obtain ⟨B3, eB3⟩ : ∃ y, y = fX2_copyFrom P3 (Q3 ((o3 + (v3 - 1)) % 6)) := ⟨_, rfl⟩
    have e_296 : (fX6_undo P3 Q3 o3 v3) = Sum.inr ((nI (v3 - 1)), (B3, v3 - 1)) := (by rw [eB3]; exact undo_is hvp3 hv3)
    refine k_deed (W1 := (fun (v9 : PV × Nat) => fW cI cP a0 aN aT aS t0 t1 t2 h0 h1 pa v9.1 PT PS f u Q3 o3 v9.2 k)) (r0 := (nI (v3 - 1))) (u0 := (B3, v3 - 1)) e_296 (va_runV (As := []) (rest := []) ⟨hx, hb, hml, hown, hts0⟩ (mX6_undo l dC dI cI cP a0 aN aT aS t0 t1 t2 h0 h1 pa P3 PT PS f u Q3 o3 v3 k  ho3 hv3 (ok_inr e_296)) (cwV 0 hts0 (gi_V u_160 u_161 u_162 u_1 u_163) rfl rfl rfl (by decide +kernel) ⟨Nat.le_of_ble_eq_true rfl, Nat.le_of_ble_eq_true rfl⟩) (pcM_V (ci := 4) (q0 := 0) hP hK hn hD rfl rfl) rfl rfl hl.1 rfl (lv_room (Nat.le_of_ble_eq_true rfl)) dL_isAhead_296 ⟨Nat.zero_le _, Nat.zero_le _⟩) hP hD hS rfl (fun H locs hP hD hS => ?_)
    have hP : va_P (dC, dI) vwCl (fW cI cP a0 aN aT aS t0 t1 t2 h0 h1 pa B3 PT PS f u Q3 o3 (v3 - 1) k) H := hP
    have hD : va_D A (fW cI cP a0 aN aT aS t0 t1 t2 h0 h1 pa B3 PT PS f u Q3 o3 (v3 - 1) k) := hD
    obtain ⟨hP, hD⟩ := fW_PE (by rw [eB3]; exact back_PE hR hQ3) hP hD
    have hP : va_P (dC, dI) vwCl (fW cI cP a0 aN aT aS t0 t1 t2 h0 h1 pa PN PT PS f u Q3 o3 (v3 - 1) k) H := hP
    have hD : va_D A (fW cI cP a0 aN aT aS t0 t1 t2 h0 h1 pa PN PT PS f u Q3 o3 (v3 - 1) k) := hD
    refine lv_if_lt (tgt := 306) hx hb dL_isAhead_299 (by decide) (fun c_299 => ?_) (fun c_299 => ?_)
    · exact absurd c_299 (nI_pos (by omega))
    refine lv_iconst (v := 1) hx hb dL_isAhead_302 (by decide) ?_
    refine lv_goto (tgt := 307) hx hb dL_isAhead_303 (by decide) ?_
    refine lv_istore (lv' := [(7, .int 1), (6, .int mv), (5, .int bv), (3, .long (fL_looks PN)), (0, .ref a0), (1, .int (nI g9)), (2, .int xa)]) hx hb dL_isAhead_307 hl (by decide) rfl (fun ls hl => ?_)
    exact K309 Q3 o3 (v3 - 1) ho3 (by omega) _ _ hP hD hS ls (lv_sub hl [0, 3, 4, 5, 6] rfl)
  have L71 : ∀ (bv mv : Int32), BM PN f9 T g9 bv mv → ∀ (jj9 kk9 : Nat), kk9 + jj9 = 8 * T → ∀ (H : Heap) (locs : List Loc), va_P (dC, dI) vwCl (fW cI cP a0 aN aT aS t0 t1 t2 h0 h1 pa PN PT PS f u Ps oh vh k) H → va_D A (fW cI cP a0 aN aT aS t0 t1 t2 h0 h1 pa PN PT PS f u Ps oh vh k) → va_S A s.heap H locs → ∀ (ls : Array Slot), lv_has ls 14 [(8, .int (nI kk9)), (7, .int 1), (6, .int mv), (5, .int bv), (3, .long (fL_looks PN)), (0, .ref a0), (1, .int (nI g9)), (2, .int xa)] → W p l e rmL_isAhead s m args below meth c H locs 0 0 Q (F0 m 71 ls []) := by
    intro bv mv hB9 jj9
    induction jj9 using Nat.strongRecOn with
    | _ jj9 ih9 =>
      intro kk9 hk9 H locs hP hD hS ls hl
      have hT4 := hR.wf.hT
      refine lv_iload hx hb dL_isAhead_71 (lv_at hl 0 rfl) ?_
      refine lv_bipush (v := 8) hx hb dL_isAhead_73 (by decide) ?_
      refine lv_aload_n hx hb dL_isAhead_75 rfl (lv_at hl 5 rfl) ?_
      refine lv_iconst (v := 1) hx hb dL_isAhead_76 (by decide) ?_
      have e_77 : (fX6_count PN Ps oh vh 1) = Sum.inr ((PN 10 1), ()) := count_1
      refine k_calli (W.runV (As := [.int 1]) (rest := [.int 8, .int (nI kk9)]) ⟨hx, hb, hml, hown, hts0⟩ (mX6_count l dC dI cI cP a0 aN aT aS t0 t1 t2 h0 h1 pa PN PT PS f u Ps oh vh k 1 (ok_inr e_77)) (cwV 1 hts0 (gi_V u_268 u_269 u_270 u_1 u_271) rfl rfl rfl (by decide +kernel) ⟨Nat.le_of_ble_eq_true rfl, Nat.le_of_ble_eq_true rfl⟩) (pcR_V (ci := 4) (q0 := 0) hP hK hn rfl rfl) rfl rfl hl.1 rfl (lv_room (Nat.le_of_ble_eq_true rfl)) dL_isAhead_77 ⟨Nat.zero_le _, Nat.zero_le _⟩) ?_
      refine lv_tope (y := (PN 10 1)) (ok1_inr e_77) ?_
      refine lv_imul hx hb dL_isAhead_80 ?_
      refine lv_tope (y := nI (8 * T)) (mul8 hR) ?_
      refine lv_icmp_ge (tgt := 246) hx hb dL_isAhead_81 (by decide) (fun c_81 => ?_) (fun c_81 => ?_)
      · exact K246 bv mv hB9 _ _ hP hD hS ls (lv_sub hl [1, 2, 3, 4, 5, 6, 7] rfl)
      have hlt9 := lt_of_nle9 (by omega) (by omega) c_81
      obtain ⟨jj9, rfl⟩ : ∃ j, jj9 = j + 1 := ⟨jj9 - 1, by omega⟩
      refine lv_iload hx hb dL_isAhead_84 (lv_at hl 1 rfl) ?_
      refine lv_if_eq (tgt := 246) hx hb dL_isAhead_86 (by decide) (fun c_86 => ?_) (fun c_86 => ?_)
      · exact absurd c_86 (by decide)
      refine lv_iload hx hb dL_isAhead_89 (lv_at hl 0 rfl) ?_
      refine lv_bipush (v := 8) hx hb dL_isAhead_91 (by decide) ?_
      refine lv_irem hx hb dL_isAhead_93 (by decide) ?_
      refine lv_tope (y := (nI (kk9 % 8))) (pk_rem (a := kk9) (d := 8) (by omega) (by decide) (by decide)) ?_
      refine lv_aload_n hx hb dL_isAhead_94 rfl (lv_at hl 5 rfl) ?_
      refine lv_iload hx hb dL_isAhead_95 (lv_at hl 0 rfl) ?_
      refine lv_bipush (v := 8) hx hb dL_isAhead_97 (by decide) ?_
      refine lv_idiv hx hb dL_isAhead_99 (by decide) ?_
      refine lv_tope (y := (nI (kk9 / 8))) (pk_div (a := kk9) (d := 8) (by omega) (by decide) (by decide)) ?_
      refine lv_iconst (v := 0) hx hb dL_isAhead_100 (by decide) ?_
      have e_101 : (fX6_tableOf PN (nI (kk9 / 8)) 0) = Sum.inr ((fX6_tableNumber PN (nI (kk9 / 8)) 0), ()) := (tableOf_in hR (t := (kk9 / 8)) (w := 0) (by omega) (by omega))
      refine k_calli (W.runV (As := [.int (nI (kk9 / 8)), .int 0]) (rest := [.int (nI (kk9 % 8))]) ⟨hx, hb, hml, hown, hts0⟩ (mX6_tableOf l dC dI cI cP a0 aN aT aS t0 t1 t2 h0 h1 pa PN PT PS f u Ps oh vh k (nI (kk9 / 8)) 0 (ok_inr e_101)) (cwV 2 hts0 (gi_V u_391 u_392 u_393 u_1 u_394) rfl rfl rfl (by decide +kernel) ⟨Nat.le_of_ble_eq_true rfl, Nat.le_of_ble_eq_true rfl⟩) (pcR_V (ci := 4) (q0 := 0) hP hK hn rfl rfl) rfl rfl hl.1 rfl (lv_room (Nat.le_of_ble_eq_true rfl)) dL_isAhead_101 ⟨Nat.zero_le _, Nat.zero_le _⟩) ?_
      refine lv_tope (y := (fX6_tableNumber PN (nI (kk9 / 8)) 0)) (ok1_inr e_101) ?_
      obtain ⟨n9, n39, n89, hn9, en9⟩ := tabN hR (t := kk9 / 8) (by omega)
      refine lv_tope (y := nI n9) en9 ?_
      have K104 : ∀ (H : Heap) (locs : List Loc), va_P (dC, dI) vwCl (fW cI cP a0 aN aT aS t0 t1 t2 h0 h1 pa PN PT PS f u Ps oh vh k) H → va_D A (fW cI cP a0 aN aT aS t0 t1 t2 h0 h1 pa PN PT PS f u Ps oh vh k) → va_S A s.heap H locs → ∀ (ls : Array Slot), lv_has ls 14 [(8, .int (nI kk9)), (7, .int 1), (6, .int mv), (5, .int bv), (3, .long (fL_looks PN)), (0, .ref a0), (1, .int (nI g9)), (2, .int xa)] → W p l e rmL_isAhead s m args below meth c H locs 0 0 Q (F0 m 240 ls []) := by
        intro H locs hP hD hS ls hl
        refine lv_iinc (v := (nI (kk9 + 1))) (lv' := [(8, .int (nI (kk9 + 1))), (7, .int 1), (6, .int mv), (5, .int bv), (3, .long (fL_looks PN)), (0, .ref a0), (1, .int (nI g9)), (2, .int xa)]) hx hb dL_isAhead_240 hl (k := 0) rfl (nI_1 _) (by decide) rfl (fun ls hl => ?_)
        refine lv_goto (tgt := 71) hx hb dL_isAhead_243 (by decide) ?_
        exact ih9 jj9 (Nat.lt_succ_self _) (kk9 + 1) (by omega) _ _ hP hD hS ls (lv_sub hl [0, 1, 2, 3, 4, 5, 6, 7] rfl)
      refine lv_icmp_ge (tgt := 240) hx hb dL_isAhead_104 (by decide) (fun c_104 => ?_) (fun c_104 => ?_)
      · exact K104 _ _ hP hD hS  ls (lv_sub hl [0, 1, 2, 3, 4, 5, 6, 7] rfl)
      have hz9 := lt_of_nle9 (by omega) (by omega) c_104
      refine lv_aload_n hx hb dL_isAhead_107 rfl (lv_at hl 5 rfl) ?_
      refine lv_iload_n hx hb dL_isAhead_108 rfl (lv_at hl 6 rfl) ?_
      refine lv_iload hx hb dL_isAhead_109 (lv_at hl 0 rfl) ?_
      refine lv_bipush (v := 8) hx hb dL_isAhead_111 (by decide) ?_
      refine lv_idiv hx hb dL_isAhead_113 (by decide) ?_
      refine lv_tope (y := (nI (kk9 / 8))) (pk_div (a := kk9) (d := 8) (by omega) (by decide) (by decide)) ?_
      refine lv_iload hx hb dL_isAhead_114 (lv_at hl 0 rfl) ?_
      refine lv_bipush (v := 8) hx hb dL_isAhead_116 (by decide) ?_
      refine lv_irem hx hb dL_isAhead_118 (by decide) ?_
      refine lv_tope (y := (nI (kk9 % 8))) (pk_rem (a := kk9) (d := 8) (by omega) (by decide) (by decide)) ?_
      have e_119 : (fX6_whyNot PN (nI g9) (nI (kk9 / 8)) (nI (kk9 % 8))) = Sum.inr ((fX2_reasonAgainst PN (nI g9) (nI (kk9 / 8)) (nI (kk9 % 8))), ()) := (whyNot_in hR hg9 (by omega) hn9 hz9 n89)
      refine k_calli (W.runV (As := [.int (nI g9), .int (nI (kk9 / 8)), .int (nI (kk9 % 8))]) (rest := []) ⟨hx, hb, hml, hown, hts0⟩ (mX6_whyNot l dC dI cI cP a0 aN aT aS t0 t1 t2 h0 h1 pa PN PT PS f u Ps oh vh k (nI g9) (nI (kk9 / 8)) (nI (kk9 % 8)) (ok_inr e_119)) (cwV 3 hts0 (gi_V u_601 u_602 u_603 u_1 u_604) rfl rfl rfl (by decide +kernel) ⟨Nat.le_of_ble_eq_true rfl, Nat.le_of_ble_eq_true rfl⟩) (pcR_V (ci := 4) (q0 := 0) hP hK hn rfl rfl) rfl rfl hl.1 rfl (lv_room (Nat.le_of_ble_eq_true rfl)) dL_isAhead_119 ⟨Nat.zero_le _, Nat.zero_le _⟩) ?_
      refine lv_tope (y := (fX2_reasonAgainst PN (nI g9) (nI (kk9 / 8)) (nI (kk9 % 8)))) (ok1_inr e_119) ?_
      refine lv_istore (lv' := [(9, .int (fX2_reasonAgainst PN (nI g9) (nI (kk9 / 8)) (nI (kk9 % 8)))), (8, .int (nI kk9)), (7, .int 1), (6, .int mv), (5, .int bv), (3, .long (fL_looks PN)), (0, .ref a0), (1, .int (nI g9)), (2, .int xa)]) hx hb dL_isAhead_122 hl (by decide) rfl (fun ls hl => ?_)
      refine lv_aload_n hx hb dL_isAhead_124 rfl (lv_at hl 6 rfl) ?_
      refine lv_iload_n hx hb dL_isAhead_125 rfl (lv_at hl 7 rfl) ?_
      refine lv_iload hx hb dL_isAhead_126 (lv_at hl 1 rfl) ?_
      refine lv_bipush (v := 8) hx hb dL_isAhead_128 (by decide) ?_
      refine lv_idiv hx hb dL_isAhead_130 (by decide) ?_
      refine lv_tope (y := (nI (kk9 / 8))) (pk_div (a := kk9) (d := 8) (by omega) (by decide) (by decide)) ?_
      refine lv_iload hx hb dL_isAhead_131 (lv_at hl 1 rfl) ?_
      refine lv_bipush (v := 8) hx hb dL_isAhead_133 (by decide) ?_
      refine lv_irem hx hb dL_isAhead_135 (by decide) ?_
      refine lv_tope (y := (nI (kk9 % 8))) (pk_rem (a := kk9) (d := 8) (by omega) (by decide) (by decide)) ?_
      have e_136 : (fX6_ifSat PN (nI g9) (nI (kk9 / 8)) (nI (kk9 % 8))) = Sum.inr ((if fX2_reasonAgainst PN (nI g9) (nI (kk9 / 8)) (nI (kk9 % 8)) = 0 then fX4_afterMove PN (nI g9) (nI (kk9 / 8)) (nI (kk9 % 8)) + 1000 else -1), ()) := (ifSat_in hR hg9 (by omega) hn9 hz9 n89)
      refine k_calli (W.runV (As := [.int (nI g9), .int (nI (kk9 / 8)), .int (nI (kk9 % 8))]) (rest := []) ⟨hx, hb, hml, hown, hts0⟩ (mX6_ifSat l dC dI cI cP a0 aN aT aS t0 t1 t2 h0 h1 pa PN PT PS f u Ps oh vh k (nI g9) (nI (kk9 / 8)) (nI (kk9 % 8)) (ok_inr e_136)) (cwV 3 hts0 (gi_V u_662 u_663 u_664 u_1 u_665) rfl rfl rfl (by decide +kernel) ⟨Nat.le_of_ble_eq_true rfl, Nat.le_of_ble_eq_true rfl⟩) (pcR_V (ci := 4) (q0 := 0) hP hK hn rfl rfl) rfl rfl hl.1 rfl (lv_room (Nat.le_of_ble_eq_true rfl)) dL_isAhead_136 ⟨Nat.zero_le _, Nat.zero_le _⟩) ?_
      refine lv_tope (y := (if fX2_reasonAgainst PN (nI g9) (nI (kk9 / 8)) (nI (kk9 % 8)) = 0 then fX4_afterMove PN (nI g9) (nI (kk9 / 8)) (nI (kk9 % 8)) + 1000 else -1)) (ok1_inr e_136) ?_
      refine lv_istore (lv' := [(10, .int (if fX2_reasonAgainst PN (nI g9) (nI (kk9 / 8)) (nI (kk9 % 8)) = 0 then fX4_afterMove PN (nI g9) (nI (kk9 / 8)) (nI (kk9 % 8)) + 1000 else -1)), (9, .int (fX2_reasonAgainst PN (nI g9) (nI (kk9 / 8)) (nI (kk9 % 8)))), (8, .int (nI kk9)), (7, .int 1), (6, .int mv), (5, .int bv), (3, .long (fL_looks PN)), (0, .ref a0), (1, .int (nI g9)), (2, .int xa)]) hx hb dL_isAhead_139 hl (by decide) rfl (fun ls hl => ?_)
      refine lv_iload hx hb dL_isAhead_141 (lv_at hl 0 rfl) ?_
      refine lv_iconst (v := (-1)) hx hb dL_isAhead_143 (by decide) ?_
      have K144 : ∀ (v144_0 : Nat), v144_0 = (if (if fX2_reasonAgainst PN (nI g9) (nI (kk9 / 8)) (nI (kk9 % 8)) = 0 then fX4_afterMove PN (nI g9) (nI (kk9 / 8)) (nI (kk9 % 8)) + 1000 else -1) = (-1) then 1 else 0) → ∀ (H : Heap) (locs : List Loc), va_P (dC, dI) vwCl (fW cI cP a0 aN aT aS t0 t1 t2 h0 h1 pa PN PT PS f u Ps oh vh k) H → va_D A (fW cI cP a0 aN aT aS t0 t1 t2 h0 h1 pa PN PT PS f u Ps oh vh k) → va_S A s.heap H locs → ∀ (ls : Array Slot), lv_has ls 14 [(10, .int (if fX2_reasonAgainst PN (nI g9) (nI (kk9 / 8)) (nI (kk9 % 8)) = 0 then fX4_afterMove PN (nI g9) (nI (kk9 / 8)) (nI (kk9 % 8)) + 1000 else -1)), (9, .int (fX2_reasonAgainst PN (nI g9) (nI (kk9 / 8)) (nI (kk9 % 8)))), (8, .int (nI kk9)), (7, .int 1), (6, .int mv), (5, .int bv), (3, .long (fL_looks PN)), (0, .ref a0), (1, .int (nI g9)), (2, .int xa)] → W p l e rmL_isAhead s m args below meth c H locs 0 0 Q (F0 m 152 ls [.int (nI v144_0)]) := by
        intro v144_0 hz144 H locs hP hD hS ls hl
        have hz := hz144
        have bz144 : (nI v144_0 : Int32) = 0 ∨ nI v144_0 = 1 := by rw [hz]; (try simp only [bd_eq]); (repeat' split); all_goals first | exact Or.inl rfl | exact Or.inr rfl
        refine lv_iload hx hb dL_isAhead_152 (lv_at hl 1 rfl) ?_
        have K154 : ∀ (v154_0 : Nat), v154_0 = (if (fX2_reasonAgainst PN (nI g9) (nI (kk9 / 8)) (nI (kk9 % 8))) ≤ 0 then 0 else 1) → ∀ (H : Heap) (locs : List Loc), va_P (dC, dI) vwCl (fW cI cP a0 aN aT aS t0 t1 t2 h0 h1 pa PN PT PS f u Ps oh vh k) H → va_D A (fW cI cP a0 aN aT aS t0 t1 t2 h0 h1 pa PN PT PS f u Ps oh vh k) → va_S A s.heap H locs → ∀ (ls : Array Slot), lv_has ls 14 [(10, .int (if fX2_reasonAgainst PN (nI g9) (nI (kk9 / 8)) (nI (kk9 % 8)) = 0 then fX4_afterMove PN (nI g9) (nI (kk9 / 8)) (nI (kk9 % 8)) + 1000 else -1)), (9, .int (fX2_reasonAgainst PN (nI g9) (nI (kk9 / 8)) (nI (kk9 % 8)))), (8, .int (nI kk9)), (7, .int 1), (6, .int mv), (5, .int bv), (3, .long (fL_looks PN)), (0, .ref a0), (1, .int (nI g9)), (2, .int xa)] → W p l e rmL_isAhead s m args below meth c H locs 0 0 Q (F0 m 162 ls [.int (nI v154_0), .int (nI v144_0)]) := by
          intro v154_0 hz154 H locs hP hD hS ls hl
          have hz := hz154
          have bz154 : (nI v154_0 : Int32) = 0 ∨ nI v154_0 = 1 := by rw [hz]; (try simp only [bd_eq]); (repeat' split); all_goals first | exact Or.inl rfl | exact Or.inr rfl
          refine lv_icmp_ne (tgt := 237) hx hb dL_isAhead_162 (by decide) (fun c_162 => ?_) (fun c_162 => ?_)
          · exact absurd (by rw [hz144, hz154, ah_none hR hg9 (show kk9 / 8 < T by omega) hn9 hz9 n89]) c_162
          refine lv_iload hx hb dL_isAhead_165 (lv_at hl 1 rfl) ?_
          refine lv_iconst (v := 1) hx hb dL_isAhead_167 (by decide) ?_
          have K168 : ∀ (v168_0 : Nat), v168_0 = (if (fX2_reasonAgainst PN (nI g9) (nI (kk9 / 8)) (nI (kk9 % 8))) = 1 then 1 else 0) → ∀ (H : Heap) (locs : List Loc), va_P (dC, dI) vwCl (fW cI cP a0 aN aT aS t0 t1 t2 h0 h1 pa PN PT PS f u Ps oh vh k) H → va_D A (fW cI cP a0 aN aT aS t0 t1 t2 h0 h1 pa PN PT PS f u Ps oh vh k) → va_S A s.heap H locs → ∀ (ls : Array Slot), lv_has ls 14 [(10, .int (if fX2_reasonAgainst PN (nI g9) (nI (kk9 / 8)) (nI (kk9 % 8)) = 0 then fX4_afterMove PN (nI g9) (nI (kk9 / 8)) (nI (kk9 % 8)) + 1000 else -1)), (9, .int (fX2_reasonAgainst PN (nI g9) (nI (kk9 / 8)) (nI (kk9 % 8)))), (8, .int (nI kk9)), (7, .int 1), (6, .int mv), (5, .int bv), (3, .long (fL_looks PN)), (0, .ref a0), (1, .int (nI g9)), (2, .int xa)] → W p l e rmL_isAhead s m args below meth c H locs 0 0 Q (F0 m 176 ls [.int (nI v168_0)]) := by
            intro v168_0 hz168 H locs hP hD hS ls hl
            have hz := hz168
            have bz168 : (nI v168_0 : Int32) = 0 ∨ nI v168_0 = 1 := by rw [hz]; (try simp only [bd_eq]); (repeat' split); all_goals first | exact Or.inl rfl | exact Or.inr rfl
            refine lv_aload_n hx hb dL_isAhead_176 rfl (lv_at hl 7 rfl) ?_
            refine lv_iload hx hb dL_isAhead_177 (lv_at hl 2 rfl) ?_
            refine lv_bipush (v := 8) hx hb dL_isAhead_179 (by decide) ?_
            refine lv_idiv hx hb dL_isAhead_181 (by decide) ?_
            refine lv_tope (y := (nI (kk9 / 8))) (pk_div (a := kk9) (d := 8) (by omega) (by decide) (by decide)) ?_
            refine lv_iload hx hb dL_isAhead_182 (lv_at hl 2 rfl) ?_
            refine lv_bipush (v := 8) hx hb dL_isAhead_184 (by decide) ?_
            refine lv_irem hx hb dL_isAhead_186 (by decide) ?_
            refine lv_tope (y := (nI (kk9 % 8))) (pk_rem (a := kk9) (d := 8) (by omega) (by decide) (by decide)) ?_
            have e_187 : (fX6_who PN (nI (kk9 / 8)) (nI (kk9 % 8))) = Sum.inr ((fX2_holderAt PN (nI (kk9 / 8)) (nI (kk9 % 8))), ()) := (who_in hR (by omega) hn9 hz9 n89)
            refine k_calli (W.runV (As := [.int (nI (kk9 / 8)), .int (nI (kk9 % 8))]) (rest := [.int (nI v168_0)]) ⟨hx, hb, hml, hown, hts0⟩ (mX6_who l dC dI cI cP a0 aN aT aS t0 t1 t2 h0 h1 pa PN PT PS f u Ps oh vh k (nI (kk9 / 8)) (nI (kk9 % 8)) (ok_inr e_187)) (cwV 2 hts0 (gi_V u_629 u_630 u_631 u_1 u_632) rfl rfl rfl (by decide +kernel) ⟨Nat.le_of_ble_eq_true rfl, Nat.le_of_ble_eq_true rfl⟩) (pcR_V (ci := 4) (q0 := 0) hP hK hn rfl rfl) rfl rfl hl.1 rfl (lv_room (Nat.le_of_ble_eq_true rfl)) dL_isAhead_187 ⟨Nat.zero_le _, Nat.zero_le _⟩) ?_
            refine lv_tope (y := (fX2_holderAt PN (nI (kk9 / 8)) (nI (kk9 % 8)))) (ok1_inr e_187) ?_
            refine lv_iload_n hx hb dL_isAhead_190 rfl (lv_at hl 8 rfl) ?_
            have K191 : ∀ (v191_0 : Nat), v191_0 = (if (fX2_holderAt PN (nI (kk9 / 8)) (nI (kk9 % 8))) = (nI g9) then 1 else 0) → ∀ (H : Heap) (locs : List Loc), va_P (dC, dI) vwCl (fW cI cP a0 aN aT aS t0 t1 t2 h0 h1 pa PN PT PS f u Ps oh vh k) H → va_D A (fW cI cP a0 aN aT aS t0 t1 t2 h0 h1 pa PN PT PS f u Ps oh vh k) → va_S A s.heap H locs → ∀ (ls : Array Slot), lv_has ls 14 [(10, .int (if fX2_reasonAgainst PN (nI g9) (nI (kk9 / 8)) (nI (kk9 % 8)) = 0 then fX4_afterMove PN (nI g9) (nI (kk9 / 8)) (nI (kk9 % 8)) + 1000 else -1)), (9, .int (fX2_reasonAgainst PN (nI g9) (nI (kk9 / 8)) (nI (kk9 % 8)))), (8, .int (nI kk9)), (7, .int 1), (6, .int mv), (5, .int bv), (3, .long (fL_looks PN)), (0, .ref a0), (1, .int (nI g9)), (2, .int xa)] → W p l e rmL_isAhead s m args below meth c H locs 0 0 Q (F0 m 199 ls [.int (nI v191_0), .int (nI v168_0)]) := by
              intro v191_0 hz191 H locs hP hD hS ls hl
              have hz := hz191
              have bz191 : (nI v191_0 : Int32) = 0 ∨ nI v191_0 = 1 := by rw [hz]; (try simp only [bd_eq]); (repeat' split); all_goals first | exact Or.inl rfl | exact Or.inr rfl
              refine lv_icmp_ne (tgt := 237) hx hb dL_isAhead_199 (by decide) (fun c_199 => ?_) (fun c_199 => ?_)
              · exact absurd (by rw [hz168, hz191, ah_first hR hg9 (show kk9 / 8 < T by omega) hz9 n89]) c_199
              refine lv_iload hx hb dL_isAhead_202 (lv_at hl 1 rfl) ?_
              have K204 : ∀ (H : Heap) (locs : List Loc), va_P (dC, dI) vwCl (fW cI cP a0 aN aT aS t0 t1 t2 h0 h1 pa PN PT PS f u Ps oh vh k) H → va_D A (fW cI cP a0 aN aT aS t0 t1 t2 h0 h1 pa PN PT PS f u Ps oh vh k) → va_S A s.heap H locs → ∀ (ls : Array Slot), lv_has ls 14 [(10, .int (if fX2_reasonAgainst PN (nI g9) (nI (kk9 / 8)) (nI (kk9 % 8)) = 0 then fX4_afterMove PN (nI g9) (nI (kk9 / 8)) (nI (kk9 % 8)) + 1000 else -1)), (9, .int (fX2_reasonAgainst PN (nI g9) (nI (kk9 / 8)) (nI (kk9 % 8)))), (8, .int (nI kk9)), (7, .int 1), (6, .int mv), (5, .int bv), (3, .long (fL_looks PN)), (0, .ref a0), (1, .int (nI g9)), (2, .int xa)] → W p l e rmL_isAhead s m args below meth c H locs 0 0 Q (F0 m 238 ls [.int 1]) := by
                intro H locs hP hD hS ls hl
                refine lv_istore (lv' := [(7, .int 1), (10, .int (if fX2_reasonAgainst PN (nI g9) (nI (kk9 / 8)) (nI (kk9 % 8)) = 0 then fX4_afterMove PN (nI g9) (nI (kk9 / 8)) (nI (kk9 % 8)) + 1000 else -1)), (9, .int (fX2_reasonAgainst PN (nI g9) (nI (kk9 / 8)) (nI (kk9 % 8)))), (8, .int (nI kk9)), (6, .int mv), (5, .int bv), (3, .long (fL_looks PN)), (0, .ref a0), (1, .int (nI g9)), (2, .int xa)]) hx hb dL_isAhead_238 hl (by decide) rfl (fun ls hl => ?_)
                exact K104 _ _ hP hD hS  ls (lv_sub hl [3, 0, 4, 5, 6, 7, 8, 9] rfl)
              refine lv_if_gt (tgt := 233) hx hb dL_isAhead_204 (by decide) (fun c_204 => ?_) (fun c_204 => ?_)
              · refine lv_iconst (v := 1) hx hb dL_isAhead_233 (by decide) ?_
                refine lv_goto (tgt := 238) hx hb dL_isAhead_234 (by decide) ?_
                exact K204 _ _ hP hD hS  ls (lv_sub hl [0, 1, 2, 3, 4, 5, 6, 7, 8, 9] rfl)
              obtain ⟨hb09, hle9, hge9⟩ := ah_best hR hB9 hg9 (show kk9 / 8 < T by omega) hn9 hz9 n89 c_204
              rw [show 8 * (kk9 / 8) + kk9 % 8 = kk9 by omega] at hge9
              refine lv_iload hx hb dL_isAhead_207 (lv_at hl 5 rfl) ?_
              refine lv_if_lt (tgt := 237) hx hb dL_isAhead_209 (by decide) (fun c_209 => ?_) (fun c_209 => ?_)
              · exact absurd c_209 hb09
              refine lv_iload hx hb dL_isAhead_212 (lv_at hl 0 rfl) ?_
              refine lv_iload hx hb dL_isAhead_214 (lv_at hl 4 rfl) ?_
              refine lv_icmp_gt (tgt := 237) hx hb dL_isAhead_216 (by decide) (fun c_216 => ?_) (fun c_216 => ?_)
              · exact absurd c_216 hle9
              refine lv_iload hx hb dL_isAhead_219 (lv_at hl 0 rfl) ?_
              refine lv_iload hx hb dL_isAhead_221 (lv_at hl 4 rfl) ?_
              refine lv_icmp_lt (tgt := 233) hx hb dL_isAhead_223 (by decide) (fun c_223 => ?_) (fun c_223 => ?_)
              · refine lv_iconst (v := 1) hx hb dL_isAhead_233 (by decide) ?_
                refine lv_goto (tgt := 238) hx hb dL_isAhead_234 (by decide) ?_
                exact K204 _ _ hP hD hS  ls (lv_sub hl [0, 1, 2, 3, 4, 5, 6, 7, 8, 9] rfl)
              refine lv_iload hx hb dL_isAhead_226 (lv_at hl 2 rfl) ?_
              refine lv_iload hx hb dL_isAhead_228 (lv_at hl 5 rfl) ?_
              refine lv_icmp_lt (tgt := 237) hx hb dL_isAhead_230 (by decide) (fun c_230 => ?_) (fun c_230 => ?_)
              · exact absurd c_230 (Int32.not_lt.mpr (hge9 (Int32.not_lt.mp c_223)))
              refine lv_iconst (v := 1) hx hb dL_isAhead_233 (by decide) ?_
              refine lv_goto (tgt := 238) hx hb dL_isAhead_234 (by decide) ?_
              exact K204 _ _ hP hD hS  ls (lv_sub hl [0, 1, 2, 3, 4, 5, 6, 7, 8, 9] rfl)
            have hF : ((if (fX2_holderAt PN (nI (kk9 / 8)) (nI (kk9 % 8))) = (nI g9) then 1 else 0) : Nat) = (if (fX2_holderAt PN (nI (kk9 / 8)) (nI (kk9 % 8))) = (nI g9) then 1 else 0) := rfl
            refine lv_icmp_ne (tgt := 198) hx hb dL_isAhead_191 (by decide) (fun c_191 => ?_) (fun c_191 => ?_)
            · have hF := hF.trans (if_neg c_191)
              refine lv_iconst (v := 0) hx hb dL_isAhead_198 (by decide) ?_
              exact K191 _ hF.symm _ _ hP hD hS  ls (lv_sub hl [0, 1, 2, 3, 4, 5, 6, 7, 8, 9] rfl)
            have hF := hF.trans (if_pos c_191)
            refine lv_iconst (v := 1) hx hb dL_isAhead_194 (by decide) ?_
            refine lv_goto (tgt := 199) hx hb dL_isAhead_195 (by decide) ?_
            exact K191 _ hF.symm _ _ hP hD hS  ls (lv_sub hl [0, 1, 2, 3, 4, 5, 6, 7, 8, 9] rfl)
          have hF : ((if (fX2_reasonAgainst PN (nI g9) (nI (kk9 / 8)) (nI (kk9 % 8))) = 1 then 1 else 0) : Nat) = (if (fX2_reasonAgainst PN (nI g9) (nI (kk9 / 8)) (nI (kk9 % 8))) = 1 then 1 else 0) := rfl
          refine lv_icmp_ne (tgt := 175) hx hb dL_isAhead_168 (by decide) (fun c_168 => ?_) (fun c_168 => ?_)
          · have hF := hF.trans (if_neg c_168)
            refine lv_iconst (v := 0) hx hb dL_isAhead_175 (by decide) ?_
            exact K168 _ hF.symm _ _ hP hD hS  ls (lv_sub hl [0, 1, 2, 3, 4, 5, 6, 7, 8, 9] rfl)
          have hF := hF.trans (if_pos c_168)
          refine lv_iconst (v := 1) hx hb dL_isAhead_171 (by decide) ?_
          refine lv_goto (tgt := 176) hx hb dL_isAhead_172 (by decide) ?_
          exact K168 _ hF.symm _ _ hP hD hS  ls (lv_sub hl [0, 1, 2, 3, 4, 5, 6, 7, 8, 9] rfl)
        have hF : ((if (fX2_reasonAgainst PN (nI g9) (nI (kk9 / 8)) (nI (kk9 % 8))) ≤ 0 then 0 else 1) : Nat) = (if (fX2_reasonAgainst PN (nI g9) (nI (kk9 / 8)) (nI (kk9 % 8))) ≤ 0 then 0 else 1) := rfl
        refine lv_if_le (tgt := 161) hx hb dL_isAhead_154 (by decide) (fun c_154 => ?_) (fun c_154 => ?_)
        · have hF := hF.trans (if_pos c_154)
          refine lv_iconst (v := 0) hx hb dL_isAhead_161 (by decide) ?_
          exact K154 _ hF.symm _ _ hP hD hS  ls (lv_sub hl [0, 1, 2, 3, 4, 5, 6, 7, 8, 9] rfl)
        have hF := hF.trans (if_neg c_154)
        refine lv_iconst (v := 1) hx hb dL_isAhead_157 (by decide) ?_
        refine lv_goto (tgt := 162) hx hb dL_isAhead_158 (by decide) ?_
        exact K154 _ hF.symm _ _ hP hD hS  ls (lv_sub hl [0, 1, 2, 3, 4, 5, 6, 7, 8, 9] rfl)
      have hF : ((if (if fX2_reasonAgainst PN (nI g9) (nI (kk9 / 8)) (nI (kk9 % 8)) = 0 then fX4_afterMove PN (nI g9) (nI (kk9 / 8)) (nI (kk9 % 8)) + 1000 else -1) = (-1) then 1 else 0) : Nat) = (if (if fX2_reasonAgainst PN (nI g9) (nI (kk9 / 8)) (nI (kk9 % 8)) = 0 then fX4_afterMove PN (nI g9) (nI (kk9 / 8)) (nI (kk9 % 8)) + 1000 else -1) = (-1) then 1 else 0) := rfl
      refine lv_icmp_ne (tgt := 151) hx hb dL_isAhead_144 (by decide) (fun c_144 => ?_) (fun c_144 => ?_)
      · have hF := hF.trans (if_neg c_144)
        refine lv_iconst (v := 0) hx hb dL_isAhead_151 (by decide) ?_
        exact K144 _ hF.symm _ _ hP hD hS  ls (lv_sub hl [0, 1, 2, 3, 4, 5, 6, 7, 8, 9] rfl)
      have hF := hF.trans (if_pos c_144)
      refine lv_iconst (v := 1) hx hb dL_isAhead_147 (by decide) ?_
      refine lv_goto (tgt := 152) hx hb dL_isAhead_148 (by decide) ?_
      exact K144 _ hF.symm _ _ hP hD hS  ls (lv_sub hl [0, 1, 2, 3, 4, 5, 6, 7, 8, 9] rfl)
  refine lv_aload_n hx hb dL_isAhead_0 rfl (lv_at hl 0 rfl) ?_
  refine k_calll (W.runS (As := [.ref a0]) (rest := []) ⟨hx, hb, hml, hown, hts0⟩ (mL_looks l dC dI cI cP a0 aN aT aS t0 t1 t2 h0 h1 pa PN PT PS f u Ps oh vh k  f9 G T L hR) (va_cwS 1 hts0 (gi_S u_354 u_355 u_0 u_356) rfl rfl rfl (by decide +kernel) ⟨Nat.le_of_ble_eq_true rfl, Nat.le_of_ble_eq_true rfl⟩) (pcR_S hP hK hn) rfl rfl hl.1 rfl (lv_room (Nat.le_of_ble_eq_true rfl)) dL_isAhead_1 ⟨Nat.zero_le _, Nat.zero_le _⟩) ?_
  refine lv_lstore_n (lv' := [(3, .long (fL_looks PN)), (0, .ref a0), (1, .int (nI g9)), (2, .int xa)]) hx hb dL_isAhead_4 rfl hl (by decide) rfl (fun ls hl => ?_)
  refine lv_aload_n hx hb dL_isAhead_5 rfl (lv_at hl 1 rfl) ?_
  refine lv_iload_n hx hb dL_isAhead_6 rfl (lv_at hl 2 rfl) ?_
  have e_7 : (fX6_bestSeat PN (nI g9)) = Sum.inr ((fX2_bestPlace PN (nI g9)), ()) := (bestSeat_in hR hg9)
  refine k_calli (W.runV (As := [.int (nI g9)]) (rest := []) ⟨hx, hb, hml, hown, hts0⟩ (mX6_bestSeat l dC dI cI cP a0 aN aT aS t0 t1 t2 h0 h1 pa PN PT PS f u Ps oh vh k (nI g9) (ok_inr e_7)) (cwV 1 hts0 (gi_V u_657 u_658 u_659 u_1 u_660) rfl rfl rfl (by decide +kernel) ⟨Nat.le_of_ble_eq_true rfl, Nat.le_of_ble_eq_true rfl⟩) (pcR_V (ci := 4) (q0 := 0) hP hK hn rfl rfl) rfl rfl hl.1 rfl (lv_room (Nat.le_of_ble_eq_true rfl)) dL_isAhead_7 ⟨Nat.zero_le _, Nat.zero_le _⟩) ?_
  refine lv_tope (y := (fX2_bestPlace PN (nI g9))) (ok1_inr e_7) ?_
  refine lv_istore (lv' := [(5, .int (fX2_bestPlace PN (nI g9))), (3, .long (fL_looks PN)), (0, .ref a0), (1, .int (nI g9)), (2, .int xa)]) hx hb dL_isAhead_10 hl (by decide) rfl (fun ls hl => ?_)
  refine lv_iload hx hb dL_isAhead_12 (lv_at hl 0 rfl) ?_
  have K14 : ∀ (v14_0 : Int32), v14_0 = (if 0 ≤ (fX2_bestPlace PN (nI g9)) then (fX4_afterMove PN (nI g9) ((fX2_bestPlace PN (nI g9)) / 8) ((fX2_bestPlace PN (nI g9)) - (fX2_bestPlace PN (nI g9)) / 8 * 8) + 1000) else 0) → ∀ (H : Heap) (locs : List Loc), va_P (dC, dI) vwCl (fW cI cP a0 aN aT aS t0 t1 t2 h0 h1 pa PN PT PS f u Ps oh vh k) H → va_D A (fW cI cP a0 aN aT aS t0 t1 t2 h0 h1 pa PN PT PS f u Ps oh vh k) → va_S A s.heap H locs → ∀ (ls : Array Slot), lv_has ls 14 [(5, .int (fX2_bestPlace PN (nI g9))), (3, .long (fL_looks PN)), (0, .ref a0), (1, .int (nI g9)), (2, .int xa)] → W p l e rmL_isAhead s m args below meth c H locs 0 0 Q (F0 m 36 ls [.int v14_0]) := by
    intro v14_0 hz14 H locs hP hD hS ls hl
    have hz := hz14
    refine lv_istore (lv' := [(6, .int v14_0), (5, .int (fX2_bestPlace PN (nI g9))), (3, .long (fL_looks PN)), (0, .ref a0), (1, .int (nI g9)), (2, .int xa)]) hx hb dL_isAhead_36 hl (by decide) rfl (fun ls hl => ?_)
    have hBM := best_BM hR hg9 hz14
    refine lv_iload hx hb dL_isAhead_38 (lv_at hl 1 rfl) ?_
    have K40 : ∀ (H : Heap) (locs : List Loc), va_P (dC, dI) vwCl (fW cI cP a0 aN aT aS t0 t1 t2 h0 h1 pa PN PT PS f u Ps oh vh k) H → va_D A (fW cI cP a0 aN aT aS t0 t1 t2 h0 h1 pa PN PT PS f u Ps oh vh k) → va_S A s.heap H locs → ∀ (ls : Array Slot), lv_has ls 14 [(6, .int v14_0), (5, .int (fX2_bestPlace PN (nI g9))), (3, .long (fL_looks PN)), (0, .ref a0), (1, .int (nI g9)), (2, .int xa)] → W p l e rmL_isAhead s m args below meth c H locs 0 0 Q (F0 m 66 ls [.int 1]) := by
      intro H locs hP hD hS ls hl
      refine lv_istore (lv' := [(7, .int 1), (6, .int v14_0), (5, .int (fX2_bestPlace PN (nI g9))), (3, .long (fL_looks PN)), (0, .ref a0), (1, .int (nI g9)), (2, .int xa)]) hx hb dL_isAhead_66 hl (by decide) rfl (fun ls hl => ?_)
      refine lv_iconst (v := 0) hx hb dL_isAhead_68 (by decide) ?_
      refine lv_istore (lv' := [(8, .int 0), (7, .int 1), (6, .int v14_0), (5, .int (fX2_bestPlace PN (nI g9))), (3, .long (fL_looks PN)), (0, .ref a0), (1, .int (nI g9)), (2, .int xa)]) hx hb dL_isAhead_69 hl (by decide) rfl (fun ls hl => ?_)
      exact L71 _ _ hBM (8 * T) 0 (Nat.zero_add _) _ _ hP hD hS ls (lv_sub hl [0, 1, 2, 3, 4, 5, 6, 7] rfl)
    refine lv_if_lt (tgt := 61) hx hb dL_isAhead_40 (by decide) (fun c_40 => ?_) (fun c_40 => ?_)
    · refine lv_iconst (v := 1) hx hb dL_isAhead_61 (by decide) ?_
      refine lv_goto (tgt := 66) hx hb dL_isAhead_62 (by decide) ?_
      exact K40 _ _ hP hD hS  ls (lv_sub hl [0, 1, 2, 3, 4, 5] rfl)
    obtain ⟨t9, z9, n9, ht9, hn9, hn89, hz9, eb9, ed9, em9, hr09⟩ := best_pos hR hg9 c_40
    refine lv_aload_n hx hb dL_isAhead_43 rfl (lv_at hl 3 rfl) ?_
    refine lv_iload_n hx hb dL_isAhead_44 rfl (lv_at hl 4 rfl) ?_
    refine lv_iload hx hb dL_isAhead_45 (lv_at hl 1 rfl) ?_
    refine lv_bipush (v := 8) hx hb dL_isAhead_47 (by decide) ?_
    refine lv_idiv hx hb dL_isAhead_49 (by decide) ?_
    refine lv_iload hx hb dL_isAhead_50 (lv_at hl 1 rfl) ?_
    refine lv_bipush (v := 8) hx hb dL_isAhead_52 (by decide) ?_
    refine lv_irem hx hb dL_isAhead_54 (by decide) ?_
    have e_55 : (fX6_whyNot PN (nI g9) ((fX2_bestPlace PN (nI g9)) / 8) ((fX2_bestPlace PN (nI g9)) - (fX2_bestPlace PN (nI g9)) / 8 * 8)) = Sum.inr ((fX2_reasonAgainst PN (nI g9) ((fX2_bestPlace PN (nI g9)) / 8) ((fX2_bestPlace PN (nI g9)) - (fX2_bestPlace PN (nI g9)) / 8 * 8)), ()) := (by rw [em9, ed9]; exact whyNot_in hR hg9 ht9 hn9 hz9 hn89)
    refine k_calli (W.runV (As := [.int (nI g9), .int ((fX2_bestPlace PN (nI g9)) / 8), .int ((fX2_bestPlace PN (nI g9)) - (fX2_bestPlace PN (nI g9)) / 8 * 8)]) (rest := []) ⟨hx, hb, hml, hown, hts0⟩ (mX6_whyNot l dC dI cI cP a0 aN aT aS t0 t1 t2 h0 h1 pa PN PT PS f u Ps oh vh k (nI g9) ((fX2_bestPlace PN (nI g9)) / 8) ((fX2_bestPlace PN (nI g9)) - (fX2_bestPlace PN (nI g9)) / 8 * 8) (ok_inr e_55)) (cwV 3 hts0 (gi_V u_601 u_602 u_603 u_1 u_604) rfl rfl rfl (by decide +kernel) ⟨Nat.le_of_ble_eq_true rfl, Nat.le_of_ble_eq_true rfl⟩) (pcR_V (ci := 4) (q0 := 0) hP hK hn rfl rfl) rfl rfl hl.1 rfl (lv_room (Nat.le_of_ble_eq_true rfl)) dL_isAhead_55 ⟨Nat.zero_le _, Nat.zero_le _⟩) ?_
    refine lv_tope (y := (fX2_reasonAgainst PN (nI g9) ((fX2_bestPlace PN (nI g9)) / 8) ((fX2_bestPlace PN (nI g9)) - (fX2_bestPlace PN (nI g9)) / 8 * 8))) (ok1_inr e_55) ?_
    refine lv_if_ne (tgt := 65) hx hb dL_isAhead_58 (by decide) (fun c_58 => ?_) (fun c_58 => ?_)
    · exact absurd (by rw [em9, ed9]; exact hr09) c_58
    refine lv_iconst (v := 1) hx hb dL_isAhead_61 (by decide) ?_
    refine lv_goto (tgt := 66) hx hb dL_isAhead_62 (by decide) ?_
    exact K40 _ _ hP hD hS  ls (lv_sub hl [0, 1, 2, 3, 4, 5] rfl)
  have hF : ((if 0 ≤ (fX2_bestPlace PN (nI g9)) then (fX4_afterMove PN (nI g9) ((fX2_bestPlace PN (nI g9)) / 8) ((fX2_bestPlace PN (nI g9)) - (fX2_bestPlace PN (nI g9)) / 8 * 8) + 1000) else 0) : Int32) = (if 0 ≤ (fX2_bestPlace PN (nI g9)) then (fX4_afterMove PN (nI g9) ((fX2_bestPlace PN (nI g9)) / 8) ((fX2_bestPlace PN (nI g9)) - (fX2_bestPlace PN (nI g9)) / 8 * 8) + 1000) else 0) := rfl
  refine lv_if_ge (tgt := 21) hx hb dL_isAhead_14 (by decide) (fun c_14 => ?_) (fun c_14 => ?_)
  · have hF := hF.trans (if_pos c_14)
    obtain ⟨t9, z9, n9, ht9, hn9, hn89, hz9, eb9, ed9, em9, hr09⟩ := best_pos hR hg9 (Int32.not_lt.mpr c_14)
    refine lv_aload_n hx hb dL_isAhead_21 rfl (lv_at hl 2 rfl) ?_
    refine lv_iload_n hx hb dL_isAhead_22 rfl (lv_at hl 3 rfl) ?_
    refine lv_iload hx hb dL_isAhead_23 (lv_at hl 0 rfl) ?_
    refine lv_bipush (v := 8) hx hb dL_isAhead_25 (by decide) ?_
    refine lv_idiv hx hb dL_isAhead_27 (by decide) ?_
    refine lv_iload hx hb dL_isAhead_28 (lv_at hl 0 rfl) ?_
    refine lv_bipush (v := 8) hx hb dL_isAhead_30 (by decide) ?_
    refine lv_irem hx hb dL_isAhead_32 (by decide) ?_
    have e_33 : (fX6_ifSat PN (nI g9) ((fX2_bestPlace PN (nI g9)) / 8) ((fX2_bestPlace PN (nI g9)) - (fX2_bestPlace PN (nI g9)) / 8 * 8)) = Sum.inr ((fX4_afterMove PN (nI g9) ((fX2_bestPlace PN (nI g9)) / 8) ((fX2_bestPlace PN (nI g9)) - (fX2_bestPlace PN (nI g9)) / 8 * 8) + 1000), ()) := (by rw [em9, ed9]; exact (ifSat_in hR hg9 ht9 hn9 hz9 hn89).trans (by rw [if_pos hr09]))
    refine k_calli (W.runV (As := [.int (nI g9), .int ((fX2_bestPlace PN (nI g9)) / 8), .int ((fX2_bestPlace PN (nI g9)) - (fX2_bestPlace PN (nI g9)) / 8 * 8)]) (rest := []) ⟨hx, hb, hml, hown, hts0⟩ (mX6_ifSat l dC dI cI cP a0 aN aT aS t0 t1 t2 h0 h1 pa PN PT PS f u Ps oh vh k (nI g9) ((fX2_bestPlace PN (nI g9)) / 8) ((fX2_bestPlace PN (nI g9)) - (fX2_bestPlace PN (nI g9)) / 8 * 8) (ok_inr e_33)) (cwV 3 hts0 (gi_V u_662 u_663 u_664 u_1 u_665) rfl rfl rfl (by decide +kernel) ⟨Nat.le_of_ble_eq_true rfl, Nat.le_of_ble_eq_true rfl⟩) (pcR_V (ci := 4) (q0 := 0) hP hK hn rfl rfl) rfl rfl hl.1 rfl (lv_room (Nat.le_of_ble_eq_true rfl)) dL_isAhead_33 ⟨Nat.zero_le _, Nat.zero_le _⟩) ?_
    refine lv_tope (y := (fX4_afterMove PN (nI g9) ((fX2_bestPlace PN (nI g9)) / 8) ((fX2_bestPlace PN (nI g9)) - (fX2_bestPlace PN (nI g9)) / 8 * 8) + 1000)) (ok1_inr e_33) ?_
    exact K14 _ hF.symm _ _ hP hD hS  ls (lv_sub hl [0, 1, 2, 3, 4] rfl)
  have hF := hF.trans (if_neg c_14)
  refine lv_iconst (v := 0) hx hb dL_isAhead_17 (by decide) ?_
  refine lv_goto (tgt := 36) hx hb dL_isAhead_18 (by decide) ?_
  exact K14 _ hF.symm _ _ hP hD hS  ls (lv_sub hl [0, 1, 2, 3, 4] rfl)
