def fX7_share (f : Nat → Int32) : UInt64 :=
  (if (fX7_wishes f 0) = 0 then FP.dconst1 else (FP.ddiv (FP.i2d (fX7_wishes f 1)) (FP.i2d (fX7_wishes f 0))))
abbrev rmX7_share : Room := { frames := 3, cells := 0, slots := 0, locals := 72 }
set_option maxHeartbeats 4000000 in
set_option maxRecDepth 100000 in
theorem mX7_share (l : Launch) (dC : Nat → ClassId) (dI : Nat → Nat → Nat) (cI : ClassId) (o q0 q1 : Nat) (f x M : Nat → Int32) (h : Int64) (hR : RW f 0) : Met l yX7_share (ws_ yX7_share cX7_share 2 (some .double)) rmX7_share (pcR (dC, dI) [(cI, .int)] (mW cI o q0 q1 f x M h) [.ref o]) (vp_Sd (fun r => r = fX7_share f)) 0 0 (fun _ => False) := by
  refine Met.ofW (cc := cX7_share) (maxL := 2) (ret := (some .double)) (by decide) rfl ?_
  intro p e s m args below meth c s₁ B hml hv
  obtain ⟨ha, hP, hK, hn⟩ := hv
  have hx := B.exec
  have hb := B.bytes
  have hr := B.returns
  have hts0 := atoms_spec (ws := (ws_ yX7_share cX7_share 2 (some .double))) B.pre
  have hts : ∀ w ∈ lw_all, w.before args s = true := fun w h => hts0 w (List.mem_cons_of_mem _ h)
  have hown : s.vm.findClass RX7 = some m.cls := findClass_of_methodNamed B.named
  have hlocks := B.notSynchronized
  obtain ⟨Q, hQ⟩ : ∃ Q, Q = MQ below (vp_Sd (fun r => r = fX7_share f)) args s 0 0 (fun _ => False) := ⟨_, rfl⟩
  rw [← hQ]
  have hl := lv_entry ([.ref o]) (n := 2) (Nat.le_of_ble_eq_true rfl)
  rw [ha, lg_entry_eq, ← ha]
  generalize (lg_sl ([.ref o]) ++ List.replicate (2 - (lg_sl ([.ref o])).length) Slot.unset).toArray = ls at hl ⊢
  have hl : lv_has ls 2 [(0, .ref o)] := hl
  show W p l e rmX7_share s m args below meth c s.heap [] 0 0 Q (F0 m 0 ls [])
  have hF : fX7_share f = fX7_share f := rfl
  obtain ⟨-, rG0, rT0, -⟩ := id hR
  have rG : (f 0).toNatClampNeg ≤ 16 := rG0.c (by decide)
  have rT : (f 1).toNatClampNeg ≤ 4 := rT0.c (by decide)
  refine lv_aload_n hx hb dX7_share_0 rfl (lv_at hl 0 rfl) ?_
  refine lv_iconst (v := 0) hx hb dX7_share_1 (by decide) ?_
  refine k_calli (W.runV (As := [.int 0]) (rest := []) ⟨hx, hb, hml, hown, hts0⟩ (mX7_wishes l dC dI cI o q0 q1 f x M h 0 (by first | omega | assumption)) (cwV 1 hts0 (gi_V u_1144 u_1146 us_48 u_7 u_1147) rfl rfl rfl (by decide +kernel) ⟨Nat.le_of_ble_eq_true rfl, Nat.le_of_ble_eq_true rfl⟩) (pcR_V (ci := 5) (q0 := 0) hP hK hn rfl rfl) rfl rfl hl.1 rfl (lv_room (Nat.le_of_ble_eq_true rfl)) dX7_share_2 ⟨Nat.zero_le _, Nat.zero_le _⟩) ?_
  refine lv_istore_n (lv' := [(1, .int (fX7_wishes f 0)), (0, .ref o)]) hx hb dX7_share_5 rfl hl (by decide) rfl (fun ls hl => ?_)
  refine lv_iload_n hx hb dX7_share_6 rfl (lv_at hl 0 rfl) ?_
  refine lv_if_ne (tgt := 14) hx hb dX7_share_7 (by decide) (fun c_7 => ?_) (fun c_7 => ?_)
  · have hF := hF.trans (if_neg c_7)
    refine lv_aload_n hx hb dX7_share_14 rfl (lv_at hl 1 rfl) ?_
    refine lv_iconst (v := 1) hx hb dX7_share_15 (by decide) ?_
    refine k_calli (W.runV (As := [.int 1]) (rest := []) ⟨hx, hb, hml, hown, hts0⟩ (mX7_wishes l dC dI cI o q0 q1 f x M h 1 (by first | omega | assumption)) (cwV 1 hts0 (gi_V u_1144 u_1146 us_48 u_7 u_1147) rfl rfl rfl (by decide +kernel) ⟨Nat.le_of_ble_eq_true rfl, Nat.le_of_ble_eq_true rfl⟩) (pcR_V (ci := 5) (q0 := 0) hP hK hn rfl rfl) rfl rfl hl.1 rfl (lv_room (Nat.le_of_ble_eq_true rfl)) dX7_share_16 ⟨Nat.zero_le _, Nat.zero_le _⟩) ?_
    refine lv_i2d hx hb dX7_share_19 ?_
    refine lv_iload_n hx hb dX7_share_20 rfl (lv_at hl 0 rfl) ?_
    refine lv_i2d hx hb dX7_share_21 ?_
    refine lv_ddiv hx hb dX7_share_22 (share_fin hR c_7) ?_
    rw [hQ]
    exact W.dret (v := (FP.ddiv (FP.i2d (fX7_wishes f 1)) (FP.i2d (fX7_wishes f 0)))) hx hb hr (fun t ht hW => ⟨(FP.ddiv (FP.i2d (fX7_wishes f 1)) (FP.i2d (fX7_wishes f 0))), rfl, hF.symm, ht⟩) (fun q hq => absurd hq List.not_mem_nil) dX7_share_23
  have hF := hF.trans (if_pos c_7)
  refine lv_dconst1 hx hb dX7_share_10 ?_
  refine lv_goto (tgt := 23) hx hb dX7_share_11 (by decide) ?_
  rw [hQ]
  exact W.dret (v := FP.dconst1) hx hb hr (fun t ht hW => ⟨FP.dconst1, rfl, hF.symm, ht⟩) (fun q hq => absurd hq List.not_mem_nil) dX7_share_23

def fX7_met (f : Nat → Int32) (M : Nat → Int32) : UInt64 × ((Nat → Int32)) :=
  ((fX7_share f), (upd M 0 0))
abbrev rmX7_met : Room := { frames := 4, cells := 0, slots := 0, locals := 93 }
set_option maxHeartbeats 4000000 in
set_option maxRecDepth 100000 in
theorem mX7_met (l : Launch) (dC : Nat → ClassId) (dI : Nat → Nat → Nat) (cI : ClassId) (o q0 q1 : Nat) (f x M : Nat → Int32) (h : Int64) (hR : RW f 0) : Met l yX7_met (ws_ yX7_met cX7_met 1 (some .double)) rmX7_met (pcM (dC, dI) [(cI, .int)] (mW cI o q0 q1 f x M h) [.ref o]) (va_Qd (fun (r9 : UInt64) (u9 : (Nat → Int32)) => (r9, u9) = fX7_met f M) (fun u9 t => va_P (dC, dI) vwCl ((fun (v9 : (Nat → Int32)) => mW cI o q0 q1 f x v9 h) u9) t.heap) (adr (mW cI o q0 q1 f x M h))) 0 0 (adr (mW cI o q0 q1 f x M h)) := by
  refine Met.ofW (cc := cX7_met) (maxL := 1) (ret := (some .double)) (by decide) rfl ?_
  intro p e s m args below meth c s₁ B hml hv
  obtain ⟨ha, hP, hK, hn, hD0⟩ := hv
  have hx := B.exec
  have hb := B.bytes
  have hr := B.returns
  have hts0 := atoms_spec (ws := (ws_ yX7_met cX7_met 1 (some .double))) B.pre
  have hts : ∀ w ∈ lw_all, w.before args s = true := fun w h => hts0 w (List.mem_cons_of_mem _ h)
  have hown : s.vm.findClass RX7 = some m.cls := findClass_of_methodNamed B.named
  have hlocks := B.notSynchronized
  have htX7 : ∀ w ∈ wsX70, w.before args s = true := fun w h => hts w (wX7 w h)
  have hD := adr_self hD0
  obtain ⟨A, hA⟩ : ∃ A, A = adr (mW cI o q0 q1 f x M h) := ⟨_, rfl⟩
  rw [← hA] at hD
  have hS : va_S A s.heap s.heap [] := va_S.rf
  obtain ⟨Q, hQ⟩ : ∃ Q, Q = MQ below (va_Qd (fun (r9 : UInt64) (u9 : (Nat → Int32)) => (r9, u9) = fX7_met f M) (fun u9 t => va_P (dC, dI) vwCl ((fun (v9 : (Nat → Int32)) => mW cI o q0 q1 f x v9 h) u9) t.heap) (adr (mW cI o q0 q1 f x M h))) args s 0 0 (adr (mW cI o q0 q1 f x M h)) := ⟨_, rfl⟩
  rw [← hQ]
  rw [← hA] at hQ
  have hl := lv_entry ([.ref o]) (n := 1) (Nat.le_of_ble_eq_true rfl)
  rw [ha, lg_entry_eq, ← ha]
  generalize (lg_sl ([.ref o]) ++ List.replicate (1 - (lg_sl ([.ref o])).length) Slot.unset).toArray = ls at hl ⊢
  have hl : lv_has ls 1 [(0, .ref o)] := hl
  show W p l e rmX7_met s m args below meth c s.heap [] 0 0 Q (F0 m 0 ls [])
  have hF : fX7_met f M = fX7_met f M := rfl
  refine lv_aload_n hx hb dX7_met_0 rfl (lv_at hl 0 rfl) ?_
  refine lv_iconst (v := 0) hx hb dX7_met_1 (by decide) ?_
  refine va_put (D := (dC, dI)) (ci := 5) (v := .int 0) (ty := .int) (C := RX7) (T := TX7) (N := 12) hx hb htX7 (fun _ h => h) tyX7 tyX7_ok nmX7 hown hK hP hD hS 0 rfl rfl 0 (by decide) (hts _ u_857) (fun _ h9 => h9) rfl (by decide +kernel) rfl rfl (Nat.le_of_ble_eq_true rfl) dX7_met_2 (fun H locs hP hD hS => ?_)
  have hP : va_P (dC, dI) vwCl (mW cI o q0 q1 f x (upd M 0 0) h) H := hP
  have hD : va_D A (mW cI o q0 q1 f x (upd M 0 0) h) := hD
  refine lv_aload_n hx hb dX7_met_5 rfl (lv_at hl 0 rfl) ?_
  refine k_calld (W.runV (As := []) (rest := []) ⟨hx, hb, hml, hown, hts0⟩ (mX7_share l dC dI cI o q0 q1 f x (upd M 0 0) h  (by first | omega | assumption)) (cwV 0 hts0 (gi_V u_1184 u_1186 us_52 u_7 u_1187) rfl rfl rfl (by decide +kernel) ⟨Nat.le_of_ble_eq_true rfl, Nat.le_of_ble_eq_true rfl⟩) (pcR_V (ci := 5) (q0 := 0) hP hK hn rfl rfl) rfl rfl hl.1 rfl (lv_room (Nat.le_of_ble_eq_true rfl)) dX7_met_6 ⟨Nat.zero_le _, Nat.zero_le _⟩) ?_
  rw [hQ]
  exact W.dret (v := (fX7_share f)) hx hb hr (fun t ht hW => ⟨⟨(fX7_share f), (upd M 0 0), rfl, hF.symm, toH ht hP⟩, hS.F ht⟩) hS.2.2 dX7_met_9
