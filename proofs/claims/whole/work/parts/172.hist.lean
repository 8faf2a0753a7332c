/-- the ring's two cells -/
def rW (cP : ClassId) (h0 h1 : Nat) (pa : Nat → Nat → Nat) (o v : Int32) : va_W := [(h0, .inr (0, [.ref h1, .int o, .int v])), (h1, .inl (cP, 6, .inr (.inr (.inr (.inr (fun k => some (pa k 0)))))))]
/-- the history: the ring and its six plans -/
def hW (cI cP : ClassId) (h0 h1 : Nat) (pa : Nat → Nat → Nat) (Ps : Nat → PV) (o v : Int32) : va_W := rW cP h0 h1 pa o v ++ (pW cI (pa 0) (Ps 0) ++ (pW cI (pa 1) (Ps 1) ++ (pW cI (pa 2) (Ps 2) ++ (pW cI (pa 3) (Ps 3) ++ (pW cI (pa 4) (Ps 4) ++ pW cI (pa 5) (Ps 5))))))
abbrev rmX0_planAt : Room := { frames := 0, cells := 0, slots := 0, locals := 0 }
set_option maxHeartbeats 4000000 in
set_option maxRecDepth 100000 in
theorem mX0_planAt (l : Launch) (dC : Nat → ClassId) (dI : Nat → Nat → Nat) (cI cP : ClassId) (h0 h1 : Nat) (pa : Nat → Nat → Nat) (o v : Int32) (j : Nat) (hj : j < 2 ^ 31) : Met l yX0_planAt (ws_ yX0_planAt cX0_planAt 3 (some (.object "SupperSeats$Plan"))) rmX0_planAt (pcR (dC, dI) [(cI, .int), (cP, .object "SupperSeats$Plan")] (rW cP h0 h1 pa o v) [.ref h0, .int (nI j)]) (va_Sr (fun k => k = j % 6) (fun k => .ref (pa k 0))) 0 0 (fun _ => False) := by
  refine Met.ofW (cc := cX0_planAt) (maxL := 3) (ret := some (.object "SupperSeats$Plan")) (by decide) rfl ?_
  intro p e s m args below meth c s₁ B hml hv
  obtain ⟨ha, hP, hK, hn⟩ := hv
  have hx := B.exec
  have hb := B.bytes
  have hr := B.returns
  have hts0 := atoms_spec (ws := ws_ yX0_planAt cX0_planAt 3 (some (.object "SupperSeats$Plan"))) B.pre
  have hts : ∀ w ∈ lw_all, w.before args s = true := fun w h => hts0 w (List.mem_cons_of_mem _ h)
  have hown : s.vm.findClass RX0 = some m.cls := findClass_of_methodNamed B.named
  have hlocks := B.notSynchronized
  have htX0 : ∀ w ∈ wsX00, w.before args s = true := fun w h => hts w (wX0 w h)
  have hl := lv_entry ([.ref h0, .int (nI j)]) (n := 3) (Nat.le_of_ble_eq_true rfl)
  rw [ha, lg_entry_eq, ← ha]
  generalize (lg_sl ([.ref h0, .int (nI j)]) ++ List.replicate (3 - (lg_sl ([.ref h0, .int (nI j)])).length) Slot.unset).toArray = ls at hl ⊢
  have hl : lv_has ls 3 [(0, .ref h0), (1, .int (nI j))] := hl
  have hj6 : j % 6 < 6 := Nat.mod_lt _ (by decide)
  refine lv_iload_n hx hb dX0_planAt_0 rfl (lv_at hl 1 rfl) ?_
  refine lv_bipush (v := 6) hx hb dX0_planAt_1 (by decide) ?_
  refine lv_irem hx hb dX0_planAt_3 (by decide) ?_
  refine lv_tope (y := nI (j % 6)) (pk_rem (a := j) (d := 6) (by omega) (by decide) (by decide)) ?_
  refine lv_istore_n (lv' := [(2, .int (nI (j % 6))), (0, .ref h0), (1, .int (nI j))]) hx hb dX0_planAt_4 rfl hl (by decide) rfl (fun ls hl => ?_)
  refine lv_iload_n hx hb dX0_planAt_5 rfl (lv_at hl 0 rfl) ?_
  refine lv_if_lt (tgt := 27) hx hb dX0_planAt_6 (by decide) (fun c1 => ?_) (fun c1 => ?_)
  · exact absurd c1 (nI_pos (by omega))
  refine lv_iload_n hx hb dX0_planAt_9 rfl (lv_at hl 0 rfl) ?_
  refine lv_aload_n hx hb dX0_planAt_10 rfl (lv_at hl 1 rfl) ?_
  refine va_get (D := (dC, dI)) (ci := 0) (v := .ref h1) (C := RX0) (T := TX0) (N := 3) hx hb htX0 (fun _ h => h) hown hK hP 0 rfl rfl 0 (by decide) (hts _ u_123) (fun _ h9 => h9) rfl dX0_planAt_11 ?_
  refine va_alen (v := nI 6) hx hb hK hP 1 1 rfl rfl rfl dX0_planAt_14 ?_
  refine lv_icmp_ge (tgt := 27) hx hb dX0_planAt_15 (by decide) (fun c2 => ?_) (fun c2 => ?_)
  · exact absurd ((nI_leI (by decide) (by omega)).mp c2) (by omega)
  refine lv_aload_n hx hb dX0_planAt_18 rfl (lv_at hl 1 rfl) ?_
  refine va_get (D := (dC, dI)) (ci := 0) (v := .ref h1) (C := RX0) (T := TX0) (N := 3) hx hb htX0 (fun _ h => h) hown hK hP 0 rfl rfl 0 (by decide) (hts _ u_123) (fun _ h9 => h9) rfl dX0_planAt_19 ?_
  refine lv_iload_n hx hb dX0_planAt_22 rfl (lv_at hl 0 rfl) ?_
  refine va_aldq hx hb hK hP 1 1 rfl rfl (vp_in_nI (n := j % 6) (by omega) (by decide)) dX0_planAt_23 ?_
  rw [nI_clamp (by omega)]
  refine lv_goto (tgt := 28) hx hb dX0_planAt_24 (by decide) ?_
  exact W.aret (v := .ref (pa (j % 6) 0)) hx hb hr (Or.inl ⟨_, rfl⟩) (Or.inr ⟨_, rfl⟩) (fun t ht hW => ⟨j % 6, rfl, rfl, ht⟩) (fun q hq => absurd hq List.not_mem_nil) dX0_planAt_28

def fX0_save0 (Ps : Nat → PV) (o : Nat) (v : Nat) (P : PV) : (Nat → PV) × Nat × Nat :=
  (bd (fX2_copyFrom (Ps 0) P) (fun U20 => (if 6 ≤ (nI v) then (va_up Ps 0 U20, ((o + 1) % 6), v) else (va_up Ps 0 U20, o, (v + 1)))))
abbrev rmX0_save0 : Room := { frames := 3, cells := 0, slots := 0, locals := 82 }
set_option maxHeartbeats 4000000 in
set_option maxRecDepth 100000 in
theorem mX0_save0 (l : Launch) (dC : Nat → ClassId) (dI : Nat → Nat → Nat) (cI cP : ClassId) (h0 h1 : Nat) (pa : Nat → Nat → Nat) (Ps : Nat → PV) (o v : Nat) (ad : Nat → Nat) (P : PV) (ho : o < 6) (hv6 : v ≤ 6) (hi9 : (o + v) % 6 = 0) : Met l yX0_save (ws_ yX0_save cX0_save 3 none) rmX0_save0 (pcM (dC, dI) [(cI, .int), (cP, .object "SupperSeats$Plan")] (hW cI cP h0 h1 pa Ps (nI o) (nI v) ++ pW cI ad P) [.ref h0, .ref (ad 0)]) (va_Qv (fun (u9 : (Nat → PV) × Nat × Nat) => u9 = fX0_save0 Ps o v P) (fun u9 t => va_P (dC, dI) vwCl ((fun (v : (Nat → PV) × Nat × Nat) => hW cI cP h0 h1 pa v.1 (nI v.2.1) (nI v.2.2) ++ pW cI ad P) u9) t.heap) (adr (hW cI cP h0 h1 pa Ps (nI o) (nI v) ++ pW cI ad P))) 0 0 (adr (hW cI cP h0 h1 pa Ps (nI o) (nI v) ++ pW cI ad P)) := by
  refine Met.ofW (cc := cX0_save) (maxL := 3) (ret := none) (by decide) rfl ?_
  intro p e s m args below meth c s₁ B hml hv
  obtain ⟨ha, hP, hK, hn, hD0⟩ := hv
  have hx := B.exec
  have hb := B.bytes
  have hr := B.returns
  have hts0 := atoms_spec (ws := (ws_ yX0_save cX0_save 3 none)) B.pre
  have hts : ∀ w ∈ lw_all, w.before args s = true := fun w h => hts0 w (List.mem_cons_of_mem _ h)
  have hown : s.vm.findClass RX0 = some m.cls := findClass_of_methodNamed B.named
  have hlocks := B.notSynchronized
  have htX0 : ∀ w ∈ wsX00, w.before args s = true := fun w h => hts w (wX0 w h)
  have hD := adr_self hD0
  obtain ⟨A, hA⟩ : ∃ A, A = adr (hW cI cP h0 h1 pa Ps (nI o) (nI v) ++ pW cI ad P) := ⟨_, rfl⟩
  rw [← hA] at hD
  have hS : va_S A s.heap s.heap [] := va_S.rf
  obtain ⟨Q, hQ⟩ : ∃ Q, Q = MQ below (va_Qv (fun (u9 : (Nat → PV) × Nat × Nat) => u9 = fX0_save0 Ps o v P) (fun u9 t => va_P (dC, dI) vwCl ((fun (v : (Nat → PV) × Nat × Nat) => hW cI cP h0 h1 pa v.1 (nI v.2.1) (nI v.2.2) ++ pW cI ad P) u9) t.heap) (adr (hW cI cP h0 h1 pa Ps (nI o) (nI v) ++ pW cI ad P))) args s 0 0 (adr (hW cI cP h0 h1 pa Ps (nI o) (nI v) ++ pW cI ad P)) := ⟨_, rfl⟩
  rw [← hQ]
  rw [← hA] at hQ
  have hl := lv_entry ([.ref h0, .ref (ad 0)]) (n := 3) (Nat.le_of_ble_eq_true rfl)
  rw [ha, lg_entry_eq, ← ha]
  generalize (lg_sl ([.ref h0, .ref (ad 0)]) ++ List.replicate (3 - (lg_sl ([.ref h0, .ref (ad 0)])).length) Slot.unset).toArray = ls at hl ⊢
  have hl : lv_has ls 3 [(0, .ref h0), (1, .ref (ad 0))] := hl
  show W p l e rmX0_save0 s m args below meth c s.heap [] 0 0 Q (F0 m 0 ls [])
  have hF : fX0_save0 Ps o v P = fX0_save0 Ps o v P := rfl
  refine lv_aload_n hx hb dX0_save_0 rfl (lv_at hl 0 rfl) ?_
  refine lv_aload_n hx hb dX0_save_1 rfl (lv_at hl 0 rfl) ?_
  refine va_get (D := (dC, dI)) (ci := 0) (v := .int (nI o)) (C := RX0) (T := TX0) (N := 3) hx hb htX0 (fun _ h => h) hown hK hP 0 rfl rfl 1 (by decide) (hts _ u_124) (fun _ h9 => h9) rfl dX0_save_2 ?_
  refine lv_aload_n hx hb dX0_save_5 rfl (lv_at hl 0 rfl) ?_
  refine va_get (D := (dC, dI)) (ci := 0) (v := .int (nI v)) (C := RX0) (T := TX0) (N := 3) hx hb htX0 (fun _ h => h) hown hK hP 0 rfl rfl 2 (by decide) (hts _ u_125) (fun _ h9 => h9) rfl dX0_save_6 ?_
  refine lv_iadd hx hb dX0_save_9 ?_
  refine lv_tope (y := (nI (o + v))) (nI_add o v) ?_
  refine va_csr (W.runV (As := [.int (nI (o + v))]) (rest := []) ⟨hx, hb, hml, hown, hts0⟩ (mX0_planAt l dC dI cI cP h0 h1 pa (nI o) (nI v) (o + v) (by omega)) (cwV 1 hts0 (gi_V u_173 u_175 us_0 u_6 u_176) rfl rfl rfl (by decide +kernel) ⟨Nat.le_of_ble_eq_true rfl, Nat.le_of_ble_eq_true rfl⟩) (pcR_V (ci := 0) (q0 := 0) (hP.sub (ws' := rW cP h0 h1 pa (nI o) (nI v)) [0, 1] rfl) hK hn rfl rfl) rfl rfl hl.1 rfl (lv_room (Nat.le_of_ble_eq_true rfl)) dX0_save_10 ⟨Nat.zero_le _, Nat.zero_le _⟩) (fun k9 hk9 => ?_)
  rw [hi9] at hk9
  subst hk9
  refine lv_astore_n (lv' := [(2, .ref (pa 0 0)), (0, .ref h0), (1, .ref (ad 0))]) hx hb dX0_save_13 rfl hl (by decide) rfl (fun ls hl => ?_)
  refine lv_aload_n hx hb dX0_save_14 rfl (lv_at hl 0 rfl) ?_
  refine lv_ifnull hx hb dX0_save_15 ?_
  refine lv_aload_n hx hb dX0_save_18 rfl (lv_at hl 0 rfl) ?_
  refine lv_aload_n hx hb dX0_save_19 rfl (lv_at hl 2 rfl) ?_
  refine k_mutv (Wd := (fun (v : PV) => pW cI (pa 0) v ++ pW cI ad P)) (va_runV (As := [.ref (ad 0)]) (rest := []) ⟨hx, hb, hml, hown, hts0⟩ (mX2_copyFrom l dC dI cI (pa 0) (Ps 0) ad P ) (cwV 1 hts0 (gi_V u_177 u_178 u_179 u_2 u_180) rfl rfl rfl (by decide +kernel) ⟨Nat.le_of_ble_eq_true rfl, Nat.le_of_ble_eq_true rfl⟩) (pcM_V (ci := 2) (q0 := 0) (hP.sub (ws' := (pW cI (pa 0) (Ps 0) ++ pW cI ad P)) [2, 3, 4, 5, 6, 7, 8, 9, 10, 11, 12, 13, 14, 80, 81, 82, 83, 84, 85, 86, 87, 88, 89, 90, 91, 92] rfl) (hK.sub (tys' := [(cI, .int)]) [0] rfl) hn (hD.sub (ws' := (pW cI (pa 0) (Ps 0) ++ pW cI ad P)) [2, 3, 4, 5, 6, 7, 8, 9, 10, 11, 12, 13, 14, 80, 81, 82, 83, 84, 85, 86, 87, 88, 89, 90, 91, 92] (by decide) rfl) rfl rfl) rfl rfl hl.1 rfl (lv_room (Nat.le_of_ble_eq_true rfl)) dX0_save_20 ⟨Nat.zero_le _, Nat.zero_le _⟩) hP hD hS [2, 3, 4, 5, 6, 7, 8, 9, 10, 11, 12, 13, 14, 80, 81, 82, 83, 84, 85, 86, 87, 88, 89, 90, 91, 92] rfl rfl (fun _ => rfl) (fun U20 H locs hU20 hP hD hS => ?_)
  have hP : va_P (dC, dI) vwCl (hW cI cP h0 h1 pa (va_up Ps 0 U20) (nI o) (nI v) ++ pW cI ad P) H := hP
  have hD : va_D A (hW cI cP h0 h1 pa (va_up Ps 0 U20) (nI o) (nI v) ++ pW cI ad P) := hD
  have hF := bd_at hF hU20
  refine lv_aload_n hx hb dX0_save_23 rfl (lv_at hl 1 rfl) ?_
  refine va_get (D := (dC, dI)) (ci := 0) (v := .int (nI v)) (C := RX0) (T := TX0) (N := 3) hx hb htX0 (fun _ h => h) hown hK hP 0 rfl rfl 2 (by decide) (hts _ u_125) (fun _ h9 => h9) rfl dX0_save_24 ?_
  refine lv_bipush (v := 6) hx hb dX0_save_27 (by decide) ?_
  refine lv_icmp_ge (tgt := 45) hx hb dX0_save_29 (by decide) (fun c_29 => ?_) (fun c_29 => ?_)
  · have hF := hF.trans (if_pos c_29)
    refine lv_aload_n hx hb dX0_save_45 rfl (lv_at hl 1 rfl) ?_
    refine lv_aload_n hx hb dX0_save_46 rfl (lv_at hl 1 rfl) ?_
    refine va_get (D := (dC, dI)) (ci := 0) (v := .int (nI o)) (C := RX0) (T := TX0) (N := 3) hx hb htX0 (fun _ h => h) hown hK hP 0 rfl rfl 1 (by decide) (hts _ u_124) (fun _ h9 => h9) rfl dX0_save_47 ?_
    refine lv_iconst (v := 1) hx hb dX0_save_50 (by decide) ?_
    refine lv_iadd hx hb dX0_save_51 ?_
    refine lv_tope (y := (nI (o + 1))) (nI_add o 1) ?_
    refine lv_bipush (v := 6) hx hb dX0_save_52 (by decide) ?_
    refine lv_irem hx hb dX0_save_54 (by decide) ?_
    refine lv_tope (y := (nI ((o + 1) % 6))) (pk_rem (a := (o + 1)) (d := 6) (by omega) (by decide) (by decide)) ?_
    refine va_put (D := (dC, dI)) (ci := 0) (v := .int (nI ((o + 1) % 6))) (ty := .int) (C := RX0) (T := TX0) (N := 3) hx hb htX0 (fun _ h => h) tyX0 tyX0_ok nmX0 hown hK hP hD hS 0 rfl rfl 1 (by decide) (hts _ u_124) (fun _ h9 => h9) rfl (by decide +kernel) rfl rfl (Nat.le_of_ble_eq_true rfl) dX0_save_55 (fun H locs hP hD hS => ?_)
    have hP : va_P (dC, dI) vwCl (hW cI cP h0 h1 pa (va_up Ps 0 U20) (nI ((o + 1) % 6)) (nI v) ++ pW cI ad P) H := hP
    have hD : va_D A (hW cI cP h0 h1 pa (va_up Ps 0 U20) (nI ((o + 1) % 6)) (nI v) ++ pW cI ad P) := hD
    rw [hQ]
    exact W.vret hx hb hr (fun t ht hW => ⟨⟨(va_up Ps 0 U20, ((o + 1) % 6), v), rfl, hF.symm, toH ht hP⟩, hS.F ht⟩) hS.2.2 dX0_save_58
  have hF := hF.trans (if_neg c_29)
  refine lv_aload_n hx hb dX0_save_32 rfl (lv_at hl 1 rfl) ?_
  refine lv_dup hx hb dX0_save_33 rfl ?_
  refine va_get (D := (dC, dI)) (ci := 0) (v := .int (nI v)) (C := RX0) (T := TX0) (N := 3) hx hb htX0 (fun _ h => h) hown hK hP 0 rfl rfl 2 (by decide) (hts _ u_125) (fun _ h9 => h9) rfl dX0_save_34 ?_
  refine lv_iconst (v := 1) hx hb dX0_save_37 (by decide) ?_
  refine lv_iadd hx hb dX0_save_38 ?_
  refine lv_tope (y := (nI (v + 1))) (nI_add v 1) ?_
  refine va_put (D := (dC, dI)) (ci := 0) (v := .int (nI (v + 1))) (ty := .int) (C := RX0) (T := TX0) (N := 3) hx hb htX0 (fun _ h => h) tyX0 tyX0_ok nmX0 hown hK hP hD hS 0 rfl rfl 2 (by decide) (hts _ u_125) (fun _ h9 => h9) rfl (by decide +kernel) rfl rfl (Nat.le_of_ble_eq_true rfl) dX0_save_39 (fun H locs hP hD hS => ?_)
  have hP : va_P (dC, dI) vwCl (hW cI cP h0 h1 pa (va_up Ps 0 U20) (nI o) (nI (v + 1)) ++ pW cI ad P) H := hP
  have hD : va_D A (hW cI cP h0 h1 pa (va_up Ps 0 U20) (nI o) (nI (v + 1)) ++ pW cI ad P) := hD
  refine lv_goto (tgt := 58) hx hb dX0_save_42 (by decide) ?_
  rw [hQ]
  exact W.vret hx hb hr (fun t ht hW => ⟨⟨(va_up Ps 0 U20, o, (v + 1)), rfl, hF.symm, toH ht hP⟩, hS.F ht⟩) hS.2.2 dX0_save_58

def fX0_save1 (Ps : Nat → PV) (o : Nat) (v : Nat) (P : PV) : (Nat → PV) × Nat × Nat :=
  (bd (fX2_copyFrom (Ps 1) P) (fun U20 => (if 6 ≤ (nI v) then (va_up Ps 1 U20, ((o + 1) % 6), v) else (va_up Ps 1 U20, o, (v + 1)))))
abbrev rmX0_save1 : Room := { frames := 3, cells := 0, slots := 0, locals := 82 }
set_option maxHeartbeats 4000000 in
set_option maxRecDepth 100000 in
theorem mX0_save1 (l : Launch) (dC : Nat → ClassId) (dI : Nat → Nat → Nat) (cI cP : ClassId) (h0 h1 : Nat) (pa : Nat → Nat → Nat) (Ps : Nat → PV) (o v : Nat) (ad : Nat → Nat) (P : PV) (ho : o < 6) (hv6 : v ≤ 6) (hi9 : (o + v) % 6 = 1) : Met l yX0_save (ws_ yX0_save cX0_save 3 none) rmX0_save1 (pcM (dC, dI) [(cI, .int), (cP, .object "SupperSeats$Plan")] (hW cI cP h0 h1 pa Ps (nI o) (nI v) ++ pW cI ad P) [.ref h0, .ref (ad 0)]) (va_Qv (fun (u9 : (Nat → PV) × Nat × Nat) => u9 = fX0_save1 Ps o v P) (fun u9 t => va_P (dC, dI) vwCl ((fun (v : (Nat → PV) × Nat × Nat) => hW cI cP h0 h1 pa v.1 (nI v.2.1) (nI v.2.2) ++ pW cI ad P) u9) t.heap) (adr (hW cI cP h0 h1 pa Ps (nI o) (nI v) ++ pW cI ad P))) 0 0 (adr (hW cI cP h0 h1 pa Ps (nI o) (nI v) ++ pW cI ad P)) := by
  refine Met.ofW (cc := cX0_save) (maxL := 3) (ret := none) (by decide) rfl ?_
  intro p e s m args below meth c s₁ B hml hv
  obtain ⟨ha, hP, hK, hn, hD0⟩ := hv
  have hx := B.exec
  have hb := B.bytes
  have hr := B.returns
  have hts0 := atoms_spec (ws := (ws_ yX0_save cX0_save 3 none)) B.pre
  have hts : ∀ w ∈ lw_all, w.before args s = true := fun w h => hts0 w (List.mem_cons_of_mem _ h)
  have hown : s.vm.findClass RX0 = some m.cls := findClass_of_methodNamed B.named
  have hlocks := B.notSynchronized
  have htX0 : ∀ w ∈ wsX00, w.before args s = true := fun w h => hts w (wX0 w h)
  have hD := adr_self hD0
  obtain ⟨A, hA⟩ : ∃ A, A = adr (hW cI cP h0 h1 pa Ps (nI o) (nI v) ++ pW cI ad P) := ⟨_, rfl⟩
  rw [← hA] at hD
  have hS : va_S A s.heap s.heap [] := va_S.rf
  obtain ⟨Q, hQ⟩ : ∃ Q, Q = MQ below (va_Qv (fun (u9 : (Nat → PV) × Nat × Nat) => u9 = fX0_save1 Ps o v P) (fun u9 t => va_P (dC, dI) vwCl ((fun (v : (Nat → PV) × Nat × Nat) => hW cI cP h0 h1 pa v.1 (nI v.2.1) (nI v.2.2) ++ pW cI ad P) u9) t.heap) (adr (hW cI cP h0 h1 pa Ps (nI o) (nI v) ++ pW cI ad P))) args s 0 0 (adr (hW cI cP h0 h1 pa Ps (nI o) (nI v) ++ pW cI ad P)) := ⟨_, rfl⟩
  rw [← hQ]
  rw [← hA] at hQ
  have hl := lv_entry ([.ref h0, .ref (ad 0)]) (n := 3) (Nat.le_of_ble_eq_true rfl)
  rw [ha, lg_entry_eq, ← ha]
  generalize (lg_sl ([.ref h0, .ref (ad 0)]) ++ List.replicate (3 - (lg_sl ([.ref h0, .ref (ad 0)])).length) Slot.unset).toArray = ls at hl ⊢
  have hl : lv_has ls 3 [(0, .ref h0), (1, .ref (ad 0))] := hl
  show W p l e rmX0_save1 s m args below meth c s.heap [] 0 0 Q (F0 m 0 ls [])
  have hF : fX0_save1 Ps o v P = fX0_save1 Ps o v P := rfl
  refine lv_aload_n hx hb dX0_save_0 rfl (lv_at hl 0 rfl) ?_
  refine lv_aload_n hx hb dX0_save_1 rfl (lv_at hl 0 rfl) ?_
  refine va_get (D := (dC, dI)) (ci := 0) (v := .int (nI o)) (C := RX0) (T := TX0) (N := 3) hx hb htX0 (fun _ h => h) hown hK hP 0 rfl rfl 1 (by decide) (hts _ u_124) (fun _ h9 => h9) rfl dX0_save_2 ?_
  refine lv_aload_n hx hb dX0_save_5 rfl (lv_at hl 0 rfl) ?_
  refine va_get (D := (dC, dI)) (ci := 0) (v := .int (nI v)) (C := RX0) (T := TX0) (N := 3) hx hb htX0 (fun _ h => h) hown hK hP 0 rfl rfl 2 (by decide) (hts _ u_125) (fun _ h9 => h9) rfl dX0_save_6 ?_
  refine lv_iadd hx hb dX0_save_9 ?_
  refine lv_tope (y := (nI (o + v))) (nI_add o v) ?_
  refine va_csr (W.runV (As := [.int (nI (o + v))]) (rest := []) ⟨hx, hb, hml, hown, hts0⟩ (mX0_planAt l dC dI cI cP h0 h1 pa (nI o) (nI v) (o + v) (by omega)) (cwV 1 hts0 (gi_V u_173 u_175 us_0 u_6 u_176) rfl rfl rfl (by decide +kernel) ⟨Nat.le_of_ble_eq_true rfl, Nat.le_of_ble_eq_true rfl⟩) (pcR_V (ci := 0) (q0 := 0) (hP.sub (ws' := rW cP h0 h1 pa (nI o) (nI v)) [0, 1] rfl) hK hn rfl rfl) rfl rfl hl.1 rfl (lv_room (Nat.le_of_ble_eq_true rfl)) dX0_save_10 ⟨Nat.zero_le _, Nat.zero_le _⟩) (fun k9 hk9 => ?_)
  rw [hi9] at hk9
  subst hk9
  refine lv_astore_n (lv' := [(2, .ref (pa 1 0)), (0, .ref h0), (1, .ref (ad 0))]) hx hb dX0_save_13 rfl hl (by decide) rfl (fun ls hl => ?_)
  refine lv_aload_n hx hb dX0_save_14 rfl (lv_at hl 0 rfl) ?_
  refine lv_ifnull hx hb dX0_save_15 ?_
  refine lv_aload_n hx hb dX0_save_18 rfl (lv_at hl 0 rfl) ?_
  refine lv_aload_n hx hb dX0_save_19 rfl (lv_at hl 2 rfl) ?_
  refine k_mutv (Wd := (fun (v : PV) => pW cI (pa 1) v ++ pW cI ad P)) (va_runV (As := [.ref (ad 0)]) (rest := []) ⟨hx, hb, hml, hown, hts0⟩ (mX2_copyFrom l dC dI cI (pa 1) (Ps 1) ad P ) (cwV 1 hts0 (gi_V u_177 u_178 u_179 u_2 u_180) rfl rfl rfl (by decide +kernel) ⟨Nat.le_of_ble_eq_true rfl, Nat.le_of_ble_eq_true rfl⟩) (pcM_V (ci := 2) (q0 := 0) (hP.sub (ws' := (pW cI (pa 1) (Ps 1) ++ pW cI ad P)) [15, 16, 17, 18, 19, 20, 21, 22, 23, 24, 25, 26, 27, 80, 81, 82, 83, 84, 85, 86, 87, 88, 89, 90, 91, 92] rfl) (hK.sub (tys' := [(cI, .int)]) [0] rfl) hn (hD.sub (ws' := (pW cI (pa 1) (Ps 1) ++ pW cI ad P)) [15, 16, 17, 18, 19, 20, 21, 22, 23, 24, 25, 26, 27, 80, 81, 82, 83, 84, 85, 86, 87, 88, 89, 90, 91, 92] (by decide) rfl) rfl rfl) rfl rfl hl.1 rfl (lv_room (Nat.le_of_ble_eq_true rfl)) dX0_save_20 ⟨Nat.zero_le _, Nat.zero_le _⟩) hP hD hS [15, 16, 17, 18, 19, 20, 21, 22, 23, 24, 25, 26, 27, 80, 81, 82, 83, 84, 85, 86, 87, 88, 89, 90, 91, 92] rfl rfl (fun _ => rfl) (fun U20 H locs hU20 hP hD hS => ?_)
  have hP : va_P (dC, dI) vwCl (hW cI cP h0 h1 pa (va_up Ps 1 U20) (nI o) (nI v) ++ pW cI ad P) H := hP
  have hD : va_D A (hW cI cP h0 h1 pa (va_up Ps 1 U20) (nI o) (nI v) ++ pW cI ad P) := hD
  have hF := bd_at hF hU20
  refine lv_aload_n hx hb dX0_save_23 rfl (lv_at hl 1 rfl) ?_
  refine va_get (D := (dC, dI)) (ci := 0) (v := .int (nI v)) (C := RX0) (T := TX0) (N := 3) hx hb htX0 (fun _ h => h) hown hK hP 0 rfl rfl 2 (by decide) (hts _ u_125) (fun _ h9 => h9) rfl dX0_save_24 ?_
  refine lv_bipush (v := 6) hx hb dX0_save_27 (by decide) ?_
  refine lv_icmp_ge (tgt := 45) hx hb dX0_save_29 (by decide) (fun c_29 => ?_) (fun c_29 => ?_)
  · have hF := hF.trans (if_pos c_29)
    refine lv_aload_n hx hb dX0_save_45 rfl (lv_at hl 1 rfl) ?_
    refine lv_aload_n hx hb dX0_save_46 rfl (lv_at hl 1 rfl) ?_
    refine va_get (D := (dC, dI)) (ci := 0) (v := .int (nI o)) (C := RX0) (T := TX0) (N := 3) hx hb htX0 (fun _ h => h) hown hK hP 0 rfl rfl 1 (by decide) (hts _ u_124) (fun _ h9 => h9) rfl dX0_save_47 ?_
    refine lv_iconst (v := 1) hx hb dX0_save_50 (by decide) ?_
    refine lv_iadd hx hb dX0_save_51 ?_
    refine lv_tope (y := (nI (o + 1))) (nI_add o 1) ?_
    refine lv_bipush (v := 6) hx hb dX0_save_52 (by decide) ?_
    refine lv_irem hx hb dX0_save_54 (by decide) ?_
    refine lv_tope (y := (nI ((o + 1) % 6))) (pk_rem (a := (o + 1)) (d := 6) (by omega) (by decide) (by decide)) ?_
    refine va_put (D := (dC, dI)) (ci := 0) (v := .int (nI ((o + 1) % 6))) (ty := .int) (C := RX0) (T := TX0) (N := 3) hx hb htX0 (fun _ h => h) tyX0 tyX0_ok nmX0 hown hK hP hD hS 0 rfl rfl 1 (by decide) (hts _ u_124) (fun _ h9 => h9) rfl (by decide +kernel) rfl rfl (Nat.le_of_ble_eq_true rfl) dX0_save_55 (fun H locs hP hD hS => ?_)
    have hP : va_P (dC, dI) vwCl (hW cI cP h0 h1 pa (va_up Ps 1 U20) (nI ((o + 1) % 6)) (nI v) ++ pW cI ad P) H := hP
    have hD : va_D A (hW cI cP h0 h1 pa (va_up Ps 1 U20) (nI ((o + 1) % 6)) (nI v) ++ pW cI ad P) := hD
    rw [hQ]
    exact W.vret hx hb hr (fun t ht hW => ⟨⟨(va_up Ps 1 U20, ((o + 1) % 6), v), rfl, hF.symm, toH ht hP⟩, hS.F ht⟩) hS.2.2 dX0_save_58
  have hF := hF.trans (if_neg c_29)
  refine lv_aload_n hx hb dX0_save_32 rfl (lv_at hl 1 rfl) ?_
  refine lv_dup hx hb dX0_save_33 rfl ?_
  refine va_get (D := (dC, dI)) (ci := 0) (v := .int (nI v)) (C := RX0) (T := TX0) (N := 3) hx hb htX0 (fun _ h => h) hown hK hP 0 rfl rfl 2 (by decide) (hts _ u_125) (fun _ h9 => h9) rfl dX0_save_34 ?_
  refine lv_iconst (v := 1) hx hb dX0_save_37 (by decide) ?_
  refine lv_iadd hx hb dX0_save_38 ?_
  refine lv_tope (y := (nI (v + 1))) (nI_add v 1) ?_
  refine va_put (D := (dC, dI)) (ci := 0) (v := .int (nI (v + 1))) (ty := .int) (C := RX0) (T := TX0) (N := 3) hx hb htX0 (fun _ h => h) tyX0 tyX0_ok nmX0 hown hK hP hD hS 0 rfl rfl 2 (by decide) (hts _ u_125) (fun _ h9 => h9) rfl (by decide +kernel) rfl rfl (Nat.le_of_ble_eq_true rfl) dX0_save_39 (fun H locs hP hD hS => ?_)
  have hP : va_P (dC, dI) vwCl (hW cI cP h0 h1 pa (va_up Ps 1 U20) (nI o) (nI (v + 1)) ++ pW cI ad P) H := hP
  have hD : va_D A (hW cI cP h0 h1 pa (va_up Ps 1 U20) (nI o) (nI (v + 1)) ++ pW cI ad P) := hD
  refine lv_goto (tgt := 58) hx hb dX0_save_42 (by decide) ?_
  rw [hQ]
  exact W.vret hx hb hr (fun t ht hW => ⟨⟨(va_up Ps 1 U20, o, (v + 1)), rfl, hF.symm, toH ht hP⟩, hS.F ht⟩) hS.2.2 dX0_save_58

def fX0_save2 (Ps : Nat → PV) (o : Nat) (v : Nat) (P : PV) : (Nat → PV) × Nat × Nat :=
  (bd (fX2_copyFrom (Ps 2) P) (fun U20 => (if 6 ≤ (nI v) then (va_up Ps 2 U20, ((o + 1) % 6), v) else (va_up Ps 2 U20, o, (v + 1)))))
abbrev rmX0_save2 : Room := { frames := 3, cells := 0, slots := 0, locals := 82 }
set_option maxHeartbeats 4000000 in
set_option maxRecDepth 100000 in
theorem mX0_save2 (l : Launch) (dC : Nat → ClassId) (dI : Nat → Nat → Nat) (cI cP : ClassId) (h0 h1 : Nat) (pa : Nat → Nat → Nat) (Ps : Nat → PV) (o v : Nat) (ad : Nat → Nat) (P : PV) (ho : o < 6) (hv6 : v ≤ 6) (hi9 : (o + v) % 6 = 2) : Met l yX0_save (ws_ yX0_save cX0_save 3 none) rmX0_save2 (pcM (dC, dI) [(cI, .int), (cP, .object "SupperSeats$Plan")] (hW cI cP h0 h1 pa Ps (nI o) (nI v) ++ pW cI ad P) [.ref h0, .ref (ad 0)]) (va_Qv (fun (u9 : (Nat → PV) × Nat × Nat) => u9 = fX0_save2 Ps o v P) (fun u9 t => va_P (dC, dI) vwCl ((fun (v : (Nat → PV) × Nat × Nat) => hW cI cP h0 h1 pa v.1 (nI v.2.1) (nI v.2.2) ++ pW cI ad P) u9) t.heap) (adr (hW cI cP h0 h1 pa Ps (nI o) (nI v) ++ pW cI ad P))) 0 0 (adr (hW cI cP h0 h1 pa Ps (nI o) (nI v) ++ pW cI ad P)) := by
  refine Met.ofW (cc := cX0_save) (maxL := 3) (ret := none) (by decide) rfl ?_
  intro p e s m args below meth c s₁ B hml hv
  obtain ⟨ha, hP, hK, hn, hD0⟩ := hv
  have hx := B.exec
  have hb := B.bytes
  have hr := B.returns
  have hts0 := atoms_spec (ws := (ws_ yX0_save cX0_save 3 none)) B.pre
  have hts : ∀ w ∈ lw_all, w.before args s = true := fun w h => hts0 w (List.mem_cons_of_mem _ h)
  have hown : s.vm.findClass RX0 = some m.cls := findClass_of_methodNamed B.named
  have hlocks := B.notSynchronized
  have htX0 : ∀ w ∈ wsX00, w.before args s = true := fun w h => hts w (wX0 w h)
  have hD := adr_self hD0
  obtain ⟨A, hA⟩ : ∃ A, A = adr (hW cI cP h0 h1 pa Ps (nI o) (nI v) ++ pW cI ad P) := ⟨_, rfl⟩
  rw [← hA] at hD
  have hS : va_S A s.heap s.heap [] := va_S.rf
  obtain ⟨Q, hQ⟩ : ∃ Q, Q = MQ below (va_Qv (fun (u9 : (Nat → PV) × Nat × Nat) => u9 = fX0_save2 Ps o v P) (fun u9 t => va_P (dC, dI) vwCl ((fun (v : (Nat → PV) × Nat × Nat) => hW cI cP h0 h1 pa v.1 (nI v.2.1) (nI v.2.2) ++ pW cI ad P) u9) t.heap) (adr (hW cI cP h0 h1 pa Ps (nI o) (nI v) ++ pW cI ad P))) args s 0 0 (adr (hW cI cP h0 h1 pa Ps (nI o) (nI v) ++ pW cI ad P)) := ⟨_, rfl⟩
  rw [← hQ]
  rw [← hA] at hQ
  have hl := lv_entry ([.ref h0, .ref (ad 0)]) (n := 3) (Nat.le_of_ble_eq_true rfl)
  rw [ha, lg_entry_eq, ← ha]
  generalize (lg_sl ([.ref h0, .ref (ad 0)]) ++ List.replicate (3 - (lg_sl ([.ref h0, .ref (ad 0)])).length) Slot.unset).toArray = ls at hl ⊢
  have hl : lv_has ls 3 [(0, .ref h0), (1, .ref (ad 0))] := hl
  show W p l e rmX0_save2 s m args below meth c s.heap [] 0 0 Q (F0 m 0 ls [])
  have hF : fX0_save2 Ps o v P = fX0_save2 Ps o v P := rfl
  refine lv_aload_n hx hb dX0_save_0 rfl (lv_at hl 0 rfl) ?_
  refine lv_aload_n hx hb dX0_save_1 rfl (lv_at hl 0 rfl) ?_
  refine va_get (D := (dC, dI)) (ci := 0) (v := .int (nI o)) (C := RX0) (T := TX0) (N := 3) hx hb htX0 (fun _ h => h) hown hK hP 0 rfl rfl 1 (by decide) (hts _ u_124) (fun _ h9 => h9) rfl dX0_save_2 ?_
  refine lv_aload_n hx hb dX0_save_5 rfl (lv_at hl 0 rfl) ?_
  refine va_get (D := (dC, dI)) (ci := 0) (v := .int (nI v)) (C := RX0) (T := TX0) (N := 3) hx hb htX0 (fun _ h => h) hown hK hP 0 rfl rfl 2 (by decide) (hts _ u_125) (fun _ h9 => h9) rfl dX0_save_6 ?_
  refine lv_iadd hx hb dX0_save_9 ?_
  refine lv_tope (y := (nI (o + v))) (nI_add o v) ?_
  refine va_csr (W.runV (As := [.int (nI (o + v))]) (rest := []) ⟨hx, hb, hml, hown, hts0⟩ (mX0_planAt l dC dI cI cP h0 h1 pa (nI o) (nI v) (o + v) (by omega)) (cwV 1 hts0 (gi_V u_173 u_175 us_0 u_6 u_176) rfl rfl rfl (by decide +kernel) ⟨Nat.le_of_ble_eq_true rfl, Nat.le_of_ble_eq_true rfl⟩) (pcR_V (ci := 0) (q0 := 0) (hP.sub (ws' := rW cP h0 h1 pa (nI o) (nI v)) [0, 1] rfl) hK hn rfl rfl) rfl rfl hl.1 rfl (lv_room (Nat.le_of_ble_eq_true rfl)) dX0_save_10 ⟨Nat.zero_le _, Nat.zero_le _⟩) (fun k9 hk9 => ?_)
  rw [hi9] at hk9
  subst hk9
  refine lv_astore_n (lv' := [(2, .ref (pa 2 0)), (0, .ref h0), (1, .ref (ad 0))]) hx hb dX0_save_13 rfl hl (by decide) rfl (fun ls hl => ?_)
  refine lv_aload_n hx hb dX0_save_14 rfl (lv_at hl 0 rfl) ?_
  refine lv_ifnull hx hb dX0_save_15 ?_
  refine lv_aload_n hx hb dX0_save_18 rfl (lv_at hl 0 rfl) ?_
  refine lv_aload_n hx hb dX0_save_19 rfl (lv_at hl 2 rfl) ?_
  refine k_mutv (Wd := (fun (v : PV) => pW cI (pa 2) v ++ pW cI ad P)) (va_runV (As := [.ref (ad 0)]) (rest := []) ⟨hx, hb, hml, hown, hts0⟩ (mX2_copyFrom l dC dI cI (pa 2) (Ps 2) ad P ) (cwV 1 hts0 (gi_V u_177 u_178 u_179 u_2 u_180) rfl rfl rfl (by decide +kernel) ⟨Nat.le_of_ble_eq_true rfl, Nat.le_of_ble_eq_true rfl⟩) (pcM_V (ci := 2) (q0 := 0) (hP.sub (ws' := (pW cI (pa 2) (Ps 2) ++ pW cI ad P)) [28, 29, 30, 31, 32, 33, 34, 35, 36, 37, 38, 39, 40, 80, 81, 82, 83, 84, 85, 86, 87, 88, 89, 90, 91, 92] rfl) (hK.sub (tys' := [(cI, .int)]) [0] rfl) hn (hD.sub (ws' := (pW cI (pa 2) (Ps 2) ++ pW cI ad P)) [28, 29, 30, 31, 32, 33, 34, 35, 36, 37, 38, 39, 40, 80, 81, 82, 83, 84, 85, 86, 87, 88, 89, 90, 91, 92] (by decide) rfl) rfl rfl) rfl rfl hl.1 rfl (lv_room (Nat.le_of_ble_eq_true rfl)) dX0_save_20 ⟨Nat.zero_le _, Nat.zero_le _⟩) hP hD hS [28, 29, 30, 31, 32, 33, 34, 35, 36, 37, 38, 39, 40, 80, 81, 82, 83, 84, 85, 86, 87, 88, 89, 90, 91, 92] rfl rfl (fun _ => rfl) (fun U20 H locs hU20 hP hD hS => ?_)
  have hP : va_P (dC, dI) vwCl (hW cI cP h0 h1 pa (va_up Ps 2 U20) (nI o) (nI v) ++ pW cI ad P) H := hP
  have hD : va_D A (hW cI cP h0 h1 pa (va_up Ps 2 U20) (nI o) (nI v) ++ pW cI ad P) := hD
  have hF := bd_at hF hU20
  refine lv_aload_n hx hb dX0_save_23 rfl (lv_at hl 1 rfl) ?_
  refine va_get (D := (dC, dI)) (ci := 0) (v := .int (nI v)) (C := RX0) (T := TX0) (N := 3) hx hb htX0 (fun _ h => h) hown hK hP 0 rfl rfl 2 (by decide) (hts _ u_125) (fun _ h9 => h9) rfl dX0_save_24 ?_
  refine lv_bipush (v := 6) hx hb dX0_save_27 (by decide) ?_
  refine lv_icmp_ge (tgt := 45) hx hb dX0_save_29 (by decide) (fun c_29 => ?_) (fun c_29 => ?_)
  · have hF := hF.trans (if_pos c_29)
    refine lv_aload_n hx hb dX0_save_45 rfl (lv_at hl 1 rfl) ?_
    refine lv_aload_n hx hb dX0_save_46 rfl (lv_at hl 1 rfl) ?_
    refine va_get (D := (dC, dI)) (ci := 0) (v := .int (nI o)) (C := RX0) (T := TX0) (N := 3) hx hb htX0 (fun _ h => h) hown hK hP 0 rfl rfl 1 (by decide) (hts _ u_124) (fun _ h9 => h9) rfl dX0_save_47 ?_
    refine lv_iconst (v := 1) hx hb dX0_save_50 (by decide) ?_
    refine lv_iadd hx hb dX0_save_51 ?_
    refine lv_tope (y := (nI (o + 1))) (nI_add o 1) ?_
    refine lv_bipush (v := 6) hx hb dX0_save_52 (by decide) ?_
    refine lv_irem hx hb dX0_save_54 (by decide) ?_
    refine lv_tope (y := (nI ((o + 1) % 6))) (pk_rem (a := (o + 1)) (d := 6) (by omega) (by decide) (by decide)) ?_
    refine va_put (D := (dC, dI)) (ci := 0) (v := .int (nI ((o + 1) % 6))) (ty := .int) (C := RX0) (T := TX0) (N := 3) hx hb htX0 (fun _ h => h) tyX0 tyX0_ok nmX0 hown hK hP hD hS 0 rfl rfl 1 (by decide) (hts _ u_124) (fun _ h9 => h9) rfl (by decide +kernel) rfl rfl (Nat.le_of_ble_eq_true rfl) dX0_save_55 (fun H locs hP hD hS => ?_)
    have hP : va_P (dC, dI) vwCl (hW cI cP h0 h1 pa (va_up Ps 2 U20) (nI ((o + 1) % 6)) (nI v) ++ pW cI ad P) H := hP
    have hD : va_D A (hW cI cP h0 h1 pa (va_up Ps 2 U20) (nI ((o + 1) % 6)) (nI v) ++ pW cI ad P) := hD
    rw [hQ]
    exact W.vret hx hb hr (fun t ht hW => ⟨⟨(va_up Ps 2 U20, ((o + 1) % 6), v), rfl, hF.symm, toH ht hP⟩, hS.F ht⟩) hS.2.2 dX0_save_58
  have hF := hF.trans (if_neg c_29)
  refine lv_aload_n hx hb dX0_save_32 rfl (lv_at hl 1 rfl) ?_
  refine lv_dup hx hb dX0_save_33 rfl ?_
  refine va_get (D := (dC, dI)) (ci := 0) (v := .int (nI v)) (C := RX0) (T := TX0) (N := 3) hx hb htX0 (fun _ h => h) hown hK hP 0 rfl rfl 2 (by decide) (hts _ u_125) (fun _ h9 => h9) rfl dX0_save_34 ?_
  refine lv_iconst (v := 1) hx hb dX0_save_37 (by decide) ?_
  refine lv_iadd hx hb dX0_save_38 ?_
  refine lv_tope (y := (nI (v + 1))) (nI_add v 1) ?_
  refine va_put (D := (dC, dI)) (ci := 0) (v := .int (nI (v + 1))) (ty := .int) (C := RX0) (T := TX0) (N := 3) hx hb htX0 (fun _ h => h) tyX0 tyX0_ok nmX0 hown hK hP hD hS 0 rfl rfl 2 (by decide) (hts _ u_125) (fun _ h9 => h9) rfl (by decide +kernel) rfl rfl (Nat.le_of_ble_eq_true rfl) dX0_save_39 (fun H locs hP hD hS => ?_)
  have hP : va_P (dC, dI) vwCl (hW cI cP h0 h1 pa (va_up Ps 2 U20) (nI o) (nI (v + 1)) ++ pW cI ad P) H := hP
  have hD : va_D A (hW cI cP h0 h1 pa (va_up Ps 2 U20) (nI o) (nI (v + 1)) ++ pW cI ad P) := hD
  refine lv_goto (tgt := 58) hx hb dX0_save_42 (by decide) ?_
  rw [hQ]
  exact W.vret hx hb hr (fun t ht hW => ⟨⟨(va_up Ps 2 U20, o, (v + 1)), rfl, hF.symm, toH ht hP⟩, hS.F ht⟩) hS.2.2 dX0_save_58

def fX0_save3 (Ps : Nat → PV) (o : Nat) (v : Nat) (P : PV) : (Nat → PV) × Nat × Nat :=
  (bd (fX2_copyFrom (Ps 3) P) (fun U20 => (if 6 ≤ (nI v) then (va_up Ps 3 U20, ((o + 1) % 6), v) else (va_up Ps 3 U20, o, (v + 1)))))
abbrev rmX0_save3 : Room := { frames := 3, cells := 0, slots := 0, locals := 82 }
set_option maxHeartbeats 4000000 in
set_option maxRecDepth 100000 in
theorem mX0_save3 (l : Launch) (dC : Nat → ClassId) (dI : Nat → Nat → Nat) (cI cP : ClassId) (h0 h1 : Nat) (pa : Nat → Nat → Nat) (Ps : Nat → PV) (o v : Nat) (ad : Nat → Nat) (P : PV) (ho : o < 6) (hv6 : v ≤ 6) (hi9 : (o + v) % 6 = 3) : Met l yX0_save (ws_ yX0_save cX0_save 3 none) rmX0_save3 (pcM (dC, dI) [(cI, .int), (cP, .object "SupperSeats$Plan")] (hW cI cP h0 h1 pa Ps (nI o) (nI v) ++ pW cI ad P) [.ref h0, .ref (ad 0)]) (va_Qv (fun (u9 : (Nat → PV) × Nat × Nat) => u9 = fX0_save3 Ps o v P) (fun u9 t => va_P (dC, dI) vwCl ((fun (v : (Nat → PV) × Nat × Nat) => hW cI cP h0 h1 pa v.1 (nI v.2.1) (nI v.2.2) ++ pW cI ad P) u9) t.heap) (adr (hW cI cP h0 h1 pa Ps (nI o) (nI v) ++ pW cI ad P))) 0 0 (adr (hW cI cP h0 h1 pa Ps (nI o) (nI v) ++ pW cI ad P)) := by
  refine Met.ofW (cc := cX0_save) (maxL := 3) (ret := none) (by decide) rfl ?_
  intro p e s m args below meth c s₁ B hml hv
  obtain ⟨ha, hP, hK, hn, hD0⟩ := hv
  have hx := B.exec
  have hb := B.bytes
  have hr := B.returns
  have hts0 := atoms_spec (ws := (ws_ yX0_save cX0_save 3 none)) B.pre
  have hts : ∀ w ∈ lw_all, w.before args s = true := fun w h => hts0 w (List.mem_cons_of_mem _ h)
  have hown : s.vm.findClass RX0 = some m.cls := findClass_of_methodNamed B.named
  have hlocks := B.notSynchronized
  have htX0 : ∀ w ∈ wsX00, w.before args s = true := fun w h => hts w (wX0 w h)
  have hD := adr_self hD0
  obtain ⟨A, hA⟩ : ∃ A, A = adr (hW cI cP h0 h1 pa Ps (nI o) (nI v) ++ pW cI ad P) := ⟨_, rfl⟩
  rw [← hA] at hD
  have hS : va_S A s.heap s.heap [] := va_S.rf
  obtain ⟨Q, hQ⟩ : ∃ Q, Q = MQ below (va_Qv (fun (u9 : (Nat → PV) × Nat × Nat) => u9 = fX0_save3 Ps o v P) (fun u9 t => va_P (dC, dI) vwCl ((fun (v : (Nat → PV) × Nat × Nat) => hW cI cP h0 h1 pa v.1 (nI v.2.1) (nI v.2.2) ++ pW cI ad P) u9) t.heap) (adr (hW cI cP h0 h1 pa Ps (nI o) (nI v) ++ pW cI ad P))) args s 0 0 (adr (hW cI cP h0 h1 pa Ps (nI o) (nI v) ++ pW cI ad P)) := ⟨_, rfl⟩
  rw [← hQ]
  rw [← hA] at hQ
  have hl := lv_entry ([.ref h0, .ref (ad 0)]) (n := 3) (Nat.le_of_ble_eq_true rfl)
  rw [ha, lg_entry_eq, ← ha]
  generalize (lg_sl ([.ref h0, .ref (ad 0)]) ++ List.replicate (3 - (lg_sl ([.ref h0, .ref (ad 0)])).length) Slot.unset).toArray = ls at hl ⊢
  have hl : lv_has ls 3 [(0, .ref h0), (1, .ref (ad 0))] := hl
  show W p l e rmX0_save3 s m args below meth c s.heap [] 0 0 Q (F0 m 0 ls [])
  have hF : fX0_save3 Ps o v P = fX0_save3 Ps o v P := rfl
  refine lv_aload_n hx hb dX0_save_0 rfl (lv_at hl 0 rfl) ?_
  refine lv_aload_n hx hb dX0_save_1 rfl (lv_at hl 0 rfl) ?_
  refine va_get (D := (dC, dI)) (ci := 0) (v := .int (nI o)) (C := RX0) (T := TX0) (N := 3) hx hb htX0 (fun _ h => h) hown hK hP 0 rfl rfl 1 (by decide) (hts _ u_124) (fun _ h9 => h9) rfl dX0_save_2 ?_
  refine lv_aload_n hx hb dX0_save_5 rfl (lv_at hl 0 rfl) ?_
  refine va_get (D := (dC, dI)) (ci := 0) (v := .int (nI v)) (C := RX0) (T := TX0) (N := 3) hx hb htX0 (fun _ h => h) hown hK hP 0 rfl rfl 2 (by decide) (hts _ u_125) (fun _ h9 => h9) rfl dX0_save_6 ?_
  refine lv_iadd hx hb dX0_save_9 ?_
  refine lv_tope (y := (nI (o + v))) (nI_add o v) ?_
  refine va_csr (W.runV (As := [.int (nI (o + v))]) (rest := []) ⟨hx, hb, hml, hown, hts0⟩ (mX0_planAt l dC dI cI cP h0 h1 pa (nI o) (nI v) (o + v) (by omega)) (cwV 1 hts0 (gi_V u_173 u_175 us_0 u_6 u_176) rfl rfl rfl (by decide +kernel) ⟨Nat.le_of_ble_eq_true rfl, Nat.le_of_ble_eq_true rfl⟩) (pcR_V (ci := 0) (q0 := 0) (hP.sub (ws' := rW cP h0 h1 pa (nI o) (nI v)) [0, 1] rfl) hK hn rfl rfl) rfl rfl hl.1 rfl (lv_room (Nat.le_of_ble_eq_true rfl)) dX0_save_10 ⟨Nat.zero_le _, Nat.zero_le _⟩) (fun k9 hk9 => ?_)
  rw [hi9] at hk9
  subst hk9
  refine lv_astore_n (lv' := [(2, .ref (pa 3 0)), (0, .ref h0), (1, .ref (ad 0))]) hx hb dX0_save_13 rfl hl (by decide) rfl (fun ls hl => ?_)
  refine lv_aload_n hx hb dX0_save_14 rfl (lv_at hl 0 rfl) ?_
  refine lv_ifnull hx hb dX0_save_15 ?_
  refine lv_aload_n hx hb dX0_save_18 rfl (lv_at hl 0 rfl) ?_
  refine lv_aload_n hx hb dX0_save_19 rfl (lv_at hl 2 rfl) ?_
  refine k_mutv (Wd := (fun (v : PV) => pW cI (pa 3) v ++ pW cI ad P)) (va_runV (As := [.ref (ad 0)]) (rest := []) ⟨hx, hb, hml, hown, hts0⟩ (mX2_copyFrom l dC dI cI (pa 3) (Ps 3) ad P ) (cwV 1 hts0 (gi_V u_177 u_178 u_179 u_2 u_180) rfl rfl rfl (by decide +kernel) ⟨Nat.le_of_ble_eq_true rfl, Nat.le_of_ble_eq_true rfl⟩) (pcM_V (ci := 2) (q0 := 0) (hP.sub (ws' := (pW cI (pa 3) (Ps 3) ++ pW cI ad P)) [41, 42, 43, 44, 45, 46, 47, 48, 49, 50, 51, 52, 53, 80, 81, 82, 83, 84, 85, 86, 87, 88, 89, 90, 91, 92] rfl) (hK.sub (tys' := [(cI, .int)]) [0] rfl) hn (hD.sub (ws' := (pW cI (pa 3) (Ps 3) ++ pW cI ad P)) [41, 42, 43, 44, 45, 46, 47, 48, 49, 50, 51, 52, 53, 80, 81, 82, 83, 84, 85, 86, 87, 88, 89, 90, 91, 92] (by decide) rfl) rfl rfl) rfl rfl hl.1 rfl (lv_room (Nat.le_of_ble_eq_true rfl)) dX0_save_20 ⟨Nat.zero_le _, Nat.zero_le _⟩) hP hD hS [41, 42, 43, 44, 45, 46, 47, 48, 49, 50, 51, 52, 53, 80, 81, 82, 83, 84, 85, 86, 87, 88, 89, 90, 91, 92] rfl rfl (fun _ => rfl) (fun U20 H locs hU20 hP hD hS => ?_)
  have hP : va_P (dC, dI) vwCl (hW cI cP h0 h1 pa (va_up Ps 3 U20) (nI o) (nI v) ++ pW cI ad P) H := hP
  have hD : va_D A (hW cI cP h0 h1 pa (va_up Ps 3 U20) (nI o) (nI v) ++ pW cI ad P) := hD
  have hF := bd_at hF hU20
  refine lv_aload_n hx hb dX0_save_23 rfl (lv_at hl 1 rfl) ?_
  refine va_get (D := (dC, dI)) (ci := 0) (v := .int (nI v)) (C := RX0) (T := TX0) (N := 3) hx hb htX0 (fun _ h => h) hown hK hP 0 rfl rfl 2 (by decide) (hts _ u_125) (fun _ h9 => h9) rfl dX0_save_24 ?_
  refine lv_bipush (v := 6) hx hb dX0_save_27 (by decide) ?_
  refine lv_icmp_ge (tgt := 45) hx hb dX0_save_29 (by decide) (fun c_29 => ?_) (fun c_29 => ?_)
  · have hF := hF.trans (if_pos c_29)
    refine lv_aload_n hx hb dX0_save_45 rfl (lv_at hl 1 rfl) ?_
    refine lv_aload_n hx hb dX0_save_46 rfl (lv_at hl 1 rfl) ?_
    refine va_get (D := (dC, dI)) (ci := 0) (v := .int (nI o)) (C := RX0) (T := TX0) (N := 3) hx hb htX0 (fun _ h => h) hown hK hP 0 rfl rfl 1 (by decide) (hts _ u_124) (fun _ h9 => h9) rfl dX0_save_47 ?_
    refine lv_iconst (v := 1) hx hb dX0_save_50 (by decide) ?_
    refine lv_iadd hx hb dX0_save_51 ?_
    refine lv_tope (y := (nI (o + 1))) (nI_add o 1) ?_
    refine lv_bipush (v := 6) hx hb dX0_save_52 (by decide) ?_
    refine lv_irem hx hb dX0_save_54 (by decide) ?_
    refine lv_tope (y := (nI ((o + 1) % 6))) (pk_rem (a := (o + 1)) (d := 6) (by omega) (by decide) (by decide)) ?_
    refine va_put (D := (dC, dI)) (ci := 0) (v := .int (nI ((o + 1) % 6))) (ty := .int) (C := RX0) (T := TX0) (N := 3) hx hb htX0 (fun _ h => h) tyX0 tyX0_ok nmX0 hown hK hP hD hS 0 rfl rfl 1 (by decide) (hts _ u_124) (fun _ h9 => h9) rfl (by decide +kernel) rfl rfl (Nat.le_of_ble_eq_true rfl) dX0_save_55 (fun H locs hP hD hS => ?_)
    have hP : va_P (dC, dI) vwCl (hW cI cP h0 h1 pa (va_up Ps 3 U20) (nI ((o + 1) % 6)) (nI v) ++ pW cI ad P) H := hP
    have hD : va_D A (hW cI cP h0 h1 pa (va_up Ps 3 U20) (nI ((o + 1) % 6)) (nI v) ++ pW cI ad P) := hD
    rw [hQ]
    exact W.vret hx hb hr (fun t ht hW => ⟨⟨(va_up Ps 3 U20, ((o + 1) % 6), v), rfl, hF.symm, toH ht hP⟩, hS.F ht⟩) hS.2.2 dX0_save_58
  have hF := hF.trans (if_neg c_29)
  refine lv_aload_n hx hb dX0_save_32 rfl (lv_at hl 1 rfl) ?_
  refine lv_dup hx hb dX0_save_33 rfl ?_
  refine va_get (D := (dC, dI)) (ci := 0) (v := .int (nI v)) (C := RX0) (T := TX0) (N := 3) hx hb htX0 (fun _ h => h) hown hK hP 0 rfl rfl 2 (by decide) (hts _ u_125) (fun _ h9 => h9) rfl dX0_save_34 ?_
  refine lv_iconst (v := 1) hx hb dX0_save_37 (by decide) ?_
  refine lv_iadd hx hb dX0_save_38 ?_
  refine lv_tope (y := (nI (v + 1))) (nI_add v 1) ?_
  refine va_put (D := (dC, dI)) (ci := 0) (v := .int (nI (v + 1))) (ty := .int) (C := RX0) (T := TX0) (N := 3) hx hb htX0 (fun _ h => h) tyX0 tyX0_ok nmX0 hown hK hP hD hS 0 rfl rfl 2 (by decide) (hts _ u_125) (fun _ h9 => h9) rfl (by decide +kernel) rfl rfl (Nat.le_of_ble_eq_true rfl) dX0_save_39 (fun H locs hP hD hS => ?_)
  have hP : va_P (dC, dI) vwCl (hW cI cP h0 h1 pa (va_up Ps 3 U20) (nI o) (nI (v + 1)) ++ pW cI ad P) H := hP
  have hD : va_D A (hW cI cP h0 h1 pa (va_up Ps 3 U20) (nI o) (nI (v + 1)) ++ pW cI ad P) := hD
  refine lv_goto (tgt := 58) hx hb dX0_save_42 (by decide) ?_
  rw [hQ]
  exact W.vret hx hb hr (fun t ht hW => ⟨⟨(va_up Ps 3 U20, o, (v + 1)), rfl, hF.symm, toH ht hP⟩, hS.F ht⟩) hS.2.2 dX0_save_58

def fX0_save4 (Ps : Nat → PV) (o : Nat) (v : Nat) (P : PV) : (Nat → PV) × Nat × Nat :=
  (bd (fX2_copyFrom (Ps 4) P) (fun U20 => (if 6 ≤ (nI v) then (va_up Ps 4 U20, ((o + 1) % 6), v) else (va_up Ps 4 U20, o, (v + 1)))))
abbrev rmX0_save4 : Room := { frames := 3, cells := 0, slots := 0, locals := 82 }
set_option maxHeartbeats 4000000 in
set_option maxRecDepth 100000 in
theorem mX0_save4 (l : Launch) (dC : Nat → ClassId) (dI : Nat → Nat → Nat) (cI cP : ClassId) (h0 h1 : Nat) (pa : Nat → Nat → Nat) (Ps : Nat → PV) (o v : Nat) (ad : Nat → Nat) (P : PV) (ho : o < 6) (hv6 : v ≤ 6) (hi9 : (o + v) % 6 = 4) : Met l yX0_save (ws_ yX0_save cX0_save 3 none) rmX0_save4 (pcM (dC, dI) [(cI, .int), (cP, .object "SupperSeats$Plan")] (hW cI cP h0 h1 pa Ps (nI o) (nI v) ++ pW cI ad P) [.ref h0, .ref (ad 0)]) (va_Qv (fun (u9 : (Nat → PV) × Nat × Nat) => u9 = fX0_save4 Ps o v P) (fun u9 t => va_P (dC, dI) vwCl ((fun (v : (Nat → PV) × Nat × Nat) => hW cI cP h0 h1 pa v.1 (nI v.2.1) (nI v.2.2) ++ pW cI ad P) u9) t.heap) (adr (hW cI cP h0 h1 pa Ps (nI o) (nI v) ++ pW cI ad P))) 0 0 (adr (hW cI cP h0 h1 pa Ps (nI o) (nI v) ++ pW cI ad P)) := by
  refine Met.ofW (cc := cX0_save) (maxL := 3) (ret := none) (by decide) rfl ?_
  intro p e s m args below meth c s₁ B hml hv
  obtain ⟨ha, hP, hK, hn, hD0⟩ := hv
  have hx := B.exec
  have hb := B.bytes
  have hr := B.returns
  have hts0 := atoms_spec (ws := (ws_ yX0_save cX0_save 3 none)) B.pre
  have hts : ∀ w ∈ lw_all, w.before args s = true := fun w h => hts0 w (List.mem_cons_of_mem _ h)
  have hown : s.vm.findClass RX0 = some m.cls := findClass_of_methodNamed B.named
  have hlocks := B.notSynchronized
  have htX0 : ∀ w ∈ wsX00, w.before args s = true := fun w h => hts w (wX0 w h)
  have hD := adr_self hD0
  obtain ⟨A, hA⟩ : ∃ A, A = adr (hW cI cP h0 h1 pa Ps (nI o) (nI v) ++ pW cI ad P) := ⟨_, rfl⟩
  rw [← hA] at hD
  have hS : va_S A s.heap s.heap [] := va_S.rf
  obtain ⟨Q, hQ⟩ : ∃ Q, Q = MQ below (va_Qv (fun (u9 : (Nat → PV) × Nat × Nat) => u9 = fX0_save4 Ps o v P) (fun u9 t => va_P (dC, dI) vwCl ((fun (v : (Nat → PV) × Nat × Nat) => hW cI cP h0 h1 pa v.1 (nI v.2.1) (nI v.2.2) ++ pW cI ad P) u9) t.heap) (adr (hW cI cP h0 h1 pa Ps (nI o) (nI v) ++ pW cI ad P))) args s 0 0 (adr (hW cI cP h0 h1 pa Ps (nI o) (nI v) ++ pW cI ad P)) := ⟨_, rfl⟩
  rw [← hQ]
  rw [← hA] at hQ
  have hl := lv_entry ([.ref h0, .ref (ad 0)]) (n := 3) (Nat.le_of_ble_eq_true rfl)
  rw [ha, lg_entry_eq, ← ha]
  generalize (lg_sl ([.ref h0, .ref (ad 0)]) ++ List.replicate (3 - (lg_sl ([.ref h0, .ref (ad 0)])).length) Slot.unset).toArray = ls at hl ⊢
  have hl : lv_has ls 3 [(0, .ref h0), (1, .ref (ad 0))] := hl
  show W p l e rmX0_save4 s m args below meth c s.heap [] 0 0 Q (F0 m 0 ls [])
  have hF : fX0_save4 Ps o v P = fX0_save4 Ps o v P := rfl
  refine lv_aload_n hx hb dX0_save_0 rfl (lv_at hl 0 rfl) ?_
  refine lv_aload_n hx hb dX0_save_1 rfl (lv_at hl 0 rfl) ?_
  refine va_get (D := (dC, dI)) (ci := 0) (v := .int (nI o)) (C := RX0) (T := TX0) (N := 3) hx hb htX0 (fun _ h => h) hown hK hP 0 rfl rfl 1 (by decide) (hts _ u_124) (fun _ h9 => h9) rfl dX0_save_2 ?_
  refine lv_aload_n hx hb dX0_save_5 rfl (lv_at hl 0 rfl) ?_
  refine va_get (D := (dC, dI)) (ci := 0) (v := .int (nI v)) (C := RX0) (T := TX0) (N := 3) hx hb htX0 (fun _ h => h) hown hK hP 0 rfl rfl 2 (by decide) (hts _ u_125) (fun _ h9 => h9) rfl dX0_save_6 ?_
  refine lv_iadd hx hb dX0_save_9 ?_
  refine lv_tope (y := (nI (o + v))) (nI_add o v) ?_
  refine va_csr (W.runV (As := [.int (nI (o + v))]) (rest := []) ⟨hx, hb, hml, hown, hts0⟩ (mX0_planAt l dC dI cI cP h0 h1 pa (nI o) (nI v) (o + v) (by omega)) (cwV 1 hts0 (gi_V u_173 u_175 us_0 u_6 u_176) rfl rfl rfl (by decide +kernel) ⟨Nat.le_of_ble_eq_true rfl, Nat.le_of_ble_eq_true rfl⟩) (pcR_V (ci := 0) (q0 := 0) (hP.sub (ws' := rW cP h0 h1 pa (nI o) (nI v)) [0, 1] rfl) hK hn rfl rfl) rfl rfl hl.1 rfl (lv_room (Nat.le_of_ble_eq_true rfl)) dX0_save_10 ⟨Nat.zero_le _, Nat.zero_le _⟩) (fun k9 hk9 => ?_)
  rw [hi9] at hk9
  subst hk9
  refine lv_astore_n (lv' := [(2, .ref (pa 4 0)), (0, .ref h0), (1, .ref (ad 0))]) hx hb dX0_save_13 rfl hl (by decide) rfl (fun ls hl => ?_)
  refine lv_aload_n hx hb dX0_save_14 rfl (lv_at hl 0 rfl) ?_
  refine lv_ifnull hx hb dX0_save_15 ?_
  refine lv_aload_n hx hb dX0_save_18 rfl (lv_at hl 0 rfl) ?_
  refine lv_aload_n hx hb dX0_save_19 rfl (lv_at hl 2 rfl) ?_
  refine k_mutv (Wd := (fun (v : PV) => pW cI (pa 4) v ++ pW cI ad P)) (va_runV (As := [.ref (ad 0)]) (rest := []) ⟨hx, hb, hml, hown, hts0⟩ (mX2_copyFrom l dC dI cI (pa 4) (Ps 4) ad P ) (cwV 1 hts0 (gi_V u_177 u_178 u_179 u_2 u_180) rfl rfl rfl (by decide +kernel) ⟨Nat.le_of_ble_eq_true rfl, Nat.le_of_ble_eq_true rfl⟩) (pcM_V (ci := 2) (q0 := 0) (hP.sub (ws' := (pW cI (pa 4) (Ps 4) ++ pW cI ad P)) [54, 55, 56, 57, 58, 59, 60, 61, 62, 63, 64, 65, 66, 80, 81, 82, 83, 84, 85, 86, 87, 88, 89, 90, 91, 92] rfl) (hK.sub (tys' := [(cI, .int)]) [0] rfl) hn (hD.sub (ws' := (pW cI (pa 4) (Ps 4) ++ pW cI ad P)) [54, 55, 56, 57, 58, 59, 60, 61, 62, 63, 64, 65, 66, 80, 81, 82, 83, 84, 85, 86, 87, 88, 89, 90, 91, 92] (by decide) rfl) rfl rfl) rfl rfl hl.1 rfl (lv_room (Nat.le_of_ble_eq_true rfl)) dX0_save_20 ⟨Nat.zero_le _, Nat.zero_le _⟩) hP hD hS [54, 55, 56, 57, 58, 59, 60, 61, 62, 63, 64, 65, 66, 80, 81, 82, 83, 84, 85, 86, 87, 88, 89, 90, 91, 92] rfl rfl (fun _ => rfl) (fun U20 H locs hU20 hP hD hS => ?_)
  have hP : va_P (dC, dI) vwCl (hW cI cP h0 h1 pa (va_up Ps 4 U20) (nI o) (nI v) ++ pW cI ad P) H := hP
  have hD : va_D A (hW cI cP h0 h1 pa (va_up Ps 4 U20) (nI o) (nI v) ++ pW cI ad P) := hD
  have hF := bd_at hF hU20
  refine lv_aload_n hx hb dX0_save_23 rfl (lv_at hl 1 rfl) ?_
  refine va_get (D := (dC, dI)) (ci := 0) (v := .int (nI v)) (C := RX0) (T := TX0) (N := 3) hx hb htX0 (fun _ h => h) hown hK hP 0 rfl rfl 2 (by decide) (hts _ u_125) (fun _ h9 => h9) rfl dX0_save_24 ?_
  refine lv_bipush (v := 6) hx hb dX0_save_27 (by decide) ?_
  refine lv_icmp_ge (tgt := 45) hx hb dX0_save_29 (by decide) (fun c_29 => ?_) (fun c_29 => ?_)
  · have hF := hF.trans (if_pos c_29)
    refine lv_aload_n hx hb dX0_save_45 rfl (lv_at hl 1 rfl) ?_
    refine lv_aload_n hx hb dX0_save_46 rfl (lv_at hl 1 rfl) ?_
    refine va_get (D := (dC, dI)) (ci := 0) (v := .int (nI o)) (C := RX0) (T := TX0) (N := 3) hx hb htX0 (fun _ h => h) hown hK hP 0 rfl rfl 1 (by decide) (hts _ u_124) (fun _ h9 => h9) rfl dX0_save_47 ?_
    refine lv_iconst (v := 1) hx hb dX0_save_50 (by decide) ?_
    refine lv_iadd hx hb dX0_save_51 ?_
    refine lv_tope (y := (nI (o + 1))) (nI_add o 1) ?_
    refine lv_bipush (v := 6) hx hb dX0_save_52 (by decide) ?_
    refine lv_irem hx hb dX0_save_54 (by decide) ?_
    refine lv_tope (y := (nI ((o + 1) % 6))) (pk_rem (a := (o + 1)) (d := 6) (by omega) (by decide) (by decide)) ?_
    refine va_put (D := (dC, dI)) (ci := 0) (v := .int (nI ((o + 1) % 6))) (ty := .int) (C := RX0) (T := TX0) (N := 3) hx hb htX0 (fun _ h => h) tyX0 tyX0_ok nmX0 hown hK hP hD hS 0 rfl rfl 1 (by decide) (hts _ u_124) (fun _ h9 => h9) rfl (by decide +kernel) rfl rfl (Nat.le_of_ble_eq_true rfl) dX0_save_55 (fun H locs hP hD hS => ?_)
    have hP : va_P (dC, dI) vwCl (hW cI cP h0 h1 pa (va_up Ps 4 U20) (nI ((o + 1) % 6)) (nI v) ++ pW cI ad P) H := hP
    have hD : va_D A (hW cI cP h0 h1 pa (va_up Ps 4 U20) (nI ((o + 1) % 6)) (nI v) ++ pW cI ad P) := hD
    rw [hQ]
    exact W.vret hx hb hr (fun t ht hW => ⟨⟨(va_up Ps 4 U20, ((o + 1) % 6), v), rfl, hF.symm, toH ht hP⟩, hS.F ht⟩) hS.2.2 dX0_save_58
  have hF := hF.trans (if_neg c_29)
  refine lv_aload_n hx hb dX0_save_32 rfl (lv_at hl 1 rfl) ?_
  refine lv_dup hx hb dX0_save_33 rfl ?_
  refine va_get (D := (dC, dI)) (ci := 0) (v := .int (nI v)) (C := RX0) (T := TX0) (N := 3) hx hb htX0 (fun _ h => h) hown hK hP 0 rfl rfl 2 (by decide) (hts _ u_125) (fun _ h9 => h9) rfl dX0_save_34 ?_
  refine lv_iconst (v := 1) hx hb dX0_save_37 (by decide) ?_
  refine lv_iadd hx hb dX0_save_38 ?_
  refine lv_tope (y := (nI (v + 1))) (nI_add v 1) ?_
  refine va_put (D := (dC, dI)) (ci := 0) (v := .int (nI (v + 1))) (ty := .int) (C := RX0) (T := TX0) (N := 3) hx hb htX0 (fun _ h => h) tyX0 tyX0_ok nmX0 hown hK hP hD hS 0 rfl rfl 2 (by decide) (hts _ u_125) (fun _ h9 => h9) rfl (by decide +kernel) rfl rfl (Nat.le_of_ble_eq_true rfl) dX0_save_39 (fun H locs hP hD hS => ?_)
  have hP : va_P (dC, dI) vwCl (hW cI cP h0 h1 pa (va_up Ps 4 U20) (nI o) (nI (v + 1)) ++ pW cI ad P) H := hP
  have hD : va_D A (hW cI cP h0 h1 pa (va_up Ps 4 U20) (nI o) (nI (v + 1)) ++ pW cI ad P) := hD
  refine lv_goto (tgt := 58) hx hb dX0_save_42 (by decide) ?_
  rw [hQ]
  exact W.vret hx hb hr (fun t ht hW => ⟨⟨(va_up Ps 4 U20, o, (v + 1)), rfl, hF.symm, toH ht hP⟩, hS.F ht⟩) hS.2.2 dX0_save_58

def fX0_save5 (Ps : Nat → PV) (o : Nat) (v : Nat) (P : PV) : (Nat → PV) × Nat × Nat :=
  (bd (fX2_copyFrom (Ps 5) P) (fun U20 => (if 6 ≤ (nI v) then (va_up Ps 5 U20, ((o + 1) % 6), v) else (va_up Ps 5 U20, o, (v + 1)))))
abbrev rmX0_save5 : Room := { frames := 3, cells := 0, slots := 0, locals := 82 }
set_option maxHeartbeats 4000000 in
set_option maxRecDepth 100000 in
theorem mX0_save5 (l : Launch) (dC : Nat → ClassId) (dI : Nat → Nat → Nat) (cI cP : ClassId) (h0 h1 : Nat) (pa : Nat → Nat → Nat) (Ps : Nat → PV) (o v : Nat) (ad : Nat → Nat) (P : PV) (ho : o < 6) (hv6 : v ≤ 6) (hi9 : (o + v) % 6 = 5) : Met l yX0_save (ws_ yX0_save cX0_save 3 none) rmX0_save5 (pcM (dC, dI) [(cI, .int), (cP, .object "SupperSeats$Plan")] (hW cI cP h0 h1 pa Ps (nI o) (nI v) ++ pW cI ad P) [.ref h0, .ref (ad 0)]) (va_Qv (fun (u9 : (Nat → PV) × Nat × Nat) => u9 = fX0_save5 Ps o v P) (fun u9 t => va_P (dC, dI) vwCl ((fun (v : (Nat → PV) × Nat × Nat) => hW cI cP h0 h1 pa v.1 (nI v.2.1) (nI v.2.2) ++ pW cI ad P) u9) t.heap) (adr (hW cI cP h0 h1 pa Ps (nI o) (nI v) ++ pW cI ad P))) 0 0 (adr (hW cI cP h0 h1 pa Ps (nI o) (nI v) ++ pW cI ad P)) := by
  refine Met.ofW (cc := cX0_save) (maxL := 3) (ret := none) (by decide) rfl ?_
  intro p e s m args below meth c s₁ B hml hv
  obtain ⟨ha, hP, hK, hn, hD0⟩ := hv
  have hx := B.exec
  have hb := B.bytes
  have hr := B.returns
  have hts0 := atoms_spec (ws := (ws_ yX0_save cX0_save 3 none)) B.pre
  have hts : ∀ w ∈ lw_all, w.before args s = true := fun w h => hts0 w (List.mem_cons_of_mem _ h)
  have hown : s.vm.findClass RX0 = some m.cls := findClass_of_methodNamed B.named
  have hlocks := B.notSynchronized
  have htX0 : ∀ w ∈ wsX00, w.before args s = true := fun w h => hts w (wX0 w h)
  have hD := adr_self hD0
  obtain ⟨A, hA⟩ : ∃ A, A = adr (hW cI cP h0 h1 pa Ps (nI o) (nI v) ++ pW cI ad P) := ⟨_, rfl⟩
  rw [← hA] at hD
  have hS : va_S A s.heap s.heap [] := va_S.rf
  obtain ⟨Q, hQ⟩ : ∃ Q, Q = MQ below (va_Qv (fun (u9 : (Nat → PV) × Nat × Nat) => u9 = fX0_save5 Ps o v P) (fun u9 t => va_P (dC, dI) vwCl ((fun (v : (Nat → PV) × Nat × Nat) => hW cI cP h0 h1 pa v.1 (nI v.2.1) (nI v.2.2) ++ pW cI ad P) u9) t.heap) (adr (hW cI cP h0 h1 pa Ps (nI o) (nI v) ++ pW cI ad P))) args s 0 0 (adr (hW cI cP h0 h1 pa Ps (nI o) (nI v) ++ pW cI ad P)) := ⟨_, rfl⟩
  rw [← hQ]
  rw [← hA] at hQ
  have hl := lv_entry ([.ref h0, .ref (ad 0)]) (n := 3) (Nat.le_of_ble_eq_true rfl)
  rw [ha, lg_entry_eq, ← ha]
  generalize (lg_sl ([.ref h0, .ref (ad 0)]) ++ List.replicate (3 - (lg_sl ([.ref h0, .ref (ad 0)])).length) Slot.unset).toArray = ls at hl ⊢
  have hl : lv_has ls 3 [(0, .ref h0), (1, .ref (ad 0))] := hl
  show W p l e rmX0_save5 s m args below meth c s.heap [] 0 0 Q (F0 m 0 ls [])
  have hF : fX0_save5 Ps o v P = fX0_save5 Ps o v P := rfl
  refine lv_aload_n hx hb dX0_save_0 rfl (lv_at hl 0 rfl) ?_
  refine lv_aload_n hx hb dX0_save_1 rfl (lv_at hl 0 rfl) ?_
  refine va_get (D := (dC, dI)) (ci := 0) (v := .int (nI o)) (C := RX0) (T := TX0) (N := 3) hx hb htX0 (fun _ h => h) hown hK hP 0 rfl rfl 1 (by decide) (hts _ u_124) (fun _ h9 => h9) rfl dX0_save_2 ?_
  refine lv_aload_n hx hb dX0_save_5 rfl (lv_at hl 0 rfl) ?_
  refine va_get (D := (dC, dI)) (ci := 0) (v := .int (nI v)) (C := RX0) (T := TX0) (N := 3) hx hb htX0 (fun _ h => h) hown hK hP 0 rfl rfl 2 (by decide) (hts _ u_125) (fun _ h9 => h9) rfl dX0_save_6 ?_
  refine lv_iadd hx hb dX0_save_9 ?_
  refine lv_tope (y := (nI (o + v))) (nI_add o v) ?_
  refine va_csr (W.runV (As := [.int (nI (o + v))]) (rest := []) ⟨hx, hb, hml, hown, hts0⟩ (mX0_planAt l dC dI cI cP h0 h1 pa (nI o) (nI v) (o + v) (by omega)) (cwV 1 hts0 (gi_V u_173 u_175 us_0 u_6 u_176) rfl rfl rfl (by decide +kernel) ⟨Nat.le_of_ble_eq_true rfl, Nat.le_of_ble_eq_true rfl⟩) (pcR_V (ci := 0) (q0 := 0) (hP.sub (ws' := rW cP h0 h1 pa (nI o) (nI v)) [0, 1] rfl) hK hn rfl rfl) rfl rfl hl.1 rfl (lv_room (Nat.le_of_ble_eq_true rfl)) dX0_save_10 ⟨Nat.zero_le _, Nat.zero_le _⟩) (fun k9 hk9 => ?_)
  rw [hi9] at hk9
  subst hk9
  refine lv_astore_n (lv' := [(2, .ref (pa 5 0)), (0, .ref h0), (1, .ref (ad 0))]) hx hb dX0_save_13 rfl hl (by decide) rfl (fun ls hl => ?_)
  refine lv_aload_n hx hb dX0_save_14 rfl (lv_at hl 0 rfl) ?_
  refine lv_ifnull hx hb dX0_save_15 ?_
  refine lv_aload_n hx hb dX0_save_18 rfl (lv_at hl 0 rfl) ?_
  refine lv_aload_n hx hb dX0_save_19 rfl (lv_at hl 2 rfl) ?_
  refine k_mutv (Wd := (fun (v : PV) => pW cI (pa 5) v ++ pW cI ad P)) (va_runV (As := [.ref (ad 0)]) (rest := []) ⟨hx, hb, hml, hown, hts0⟩ (mX2_copyFrom l dC dI cI (pa 5) (Ps 5) ad P ) (cwV 1 hts0 (gi_V u_177 u_178 u_179 u_2 u_180) rfl rfl rfl (by decide +kernel) ⟨Nat.le_of_ble_eq_true rfl, Nat.le_of_ble_eq_true rfl⟩) (pcM_V (ci := 2) (q0 := 0) (hP.sub (ws' := (pW cI (pa 5) (Ps 5) ++ pW cI ad P)) [67, 68, 69, 70, 71, 72, 73, 74, 75, 76, 77, 78, 79, 80, 81, 82, 83, 84, 85, 86, 87, 88, 89, 90, 91, 92] rfl) (hK.sub (tys' := [(cI, .int)]) [0] rfl) hn (hD.sub (ws' := (pW cI (pa 5) (Ps 5) ++ pW cI ad P)) [67, 68, 69, 70, 71, 72, 73, 74, 75, 76, 77, 78, 79, 80, 81, 82, 83, 84, 85, 86, 87, 88, 89, 90, 91, 92] (by decide) rfl) rfl rfl) rfl rfl hl.1 rfl (lv_room (Nat.le_of_ble_eq_true rfl)) dX0_save_20 ⟨Nat.zero_le _, Nat.zero_le _⟩) hP hD hS [67, 68, 69, 70, 71, 72, 73, 74, 75, 76, 77, 78, 79, 80, 81, 82, 83, 84, 85, 86, 87, 88, 89, 90, 91, 92] rfl rfl (fun _ => rfl) (fun U20 H locs hU20 hP hD hS => ?_)
  have hP : va_P (dC, dI) vwCl (hW cI cP h0 h1 pa (va_up Ps 5 U20) (nI o) (nI v) ++ pW cI ad P) H := hP
  have hD : va_D A (hW cI cP h0 h1 pa (va_up Ps 5 U20) (nI o) (nI v) ++ pW cI ad P) := hD
  have hF := bd_at hF hU20
  refine lv_aload_n hx hb dX0_save_23 rfl (lv_at hl 1 rfl) ?_
  refine va_get (D := (dC, dI)) (ci := 0) (v := .int (nI v)) (C := RX0) (T := TX0) (N := 3) hx hb htX0 (fun _ h => h) hown hK hP 0 rfl rfl 2 (by decide) (hts _ u_125) (fun _ h9 => h9) rfl dX0_save_24 ?_
  refine lv_bipush (v := 6) hx hb dX0_save_27 (by decide) ?_
  refine lv_icmp_ge (tgt := 45) hx hb dX0_save_29 (by decide) (fun c_29 => ?_) (fun c_29 => ?_)
  · have hF := hF.trans (if_pos c_29)
    refine lv_aload_n hx hb dX0_save_45 rfl (lv_at hl 1 rfl) ?_
    refine lv_aload_n hx hb dX0_save_46 rfl (lv_at hl 1 rfl) ?_
    refine va_get (D := (dC, dI)) (ci := 0) (v := .int (nI o)) (C := RX0) (T := TX0) (N := 3) hx hb htX0 (fun _ h => h) hown hK hP 0 rfl rfl 1 (by decide) (hts _ u_124) (fun _ h9 => h9) rfl dX0_save_47 ?_
    refine lv_iconst (v := 1) hx hb dX0_save_50 (by decide) ?_
    refine lv_iadd hx hb dX0_save_51 ?_
    refine lv_tope (y := (nI (o + 1))) (nI_add o 1) ?_
    refine lv_bipush (v := 6) hx hb dX0_save_52 (by decide) ?_
    refine lv_irem hx hb dX0_save_54 (by decide) ?_
    refine lv_tope (y := (nI ((o + 1) % 6))) (pk_rem (a := (o + 1)) (d := 6) (by omega) (by decide) (by decide)) ?_
    refine va_put (D := (dC, dI)) (ci := 0) (v := .int (nI ((o + 1) % 6))) (ty := .int) (C := RX0) (T := TX0) (N := 3) hx hb htX0 (fun _ h => h) tyX0 tyX0_ok nmX0 hown hK hP hD hS 0 rfl rfl 1 (by decide) (hts _ u_124) (fun _ h9 => h9) rfl (by decide +kernel) rfl rfl (Nat.le_of_ble_eq_true rfl) dX0_save_55 (fun H locs hP hD hS => ?_)
    have hP : va_P (dC, dI) vwCl (hW cI cP h0 h1 pa (va_up Ps 5 U20) (nI ((o + 1) % 6)) (nI v) ++ pW cI ad P) H := hP
    have hD : va_D A (hW cI cP h0 h1 pa (va_up Ps 5 U20) (nI ((o + 1) % 6)) (nI v) ++ pW cI ad P) := hD
    rw [hQ]
    exact W.vret hx hb hr (fun t ht hW => ⟨⟨(va_up Ps 5 U20, ((o + 1) % 6), v), rfl, hF.symm, toH ht hP⟩, hS.F ht⟩) hS.2.2 dX0_save_58
  have hF := hF.trans (if_neg c_29)
  refine lv_aload_n hx hb dX0_save_32 rfl (lv_at hl 1 rfl) ?_
  refine lv_dup hx hb dX0_save_33 rfl ?_
  refine va_get (D := (dC, dI)) (ci := 0) (v := .int (nI v)) (C := RX0) (T := TX0) (N := 3) hx hb htX0 (fun _ h => h) hown hK hP 0 rfl rfl 2 (by decide) (hts _ u_125) (fun _ h9 => h9) rfl dX0_save_34 ?_
  refine lv_iconst (v := 1) hx hb dX0_save_37 (by decide) ?_
  refine lv_iadd hx hb dX0_save_38 ?_
  refine lv_tope (y := (nI (v + 1))) (nI_add v 1) ?_
  refine va_put (D := (dC, dI)) (ci := 0) (v := .int (nI (v + 1))) (ty := .int) (C := RX0) (T := TX0) (N := 3) hx hb htX0 (fun _ h => h) tyX0 tyX0_ok nmX0 hown hK hP hD hS 0 rfl rfl 2 (by decide) (hts _ u_125) (fun _ h9 => h9) rfl (by decide +kernel) rfl rfl (Nat.le_of_ble_eq_true rfl) dX0_save_39 (fun H locs hP hD hS => ?_)
  have hP : va_P (dC, dI) vwCl (hW cI cP h0 h1 pa (va_up Ps 5 U20) (nI o) (nI (v + 1)) ++ pW cI ad P) H := hP
  have hD : va_D A (hW cI cP h0 h1 pa (va_up Ps 5 U20) (nI o) (nI (v + 1)) ++ pW cI ad P) := hD
  refine lv_goto (tgt := 58) hx hb dX0_save_42 (by decide) ?_
  rw [hQ]
  exact W.vret hx hb hr (fun t ht hW => ⟨⟨(va_up Ps 5 U20, o, (v + 1)), rfl, hF.symm, toH ht hP⟩, hS.F ht⟩) hS.2.2 dX0_save_58

def fX0_save (Ps : Nat → PV) (o : Nat) (v : Nat) (P : PV) : (Nat → PV) × Nat × Nat := (va_up Ps ((o + v) % 6) (fX2_copyFrom (Ps ((o + v) % 6)) P), if v < 6 then (o, v + 1) else ((o + 1) % 6, v))
abbrev rmX0_save : Room := rmX0_save0
theorem save_v {v : Nat} (h : v ≤ 6) : (6 ≤ nI v) ↔ ¬ v < 6 := by
  rw [show (6 : Int32) = nI 6 from rfl, nI_leI (by decide) (by omega)]
  omega
theorem save_eq0 {Ps : Nat → PV} {o v : Nat} {P : PV} (hv6 : v ≤ 6) (hi9 : (o + v) % 6 = 0) : fX0_save Ps o v P = fX0_save0 Ps o v P := by
  unfold fX0_save fX0_save0 bd
  rw [hi9]
  by_cases h : v < 6
  · rw [if_pos h, if_neg (fun z => (save_v hv6).mp z h)]
  · rw [if_neg h, if_pos ((save_v hv6).mpr h)]
theorem save_eq1 {Ps : Nat → PV} {o v : Nat} {P : PV} (hv6 : v ≤ 6) (hi9 : (o + v) % 6 = 1) : fX0_save Ps o v P = fX0_save1 Ps o v P := by
  unfold fX0_save fX0_save1 bd
  rw [hi9]
  by_cases h : v < 6
  · rw [if_pos h, if_neg (fun z => (save_v hv6).mp z h)]
  · rw [if_neg h, if_pos ((save_v hv6).mpr h)]
theorem save_eq2 {Ps : Nat → PV} {o v : Nat} {P : PV} (hv6 : v ≤ 6) (hi9 : (o + v) % 6 = 2) : fX0_save Ps o v P = fX0_save2 Ps o v P := by
  unfold fX0_save fX0_save2 bd
  rw [hi9]
  by_cases h : v < 6
  · rw [if_pos h, if_neg (fun z => (save_v hv6).mp z h)]
  · rw [if_neg h, if_pos ((save_v hv6).mpr h)]
theorem save_eq3 {Ps : Nat → PV} {o v : Nat} {P : PV} (hv6 : v ≤ 6) (hi9 : (o + v) % 6 = 3) : fX0_save Ps o v P = fX0_save3 Ps o v P := by
  unfold fX0_save fX0_save3 bd
  rw [hi9]
  by_cases h : v < 6
  · rw [if_pos h, if_neg (fun z => (save_v hv6).mp z h)]
  · rw [if_neg h, if_pos ((save_v hv6).mpr h)]
theorem save_eq4 {Ps : Nat → PV} {o v : Nat} {P : PV} (hv6 : v ≤ 6) (hi9 : (o + v) % 6 = 4) : fX0_save Ps o v P = fX0_save4 Ps o v P := by
  unfold fX0_save fX0_save4 bd
  rw [hi9]
  by_cases h : v < 6
  · rw [if_pos h, if_neg (fun z => (save_v hv6).mp z h)]
  · rw [if_neg h, if_pos ((save_v hv6).mpr h)]
theorem save_eq5 {Ps : Nat → PV} {o v : Nat} {P : PV} (hv6 : v ≤ 6) (hi9 : (o + v) % 6 = 5) : fX0_save Ps o v P = fX0_save5 Ps o v P := by
  unfold fX0_save fX0_save5 bd
  rw [hi9]
  by_cases h : v < 6
  · rw [if_pos h, if_neg (fun z => (save_v hv6).mp z h)]
  · rw [if_neg h, if_pos ((save_v hv6).mpr h)]
theorem mX0_save (l : Launch) (dC : Nat → ClassId) (dI : Nat → Nat → Nat) (cI cP : ClassId) (h0 h1 : Nat) (pa : Nat → Nat → Nat) (Ps : Nat → PV) (o v : Nat) (ad : Nat → Nat) (P : PV) (ho : o < 6) (hv6 : v ≤ 6) : Met l yX0_save (ws_ yX0_save cX0_save 3 none) rmX0_save (pcM (dC, dI) [(cI, .int), (cP, .object "SupperSeats$Plan")] (hW cI cP h0 h1 pa Ps (nI o) (nI v) ++ pW cI ad P) [.ref h0, .ref (ad 0)]) (va_Qv (fun (u9 : (Nat → PV) × Nat × Nat) => u9 = fX0_save Ps o v P) (fun u9 t => va_P (dC, dI) vwCl ((fun (v : (Nat → PV) × Nat × Nat) => hW cI cP h0 h1 pa v.1 (nI v.2.1) (nI v.2.2) ++ pW cI ad P) u9) t.heap) (adr (hW cI cP h0 h1 pa Ps (nI o) (nI v) ++ pW cI ad P))) 0 0 (adr (hW cI cP h0 h1 pa Ps (nI o) (nI v) ++ pW cI ad P)) := by
  have h6 : (o + v) % 6 < 6 := Nat.mod_lt _ (by decide)
  rcases (show (o + v) % 6 = 0 ∨ (o + v) % 6 = 1 ∨ (o + v) % 6 = 2 ∨ (o + v) % 6 = 3 ∨ (o + v) % 6 = 4 ∨ (o + v) % 6 = 5 by omega) with h | h | h | h | h | h
  · rw [save_eq0 hv6 h]
    exact mX0_save0 l dC dI cI cP h0 h1 pa Ps o v ad P ho hv6 h
  · rw [save_eq1 hv6 h]
    exact mX0_save1 l dC dI cI cP h0 h1 pa Ps o v ad P ho hv6 h
  · rw [save_eq2 hv6 h]
    exact mX0_save2 l dC dI cI cP h0 h1 pa Ps o v ad P ho hv6 h
  · rw [save_eq3 hv6 h]
    exact mX0_save3 l dC dI cI cP h0 h1 pa Ps o v ad P ho hv6 h
  · rw [save_eq4 hv6 h]
    exact mX0_save4 l dC dI cI cP h0 h1 pa Ps o v ad P ho hv6 h
  · rw [save_eq5 hv6 h]
    exact mX0_save5 l dC dI cI cP h0 h1 pa Ps o v ad P ho hv6 h
