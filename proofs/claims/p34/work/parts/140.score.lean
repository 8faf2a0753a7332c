def fX4_ofSitting (P : PV) (g : Int32) (z : Int32) : Int32 :=
  (bd ((if (fX2_isAtLeg z) = 0 then 0 else (if (fX3_at 16 (P 1) g) = 2 then 1 else 0)) : Int32) (fun v4_0 => (if v4_0 = 0 then 1 else (1 - (fX3_at 4 (P 7) 3)))))
abbrev rmX4_ofSitting : Room := { frames := 1, cells := 0, slots := 0, locals := 21 }
set_option maxHeartbeats 4000000 in
set_option maxRecDepth 100000 in
theorem mX4_ofSitting (l : Launch) (dC : Nat → ClassId) (dI : Nat → Nat → Nat) (cI : ClassId) (ad : Nat → Nat) (P : PV) (g : Int32) (z : Int32) : Met l yX4_ofSitting (ws_ yX4_ofSitting cX4_ofSitting 4 (some .int)) rmX4_ofSitting (pcR (dC, dI) [(cI, .int)] (pW cI ad P) [.ref (ad 0), .int g, .int z]) (vp_Si (fun r => r = fX4_ofSitting P g z)) 0 0 (fun _ => False) := by
  refine Met.ofW (cc := cX4_ofSitting) (maxL := 4) (ret := (some .int)) (by decide) rfl ?_
  intro p e s m args below meth c s₁ B hml hv
  obtain ⟨ha, hP, hK, hn⟩ := hv
  have hx := B.exec
  have hb := B.bytes
  have hr := B.returns
  have hts0 := atoms_spec (ws := (ws_ yX4_ofSitting cX4_ofSitting 4 (some .int))) B.pre
  have hts : ∀ w ∈ lw_all, w.before args s = true := fun w h => hts0 w (List.mem_cons_of_mem _ h)
  have hown : s.vm.findClass RX4 = some m.cls := findClass_of_methodNamed B.named
  have hlocks := B.notSynchronized
  have htX2 : ∀ w ∈ wsX20, w.before args s = true := fun w h => hts w (wX2 w h)
  obtain ⟨Q, hQ⟩ : ∃ Q, Q = MQ below (vp_Si (fun r => r = fX4_ofSitting P g z)) args s 0 0 (fun _ => False) := ⟨_, rfl⟩
  rw [← hQ]
  have hl := lv_entry ([.ref (ad 0), .int g, .int z]) (n := 4) (Nat.le_of_ble_eq_true rfl)
  rw [ha, lg_entry_eq, ← ha]
  generalize (lg_sl ([.ref (ad 0), .int g, .int z]) ++ List.replicate (4 - (lg_sl ([.ref (ad 0), .int g, .int z])).length) Slot.unset).toArray = ls at hl ⊢
  have hl : lv_has ls 4 [(0, .ref (ad 0)), (1, .int g), (2, .int z)] := hl
  show W p l e rmX4_ofSitting s m args below meth c s.heap [] 0 0 Q (F0 m 0 ls [])
  have hF : fX4_ofSitting P g z = fX4_ofSitting P g z := rfl
  refine lv_iload_n hx hb dX4_ofSitting_0 rfl (lv_at hl 2 rfl) ?_
  refine k_callb (W.runS (As := [.int z]) (rest := []) ⟨hx, hb, hml, hown, hts0⟩ (mX2_isAtLeg l dC dI  z) (va_cwS 1 hts0 (gi_S u_309 u_310 u_2 u_311) rfl rfl rfl (by decide +kernel) ⟨Nat.le_of_ble_eq_true rfl, Nat.le_of_ble_eq_true rfl⟩) (pcR_S (hP.sub (ws' := []) [] rfl) (hK.sub (tys' := []) [] rfl) hn) rfl rfl hl.1 rfl (lv_room (Nat.le_of_ble_eq_true rfl)) dX4_ofSitting_1 ⟨Nat.zero_le _, Nat.zero_le _⟩) (fun br1 => ?_)
  have K4 : ∀ (v4_0 : Int32), v4_0 = (if (fX2_isAtLeg z) = 0 then 0 else (if (fX3_at 16 (P 1) g) = 2 then 1 else 0)) → ∀ (ls : Array Slot), lv_has ls 4 [(0, .ref (ad 0)), (1, .int g), (2, .int z)] → W p l e rmX4_ofSitting s m args below meth c s.heap [] 0 0 Q (F0 m 24 ls [.int v4_0]) := by
    intro v4_0 hz4  ls hl
    have hz := hz4
    have hF := bd_at hF hz
    refine lv_istore_n (lv' := [(3, .int v4_0), (0, .ref (ad 0)), (1, .int g), (2, .int z)]) hx hb dX4_ofSitting_24 rfl hl (by decide) rfl (fun ls hl => ?_)
    refine lv_iload_n hx hb dX4_ofSitting_25 rfl (lv_at hl 0 rfl) ?_
    refine lv_if_eq (tgt := 42) hx hb dX4_ofSitting_26 (by decide) (fun c_26 => ?_) (fun c_26 => ?_)
    · have hF := hF.trans (if_pos c_26)
      refine lv_iconst (v := 1) hx hb dX4_ofSitting_42 (by decide) ?_
      rw [hQ]
      exact W.iret (v := 1) hx hb hr (fun t ht hW => ⟨1, rfl, hF.symm, ht⟩) (fun q hq => absurd hq List.not_mem_nil) dX4_ofSitting_43
    have hF := hF.trans (if_neg c_26)
    refine lv_iconst (v := 1) hx hb dX4_ofSitting_29 (by decide) ?_
    refine lv_aload_n hx hb dX4_ofSitting_30 rfl (lv_at hl 1 rfl) ?_
    refine va_getN (D := (dC, dI)) (ci := 2) (v := .ref (ad 8)) (C := RX2) (T := TX2) (N := 14) hx hb htX2 (fun _ h => h) hown hK hP 0 rfl rfl 7 (by decide) (va_Nw.use rfl (hn _ (List.mem_of_getElem? (i := 11) rfl))) (fun _ h9 => h9) rfl dX4_ofSitting_31 ?_
    refine lv_iconst (v := 3) hx hb dX4_ofSitting_34 (by decide) ?_
    refine k_calli (W.runS (As := [.ref (ad 8), .int 3]) (rest := [.int 1]) ⟨hx, hb, hml, hown, hts0⟩ (mX3_at l dC dI cI (ad 8) 4 (by decide) (P 7) 3) (va_cwS 2 hts0 (gi_S u_305 u_303 u_7 u_304) rfl rfl rfl (by decide +kernel) ⟨Nat.le_of_ble_eq_true rfl, Nat.le_of_ble_eq_true rfl⟩) (pcR_S (hP.sub (ws' := aW cI (ad 8) 4 (P 7)) [8] rfl) hK hn) rfl rfl hl.1 rfl (lv_room (Nat.le_of_ble_eq_true rfl)) dX4_ofSitting_35 ⟨Nat.zero_le _, Nat.zero_le _⟩) ?_
    refine lv_isub hx hb dX4_ofSitting_38 ?_
    refine lv_goto (tgt := 43) hx hb dX4_ofSitting_39 (by decide) ?_
    rw [hQ]
    exact W.iret (v := (1 - (fX3_at 4 (P 7) 3))) hx hb hr (fun t ht hW => ⟨(1 - (fX3_at 4 (P 7) 3)), rfl, hF.symm, ht⟩) (fun q hq => absurd hq List.not_mem_nil) dX4_ofSitting_43
  have hF : ((if (fX2_isAtLeg z) = 0 then 0 else (if (fX3_at 16 (P 1) g) = 2 then 1 else 0)) : Int32) = (if (fX2_isAtLeg z) = 0 then 0 else (if (fX3_at 16 (P 1) g) = 2 then 1 else 0)) := rfl
  refine lv_if_eq (tgt := 23) hx hb dX4_ofSitting_4 (by decide) (fun c_4 => ?_) (fun c_4 => ?_)
  · have hF := hF.trans (if_pos c_4)
    refine lv_iconst (v := 0) hx hb dX4_ofSitting_23 (by decide) ?_
    exact K4 _ hF.symm  ls (lv_sub hl [0, 1, 2] rfl)
  have hF := hF.trans (if_neg c_4)
  refine lv_aload_n hx hb dX4_ofSitting_7 rfl (lv_at hl 0 rfl) ?_
  refine va_getN (D := (dC, dI)) (ci := 2) (v := .ref (ad 2)) (C := RX2) (T := TX2) (N := 14) hx hb htX2 (fun _ h => h) hown hK hP 0 rfl rfl 1 (by decide) (va_Nw.use rfl (hn _ (List.mem_of_getElem? (i := 2) rfl))) (fun _ h9 => h9) rfl dX4_ofSitting_8 ?_
  refine lv_iload_n hx hb dX4_ofSitting_11 rfl (lv_at hl 1 rfl) ?_
  refine k_calli (W.runS (As := [.ref (ad 2), .int g]) (rest := []) ⟨hx, hb, hml, hown, hts0⟩ (mX3_at l dC dI cI (ad 2) 16 (by decide) (P 1) g) (va_cwS 2 hts0 (gi_S u_305 u_303 u_7 u_304) rfl rfl rfl (by decide +kernel) ⟨Nat.le_of_ble_eq_true rfl, Nat.le_of_ble_eq_true rfl⟩) (pcR_S (hP.sub (ws' := aW cI (ad 2) 16 (P 1)) [2] rfl) hK hn) rfl rfl hl.1 rfl (lv_room (Nat.le_of_ble_eq_true rfl)) dX4_ofSitting_12 ⟨Nat.zero_le _, Nat.zero_le _⟩) ?_
  refine lv_iconst (v := 2) hx hb dX4_ofSitting_15 (by decide) ?_
  refine lv_icmp_ne (tgt := 23) hx hb dX4_ofSitting_16 (by decide) (fun c_16 => ?_) (fun c_16 => ?_)
  · have hF := hF.trans (if_neg c_16)
    refine lv_iconst (v := 0) hx hb dX4_ofSitting_23 (by decide) ?_
    exact K4 _ hF.symm  ls (lv_sub hl [0, 1, 2] rfl)
  have hF := hF.trans (if_pos c_16)
  refine lv_iconst (v := 1) hx hb dX4_ofSitting_19 (by decide) ?_
  refine lv_goto (tgt := 24) hx hb dX4_ofSitting_20 (by decide) ?_
  exact K4 _ hF.symm  ls (lv_sub hl [0, 1, 2] rfl)

def fX4_ofLevel (P : PV) (v : Int32) : Int32 :=
  (bd ((if v < 1 then 0 else (0 + (fX3_at 4 (P 7) 1))) : Int32) (fun v4_0 => (bd ((if v < 2 then v4_0 else (v4_0 + (fX3_at 4 (P 7) 2))) : Int32) (fun v20_0 => v20_0))))
abbrev rmX4_ofLevel : Room := { frames := 1, cells := 0, slots := 0, locals := 21 }
set_option maxHeartbeats 4000000 in
set_option maxRecDepth 100000 in
theorem mX4_ofLevel (l : Launch) (dC : Nat → ClassId) (dI : Nat → Nat → Nat) (cI : ClassId) (ad : Nat → Nat) (P : PV) (v : Int32) : Met l yX4_ofLevel (ws_ yX4_ofLevel cX4_ofLevel 3 (some .int)) rmX4_ofLevel (pcR (dC, dI) [(cI, .int)] (pW cI ad P) [.ref (ad 0), .int v]) (vp_Si (fun r => r = fX4_ofLevel P v)) 0 0 (fun _ => False) := by
  refine Met.ofW (cc := cX4_ofLevel) (maxL := 3) (ret := (some .int)) (by decide) rfl ?_
  intro p e s m args below meth c s₁ B hml hv
  obtain ⟨ha, hP, hK, hn⟩ := hv
  have hx := B.exec
  have hb := B.bytes
  have hr := B.returns
  have hts0 := atoms_spec (ws := (ws_ yX4_ofLevel cX4_ofLevel 3 (some .int))) B.pre
  have hts : ∀ w ∈ lw_all, w.before args s = true := fun w h => hts0 w (List.mem_cons_of_mem _ h)
  have hown : s.vm.findClass RX4 = some m.cls := findClass_of_methodNamed B.named
  have hlocks := B.notSynchronized
  have htX2 : ∀ w ∈ wsX20, w.before args s = true := fun w h => hts w (wX2 w h)
  obtain ⟨Q, hQ⟩ : ∃ Q, Q = MQ below (vp_Si (fun r => r = fX4_ofLevel P v)) args s 0 0 (fun _ => False) := ⟨_, rfl⟩
  rw [← hQ]
  have hl := lv_entry ([.ref (ad 0), .int v]) (n := 3) (Nat.le_of_ble_eq_true rfl)
  rw [ha, lg_entry_eq, ← ha]
  generalize (lg_sl ([.ref (ad 0), .int v]) ++ List.replicate (3 - (lg_sl ([.ref (ad 0), .int v])).length) Slot.unset).toArray = ls at hl ⊢
  have hl : lv_has ls 3 [(0, .ref (ad 0)), (1, .int v)] := hl
  show W p l e rmX4_ofLevel s m args below meth c s.heap [] 0 0 Q (F0 m 0 ls [])
  have hF : fX4_ofLevel P v = fX4_ofLevel P v := rfl
  refine lv_iconst (v := 0) hx hb dX4_ofLevel_0 (by decide) ?_
  refine lv_istore_n (lv' := [(2, .int 0), (0, .ref (ad 0)), (1, .int v)]) hx hb dX4_ofLevel_1 rfl hl (by decide) rfl (fun ls hl => ?_)
  refine lv_iload_n hx hb dX4_ofLevel_2 rfl (lv_at hl 2 rfl) ?_
  refine lv_iconst (v := 1) hx hb dX4_ofLevel_3 (by decide) ?_
  have K4 : ∀ (v4_0 : Int32), v4_0 = (if v < 1 then 0 else (0 + (fX3_at 4 (P 7) 1))) → ∀ (ls : Array Slot), lv_has ls 3 [(2, .int v4_0), (0, .ref (ad 0)), (1, .int v)] → W p l e rmX4_ofLevel s m args below meth c s.heap [] 0 0 Q (F0 m 18 ls []) := by
    intro v4_0 hz4  ls hl
    have hz := hz4
    have hF := bd_at hF hz
    refine lv_iload_n hx hb dX4_ofLevel_18 rfl (lv_at hl 2 rfl) ?_
    refine lv_iconst (v := 2) hx hb dX4_ofLevel_19 (by decide) ?_
    have K20 : ∀ (v20_0 : Int32), v20_0 = (if v < 2 then v4_0 else (v4_0 + (fX3_at 4 (P 7) 2))) → ∀ (ls : Array Slot), lv_has ls 3 [(2, .int v20_0), (0, .ref (ad 0)), (1, .int v)] → W p l e rmX4_ofLevel s m args below meth c s.heap [] 0 0 Q (F0 m 34 ls []) := by
      intro v20_0 hz20  ls hl
      have hz := hz20
      have hF := bd_at hF hz
      refine lv_iload_n hx hb dX4_ofLevel_34 rfl (lv_at hl 0 rfl) ?_
      rw [hQ]
      exact W.iret (v := v20_0) hx hb hr (fun t ht hW => ⟨v20_0, rfl, hF.symm, ht⟩) (fun q hq => absurd hq List.not_mem_nil) dX4_ofLevel_35
    have hF : ((if v < 2 then v4_0 else (v4_0 + (fX3_at 4 (P 7) 2))) : Int32) = (if v < 2 then v4_0 else (v4_0 + (fX3_at 4 (P 7) 2))) := rfl
    refine lv_icmp_lt (tgt := 34) hx hb dX4_ofLevel_20 (by decide) (fun c_20 => ?_) (fun c_20 => ?_)
    · have hF := hF.trans (if_pos c_20)
      exact K20 _ hF.symm  ls (lv_sub hl [0, 1, 2] rfl)
    have hF := hF.trans (if_neg c_20)
    refine lv_iload_n hx hb dX4_ofLevel_23 rfl (lv_at hl 0 rfl) ?_
    refine lv_aload_n hx hb dX4_ofLevel_24 rfl (lv_at hl 1 rfl) ?_
    refine va_getN (D := (dC, dI)) (ci := 2) (v := .ref (ad 8)) (C := RX2) (T := TX2) (N := 14) hx hb htX2 (fun _ h => h) hown hK hP 0 rfl rfl 7 (by decide) (va_Nw.use rfl (hn _ (List.mem_of_getElem? (i := 11) rfl))) (fun _ h9 => h9) rfl dX4_ofLevel_25 ?_
    refine lv_iconst (v := 2) hx hb dX4_ofLevel_28 (by decide) ?_
    refine k_calli (W.runS (As := [.ref (ad 8), .int 2]) (rest := [.int v4_0]) ⟨hx, hb, hml, hown, hts0⟩ (mX3_at l dC dI cI (ad 8) 4 (by decide) (P 7) 2) (va_cwS 2 hts0 (gi_S u_305 u_303 u_7 u_304) rfl rfl rfl (by decide +kernel) ⟨Nat.le_of_ble_eq_true rfl, Nat.le_of_ble_eq_true rfl⟩) (pcR_S (hP.sub (ws' := aW cI (ad 8) 4 (P 7)) [8] rfl) hK hn) rfl rfl hl.1 rfl (lv_room (Nat.le_of_ble_eq_true rfl)) dX4_ofLevel_29 ⟨Nat.zero_le _, Nat.zero_le _⟩) ?_
    refine lv_iadd hx hb dX4_ofLevel_32 ?_
    refine lv_istore_n (lv' := [(2, .int (v4_0 + (fX3_at 4 (P 7) 2))), (0, .ref (ad 0)), (1, .int v)]) hx hb dX4_ofLevel_33 rfl hl (by decide) rfl (fun ls hl => ?_)
    exact K20 _ hF.symm  ls (lv_sub hl [0, 1, 2] rfl)
  have hF : ((if v < 1 then 0 else (0 + (fX3_at 4 (P 7) 1))) : Int32) = (if v < 1 then 0 else (0 + (fX3_at 4 (P 7) 1))) := rfl
  refine lv_icmp_lt (tgt := 18) hx hb dX4_ofLevel_4 (by decide) (fun c_4 => ?_) (fun c_4 => ?_)
  · have hF := hF.trans (if_pos c_4)
    exact K4 _ hF.symm  ls (lv_sub hl [0, 1, 2] rfl)
  have hF := hF.trans (if_neg c_4)
  refine lv_iload_n hx hb dX4_ofLevel_7 rfl (lv_at hl 0 rfl) ?_
  refine lv_aload_n hx hb dX4_ofLevel_8 rfl (lv_at hl 1 rfl) ?_
  refine va_getN (D := (dC, dI)) (ci := 2) (v := .ref (ad 8)) (C := RX2) (T := TX2) (N := 14) hx hb htX2 (fun _ h => h) hown hK hP 0 rfl rfl 7 (by decide) (va_Nw.use rfl (hn _ (List.mem_of_getElem? (i := 11) rfl))) (fun _ h9 => h9) rfl dX4_ofLevel_9 ?_
  refine lv_iconst (v := 1) hx hb dX4_ofLevel_12 (by decide) ?_
  refine k_calli (W.runS (As := [.ref (ad 8), .int 1]) (rest := [.int 0]) ⟨hx, hb, hml, hown, hts0⟩ (mX3_at l dC dI cI (ad 8) 4 (by decide) (P 7) 1) (va_cwS 2 hts0 (gi_S u_305 u_303 u_7 u_304) rfl rfl rfl (by decide +kernel) ⟨Nat.le_of_ble_eq_true rfl, Nat.le_of_ble_eq_true rfl⟩) (pcR_S (hP.sub (ws' := aW cI (ad 8) 4 (P 7)) [8] rfl) hK hn) rfl rfl hl.1 rfl (lv_room (Nat.le_of_ble_eq_true rfl)) dX4_ofLevel_13 ⟨Nat.zero_le _, Nat.zero_le _⟩) ?_
  refine lv_iadd hx hb dX4_ofLevel_16 ?_
  refine lv_istore_n (lv' := [(2, .int (0 + (fX3_at 4 (P 7) 1))), (0, .ref (ad 0)), (1, .int v)]) hx hb dX4_ofLevel_17 rfl hl (by decide) rfl (fun ls hl => ?_)
  exact K4 _ hF.symm  ls (lv_sub hl [0, 1, 2] rfl)

def fX4_levelBetween (P : PV) (g : Int32) (tb : Int32) (z : Int32) : Int32 :=
  (if (fX2_isGuest P g) = 0 then 0 else (if (fX3_at 16 (P 3) g) = tb then (if (if 0 ≤ ((fX3_at 16 (P 4) g) - z) then ((fX3_at 16 (P 4) g) - z) else 0 - ((fX3_at 16 (P 4) g) - z)) = 1 then 2 else (if (if 0 ≤ ((fX3_at 16 (P 4) g) - z) then ((fX3_at 16 (P 4) g) - z) else 0 - ((fX3_at 16 (P 4) g) - z)) = ((fX2_seatsAt P tb) - 1) then 2 else 1)) else 0))
abbrev rmX4_levelBetween : Room := { frames := 1, cells := 0, slots := 0, locals := 40 }
set_option maxHeartbeats 4000000 in
set_option maxRecDepth 100000 in
theorem mX4_levelBetween (l : Launch) (dC : Nat → ClassId) (dI : Nat → Nat → Nat) (cI : ClassId) (ad : Nat → Nat) (P : PV) (g : Int32) (tb : Int32) (z : Int32) : Met l yX4_levelBetween (ws_ yX4_levelBetween cX4_levelBetween 5 (some .int)) rmX4_levelBetween (pcR (dC, dI) [(cI, .int)] (pW cI ad P) [.ref (ad 0), .int g, .int tb, .int z]) (vp_Si (fun r => r = fX4_levelBetween P g tb z)) 0 0 (fun _ => False) := by
  refine Met.ofW (cc := cX4_levelBetween) (maxL := 5) (ret := (some .int)) (by decide) rfl ?_
  intro p e s m args below meth c s₁ B hml hv
  obtain ⟨ha, hP, hK, hn⟩ := hv
  have hx := B.exec
  have hb := B.bytes
  have hr := B.returns
  have hts0 := atoms_spec (ws := (ws_ yX4_levelBetween cX4_levelBetween 5 (some .int))) B.pre
  have hts : ∀ w ∈ lw_all, w.before args s = true := fun w h => hts0 w (List.mem_cons_of_mem _ h)
  have hown : s.vm.findClass RX4 = some m.cls := findClass_of_methodNamed B.named
  have hlocks := B.notSynchronized
  have htX2 : ∀ w ∈ wsX20, w.before args s = true := fun w h => hts w (wX2 w h)
  obtain ⟨Q, hQ⟩ : ∃ Q, Q = MQ below (vp_Si (fun r => r = fX4_levelBetween P g tb z)) args s 0 0 (fun _ => False) := ⟨_, rfl⟩
  rw [← hQ]
  have hl := lv_entry ([.ref (ad 0), .int g, .int tb, .int z]) (n := 5) (Nat.le_of_ble_eq_true rfl)
  rw [ha, lg_entry_eq, ← ha]
  generalize (lg_sl ([.ref (ad 0), .int g, .int tb, .int z]) ++ List.replicate (5 - (lg_sl ([.ref (ad 0), .int g, .int tb, .int z])).length) Slot.unset).toArray = ls at hl ⊢
  have hl : lv_has ls 5 [(0, .ref (ad 0)), (1, .int g), (2, .int tb), (3, .int z)] := hl
  show W p l e rmX4_levelBetween s m args below meth c s.heap [] 0 0 Q (F0 m 0 ls [])
  have hF : fX4_levelBetween P g tb z = fX4_levelBetween P g tb z := rfl
  refine lv_aload_n hx hb dX4_levelBetween_0 rfl (lv_at hl 0 rfl) ?_
  refine lv_iload_n hx hb dX4_levelBetween_1 rfl (lv_at hl 1 rfl) ?_
  refine k_callb (W.runV (As := [.int g]) (rest := []) ⟨hx, hb, hml, hown, hts0⟩ (mX2_isGuest l dC dI cI ad P g) (cwV 1 hts0 (gi_V u_318 u_319 u_320 u_2 u_321) rfl rfl rfl (by decide +kernel) ⟨Nat.le_of_ble_eq_true rfl, Nat.le_of_ble_eq_true rfl⟩) (pcR_V (ci := 2) (q0 := 0) hP hK hn rfl rfl) rfl rfl hl.1 rfl (lv_room (Nat.le_of_ble_eq_true rfl)) dX4_levelBetween_2 ⟨Nat.zero_le _, Nat.zero_le _⟩) (fun br2 => ?_)
  refine lv_if_eq (tgt := 20) hx hb dX4_levelBetween_5 (by decide) (fun c_5 => ?_) (fun c_5 => ?_)
  · have hF := hF.trans (if_pos c_5)
    refine lv_iconst (v := 0) hx hb dX4_levelBetween_20 (by decide) ?_
    rw [hQ]
    exact W.iret (v := 0) hx hb hr (fun t ht hW => ⟨0, rfl, hF.symm, ht⟩) (fun q hq => absurd hq List.not_mem_nil) dX4_levelBetween_21
  have hF := hF.trans (if_neg c_5)
  refine lv_aload_n hx hb dX4_levelBetween_8 rfl (lv_at hl 0 rfl) ?_
  refine va_getN (D := (dC, dI)) (ci := 2) (v := .ref (ad 4)) (C := RX2) (T := TX2) (N := 14) hx hb htX2 (fun _ h => h) hown hK hP 0 rfl rfl 3 (by decide) (va_Nw.use rfl (hn _ (List.mem_of_getElem? (i := 6) rfl))) (fun _ h9 => h9) rfl dX4_levelBetween_9 ?_
  refine lv_iload_n hx hb dX4_levelBetween_12 rfl (lv_at hl 1 rfl) ?_
  refine k_calli (W.runS (As := [.ref (ad 4), .int g]) (rest := []) ⟨hx, hb, hml, hown, hts0⟩ (mX3_at l dC dI cI (ad 4) 16 (by decide) (P 3) g) (va_cwS 2 hts0 (gi_S u_305 u_303 u_7 u_304) rfl rfl rfl (by decide +kernel) ⟨Nat.le_of_ble_eq_true rfl, Nat.le_of_ble_eq_true rfl⟩) (pcR_S (hP.sub (ws' := aW cI (ad 4) 16 (P 3)) [4] rfl) hK hn) rfl rfl hl.1 rfl (lv_room (Nat.le_of_ble_eq_true rfl)) dX4_levelBetween_13 ⟨Nat.zero_le _, Nat.zero_le _⟩) ?_
  refine lv_iload_n hx hb dX4_levelBetween_16 rfl (lv_at hl 2 rfl) ?_
  refine lv_icmp_eq (tgt := 22) hx hb dX4_levelBetween_17 (by decide) (fun c_17 => ?_) (fun c_17 => ?_)
  · have hF := hF.trans (if_pos c_17)
    refine lv_aload_n hx hb dX4_levelBetween_22 rfl (lv_at hl 0 rfl) ?_
    refine va_getN (D := (dC, dI)) (ci := 2) (v := .ref (ad 5)) (C := RX2) (T := TX2) (N := 14) hx hb htX2 (fun _ h => h) hown hK hP 0 rfl rfl 4 (by decide) (va_Nw.use rfl (hn _ (List.mem_of_getElem? (i := 8) rfl))) (fun _ h9 => h9) rfl dX4_levelBetween_23 ?_
    refine lv_iload_n hx hb dX4_levelBetween_26 rfl (lv_at hl 1 rfl) ?_
    refine k_calli (W.runS (As := [.ref (ad 5), .int g]) (rest := []) ⟨hx, hb, hml, hown, hts0⟩ (mX3_at l dC dI cI (ad 5) 16 (by decide) (P 4) g) (va_cwS 2 hts0 (gi_S u_305 u_303 u_7 u_304) rfl rfl rfl (by decide +kernel) ⟨Nat.le_of_ble_eq_true rfl, Nat.le_of_ble_eq_true rfl⟩) (pcR_S (hP.sub (ws' := aW cI (ad 5) 16 (P 4)) [5] rfl) hK hn) rfl rfl hl.1 rfl (lv_room (Nat.le_of_ble_eq_true rfl)) dX4_levelBetween_27 ⟨Nat.zero_le _, Nat.zero_le _⟩) ?_
    refine lv_iload_n hx hb dX4_levelBetween_30 rfl (lv_at hl 3 rfl) ?_
    refine lv_isub hx hb dX4_levelBetween_31 ?_
    refine va_mabs hx hb (hml.trans hl.1.symm) hown (hts _ u_322) (hts _ u_323) (hts _ u_4) (hts _ u_324) (Nat.le_of_ble_eq_true rfl) (Nat.le_of_ble_eq_true rfl) (Nat.zero_le _) (Nat.zero_le _) dX4_levelBetween_32 ?_
    refine lv_istore (lv' := [(4, .int (if 0 ≤ ((fX3_at 16 (P 4) g) - z) then ((fX3_at 16 (P 4) g) - z) else 0 - ((fX3_at 16 (P 4) g) - z))), (0, .ref (ad 0)), (1, .int g), (2, .int tb), (3, .int z)]) hx hb dX4_levelBetween_35 hl (by decide) rfl (fun ls hl => ?_)
    refine lv_iload hx hb dX4_levelBetween_37 (lv_at hl 0 rfl) ?_
    refine lv_iconst (v := 1) hx hb dX4_levelBetween_39 (by decide) ?_
    refine lv_icmp_eq (tgt := 55) hx hb dX4_levelBetween_40 (by decide) (fun c_40 => ?_) (fun c_40 => ?_)
    · have hF := hF.trans (if_pos c_40)
      refine lv_iconst (v := 2) hx hb dX4_levelBetween_55 (by decide) ?_
      refine lv_goto (tgt := 60) hx hb dX4_levelBetween_56 (by decide) ?_
      rw [hQ]
      exact W.iret (v := 2) hx hb hr (fun t ht hW => ⟨2, rfl, hF.symm, ht⟩) (fun q hq => absurd hq List.not_mem_nil) dX4_levelBetween_60
    have hF := hF.trans (if_neg c_40)
    refine lv_iload hx hb dX4_levelBetween_43 (lv_at hl 0 rfl) ?_
    refine lv_aload_n hx hb dX4_levelBetween_45 rfl (lv_at hl 1 rfl) ?_
    refine lv_iload_n hx hb dX4_levelBetween_46 rfl (lv_at hl 3 rfl) ?_
    refine k_calli (W.runV (As := [.int tb]) (rest := [.int (if 0 ≤ ((fX3_at 16 (P 4) g) - z) then ((fX3_at 16 (P 4) g) - z) else 0 - ((fX3_at 16 (P 4) g) - z))]) ⟨hx, hb, hml, hown, hts0⟩ (mX2_seatsAt l dC dI cI ad P tb) (cwV 1 hts0 (gi_V u_325 u_326 u_327 u_2 u_328) rfl rfl rfl (by decide +kernel) ⟨Nat.le_of_ble_eq_true rfl, Nat.le_of_ble_eq_true rfl⟩) (pcR_V (ci := 2) (q0 := 0) hP hK hn rfl rfl) rfl rfl hl.1 rfl (lv_room (Nat.le_of_ble_eq_true rfl)) dX4_levelBetween_47 ⟨Nat.zero_le _, Nat.zero_le _⟩) ?_
    refine lv_iconst (v := 1) hx hb dX4_levelBetween_50 (by decide) ?_
    refine lv_isub hx hb dX4_levelBetween_51 ?_
    refine lv_icmp_ne (tgt := 59) hx hb dX4_levelBetween_52 (by decide) (fun c_52 => ?_) (fun c_52 => ?_)
    · have hF := hF.trans (if_neg c_52)
      refine lv_iconst (v := 1) hx hb dX4_levelBetween_59 (by decide) ?_
      rw [hQ]
      exact W.iret (v := 1) hx hb hr (fun t ht hW => ⟨1, rfl, hF.symm, ht⟩) (fun q hq => absurd hq List.not_mem_nil) dX4_levelBetween_60
    have hF := hF.trans (if_pos c_52)
    refine lv_iconst (v := 2) hx hb dX4_levelBetween_55 (by decide) ?_
    refine lv_goto (tgt := 60) hx hb dX4_levelBetween_56 (by decide) ?_
    rw [hQ]
    exact W.iret (v := 2) hx hb hr (fun t ht hW => ⟨2, rfl, hF.symm, ht⟩) (fun q hq => absurd hq List.not_mem_nil) dX4_levelBetween_60
  have hF := hF.trans (if_neg c_17)
  refine lv_iconst (v := 0) hx hb dX4_levelBetween_20 (by decide) ?_
  rw [hQ]
  exact W.iret (v := 0) hx hb hr (fun t ht hW => ⟨0, rfl, hF.symm, ht⟩) (fun q hq => absurd hq List.not_mem_nil) dX4_levelBetween_21

def fX4_levelOfGuest (P : PV) (g : Int32) : Int32 :=
  (if (fX2_isSitting P g) = 0 then 0 else (fX4_levelBetween P (fX3_at 16 (P 2) g) (fX3_at 16 (P 3) g) (fX3_at 16 (P 4) g)))
abbrev rmX4_levelOfGuest : Room := { frames := 2, cells := 0, slots := 0, locals := 64 }
set_option maxHeartbeats 4000000 in
set_option maxRecDepth 100000 in
theorem mX4_levelOfGuest (l : Launch) (dC : Nat → ClassId) (dI : Nat → Nat → Nat) (cI : ClassId) (ad : Nat → Nat) (P : PV) (g : Int32) : Met l yX4_levelOfGuest (ws_ yX4_levelOfGuest cX4_levelOfGuest 3 (some .int)) rmX4_levelOfGuest (pcR (dC, dI) [(cI, .int)] (pW cI ad P) [.ref (ad 0), .int g]) (vp_Si (fun r => r = fX4_levelOfGuest P g)) 0 0 (fun _ => False) := by
  refine Met.ofW (cc := cX4_levelOfGuest) (maxL := 3) (ret := (some .int)) (by decide) rfl ?_
  intro p e s m args below meth c s₁ B hml hv
  obtain ⟨ha, hP, hK, hn⟩ := hv
  have hx := B.exec
  have hb := B.bytes
  have hr := B.returns
  have hts0 := atoms_spec (ws := (ws_ yX4_levelOfGuest cX4_levelOfGuest 3 (some .int))) B.pre
  have hts : ∀ w ∈ lw_all, w.before args s = true := fun w h => hts0 w (List.mem_cons_of_mem _ h)
  have hown : s.vm.findClass RX4 = some m.cls := findClass_of_methodNamed B.named
  have hlocks := B.notSynchronized
  have htX2 : ∀ w ∈ wsX20, w.before args s = true := fun w h => hts w (wX2 w h)
  obtain ⟨Q, hQ⟩ : ∃ Q, Q = MQ below (vp_Si (fun r => r = fX4_levelOfGuest P g)) args s 0 0 (fun _ => False) := ⟨_, rfl⟩
  rw [← hQ]
  have hl := lv_entry ([.ref (ad 0), .int g]) (n := 3) (Nat.le_of_ble_eq_true rfl)
  rw [ha, lg_entry_eq, ← ha]
  generalize (lg_sl ([.ref (ad 0), .int g]) ++ List.replicate (3 - (lg_sl ([.ref (ad 0), .int g])).length) Slot.unset).toArray = ls at hl ⊢
  have hl : lv_has ls 3 [(0, .ref (ad 0)), (1, .int g)] := hl
  show W p l e rmX4_levelOfGuest s m args below meth c s.heap [] 0 0 Q (F0 m 0 ls [])
  have hF : fX4_levelOfGuest P g = fX4_levelOfGuest P g := rfl
  refine lv_aload_n hx hb dX4_levelOfGuest_0 rfl (lv_at hl 0 rfl) ?_
  refine lv_iload_n hx hb dX4_levelOfGuest_1 rfl (lv_at hl 1 rfl) ?_
  refine k_callb (W.runV (As := [.int g]) (rest := []) ⟨hx, hb, hml, hown, hts0⟩ (mX2_isSitting l dC dI cI ad P g) (cwV 1 hts0 (gi_V u_298 u_299 u_300 u_2 u_301) rfl rfl rfl (by decide +kernel) ⟨Nat.le_of_ble_eq_true rfl, Nat.le_of_ble_eq_true rfl⟩) (pcR_V (ci := 2) (q0 := 0) hP hK hn rfl rfl) rfl rfl hl.1 rfl (lv_room (Nat.le_of_ble_eq_true rfl)) dX4_levelOfGuest_2 ⟨Nat.zero_le _, Nat.zero_le _⟩) (fun br2 => ?_)
  refine lv_if_ne (tgt := 10) hx hb dX4_levelOfGuest_5 (by decide) (fun c_5 => ?_) (fun c_5 => ?_)
  · have hF := hF.trans (if_neg c_5)
    refine lv_aload_n hx hb dX4_levelOfGuest_10 rfl (lv_at hl 0 rfl) ?_
    refine va_getN (D := (dC, dI)) (ci := 2) (v := .ref (ad 3)) (C := RX2) (T := TX2) (N := 14) hx hb htX2 (fun _ h => h) hown hK hP 0 rfl rfl 2 (by decide) (va_Nw.use rfl (hn _ (List.mem_of_getElem? (i := 5) rfl))) (fun _ h9 => h9) rfl dX4_levelOfGuest_11 ?_
    refine lv_iload_n hx hb dX4_levelOfGuest_14 rfl (lv_at hl 1 rfl) ?_
    refine k_calli (W.runS (As := [.ref (ad 3), .int g]) (rest := []) ⟨hx, hb, hml, hown, hts0⟩ (mX3_at l dC dI cI (ad 3) 16 (by decide) (P 2) g) (va_cwS 2 hts0 (gi_S u_305 u_303 u_7 u_304) rfl rfl rfl (by decide +kernel) ⟨Nat.le_of_ble_eq_true rfl, Nat.le_of_ble_eq_true rfl⟩) (pcR_S (hP.sub (ws' := aW cI (ad 3) 16 (P 2)) [3] rfl) hK hn) rfl rfl hl.1 rfl (lv_room (Nat.le_of_ble_eq_true rfl)) dX4_levelOfGuest_15 ⟨Nat.zero_le _, Nat.zero_le _⟩) ?_
    refine lv_istore_n (lv' := [(2, .int (fX3_at 16 (P 2) g)), (0, .ref (ad 0)), (1, .int g)]) hx hb dX4_levelOfGuest_18 rfl hl (by decide) rfl (fun ls hl => ?_)
    refine lv_aload_n hx hb dX4_levelOfGuest_19 rfl (lv_at hl 1 rfl) ?_
    refine lv_iload_n hx hb dX4_levelOfGuest_20 rfl (lv_at hl 0 rfl) ?_
    refine lv_aload_n hx hb dX4_levelOfGuest_21 rfl (lv_at hl 1 rfl) ?_
    refine va_getN (D := (dC, dI)) (ci := 2) (v := .ref (ad 4)) (C := RX2) (T := TX2) (N := 14) hx hb htX2 (fun _ h => h) hown hK hP 0 rfl rfl 3 (by decide) (va_Nw.use rfl (hn _ (List.mem_of_getElem? (i := 6) rfl))) (fun _ h9 => h9) rfl dX4_levelOfGuest_22 ?_
    refine lv_iload_n hx hb dX4_levelOfGuest_25 rfl (lv_at hl 2 rfl) ?_
    refine k_calli (W.runS (As := [.ref (ad 4), .int g]) (rest := [.int (fX3_at 16 (P 2) g), .ref (ad 0)]) ⟨hx, hb, hml, hown, hts0⟩ (mX3_at l dC dI cI (ad 4) 16 (by decide) (P 3) g) (va_cwS 2 hts0 (gi_S u_305 u_303 u_7 u_304) rfl rfl rfl (by decide +kernel) ⟨Nat.le_of_ble_eq_true rfl, Nat.le_of_ble_eq_true rfl⟩) (pcR_S (hP.sub (ws' := aW cI (ad 4) 16 (P 3)) [4] rfl) hK hn) rfl rfl hl.1 rfl (lv_room (Nat.le_of_ble_eq_true rfl)) dX4_levelOfGuest_26 ⟨Nat.zero_le _, Nat.zero_le _⟩) ?_
    refine lv_aload_n hx hb dX4_levelOfGuest_29 rfl (lv_at hl 1 rfl) ?_
    refine va_getN (D := (dC, dI)) (ci := 2) (v := .ref (ad 5)) (C := RX2) (T := TX2) (N := 14) hx hb htX2 (fun _ h => h) hown hK hP 0 rfl rfl 4 (by decide) (va_Nw.use rfl (hn _ (List.mem_of_getElem? (i := 8) rfl))) (fun _ h9 => h9) rfl dX4_levelOfGuest_30 ?_
    refine lv_iload_n hx hb dX4_levelOfGuest_33 rfl (lv_at hl 2 rfl) ?_
    refine k_calli (W.runS (As := [.ref (ad 5), .int g]) (rest := [.int (fX3_at 16 (P 3) g), .int (fX3_at 16 (P 2) g), .ref (ad 0)]) ⟨hx, hb, hml, hown, hts0⟩ (mX3_at l dC dI cI (ad 5) 16 (by decide) (P 4) g) (va_cwS 2 hts0 (gi_S u_305 u_303 u_7 u_304) rfl rfl rfl (by decide +kernel) ⟨Nat.le_of_ble_eq_true rfl, Nat.le_of_ble_eq_true rfl⟩) (pcR_S (hP.sub (ws' := aW cI (ad 5) 16 (P 4)) [5] rfl) hK hn) rfl rfl hl.1 rfl (lv_room (Nat.le_of_ble_eq_true rfl)) dX4_levelOfGuest_34 ⟨Nat.zero_le _, Nat.zero_le _⟩) ?_
    refine k_calli (W.runS (As := [.ref (ad 0), .int (fX3_at 16 (P 2) g), .int (fX3_at 16 (P 3) g), .int (fX3_at 16 (P 4) g)]) (rest := []) ⟨hx, hb, hml, hown, hts0⟩ (mX4_levelBetween l dC dI cI ad P (fX3_at 16 (P 2) g) (fX3_at 16 (P 3) g) (fX3_at 16 (P 4) g)) (va_cwS 4 hts0 (gi_S u_315 u_316 u_12 u_317) rfl rfl rfl (by decide +kernel) ⟨Nat.le_of_ble_eq_true rfl, Nat.le_of_ble_eq_true rfl⟩) (pcR_S hP hK hn) rfl rfl hl.1 rfl (lv_room (Nat.le_of_ble_eq_true rfl)) dX4_levelOfGuest_37 ⟨Nat.zero_le _, Nat.zero_le _⟩) ?_
    rw [hQ]
    exact W.iret (v := (fX4_levelBetween P (fX3_at 16 (P 2) g) (fX3_at 16 (P 3) g) (fX3_at 16 (P 4) g))) hx hb hr (fun t ht hW => ⟨(fX4_levelBetween P (fX3_at 16 (P 2) g) (fX3_at 16 (P 3) g) (fX3_at 16 (P 4) g)), rfl, hF.symm, ht⟩) (fun q hq => absurd hq List.not_mem_nil) dX4_levelOfGuest_40
  have hF := hF.trans (if_pos c_5)
  refine lv_iconst (v := 0) hx hb dX4_levelOfGuest_8 (by decide) ?_
  rw [hQ]
  exact W.iret (v := 0) hx hb hr (fun t ht hW => ⟨0, rfl, hF.symm, ht⟩) (fun q hq => absurd hq List.not_mem_nil) dX4_levelOfGuest_9

def fX4_ofGuest (P : PV) (g : Int32) : Int32 :=
  (if (fX2_isSitting P g) = 0 then 0 else ((fX4_ofSitting P g (fX3_at 16 (P 4) g)) + (fX4_ofLevel P (fX4_levelOfGuest P g))))
abbrev rmX4_ofGuest : Room := { frames := 3, cells := 0, slots := 0, locals := 86 }
set_option maxHeartbeats 4000000 in
set_option maxRecDepth 100000 in
theorem mX4_ofGuest (l : Launch) (dC : Nat → ClassId) (dI : Nat → Nat → Nat) (cI : ClassId) (ad : Nat → Nat) (P : PV) (g : Int32) : Met l yX4_ofGuest (ws_ yX4_ofGuest cX4_ofGuest 3 (some .int)) rmX4_ofGuest (pcR (dC, dI) [(cI, .int)] (pW cI ad P) [.ref (ad 0), .int g]) (vp_Si (fun r => r = fX4_ofGuest P g)) 0 0 (fun _ => False) := by
  refine Met.ofW (cc := cX4_ofGuest) (maxL := 3) (ret := (some .int)) (by decide) rfl ?_
  intro p e s m args below meth c s₁ B hml hv
  obtain ⟨ha, hP, hK, hn⟩ := hv
  have hx := B.exec
  have hb := B.bytes
  have hr := B.returns
  have hts0 := atoms_spec (ws := (ws_ yX4_ofGuest cX4_ofGuest 3 (some .int))) B.pre
  have hts : ∀ w ∈ lw_all, w.before args s = true := fun w h => hts0 w (List.mem_cons_of_mem _ h)
  have hown : s.vm.findClass RX4 = some m.cls := findClass_of_methodNamed B.named
  have hlocks := B.notSynchronized
  have htX2 : ∀ w ∈ wsX20, w.before args s = true := fun w h => hts w (wX2 w h)
  obtain ⟨Q, hQ⟩ : ∃ Q, Q = MQ below (vp_Si (fun r => r = fX4_ofGuest P g)) args s 0 0 (fun _ => False) := ⟨_, rfl⟩
  rw [← hQ]
  have hl := lv_entry ([.ref (ad 0), .int g]) (n := 3) (Nat.le_of_ble_eq_true rfl)
  rw [ha, lg_entry_eq, ← ha]
  generalize (lg_sl ([.ref (ad 0), .int g]) ++ List.replicate (3 - (lg_sl ([.ref (ad 0), .int g])).length) Slot.unset).toArray = ls at hl ⊢
  have hl : lv_has ls 3 [(0, .ref (ad 0)), (1, .int g)] := hl
  show W p l e rmX4_ofGuest s m args below meth c s.heap [] 0 0 Q (F0 m 0 ls [])
  have hF : fX4_ofGuest P g = fX4_ofGuest P g := rfl
  refine lv_aload_n hx hb dX4_ofGuest_0 rfl (lv_at hl 0 rfl) ?_
  refine lv_iload_n hx hb dX4_ofGuest_1 rfl (lv_at hl 1 rfl) ?_
  refine k_callb (W.runV (As := [.int g]) (rest := []) ⟨hx, hb, hml, hown, hts0⟩ (mX2_isSitting l dC dI cI ad P g) (cwV 1 hts0 (gi_V u_298 u_299 u_300 u_2 u_301) rfl rfl rfl (by decide +kernel) ⟨Nat.le_of_ble_eq_true rfl, Nat.le_of_ble_eq_true rfl⟩) (pcR_V (ci := 2) (q0 := 0) hP hK hn rfl rfl) rfl rfl hl.1 rfl (lv_room (Nat.le_of_ble_eq_true rfl)) dX4_ofGuest_2 ⟨Nat.zero_le _, Nat.zero_le _⟩) (fun br2 => ?_)
  refine lv_if_ne (tgt := 10) hx hb dX4_ofGuest_5 (by decide) (fun c_5 => ?_) (fun c_5 => ?_)
  · have hF := hF.trans (if_neg c_5)
    refine lv_aload_n hx hb dX4_ofGuest_10 rfl (lv_at hl 0 rfl) ?_
    refine va_getN (D := (dC, dI)) (ci := 2) (v := .ref (ad 5)) (C := RX2) (T := TX2) (N := 14) hx hb htX2 (fun _ h => h) hown hK hP 0 rfl rfl 4 (by decide) (va_Nw.use rfl (hn _ (List.mem_of_getElem? (i := 8) rfl))) (fun _ h9 => h9) rfl dX4_ofGuest_11 ?_
    refine lv_iload_n hx hb dX4_ofGuest_14 rfl (lv_at hl 1 rfl) ?_
    refine k_calli (W.runS (As := [.ref (ad 5), .int g]) (rest := []) ⟨hx, hb, hml, hown, hts0⟩ (mX3_at l dC dI cI (ad 5) 16 (by decide) (P 4) g) (va_cwS 2 hts0 (gi_S u_305 u_303 u_7 u_304) rfl rfl rfl (by decide +kernel) ⟨Nat.le_of_ble_eq_true rfl, Nat.le_of_ble_eq_true rfl⟩) (pcR_S (hP.sub (ws' := aW cI (ad 5) 16 (P 4)) [5] rfl) hK hn) rfl rfl hl.1 rfl (lv_room (Nat.le_of_ble_eq_true rfl)) dX4_ofGuest_15 ⟨Nat.zero_le _, Nat.zero_le _⟩) ?_
    refine lv_istore_n (lv' := [(2, .int (fX3_at 16 (P 4) g)), (0, .ref (ad 0)), (1, .int g)]) hx hb dX4_ofGuest_18 rfl hl (by decide) rfl (fun ls hl => ?_)
    refine lv_aload_n hx hb dX4_ofGuest_19 rfl (lv_at hl 1 rfl) ?_
    refine lv_iload_n hx hb dX4_ofGuest_20 rfl (lv_at hl 2 rfl) ?_
    refine lv_iload_n hx hb dX4_ofGuest_21 rfl (lv_at hl 0 rfl) ?_
    refine k_calli (W.runS (As := [.ref (ad 0), .int g, .int (fX3_at 16 (P 4) g)]) (rest := []) ⟨hx, hb, hml, hown, hts0⟩ (mX4_ofSitting l dC dI cI ad P g (fX3_at 16 (P 4) g)) (va_cwS 3 hts0 (gi_S u_306 u_307 u_12 u_308) rfl rfl rfl (by decide +kernel) ⟨Nat.le_of_ble_eq_true rfl, Nat.le_of_ble_eq_true rfl⟩) (pcR_S hP hK hn) rfl rfl hl.1 rfl (lv_room (Nat.le_of_ble_eq_true rfl)) dX4_ofGuest_22 ⟨Nat.zero_le _, Nat.zero_le _⟩) ?_
    refine lv_aload_n hx hb dX4_ofGuest_25 rfl (lv_at hl 1 rfl) ?_
    refine lv_aload_n hx hb dX4_ofGuest_26 rfl (lv_at hl 1 rfl) ?_
    refine lv_iload_n hx hb dX4_ofGuest_27 rfl (lv_at hl 2 rfl) ?_
    refine k_calli (W.runS (As := [.ref (ad 0), .int g]) (rest := [.ref (ad 0), .int (fX4_ofSitting P g (fX3_at 16 (P 4) g))]) ⟨hx, hb, hml, hown, hts0⟩ (mX4_levelOfGuest l dC dI cI ad P g) (va_cwS 2 hts0 (gi_S u_312 u_313 u_12 u_314) rfl rfl rfl (by decide +kernel) ⟨Nat.le_of_ble_eq_true rfl, Nat.le_of_ble_eq_true rfl⟩) (pcR_S hP hK hn) rfl rfl hl.1 rfl (lv_room (Nat.le_of_ble_eq_true rfl)) dX4_ofGuest_28 ⟨Nat.zero_le _, Nat.zero_le _⟩) ?_
    refine k_calli (W.runS (As := [.ref (ad 0), .int (fX4_levelOfGuest P g)]) (rest := [.int (fX4_ofSitting P g (fX3_at 16 (P 4) g))]) ⟨hx, hb, hml, hown, hts0⟩ (mX4_ofLevel l dC dI cI ad P (fX4_levelOfGuest P g)) (va_cwS 2 hts0 (gi_S u_329 u_330 u_12 u_331) rfl rfl rfl (by decide +kernel) ⟨Nat.le_of_ble_eq_true rfl, Nat.le_of_ble_eq_true rfl⟩) (pcR_S hP hK hn) rfl rfl hl.1 rfl (lv_room (Nat.le_of_ble_eq_true rfl)) dX4_ofGuest_31 ⟨Nat.zero_le _, Nat.zero_le _⟩) ?_
    refine lv_iadd hx hb dX4_ofGuest_34 ?_
    rw [hQ]
    exact W.iret (v := ((fX4_ofSitting P g (fX3_at 16 (P 4) g)) + (fX4_ofLevel P (fX4_levelOfGuest P g)))) hx hb hr (fun t ht hW => ⟨((fX4_ofSitting P g (fX3_at 16 (P 4) g)) + (fX4_ofLevel P (fX4_levelOfGuest P g))), rfl, hF.symm, ht⟩) (fun q hq => absurd hq List.not_mem_nil) dX4_ofGuest_35
  have hF := hF.trans (if_pos c_5)
  refine lv_iconst (v := 0) hx hb dX4_ofGuest_8 (by decide) ?_
  rw [hQ]
  exact W.iret (v := 0) hx hb hr (fun t ht hW => ⟨0, rfl, hF.symm, ht⟩) (fun q hq => absurd hq List.not_mem_nil) dX4_ofGuest_9

def fX4_byGuests_b4 (P : PV) (kk4 : Nat) (x4_1 : Int32) (nextkk4 : Int32 → Int32) : Int32 :=
  (nextkk4 (x4_1 + (fX4_ofGuest P (nI kk4))))
def fX4_byGuests_r4 (x4_1 : Int32) : Int32 :=
  x4_1
def fX4_byGuests (P : PV) : Int32 :=
  (lq1 (fX4_byGuests_b4 P) fX4_byGuests_r4 ((P 10 0).toNatClampNeg) 0 0)
abbrev rmX4_byGuests : Room := { frames := 4, cells := 0, slots := 0, locals := 108 }
set_option maxHeartbeats 4000000 in
set_option maxRecDepth 100000 in
theorem mX4_byGuests (l : Launch) (dC : Nat → ClassId) (dI : Nat → Nat → Nat) (cI : ClassId) (ad : Nat → Nat) (P : PV) : Met l yX4_byGuests (ws_ yX4_byGuests cX4_byGuests 3 (some .int)) rmX4_byGuests (pcR (dC, dI) [(cI, .int)] (pW cI ad P) [.ref (ad 0)]) (vp_Si (fun r => r = fX4_byGuests P)) 0 0 (fun _ => False) := by
  refine Met.ofW (cc := cX4_byGuests) (maxL := 3) (ret := (some .int)) (by decide) rfl ?_
  intro p e s m args below meth c s₁ B hml hv
  obtain ⟨ha, hP, hK, hn⟩ := hv
  have hx := B.exec
  have hb := B.bytes
  have hr := B.returns
  have hts0 := atoms_spec (ws := (ws_ yX4_byGuests cX4_byGuests 3 (some .int))) B.pre
  have hts : ∀ w ∈ lw_all, w.before args s = true := fun w h => hts0 w (List.mem_cons_of_mem _ h)
  have hown : s.vm.findClass RX4 = some m.cls := findClass_of_methodNamed B.named
  have hlocks := B.notSynchronized
  have htX2 : ∀ w ∈ wsX20, w.before args s = true := fun w h => hts w (wX2 w h)
  obtain ⟨Q, hQ⟩ : ∃ Q, Q = MQ below (vp_Si (fun r => r = fX4_byGuests P)) args s 0 0 (fun _ => False) := ⟨_, rfl⟩
  rw [← hQ]
  have hl := lv_entry ([.ref (ad 0)]) (n := 3) (Nat.le_of_ble_eq_true rfl)
  rw [ha, lg_entry_eq, ← ha]
  generalize (lg_sl ([.ref (ad 0)]) ++ List.replicate (3 - (lg_sl ([.ref (ad 0)])).length) Slot.unset).toArray = ls at hl ⊢
  have hl : lv_has ls 3 [(0, .ref (ad 0))] := hl
  show W p l e rmX4_byGuests s m args below meth c s.heap [] 0 0 Q (F0 m 0 ls [])
  have hF : fX4_byGuests P = fX4_byGuests P := rfl
  refine lv_iconst (v := 0) hx hb dX4_byGuests_0 (by decide) ?_
  refine lv_istore_n (lv' := [(1, .int 0), (0, .ref (ad 0))]) hx hb dX4_byGuests_1 rfl hl (by decide) rfl (fun ls hl => ?_)
  refine lv_iconst (v := 0) hx hb dX4_byGuests_2 (by decide) ?_
  refine lv_istore_n (lv' := [(2, .int 0), (1, .int 0), (0, .ref (ad 0))]) hx hb dX4_byGuests_3 rfl hl (by decide) rfl (fun ls hl => ?_)
  have L4 : ∀ (jj4 kk4 : Nat) (x4_1 : Int32), kk4 + jj4 = ((P 10 0).toNatClampNeg) → fX4_byGuests P = lq1 (fX4_byGuests_b4 P) fX4_byGuests_r4 jj4 kk4 x4_1 → ∀ (ls : Array Slot), lv_has ls 3 [(2, .int (nI kk4)), (1, .int x4_1), (0, .ref (ad 0))] → W p l e rmX4_byGuests s m args below meth c s.heap [] 0 0 Q (F0 m 4 ls []) := by
    intro jj4
    induction jj4 using Nat.strongRecOn with
    | _ jj4 ihkk4 =>
      intro kk4 x4_1 hkkk4 hF  ls hl
      refine lv_iload_n hx hb dX4_byGuests_4 rfl (lv_at hl 0 rfl) ?_
      refine lv_aload_n hx hb dX4_byGuests_5 rfl (lv_at hl 2 rfl) ?_
      refine va_getN (D := (dC, dI)) (ci := 2) (v := .int (P 10 0)) (C := RX2) (T := TX2) (N := 14) hx hb htX2 (fun _ h => h) hown hK hP 0 rfl rfl 10 (by decide) (va_Nw.use rfl (hn _ (List.mem_of_getElem? (i := 14) rfl))) (fun _ h9 => h9) rfl dX4_byGuests_6 ?_
      refine lv_icmp_ge (tgt := 26) hx hb dX4_byGuests_9 (by decide) (fun c_9 => ?_) (fun c_9 => ?_)
      · obtain rfl := cn_exit hkkk4 c_9
        have hF := hF.trans (lq1_z _ _ _ _)
        refine lv_iload_n hx hb dX4_byGuests_26 rfl (lv_at hl 1 rfl) ?_
        rw [hQ]
        exact W.iret (v := x4_1) hx hb hr (fun t ht hW => ⟨x4_1, rfl, hF.symm, ht⟩) (fun q hq => absurd hq List.not_mem_nil) dX4_byGuests_27
      obtain ⟨jj4, rfl⟩ := cn_go hkkk4 c_9
      have hF := hF.trans (lq1_s _ _ _ _ _)
      obtain ⟨nextkk4, hnextkk4⟩ : ∃ y9, y9 = lq1 (fX4_byGuests_b4 P) fX4_byGuests_r4 jj4 (kk4 + 1) := ⟨_, rfl⟩
      rw [← hnextkk4] at hF
      refine lv_iload_n hx hb dX4_byGuests_12 rfl (lv_at hl 1 rfl) ?_
      refine lv_aload_n hx hb dX4_byGuests_13 rfl (lv_at hl 2 rfl) ?_
      refine lv_iload_n hx hb dX4_byGuests_14 rfl (lv_at hl 0 rfl) ?_
      refine k_calli (W.runS (As := [.ref (ad 0), .int (nI kk4)]) (rest := [.int x4_1]) ⟨hx, hb, hml, hown, hts0⟩ (mX4_ofGuest l dC dI cI ad P (nI kk4)) (va_cwS 2 hts0 (gi_S u_295 u_296 u_12 u_297) rfl rfl rfl (by decide +kernel) ⟨Nat.le_of_ble_eq_true rfl, Nat.le_of_ble_eq_true rfl⟩) (pcR_S hP hK hn) rfl rfl hl.1 rfl (lv_room (Nat.le_of_ble_eq_true rfl)) dX4_byGuests_15 ⟨Nat.zero_le _, Nat.zero_le _⟩) ?_
      refine lv_iadd hx hb dX4_byGuests_18 ?_
      refine lv_istore_n (lv' := [(1, .int (x4_1 + (fX4_ofGuest P (nI kk4)))), (2, .int (nI kk4)), (0, .ref (ad 0))]) hx hb dX4_byGuests_19 rfl hl (by decide) rfl (fun ls hl => ?_)
      refine lv_iinc (v := (nI (kk4 + 1))) (lv' := [(2, .int (nI (kk4 + 1))), (1, .int (x4_1 + (fX4_ofGuest P (nI kk4)))), (0, .ref (ad 0))]) hx hb dX4_byGuests_20 hl (k := 1) rfl (nI_1 _) (by decide) rfl (fun ls hl => ?_)
      refine lv_goto (tgt := 4) hx hb dX4_byGuests_23 (by decide) ?_
      have hF : fX4_byGuests P = nextkk4 (x4_1 + (fX4_ofGuest P (nI kk4))) := hF
      rw [hnextkk4] at hF
      exact ihkk4 jj4 (Nat.lt_succ_self _) (kk4 + 1) (x4_1 + (fX4_ofGuest P (nI kk4))) (cn_next hkkk4) hF ls (lv_sub hl [0, 1, 2] rfl)
  exact L4 ((P 10 0).toNatClampNeg) 0 0 (Nat.zero_add _) hF ls (lv_sub hl [0, 1, 2] rfl)

def fX4_ofTable_b43 (P : PV) (tb : Int32) (kk4 : Nat) (kk43 : Nat) (x43_2 : Int32) (nextkk43 : Int32 → Int32) : Int32 :=
  (bd ((if (fX2_holderAt P tb (nI kk43)) = (-1) then x43_2 else (if (fX3_at 16 (P 2) (fX2_holderAt P tb (nI kk4))) = (fX2_holderAt P tb (nI kk43)) then (x43_2 + (fX4_ofLevel P (fX4_levelBetween P (fX2_holderAt P tb (nI kk43)) tb (nI kk4)))) else x43_2)) : Int32) (fun v65_0 => (nextkk43 v65_0)))
def fX4_ofTable_r43 (nextkk4 : Int32 → Int32) (x43_2 : Int32) : Int32 :=
  (nextkk4 x43_2)
def fX4_ofTable_b4 (P : PV) (tb : Int32) (kk4 : Nat) (x4_2 : Int32) (nextkk4 : Int32 → Int32) : Int32 :=
  (if (fX2_holderAt P tb (nI kk4)) = (-1) then (nextkk4 x4_2) else (lq1 (fX4_ofTable_b43 P tb kk4) (fX4_ofTable_r43 nextkk4) ((fX2_seatsAt P tb).toNatClampNeg) 0 (x4_2 + (fX4_ofSitting P (fX2_holderAt P tb (nI kk4)) (nI kk4)))))
def fX4_ofTable_r4 (x4_2 : Int32) : Int32 :=
  x4_2
def fX4_ofTable (P : PV) (tb : Int32) : Int32 :=
  (lq1 (fX4_ofTable_b4 P tb) fX4_ofTable_r4 ((fX2_seatsAt P tb).toNatClampNeg) 0 0)
abbrev rmX4_ofTable : Room := { frames := 2, cells := 0, slots := 0, locals := 64 }
set_option maxHeartbeats 4000000 in
set_option maxRecDepth 100000 in
theorem mX4_ofTable (l : Launch) (dC : Nat → ClassId) (dI : Nat → Nat → Nat) (cI : ClassId) (ad : Nat → Nat) (P : PV) (tb : Int32) : Met l yX4_ofTable (ws_ yX4_ofTable cX4_ofTable 7 (some .int)) rmX4_ofTable (pcR (dC, dI) [(cI, .int)] (pW cI ad P) [.ref (ad 0), .int tb]) (vp_Si (fun r => r = fX4_ofTable P tb)) 0 0 (fun _ => False) := by
  refine Met.ofW (cc := cX4_ofTable) (maxL := 7) (ret := (some .int)) (by decide) rfl ?_
  intro p e s m args below meth c s₁ B hml hv
  obtain ⟨ha, hP, hK, hn⟩ := hv
  have hx := B.exec
  have hb := B.bytes
  have hr := B.returns
  have hts0 := atoms_spec (ws := (ws_ yX4_ofTable cX4_ofTable 7 (some .int))) B.pre
  have hts : ∀ w ∈ lw_all, w.before args s = true := fun w h => hts0 w (List.mem_cons_of_mem _ h)
  have hown : s.vm.findClass RX4 = some m.cls := findClass_of_methodNamed B.named
  have hlocks := B.notSynchronized
  have htX2 : ∀ w ∈ wsX20, w.before args s = true := fun w h => hts w (wX2 w h)
  obtain ⟨Q, hQ⟩ : ∃ Q, Q = MQ below (vp_Si (fun r => r = fX4_ofTable P tb)) args s 0 0 (fun _ => False) := ⟨_, rfl⟩
  rw [← hQ]
  have hl := lv_entry ([.ref (ad 0), .int tb]) (n := 7) (Nat.le_of_ble_eq_true rfl)
  rw [ha, lg_entry_eq, ← ha]
  generalize (lg_sl ([.ref (ad 0), .int tb]) ++ List.replicate (7 - (lg_sl ([.ref (ad 0), .int tb])).length) Slot.unset).toArray = ls at hl ⊢
  have hl : lv_has ls 7 [(0, .ref (ad 0)), (1, .int tb)] := hl
  show W p l e rmX4_ofTable s m args below meth c s.heap [] 0 0 Q (F0 m 0 ls [])
  have hF : fX4_ofTable P tb = fX4_ofTable P tb := rfl
  refine lv_iconst (v := 0) hx hb dX4_ofTable_0 (by decide) ?_
  refine lv_istore_n (lv' := [(2, .int 0), (0, .ref (ad 0)), (1, .int tb)]) hx hb dX4_ofTable_1 rfl hl (by decide) rfl (fun ls hl => ?_)
  refine lv_iconst (v := 0) hx hb dX4_ofTable_2 (by decide) ?_
  refine lv_istore_n (lv' := [(3, .int 0), (2, .int 0), (0, .ref (ad 0)), (1, .int tb)]) hx hb dX4_ofTable_3 rfl hl (by decide) rfl (fun ls hl => ?_)
  have L4 : ∀ (jj4 kk4 : Nat) (x4_2 : Int32), kk4 + jj4 = ((fX2_seatsAt P tb).toNatClampNeg) → fX4_ofTable P tb = lq1 (fX4_ofTable_b4 P tb) fX4_ofTable_r4 jj4 kk4 x4_2 → ∀ (ls : Array Slot), lv_has ls 7 [(3, .int (nI kk4)), (2, .int x4_2), (0, .ref (ad 0)), (1, .int tb)] → W p l e rmX4_ofTable s m args below meth c s.heap [] 0 0 Q (F0 m 4 ls []) := by
    intro jj4
    induction jj4 using Nat.strongRecOn with
    | _ jj4 ihkk4 =>
      intro kk4 x4_2 hkkk4 hF  ls hl
      refine lv_iload_n hx hb dX4_ofTable_4 rfl (lv_at hl 0 rfl) ?_
      refine lv_aload_n hx hb dX4_ofTable_5 rfl (lv_at hl 2 rfl) ?_
      refine lv_iload_n hx hb dX4_ofTable_6 rfl (lv_at hl 3 rfl) ?_
      refine k_calli (W.runV (As := [.int tb]) (rest := [.int (nI kk4)]) ⟨hx, hb, hml, hown, hts0⟩ (mX2_seatsAt l dC dI cI ad P tb) (cwV 1 hts0 (gi_V u_325 u_326 u_327 u_2 u_328) rfl rfl rfl (by decide +kernel) ⟨Nat.le_of_ble_eq_true rfl, Nat.le_of_ble_eq_true rfl⟩) (pcR_V (ci := 2) (q0 := 0) hP hK hn rfl rfl) rfl rfl hl.1 rfl (lv_room (Nat.le_of_ble_eq_true rfl)) dX4_ofTable_7 ⟨Nat.zero_le _, Nat.zero_le _⟩) ?_
      refine lv_icmp_ge (tgt := 109) hx hb dX4_ofTable_10 (by decide) (fun c_10 => ?_) (fun c_10 => ?_)
      · obtain rfl := cn_exit hkkk4 c_10
        have hF := hF.trans (lq1_z _ _ _ _)
        refine lv_iload_n hx hb dX4_ofTable_109 rfl (lv_at hl 1 rfl) ?_
        rw [hQ]
        exact W.iret (v := x4_2) hx hb hr (fun t ht hW => ⟨x4_2, rfl, hF.symm, ht⟩) (fun q hq => absurd hq List.not_mem_nil) dX4_ofTable_110
      obtain ⟨jj4, rfl⟩ := cn_go hkkk4 c_10
      have hF := hF.trans (lq1_s _ _ _ _ _)
      obtain ⟨nextkk4, hnextkk4⟩ : ∃ y9, y9 = lq1 (fX4_ofTable_b4 P tb) fX4_ofTable_r4 jj4 (kk4 + 1) := ⟨_, rfl⟩
      rw [← hnextkk4] at hF
      refine lv_aload_n hx hb dX4_ofTable_13 rfl (lv_at hl 2 rfl) ?_
      refine lv_iload_n hx hb dX4_ofTable_14 rfl (lv_at hl 3 rfl) ?_
      refine lv_iload_n hx hb dX4_ofTable_15 rfl (lv_at hl 0 rfl) ?_
      refine k_calli (W.runV (As := [.int tb, .int (nI kk4)]) (rest := []) ⟨hx, hb, hml, hown, hts0⟩ (mX2_holderAt l dC dI cI ad P tb (nI kk4)) (cwV 2 hts0 (gi_V u_338 u_339 u_340 u_2 u_341) rfl rfl rfl (by decide +kernel) ⟨Nat.le_of_ble_eq_true rfl, Nat.le_of_ble_eq_true rfl⟩) (pcR_V (ci := 2) (q0 := 0) hP hK hn rfl rfl) rfl rfl hl.1 rfl (lv_room (Nat.le_of_ble_eq_true rfl)) dX4_ofTable_16 ⟨Nat.zero_le _, Nat.zero_le _⟩) ?_
      refine lv_istore (lv' := [(4, .int (fX2_holderAt P tb (nI kk4))), (3, .int (nI kk4)), (2, .int x4_2), (0, .ref (ad 0)), (1, .int tb)]) hx hb dX4_ofTable_19 hl (by decide) rfl (fun ls hl => ?_)
      refine lv_iload hx hb dX4_ofTable_21 (lv_at hl 0 rfl) ?_
      refine lv_iconst (v := (-1)) hx hb dX4_ofTable_23 (by decide) ?_
      refine lv_icmp_ne (tgt := 30) hx hb dX4_ofTable_24 (by decide) (fun c_24 => ?_) (fun c_24 => ?_)
      · have hF := hF.trans (if_neg c_24)
        refine lv_iload_n hx hb dX4_ofTable_30 rfl (lv_at hl 2 rfl) ?_
        refine lv_aload_n hx hb dX4_ofTable_31 rfl (lv_at hl 3 rfl) ?_
        refine lv_iload hx hb dX4_ofTable_32 (lv_at hl 0 rfl) ?_
        refine lv_iload_n hx hb dX4_ofTable_34 rfl (lv_at hl 1 rfl) ?_
        refine k_calli (W.runS (As := [.ref (ad 0), .int (fX2_holderAt P tb (nI kk4)), .int (nI kk4)]) (rest := [.int x4_2]) ⟨hx, hb, hml, hown, hts0⟩ (mX4_ofSitting l dC dI cI ad P (fX2_holderAt P tb (nI kk4)) (nI kk4)) (va_cwS 3 hts0 (gi_S u_306 u_307 u_12 u_308) rfl rfl rfl (by decide +kernel) ⟨Nat.le_of_ble_eq_true rfl, Nat.le_of_ble_eq_true rfl⟩) (pcR_S hP hK hn) rfl rfl hl.1 rfl (lv_room (Nat.le_of_ble_eq_true rfl)) dX4_ofTable_35 ⟨Nat.zero_le _, Nat.zero_le _⟩) ?_
        refine lv_iadd hx hb dX4_ofTable_38 ?_
        refine lv_istore_n (lv' := [(2, .int (x4_2 + (fX4_ofSitting P (fX2_holderAt P tb (nI kk4)) (nI kk4)))), (4, .int (fX2_holderAt P tb (nI kk4))), (3, .int (nI kk4)), (0, .ref (ad 0)), (1, .int tb)]) hx hb dX4_ofTable_39 rfl hl (by decide) rfl (fun ls hl => ?_)
        refine lv_iconst (v := 0) hx hb dX4_ofTable_40 (by decide) ?_
        refine lv_istore (lv' := [(5, .int 0), (2, .int (x4_2 + (fX4_ofSitting P (fX2_holderAt P tb (nI kk4)) (nI kk4)))), (4, .int (fX2_holderAt P tb (nI kk4))), (3, .int (nI kk4)), (0, .ref (ad 0)), (1, .int tb)]) hx hb dX4_ofTable_41 hl (by decide) rfl (fun ls hl => ?_)
        have L43 : ∀ (jj43 kk43 : Nat) (x43_2 : Int32), kk43 + jj43 = ((fX2_seatsAt P tb).toNatClampNeg) → fX4_ofTable P tb = lq1 (fX4_ofTable_b43 P tb kk4) (fX4_ofTable_r43 nextkk4) jj43 kk43 x43_2 → ∀ (ls : Array Slot), lv_has ls 7 [(5, .int (nI kk43)), (2, .int x43_2), (4, .int (fX2_holderAt P tb (nI kk4))), (3, .int (nI kk4)), (0, .ref (ad 0)), (1, .int tb)] → W p l e rmX4_ofTable s m args below meth c s.heap [] 0 0 Q (F0 m 43 ls []) := by
          intro jj43
          induction jj43 using Nat.strongRecOn with
          | _ jj43 ihkk43 =>
            intro kk43 x43_2 hkkk43 hF  ls hl
            refine lv_iload hx hb dX4_ofTable_43 (lv_at hl 0 rfl) ?_
            refine lv_aload_n hx hb dX4_ofTable_45 rfl (lv_at hl 4 rfl) ?_
            refine lv_iload_n hx hb dX4_ofTable_46 rfl (lv_at hl 5 rfl) ?_
            refine k_calli (W.runV (As := [.int tb]) (rest := [.int (nI kk43)]) ⟨hx, hb, hml, hown, hts0⟩ (mX2_seatsAt l dC dI cI ad P tb) (cwV 1 hts0 (gi_V u_325 u_326 u_327 u_2 u_328) rfl rfl rfl (by decide +kernel) ⟨Nat.le_of_ble_eq_true rfl, Nat.le_of_ble_eq_true rfl⟩) (pcR_V (ci := 2) (q0 := 0) hP hK hn rfl rfl) rfl rfl hl.1 rfl (lv_room (Nat.le_of_ble_eq_true rfl)) dX4_ofTable_47 ⟨Nat.zero_le _, Nat.zero_le _⟩) ?_
            refine lv_icmp_ge (tgt := 103) hx hb dX4_ofTable_50 (by decide) (fun c_50 => ?_) (fun c_50 => ?_)
            · obtain rfl := cn_exit hkkk43 c_50
              have hF := hF.trans (lq1_z _ _ _ _)
              refine lv_iinc (v := (nI (kk4 + 1))) (lv' := [(3, .int (nI (kk4 + 1))), (5, .int (nI kk43)), (2, .int x43_2), (4, .int (fX2_holderAt P tb (nI kk4))), (0, .ref (ad 0)), (1, .int tb)]) hx hb dX4_ofTable_103 hl (k := 3) rfl (nI_1 _) (by decide) rfl (fun ls hl => ?_)
              refine lv_goto (tgt := 4) hx hb dX4_ofTable_106 (by decide) ?_
              have hF : fX4_ofTable P tb = nextkk4 x43_2 := hF
              rw [hnextkk4] at hF
              exact ihkk4 jj4 (Nat.lt_succ_self _) (kk4 + 1) x43_2 (cn_next hkkk4) hF ls (lv_sub hl [0, 2, 4, 5] rfl)
            obtain ⟨jj43, rfl⟩ := cn_go hkkk43 c_50
            have hF := hF.trans (lq1_s _ _ _ _ _)
            obtain ⟨nextkk43, hnextkk43⟩ : ∃ y9, y9 = lq1 (fX4_ofTable_b43 P tb kk4) (fX4_ofTable_r43 nextkk4) jj43 (kk43 + 1) := ⟨_, rfl⟩
            rw [← hnextkk43] at hF
            refine lv_aload_n hx hb dX4_ofTable_53 rfl (lv_at hl 4 rfl) ?_
            refine lv_iload_n hx hb dX4_ofTable_54 rfl (lv_at hl 5 rfl) ?_
            refine lv_iload hx hb dX4_ofTable_55 (lv_at hl 0 rfl) ?_
            refine k_calli (W.runV (As := [.int tb, .int (nI kk43)]) (rest := []) ⟨hx, hb, hml, hown, hts0⟩ (mX2_holderAt l dC dI cI ad P tb (nI kk43)) (cwV 2 hts0 (gi_V u_338 u_339 u_340 u_2 u_341) rfl rfl rfl (by decide +kernel) ⟨Nat.le_of_ble_eq_true rfl, Nat.le_of_ble_eq_true rfl⟩) (pcR_V (ci := 2) (q0 := 0) hP hK hn rfl rfl) rfl rfl hl.1 rfl (lv_room (Nat.le_of_ble_eq_true rfl)) dX4_ofTable_57 ⟨Nat.zero_le _, Nat.zero_le _⟩) ?_
            refine lv_istore (lv' := [(6, .int (fX2_holderAt P tb (nI kk43))), (5, .int (nI kk43)), (2, .int x43_2), (4, .int (fX2_holderAt P tb (nI kk4))), (3, .int (nI kk4)), (0, .ref (ad 0)), (1, .int tb)]) hx hb dX4_ofTable_60 hl (by decide) rfl (fun ls hl => ?_)
            refine lv_iload hx hb dX4_ofTable_62 (lv_at hl 0 rfl) ?_
            refine lv_iconst (v := (-1)) hx hb dX4_ofTable_64 (by decide) ?_
            have K65 : ∀ (v65_0 : Int32), v65_0 = (if (fX2_holderAt P tb (nI kk43)) = (-1) then x43_2 else (if (fX3_at 16 (P 2) (fX2_holderAt P tb (nI kk4))) = (fX2_holderAt P tb (nI kk43)) then (x43_2 + (fX4_ofLevel P (fX4_levelBetween P (fX2_holderAt P tb (nI kk43)) tb (nI kk4)))) else x43_2)) → ∀ (ls : Array Slot), lv_has ls 7 [(6, .int (fX2_holderAt P tb (nI kk43))), (5, .int (nI kk43)), (2, .int v65_0), (4, .int (fX2_holderAt P tb (nI kk4))), (3, .int (nI kk4)), (0, .ref (ad 0)), (1, .int tb)] → W p l e rmX4_ofTable s m args below meth c s.heap [] 0 0 Q (F0 m 97 ls []) := by
              intro v65_0 hz65  ls hl
              have hz := hz65
              have hF := bd_at hF hz
              refine lv_iinc (v := (nI (kk43 + 1))) (lv' := [(5, .int (nI (kk43 + 1))), (6, .int (fX2_holderAt P tb (nI kk43))), (2, .int v65_0), (4, .int (fX2_holderAt P tb (nI kk4))), (3, .int (nI kk4)), (0, .ref (ad 0)), (1, .int tb)]) hx hb dX4_ofTable_97 hl (k := 1) rfl (nI_1 _) (by decide) rfl (fun ls hl => ?_)
              refine lv_goto (tgt := 43) hx hb dX4_ofTable_100 (by decide) ?_
              have hF : fX4_ofTable P tb = nextkk43 v65_0 := hF
              rw [hnextkk43] at hF
              exact ihkk43 jj43 (Nat.lt_succ_self _) (kk43 + 1) v65_0 (cn_next hkkk43) hF ls (lv_sub hl [0, 2, 3, 4, 5, 6] rfl)
            have hF : ((if (fX2_holderAt P tb (nI kk43)) = (-1) then x43_2 else (if (fX3_at 16 (P 2) (fX2_holderAt P tb (nI kk4))) = (fX2_holderAt P tb (nI kk43)) then (x43_2 + (fX4_ofLevel P (fX4_levelBetween P (fX2_holderAt P tb (nI kk43)) tb (nI kk4)))) else x43_2)) : Int32) = (if (fX2_holderAt P tb (nI kk43)) = (-1) then x43_2 else (if (fX3_at 16 (P 2) (fX2_holderAt P tb (nI kk4))) = (fX2_holderAt P tb (nI kk43)) then (x43_2 + (fX4_ofLevel P (fX4_levelBetween P (fX2_holderAt P tb (nI kk43)) tb (nI kk4)))) else x43_2)) := rfl
            refine lv_icmp_eq (tgt := 97) hx hb dX4_ofTable_65 (by decide) (fun c_65 => ?_) (fun c_65 => ?_)
            · have hF := hF.trans (if_pos c_65)
              exact K65 _ hF.symm  ls (lv_sub hl [0, 1, 2, 3, 4, 5, 6] rfl)
            have hF := hF.trans (if_neg c_65)
            refine lv_aload_n hx hb dX4_ofTable_68 rfl (lv_at hl 5 rfl) ?_
            refine va_getN (D := (dC, dI)) (ci := 2) (v := .ref (ad 3)) (C := RX2) (T := TX2) (N := 14) hx hb htX2 (fun _ h => h) hown hK hP 0 rfl rfl 2 (by decide) (va_Nw.use rfl (hn _ (List.mem_of_getElem? (i := 5) rfl))) (fun _ h9 => h9) rfl dX4_ofTable_69 ?_
            refine lv_iload hx hb dX4_ofTable_72 (lv_at hl 3 rfl) ?_
            refine k_calli (W.runS (As := [.ref (ad 3), .int (fX2_holderAt P tb (nI kk4))]) (rest := []) ⟨hx, hb, hml, hown, hts0⟩ (mX3_at l dC dI cI (ad 3) 16 (by decide) (P 2) (fX2_holderAt P tb (nI kk4))) (va_cwS 2 hts0 (gi_S u_305 u_303 u_7 u_304) rfl rfl rfl (by decide +kernel) ⟨Nat.le_of_ble_eq_true rfl, Nat.le_of_ble_eq_true rfl⟩) (pcR_S (hP.sub (ws' := aW cI (ad 3) 16 (P 2)) [3] rfl) hK hn) rfl rfl hl.1 rfl (lv_room (Nat.le_of_ble_eq_true rfl)) dX4_ofTable_74 ⟨Nat.zero_le _, Nat.zero_le _⟩) ?_
            refine lv_iload hx hb dX4_ofTable_77 (lv_at hl 0 rfl) ?_
            refine lv_icmp_ne (tgt := 97) hx hb dX4_ofTable_79 (by decide) (fun c_79 => ?_) (fun c_79 => ?_)
            · have hF := hF.trans (if_neg c_79)
              exact K65 _ hF.symm  ls (lv_sub hl [0, 1, 2, 3, 4, 5, 6] rfl)
            have hF := hF.trans (if_pos c_79)
            refine lv_iload_n hx hb dX4_ofTable_82 rfl (lv_at hl 2 rfl) ?_
            refine lv_aload_n hx hb dX4_ofTable_83 rfl (lv_at hl 5 rfl) ?_
            refine lv_aload_n hx hb dX4_ofTable_84 rfl (lv_at hl 5 rfl) ?_
            refine lv_iload hx hb dX4_ofTable_85 (lv_at hl 0 rfl) ?_
            refine lv_iload_n hx hb dX4_ofTable_87 rfl (lv_at hl 6 rfl) ?_
            refine lv_iload_n hx hb dX4_ofTable_88 rfl (lv_at hl 4 rfl) ?_
            refine k_calli (W.runS (As := [.ref (ad 0), .int (fX2_holderAt P tb (nI kk43)), .int tb, .int (nI kk4)]) (rest := [.ref (ad 0), .int x43_2]) ⟨hx, hb, hml, hown, hts0⟩ (mX4_levelBetween l dC dI cI ad P (fX2_holderAt P tb (nI kk43)) tb (nI kk4)) (va_cwS 4 hts0 (gi_S u_315 u_316 u_12 u_317) rfl rfl rfl (by decide +kernel) ⟨Nat.le_of_ble_eq_true rfl, Nat.le_of_ble_eq_true rfl⟩) (pcR_S hP hK hn) rfl rfl hl.1 rfl (lv_room (Nat.le_of_ble_eq_true rfl)) dX4_ofTable_89 ⟨Nat.zero_le _, Nat.zero_le _⟩) ?_
            refine k_calli (W.runS (As := [.ref (ad 0), .int (fX4_levelBetween P (fX2_holderAt P tb (nI kk43)) tb (nI kk4))]) (rest := [.int x43_2]) ⟨hx, hb, hml, hown, hts0⟩ (mX4_ofLevel l dC dI cI ad P (fX4_levelBetween P (fX2_holderAt P tb (nI kk43)) tb (nI kk4))) (va_cwS 2 hts0 (gi_S u_329 u_330 u_12 u_331) rfl rfl rfl (by decide +kernel) ⟨Nat.le_of_ble_eq_true rfl, Nat.le_of_ble_eq_true rfl⟩) (pcR_S hP hK hn) rfl rfl hl.1 rfl (lv_room (Nat.le_of_ble_eq_true rfl)) dX4_ofTable_92 ⟨Nat.zero_le _, Nat.zero_le _⟩) ?_
            refine lv_iadd hx hb dX4_ofTable_95 ?_
            refine lv_istore_n (lv' := [(2, .int (x43_2 + (fX4_ofLevel P (fX4_levelBetween P (fX2_holderAt P tb (nI kk43)) tb (nI kk4))))), (6, .int (fX2_holderAt P tb (nI kk43))), (5, .int (nI kk43)), (4, .int (fX2_holderAt P tb (nI kk4))), (3, .int (nI kk4)), (0, .ref (ad 0)), (1, .int tb)]) hx hb dX4_ofTable_96 rfl hl (by decide) rfl (fun ls hl => ?_)
            exact K65 _ hF.symm  ls (lv_sub hl [1, 2, 0, 3, 4, 5, 6] rfl)
        exact L43 ((fX2_seatsAt P tb).toNatClampNeg) 0 (x4_2 + (fX4_ofSitting P (fX2_holderAt P tb (nI kk4)) (nI kk4))) (Nat.zero_add _) hF ls (lv_sub hl [0, 1, 2, 3, 4, 5] rfl)
      have hF := hF.trans (if_pos c_24)
      refine lv_goto (tgt := 103) hx hb dX4_ofTable_27 (by decide) ?_
      refine lv_iinc (v := (nI (kk4 + 1))) (lv' := [(3, .int (nI (kk4 + 1))), (4, .int (fX2_holderAt P tb (nI kk4))), (2, .int x4_2), (0, .ref (ad 0)), (1, .int tb)]) hx hb dX4_ofTable_103 hl (k := 1) rfl (nI_1 _) (by decide) rfl (fun ls hl => ?_)
      refine lv_goto (tgt := 4) hx hb dX4_ofTable_106 (by decide) ?_
      have hF : fX4_ofTable P tb = nextkk4 x4_2 := hF
      rw [hnextkk4] at hF
      exact ihkk4 jj4 (Nat.lt_succ_self _) (kk4 + 1) x4_2 (cn_next hkkk4) hF ls (lv_sub hl [0, 2, 3, 4] rfl)
  exact L4 ((fX2_seatsAt P tb).toNatClampNeg) 0 0 (Nat.zero_add _) hF ls (lv_sub hl [0, 1, 2, 3] rfl)

def fX4_byTables_b4 (P : PV) (kk4 : Nat) (x4_1 : Int32) (nextkk4 : Int32 → Int32) : Int32 :=
  (nextkk4 (x4_1 + (fX4_ofTable P (nI kk4))))
def fX4_byTables_r4 (x4_1 : Int32) : Int32 :=
  x4_1
def fX4_byTables (P : PV) : Int32 :=
  (lq1 (fX4_byTables_b4 P) fX4_byTables_r4 ((P 10 1).toNatClampNeg) 0 0)
abbrev rmX4_byTables : Room := { frames := 3, cells := 0, slots := 0, locals := 90 }
set_option maxHeartbeats 4000000 in
set_option maxRecDepth 100000 in
theorem mX4_byTables (l : Launch) (dC : Nat → ClassId) (dI : Nat → Nat → Nat) (cI : ClassId) (ad : Nat → Nat) (P : PV) : Met l yX4_byTables (ws_ yX4_byTables cX4_byTables 3 (some .int)) rmX4_byTables (pcR (dC, dI) [(cI, .int)] (pW cI ad P) [.ref (ad 0)]) (vp_Si (fun r => r = fX4_byTables P)) 0 0 (fun _ => False) := by
  refine Met.ofW (cc := cX4_byTables) (maxL := 3) (ret := (some .int)) (by decide) rfl ?_
  intro p e s m args below meth c s₁ B hml hv
  obtain ⟨ha, hP, hK, hn⟩ := hv
  have hx := B.exec
  have hb := B.bytes
  have hr := B.returns
  have hts0 := atoms_spec (ws := (ws_ yX4_byTables cX4_byTables 3 (some .int))) B.pre
  have hts : ∀ w ∈ lw_all, w.before args s = true := fun w h => hts0 w (List.mem_cons_of_mem _ h)
  have hown : s.vm.findClass RX4 = some m.cls := findClass_of_methodNamed B.named
  have hlocks := B.notSynchronized
  have htX2 : ∀ w ∈ wsX20, w.before args s = true := fun w h => hts w (wX2 w h)
  obtain ⟨Q, hQ⟩ : ∃ Q, Q = MQ below (vp_Si (fun r => r = fX4_byTables P)) args s 0 0 (fun _ => False) := ⟨_, rfl⟩
  rw [← hQ]
  have hl := lv_entry ([.ref (ad 0)]) (n := 3) (Nat.le_of_ble_eq_true rfl)
  rw [ha, lg_entry_eq, ← ha]
  generalize (lg_sl ([.ref (ad 0)]) ++ List.replicate (3 - (lg_sl ([.ref (ad 0)])).length) Slot.unset).toArray = ls at hl ⊢
  have hl : lv_has ls 3 [(0, .ref (ad 0))] := hl
  show W p l e rmX4_byTables s m args below meth c s.heap [] 0 0 Q (F0 m 0 ls [])
  have hF : fX4_byTables P = fX4_byTables P := rfl
  refine lv_iconst (v := 0) hx hb dX4_byTables_0 (by decide) ?_
  refine lv_istore_n (lv' := [(1, .int 0), (0, .ref (ad 0))]) hx hb dX4_byTables_1 rfl hl (by decide) rfl (fun ls hl => ?_)
  refine lv_iconst (v := 0) hx hb dX4_byTables_2 (by decide) ?_
  refine lv_istore_n (lv' := [(2, .int 0), (1, .int 0), (0, .ref (ad 0))]) hx hb dX4_byTables_3 rfl hl (by decide) rfl (fun ls hl => ?_)
  have L4 : ∀ (jj4 kk4 : Nat) (x4_1 : Int32), kk4 + jj4 = ((P 10 1).toNatClampNeg) → fX4_byTables P = lq1 (fX4_byTables_b4 P) fX4_byTables_r4 jj4 kk4 x4_1 → ∀ (ls : Array Slot), lv_has ls 3 [(2, .int (nI kk4)), (1, .int x4_1), (0, .ref (ad 0))] → W p l e rmX4_byTables s m args below meth c s.heap [] 0 0 Q (F0 m 4 ls []) := by
    intro jj4
    induction jj4 using Nat.strongRecOn with
    | _ jj4 ihkk4 =>
      intro kk4 x4_1 hkkk4 hF  ls hl
      refine lv_iload_n hx hb dX4_byTables_4 rfl (lv_at hl 0 rfl) ?_
      refine lv_aload_n hx hb dX4_byTables_5 rfl (lv_at hl 2 rfl) ?_
      refine va_getN (D := (dC, dI)) (ci := 2) (v := .int (P 10 1)) (C := RX2) (T := TX2) (N := 14) hx hb htX2 (fun _ h => h) hown hK hP 0 rfl rfl 11 (by decide) (va_Nw.use rfl (hn _ (List.mem_of_getElem? (i := 16) rfl))) (fun _ h9 => h9) rfl dX4_byTables_6 ?_
      refine lv_icmp_ge (tgt := 26) hx hb dX4_byTables_9 (by decide) (fun c_9 => ?_) (fun c_9 => ?_)
      · obtain rfl := cn_exit hkkk4 c_9
        have hF := hF.trans (lq1_z _ _ _ _)
        refine lv_iload_n hx hb dX4_byTables_26 rfl (lv_at hl 1 rfl) ?_
        rw [hQ]
        exact W.iret (v := x4_1) hx hb hr (fun t ht hW => ⟨x4_1, rfl, hF.symm, ht⟩) (fun q hq => absurd hq List.not_mem_nil) dX4_byTables_27
      obtain ⟨jj4, rfl⟩ := cn_go hkkk4 c_9
      have hF := hF.trans (lq1_s _ _ _ _ _)
      obtain ⟨nextkk4, hnextkk4⟩ : ∃ y9, y9 = lq1 (fX4_byTables_b4 P) fX4_byTables_r4 jj4 (kk4 + 1) := ⟨_, rfl⟩
      rw [← hnextkk4] at hF
      refine lv_iload_n hx hb dX4_byTables_12 rfl (lv_at hl 1 rfl) ?_
      refine lv_aload_n hx hb dX4_byTables_13 rfl (lv_at hl 2 rfl) ?_
      refine lv_iload_n hx hb dX4_byTables_14 rfl (lv_at hl 0 rfl) ?_
      refine k_calli (W.runS (As := [.ref (ad 0), .int (nI kk4)]) (rest := [.int x4_1]) ⟨hx, hb, hml, hown, hts0⟩ (mX4_ofTable l dC dI cI ad P (nI kk4)) (va_cwS 2 hts0 (gi_S u_335 u_336 u_12 u_337) rfl rfl rfl (by decide +kernel) ⟨Nat.le_of_ble_eq_true rfl, Nat.le_of_ble_eq_true rfl⟩) (pcR_S hP hK hn) rfl rfl hl.1 rfl (lv_room (Nat.le_of_ble_eq_true rfl)) dX4_byTables_15 ⟨Nat.zero_le _, Nat.zero_le _⟩) ?_
      refine lv_iadd hx hb dX4_byTables_18 ?_
      refine lv_istore_n (lv' := [(1, .int (x4_1 + (fX4_ofTable P (nI kk4)))), (2, .int (nI kk4)), (0, .ref (ad 0))]) hx hb dX4_byTables_19 rfl hl (by decide) rfl (fun ls hl => ?_)
      refine lv_iinc (v := (nI (kk4 + 1))) (lv' := [(2, .int (nI (kk4 + 1))), (1, .int (x4_1 + (fX4_ofTable P (nI kk4)))), (0, .ref (ad 0))]) hx hb dX4_byTables_20 hl (k := 1) rfl (nI_1 _) (by decide) rfl (fun ls hl => ?_)
      refine lv_goto (tgt := 4) hx hb dX4_byTables_23 (by decide) ?_
      have hF : fX4_byTables P = nextkk4 (x4_1 + (fX4_ofTable P (nI kk4))) := hF
      rw [hnextkk4] at hF
      exact ihkk4 jj4 (Nat.lt_succ_self _) (kk4 + 1) (x4_1 + (fX4_ofTable P (nI kk4))) (cn_next hkkk4) hF ls (lv_sub hl [0, 1, 2] rfl)
  exact L4 ((P 10 1).toNatClampNeg) 0 0 (Nat.zero_add _) hF ls (lv_sub hl [0, 1, 2] rfl)

def fX4_gain_b38 (P : PV) (g : Int32) (tb : Int32) (z : Int32) (kk38 : Nat) (x38_5 : Int32) (nextkk38 : Int32 → Int32) : Int32 :=
  (bd ((if (fX3_at 16 (P 2) (nI kk38)) = g then (x38_5 + (fX4_ofLevel P (fX4_levelBetween P (nI kk38) tb z))) else x38_5) : Int32) (fun v57_0 => (nextkk38 v57_0)))
def fX4_gain_r38 (x38_5 : Int32) : Int32 :=
  x38_5
def fX4_gain (P : PV) (g : Int32) (tb : Int32) (z : Int32) : Int32 :=
  (lq1 (fX4_gain_b38 P g tb z) fX4_gain_r38 ((P 10 0).toNatClampNeg) 0 ((fX4_ofSitting P g z) + (fX4_ofLevel P (fX4_levelBetween P (fX3_at 16 (P 2) g) tb z))))
abbrev rmX4_gain : Room := { frames := 2, cells := 0, slots := 0, locals := 64 }
set_option maxHeartbeats 4000000 in
set_option maxRecDepth 100000 in
theorem mX4_gain (l : Launch) (dC : Nat → ClassId) (dI : Nat → Nat → Nat) (cI : ClassId) (ad : Nat → Nat) (P : PV) (g : Int32) (tb : Int32) (z : Int32) : Met l yX4_gain (ws_ yX4_gain cX4_gain 7 (some .int)) rmX4_gain (pcR (dC, dI) [(cI, .int)] (pW cI ad P) [.ref (ad 0), .int g, .int tb, .int z]) (vp_Si (fun r => r = fX4_gain P g tb z)) 0 0 (fun _ => False) := by
  refine Met.ofW (cc := cX4_gain) (maxL := 7) (ret := (some .int)) (by decide) rfl ?_
  intro p e s m args below meth c s₁ B hml hv
  obtain ⟨ha, hP, hK, hn⟩ := hv
  have hx := B.exec
  have hb := B.bytes
  have hr := B.returns
  have hts0 := atoms_spec (ws := (ws_ yX4_gain cX4_gain 7 (some .int))) B.pre
  have hts : ∀ w ∈ lw_all, w.before args s = true := fun w h => hts0 w (List.mem_cons_of_mem _ h)
  have hown : s.vm.findClass RX4 = some m.cls := findClass_of_methodNamed B.named
  have hlocks := B.notSynchronized
  have htX2 : ∀ w ∈ wsX20, w.before args s = true := fun w h => hts w (wX2 w h)
  obtain ⟨Q, hQ⟩ : ∃ Q, Q = MQ below (vp_Si (fun r => r = fX4_gain P g tb z)) args s 0 0 (fun _ => False) := ⟨_, rfl⟩
  rw [← hQ]
  have hl := lv_entry ([.ref (ad 0), .int g, .int tb, .int z]) (n := 7) (Nat.le_of_ble_eq_true rfl)
  rw [ha, lg_entry_eq, ← ha]
  generalize (lg_sl ([.ref (ad 0), .int g, .int tb, .int z]) ++ List.replicate (7 - (lg_sl ([.ref (ad 0), .int g, .int tb, .int z])).length) Slot.unset).toArray = ls at hl ⊢
  have hl : lv_has ls 7 [(0, .ref (ad 0)), (1, .int g), (2, .int tb), (3, .int z)] := hl
  show W p l e rmX4_gain s m args below meth c s.heap [] 0 0 Q (F0 m 0 ls [])
  have hF : fX4_gain P g tb z = fX4_gain P g tb z := rfl
  refine lv_aload_n hx hb dX4_gain_0 rfl (lv_at hl 0 rfl) ?_
  refine va_getN (D := (dC, dI)) (ci := 2) (v := .ref (ad 3)) (C := RX2) (T := TX2) (N := 14) hx hb htX2 (fun _ h => h) hown hK hP 0 rfl rfl 2 (by decide) (va_Nw.use rfl (hn _ (List.mem_of_getElem? (i := 5) rfl))) (fun _ h9 => h9) rfl dX4_gain_1 ?_
  refine lv_iload_n hx hb dX4_gain_4 rfl (lv_at hl 1 rfl) ?_
  refine k_calli (W.runS (As := [.ref (ad 3), .int g]) (rest := []) ⟨hx, hb, hml, hown, hts0⟩ (mX3_at l dC dI cI (ad 3) 16 (by decide) (P 2) g) (va_cwS 2 hts0 (gi_S u_305 u_303 u_7 u_304) rfl rfl rfl (by decide +kernel) ⟨Nat.le_of_ble_eq_true rfl, Nat.le_of_ble_eq_true rfl⟩) (pcR_S (hP.sub (ws' := aW cI (ad 3) 16 (P 2)) [3] rfl) hK hn) rfl rfl hl.1 rfl (lv_room (Nat.le_of_ble_eq_true rfl)) dX4_gain_5 ⟨Nat.zero_le _, Nat.zero_le _⟩) ?_
  refine lv_istore (lv' := [(4, .int (fX3_at 16 (P 2) g)), (0, .ref (ad 0)), (1, .int g), (2, .int tb), (3, .int z)]) hx hb dX4_gain_8 hl (by decide) rfl (fun ls hl => ?_)
  refine lv_aload_n hx hb dX4_gain_10 rfl (lv_at hl 1 rfl) ?_
  refine lv_iload_n hx hb dX4_gain_11 rfl (lv_at hl 2 rfl) ?_
  refine lv_iload_n hx hb dX4_gain_12 rfl (lv_at hl 4 rfl) ?_
  refine k_calli (W.runS (As := [.ref (ad 0), .int g, .int z]) (rest := []) ⟨hx, hb, hml, hown, hts0⟩ (mX4_ofSitting l dC dI cI ad P g z) (va_cwS 3 hts0 (gi_S u_306 u_307 u_12 u_308) rfl rfl rfl (by decide +kernel) ⟨Nat.le_of_ble_eq_true rfl, Nat.le_of_ble_eq_true rfl⟩) (pcR_S hP hK hn) rfl rfl hl.1 rfl (lv_room (Nat.le_of_ble_eq_true rfl)) dX4_gain_13 ⟨Nat.zero_le _, Nat.zero_le _⟩) ?_
  refine lv_istore (lv' := [(5, .int (fX4_ofSitting P g z)), (4, .int (fX3_at 16 (P 2) g)), (0, .ref (ad 0)), (1, .int g), (2, .int tb), (3, .int z)]) hx hb dX4_gain_16 hl (by decide) rfl (fun ls hl => ?_)
  refine lv_iload hx hb dX4_gain_18 (lv_at hl 0 rfl) ?_
  refine lv_aload_n hx hb dX4_gain_20 rfl (lv_at hl 2 rfl) ?_
  refine lv_aload_n hx hb dX4_gain_21 rfl (lv_at hl 2 rfl) ?_
  refine lv_iload hx hb dX4_gain_22 (lv_at hl 1 rfl) ?_
  refine lv_iload_n hx hb dX4_gain_24 rfl (lv_at hl 4 rfl) ?_
  refine lv_iload_n hx hb dX4_gain_25 rfl (lv_at hl 5 rfl) ?_
  refine k_calli (W.runS (As := [.ref (ad 0), .int (fX3_at 16 (P 2) g), .int tb, .int z]) (rest := [.ref (ad 0), .int (fX4_ofSitting P g z)]) ⟨hx, hb, hml, hown, hts0⟩ (mX4_levelBetween l dC dI cI ad P (fX3_at 16 (P 2) g) tb z) (va_cwS 4 hts0 (gi_S u_315 u_316 u_12 u_317) rfl rfl rfl (by decide +kernel) ⟨Nat.le_of_ble_eq_true rfl, Nat.le_of_ble_eq_true rfl⟩) (pcR_S hP hK hn) rfl rfl hl.1 rfl (lv_room (Nat.le_of_ble_eq_true rfl)) dX4_gain_26 ⟨Nat.zero_le _, Nat.zero_le _⟩) ?_
  refine k_calli (W.runS (As := [.ref (ad 0), .int (fX4_levelBetween P (fX3_at 16 (P 2) g) tb z)]) (rest := [.int (fX4_ofSitting P g z)]) ⟨hx, hb, hml, hown, hts0⟩ (mX4_ofLevel l dC dI cI ad P (fX4_levelBetween P (fX3_at 16 (P 2) g) tb z)) (va_cwS 2 hts0 (gi_S u_329 u_330 u_12 u_331) rfl rfl rfl (by decide +kernel) ⟨Nat.le_of_ble_eq_true rfl, Nat.le_of_ble_eq_true rfl⟩) (pcR_S hP hK hn) rfl rfl hl.1 rfl (lv_room (Nat.le_of_ble_eq_true rfl)) dX4_gain_29 ⟨Nat.zero_le _, Nat.zero_le _⟩) ?_
  refine lv_iadd hx hb dX4_gain_32 ?_
  refine lv_istore (lv' := [(5, .int ((fX4_ofSitting P g z) + (fX4_ofLevel P (fX4_levelBetween P (fX3_at 16 (P 2) g) tb z)))), (4, .int (fX3_at 16 (P 2) g)), (0, .ref (ad 0)), (1, .int g), (2, .int tb), (3, .int z)]) hx hb dX4_gain_33 hl (by decide) rfl (fun ls hl => ?_)
  refine lv_iconst (v := 0) hx hb dX4_gain_35 (by decide) ?_
  refine lv_istore (lv' := [(6, .int 0), (5, .int ((fX4_ofSitting P g z) + (fX4_ofLevel P (fX4_levelBetween P (fX3_at 16 (P 2) g) tb z)))), (4, .int (fX3_at 16 (P 2) g)), (0, .ref (ad 0)), (1, .int g), (2, .int tb), (3, .int z)]) hx hb dX4_gain_36 hl (by decide) rfl (fun ls hl => ?_)
  have L38 : ∀ (jj38 kk38 : Nat) (x38_5 : Int32), kk38 + jj38 = ((P 10 0).toNatClampNeg) → fX4_gain P g tb z = lq1 (fX4_gain_b38 P g tb z) fX4_gain_r38 jj38 kk38 x38_5 → ∀ (ls : Array Slot), lv_has ls 7 [(6, .int (nI kk38)), (5, .int x38_5), (4, .int (fX3_at 16 (P 2) g)), (0, .ref (ad 0)), (1, .int g), (2, .int tb), (3, .int z)] → W p l e rmX4_gain s m args below meth c s.heap [] 0 0 Q (F0 m 38 ls []) := by
    intro jj38
    induction jj38 using Nat.strongRecOn with
    | _ jj38 ihkk38 =>
      intro kk38 x38_5 hkkk38 hF  ls hl
      refine lv_iload hx hb dX4_gain_38 (lv_at hl 0 rfl) ?_
      refine lv_aload_n hx hb dX4_gain_40 rfl (lv_at hl 3 rfl) ?_
      refine va_getN (D := (dC, dI)) (ci := 2) (v := .int (P 10 0)) (C := RX2) (T := TX2) (N := 14) hx hb htX2 (fun _ h => h) hown hK hP 0 rfl rfl 10 (by decide) (va_Nw.use rfl (hn _ (List.mem_of_getElem? (i := 14) rfl))) (fun _ h9 => h9) rfl dX4_gain_41 ?_
      refine lv_icmp_ge (tgt := 83) hx hb dX4_gain_44 (by decide) (fun c_44 => ?_) (fun c_44 => ?_)
      · obtain rfl := cn_exit hkkk38 c_44
        have hF := hF.trans (lq1_z _ _ _ _)
        refine lv_iload hx hb dX4_gain_83 (lv_at hl 1 rfl) ?_
        rw [hQ]
        exact W.iret (v := x38_5) hx hb hr (fun t ht hW => ⟨x38_5, rfl, hF.symm, ht⟩) (fun q hq => absurd hq List.not_mem_nil) dX4_gain_85
      obtain ⟨jj38, rfl⟩ := cn_go hkkk38 c_44
      have hF := hF.trans (lq1_s _ _ _ _ _)
      obtain ⟨nextkk38, hnextkk38⟩ : ∃ y9, y9 = lq1 (fX4_gain_b38 P g tb z) fX4_gain_r38 jj38 (kk38 + 1) := ⟨_, rfl⟩
      rw [← hnextkk38] at hF
      refine lv_aload_n hx hb dX4_gain_47 rfl (lv_at hl 3 rfl) ?_
      refine va_getN (D := (dC, dI)) (ci := 2) (v := .ref (ad 3)) (C := RX2) (T := TX2) (N := 14) hx hb htX2 (fun _ h => h) hown hK hP 0 rfl rfl 2 (by decide) (va_Nw.use rfl (hn _ (List.mem_of_getElem? (i := 5) rfl))) (fun _ h9 => h9) rfl dX4_gain_48 ?_
      refine lv_iload hx hb dX4_gain_51 (lv_at hl 0 rfl) ?_
      refine k_calli (W.runS (As := [.ref (ad 3), .int (nI kk38)]) (rest := []) ⟨hx, hb, hml, hown, hts0⟩ (mX3_at l dC dI cI (ad 3) 16 (by decide) (P 2) (nI kk38)) (va_cwS 2 hts0 (gi_S u_305 u_303 u_7 u_304) rfl rfl rfl (by decide +kernel) ⟨Nat.le_of_ble_eq_true rfl, Nat.le_of_ble_eq_true rfl⟩) (pcR_S (hP.sub (ws' := aW cI (ad 3) 16 (P 2)) [3] rfl) hK hn) rfl rfl hl.1 rfl (lv_room (Nat.le_of_ble_eq_true rfl)) dX4_gain_53 ⟨Nat.zero_le _, Nat.zero_le _⟩) ?_
      refine lv_iload_n hx hb dX4_gain_56 rfl (lv_at hl 4 rfl) ?_
      have K57 : ∀ (v57_0 : Int32), v57_0 = (if (fX3_at 16 (P 2) (nI kk38)) = g then (x38_5 + (fX4_ofLevel P (fX4_levelBetween P (nI kk38) tb z))) else x38_5) → ∀ (ls : Array Slot), lv_has ls 7 [(6, .int (nI kk38)), (5, .int v57_0), (4, .int (fX3_at 16 (P 2) g)), (0, .ref (ad 0)), (1, .int g), (2, .int tb), (3, .int z)] → W p l e rmX4_gain s m args below meth c s.heap [] 0 0 Q (F0 m 77 ls []) := by
        intro v57_0 hz57  ls hl
        have hz := hz57
        have hF := bd_at hF hz
        refine lv_iinc (v := (nI (kk38 + 1))) (lv' := [(6, .int (nI (kk38 + 1))), (5, .int v57_0), (4, .int (fX3_at 16 (P 2) g)), (0, .ref (ad 0)), (1, .int g), (2, .int tb), (3, .int z)]) hx hb dX4_gain_77 hl (k := 0) rfl (nI_1 _) (by decide) rfl (fun ls hl => ?_)
        refine lv_goto (tgt := 38) hx hb dX4_gain_80 (by decide) ?_
        have hF : fX4_gain P g tb z = nextkk38 v57_0 := hF
        rw [hnextkk38] at hF
        exact ihkk38 jj38 (Nat.lt_succ_self _) (kk38 + 1) v57_0 (cn_next hkkk38) hF ls (lv_sub hl [0, 1, 2, 3, 4, 5, 6] rfl)
      have hF : ((if (fX3_at 16 (P 2) (nI kk38)) = g then (x38_5 + (fX4_ofLevel P (fX4_levelBetween P (nI kk38) tb z))) else x38_5) : Int32) = (if (fX3_at 16 (P 2) (nI kk38)) = g then (x38_5 + (fX4_ofLevel P (fX4_levelBetween P (nI kk38) tb z))) else x38_5) := rfl
      refine lv_icmp_ne (tgt := 77) hx hb dX4_gain_57 (by decide) (fun c_57 => ?_) (fun c_57 => ?_)
      · have hF := hF.trans (if_neg c_57)
        exact K57 _ hF.symm  ls (lv_sub hl [0, 1, 2, 3, 4, 5, 6] rfl)
      have hF := hF.trans (if_pos c_57)
      refine lv_iload hx hb dX4_gain_60 (lv_at hl 1 rfl) ?_
      refine lv_aload_n hx hb dX4_gain_62 rfl (lv_at hl 3 rfl) ?_
      refine lv_aload_n hx hb dX4_gain_63 rfl (lv_at hl 3 rfl) ?_
      refine lv_iload hx hb dX4_gain_64 (lv_at hl 0 rfl) ?_
      refine lv_iload_n hx hb dX4_gain_66 rfl (lv_at hl 5 rfl) ?_
      refine lv_iload_n hx hb dX4_gain_67 rfl (lv_at hl 6 rfl) ?_
      refine k_calli (W.runS (As := [.ref (ad 0), .int (nI kk38), .int tb, .int z]) (rest := [.ref (ad 0), .int x38_5]) ⟨hx, hb, hml, hown, hts0⟩ (mX4_levelBetween l dC dI cI ad P (nI kk38) tb z) (va_cwS 4 hts0 (gi_S u_315 u_316 u_12 u_317) rfl rfl rfl (by decide +kernel) ⟨Nat.le_of_ble_eq_true rfl, Nat.le_of_ble_eq_true rfl⟩) (pcR_S hP hK hn) rfl rfl hl.1 rfl (lv_room (Nat.le_of_ble_eq_true rfl)) dX4_gain_68 ⟨Nat.zero_le _, Nat.zero_le _⟩) ?_
      refine k_calli (W.runS (As := [.ref (ad 0), .int (fX4_levelBetween P (nI kk38) tb z)]) (rest := [.int x38_5]) ⟨hx, hb, hml, hown, hts0⟩ (mX4_ofLevel l dC dI cI ad P (fX4_levelBetween P (nI kk38) tb z)) (va_cwS 2 hts0 (gi_S u_329 u_330 u_12 u_331) rfl rfl rfl (by decide +kernel) ⟨Nat.le_of_ble_eq_true rfl, Nat.le_of_ble_eq_true rfl⟩) (pcR_S hP hK hn) rfl rfl hl.1 rfl (lv_room (Nat.le_of_ble_eq_true rfl)) dX4_gain_71 ⟨Nat.zero_le _, Nat.zero_le _⟩) ?_
      refine lv_iadd hx hb dX4_gain_74 ?_
      refine lv_istore (lv' := [(5, .int (x38_5 + (fX4_ofLevel P (fX4_levelBetween P (nI kk38) tb z)))), (6, .int (nI kk38)), (4, .int (fX3_at 16 (P 2) g)), (0, .ref (ad 0)), (1, .int g), (2, .int tb), (3, .int z)]) hx hb dX4_gain_75 hl (by decide) rfl (fun ls hl => ?_)
      exact K57 _ hF.symm  ls (lv_sub hl [1, 0, 2, 3, 4, 5, 6] rfl)
  exact L38 ((P 10 0).toNatClampNeg) 0 ((fX4_ofSitting P g z) + (fX4_ofLevel P (fX4_levelBetween P (fX3_at 16 (P 2) g) tb z))) (Nat.zero_add _) hF ls (lv_sub hl [0, 1, 2, 3, 4, 5, 6] rfl)

def fX4_afterMove (P : PV) (g : Int32) (tb : Int32) (z : Int32) : Int32 :=
  (bd ((if (fX2_isSitting P g) = 0 then ((fX4_byGuests P) + (fX4_gain P g tb z)) else (((fX4_byGuests P) + (fX4_gain P g tb z)) - (fX4_gain P g (fX3_at 16 (P 3) g) (fX3_at 16 (P 4) g)))) : Int32) (fun v19_0 => v19_0))
abbrev rmX4_afterMove : Room := { frames := 5, cells := 0, slots := 0, locals := 130 }
set_option maxHeartbeats 4000000 in
set_option maxRecDepth 100000 in
theorem mX4_afterMove (l : Launch) (dC : Nat → ClassId) (dI : Nat → Nat → Nat) (cI : ClassId) (ad : Nat → Nat) (P : PV) (g : Int32) (tb : Int32) (z : Int32) : Met l yX4_afterMove (ws_ yX4_afterMove cX4_afterMove 5 (some .int)) rmX4_afterMove (pcR (dC, dI) [(cI, .int)] (pW cI ad P) [.ref (ad 0), .int g, .int tb, .int z]) (vp_Si (fun r => r = fX4_afterMove P g tb z)) 0 0 (fun _ => False) := by
  refine Met.ofW (cc := cX4_afterMove) (maxL := 5) (ret := (some .int)) (by decide) rfl ?_
  intro p e s m args below meth c s₁ B hml hv
  obtain ⟨ha, hP, hK, hn⟩ := hv
  have hx := B.exec
  have hb := B.bytes
  have hr := B.returns
  have hts0 := atoms_spec (ws := (ws_ yX4_afterMove cX4_afterMove 5 (some .int))) B.pre
  have hts : ∀ w ∈ lw_all, w.before args s = true := fun w h => hts0 w (List.mem_cons_of_mem _ h)
  have hown : s.vm.findClass RX4 = some m.cls := findClass_of_methodNamed B.named
  have hlocks := B.notSynchronized
  have htX2 : ∀ w ∈ wsX20, w.before args s = true := fun w h => hts w (wX2 w h)
  obtain ⟨Q, hQ⟩ : ∃ Q, Q = MQ below (vp_Si (fun r => r = fX4_afterMove P g tb z)) args s 0 0 (fun _ => False) := ⟨_, rfl⟩
  rw [← hQ]
  have hl := lv_entry ([.ref (ad 0), .int g, .int tb, .int z]) (n := 5) (Nat.le_of_ble_eq_true rfl)
  rw [ha, lg_entry_eq, ← ha]
  generalize (lg_sl ([.ref (ad 0), .int g, .int tb, .int z]) ++ List.replicate (5 - (lg_sl ([.ref (ad 0), .int g, .int tb, .int z])).length) Slot.unset).toArray = ls at hl ⊢
  have hl : lv_has ls 5 [(0, .ref (ad 0)), (1, .int g), (2, .int tb), (3, .int z)] := hl
  show W p l e rmX4_afterMove s m args below meth c s.heap [] 0 0 Q (F0 m 0 ls [])
  have hF : fX4_afterMove P g tb z = fX4_afterMove P g tb z := rfl
  refine lv_aload_n hx hb dX4_afterMove_0 rfl (lv_at hl 0 rfl) ?_
  refine k_calli (W.runS (As := [.ref (ad 0)]) (rest := []) ⟨hx, hb, hml, hown, hts0⟩ (mX4_byGuests l dC dI cI ad P ) (va_cwS 1 hts0 (gi_S u_669 u_293 u_12 u_294) rfl rfl rfl (by decide +kernel) ⟨Nat.le_of_ble_eq_true rfl, Nat.le_of_ble_eq_true rfl⟩) (pcR_S hP hK hn) rfl rfl hl.1 rfl (lv_room (Nat.le_of_ble_eq_true rfl)) dX4_afterMove_1 ⟨Nat.zero_le _, Nat.zero_le _⟩) ?_
  refine lv_aload_n hx hb dX4_afterMove_4 rfl (lv_at hl 0 rfl) ?_
  refine lv_iload_n hx hb dX4_afterMove_5 rfl (lv_at hl 1 rfl) ?_
  refine lv_iload_n hx hb dX4_afterMove_6 rfl (lv_at hl 2 rfl) ?_
  refine lv_iload_n hx hb dX4_afterMove_7 rfl (lv_at hl 3 rfl) ?_
  refine k_calli (W.runS (As := [.ref (ad 0), .int g, .int tb, .int z]) (rest := [.int (fX4_byGuests P)]) ⟨hx, hb, hml, hown, hts0⟩ (mX4_gain l dC dI cI ad P g tb z) (va_cwS 4 hts0 (gi_S u_670 u_504 u_12 u_505) rfl rfl rfl (by decide +kernel) ⟨Nat.le_of_ble_eq_true rfl, Nat.le_of_ble_eq_true rfl⟩) (pcR_S hP hK hn) rfl rfl hl.1 rfl (lv_room (Nat.le_of_ble_eq_true rfl)) dX4_afterMove_8 ⟨Nat.zero_le _, Nat.zero_le _⟩) ?_
  refine lv_iadd hx hb dX4_afterMove_11 ?_
  refine lv_istore (lv' := [(4, .int ((fX4_byGuests P) + (fX4_gain P g tb z))), (0, .ref (ad 0)), (1, .int g), (2, .int tb), (3, .int z)]) hx hb dX4_afterMove_12 hl (by decide) rfl (fun ls hl => ?_)
  refine lv_aload_n hx hb dX4_afterMove_14 rfl (lv_at hl 1 rfl) ?_
  refine lv_iload_n hx hb dX4_afterMove_15 rfl (lv_at hl 2 rfl) ?_
  refine k_callb (W.runV (As := [.int g]) (rest := []) ⟨hx, hb, hml, hown, hts0⟩ (mX2_isSitting l dC dI cI ad P g) (cwV 1 hts0 (gi_V u_298 u_299 u_300 u_2 u_301) rfl rfl rfl (by decide +kernel) ⟨Nat.le_of_ble_eq_true rfl, Nat.le_of_ble_eq_true rfl⟩) (pcR_V (ci := 2) (q0 := 0) hP hK hn rfl rfl) rfl rfl hl.1 rfl (lv_room (Nat.le_of_ble_eq_true rfl)) dX4_afterMove_16 ⟨Nat.zero_le _, Nat.zero_le _⟩) (fun br16 => ?_)
  have K19 : ∀ (v19_0 : Int32), v19_0 = (if (fX2_isSitting P g) = 0 then ((fX4_byGuests P) + (fX4_gain P g tb z)) else (((fX4_byGuests P) + (fX4_gain P g tb z)) - (fX4_gain P g (fX3_at 16 (P 3) g) (fX3_at 16 (P 4) g)))) → ∀ (ls : Array Slot), lv_has ls 5 [(4, .int v19_0), (0, .ref (ad 0)), (1, .int g), (2, .int tb), (3, .int z)] → W p l e rmX4_afterMove s m args below meth c s.heap [] 0 0 Q (F0 m 48 ls []) := by
    intro v19_0 hz19  ls hl
    have hz := hz19
    have hF := bd_at hF hz
    refine lv_iload hx hb dX4_afterMove_48 (lv_at hl 0 rfl) ?_
    rw [hQ]
    exact W.iret (v := v19_0) hx hb hr (fun t ht hW => ⟨v19_0, rfl, hF.symm, ht⟩) (fun q hq => absurd hq List.not_mem_nil) dX4_afterMove_50
  have hF : ((if (fX2_isSitting P g) = 0 then ((fX4_byGuests P) + (fX4_gain P g tb z)) else (((fX4_byGuests P) + (fX4_gain P g tb z)) - (fX4_gain P g (fX3_at 16 (P 3) g) (fX3_at 16 (P 4) g)))) : Int32) = (if (fX2_isSitting P g) = 0 then ((fX4_byGuests P) + (fX4_gain P g tb z)) else (((fX4_byGuests P) + (fX4_gain P g tb z)) - (fX4_gain P g (fX3_at 16 (P 3) g) (fX3_at 16 (P 4) g)))) := rfl
  refine lv_if_eq (tgt := 48) hx hb dX4_afterMove_19 (by decide) (fun c_19 => ?_) (fun c_19 => ?_)
  · have hF := hF.trans (if_pos c_19)
    exact K19 _ hF.symm  ls (lv_sub hl [0, 1, 2, 3, 4] rfl)
  have hF := hF.trans (if_neg c_19)
  refine lv_iload hx hb dX4_afterMove_22 (lv_at hl 0 rfl) ?_
  refine lv_aload_n hx hb dX4_afterMove_24 rfl (lv_at hl 1 rfl) ?_
  refine lv_iload_n hx hb dX4_afterMove_25 rfl (lv_at hl 2 rfl) ?_
  refine lv_aload_n hx hb dX4_afterMove_26 rfl (lv_at hl 1 rfl) ?_
  refine va_getN (D := (dC, dI)) (ci := 2) (v := .ref (ad 4)) (C := RX2) (T := TX2) (N := 14) hx hb htX2 (fun _ h => h) hown hK hP 0 rfl rfl 3 (by decide) (va_Nw.use rfl (hn _ (List.mem_of_getElem? (i := 6) rfl))) (fun _ h9 => h9) rfl dX4_afterMove_27 ?_
  refine lv_iload_n hx hb dX4_afterMove_30 rfl (lv_at hl 2 rfl) ?_
  refine k_calli (W.runS (As := [.ref (ad 4), .int g]) (rest := [.int g, .ref (ad 0), .int ((fX4_byGuests P) + (fX4_gain P g tb z))]) ⟨hx, hb, hml, hown, hts0⟩ (mX3_at l dC dI cI (ad 4) 16 (by decide) (P 3) g) (va_cwS 2 hts0 (gi_S u_305 u_303 u_7 u_304) rfl rfl rfl (by decide +kernel) ⟨Nat.le_of_ble_eq_true rfl, Nat.le_of_ble_eq_true rfl⟩) (pcR_S (hP.sub (ws' := aW cI (ad 4) 16 (P 3)) [4] rfl) hK hn) rfl rfl hl.1 rfl (lv_room (Nat.le_of_ble_eq_true rfl)) dX4_afterMove_31 ⟨Nat.zero_le _, Nat.zero_le _⟩) ?_
  refine lv_aload_n hx hb dX4_afterMove_34 rfl (lv_at hl 1 rfl) ?_
  refine va_getN (D := (dC, dI)) (ci := 2) (v := .ref (ad 5)) (C := RX2) (T := TX2) (N := 14) hx hb htX2 (fun _ h => h) hown hK hP 0 rfl rfl 4 (by decide) (va_Nw.use rfl (hn _ (List.mem_of_getElem? (i := 8) rfl))) (fun _ h9 => h9) rfl dX4_afterMove_35 ?_
  refine lv_iload_n hx hb dX4_afterMove_38 rfl (lv_at hl 2 rfl) ?_
  refine k_calli (W.runS (As := [.ref (ad 5), .int g]) (rest := [.int (fX3_at 16 (P 3) g), .int g, .ref (ad 0), .int ((fX4_byGuests P) + (fX4_gain P g tb z))]) ⟨hx, hb, hml, hown, hts0⟩ (mX3_at l dC dI cI (ad 5) 16 (by decide) (P 4) g) (va_cwS 2 hts0 (gi_S u_305 u_303 u_7 u_304) rfl rfl rfl (by decide +kernel) ⟨Nat.le_of_ble_eq_true rfl, Nat.le_of_ble_eq_true rfl⟩) (pcR_S (hP.sub (ws' := aW cI (ad 5) 16 (P 4)) [5] rfl) hK hn) rfl rfl hl.1 rfl (lv_room (Nat.le_of_ble_eq_true rfl)) dX4_afterMove_39 ⟨Nat.zero_le _, Nat.zero_le _⟩) ?_
  refine k_calli (W.runS (As := [.ref (ad 0), .int g, .int (fX3_at 16 (P 3) g), .int (fX3_at 16 (P 4) g)]) (rest := [.int ((fX4_byGuests P) + (fX4_gain P g tb z))]) ⟨hx, hb, hml, hown, hts0⟩ (mX4_gain l dC dI cI ad P g (fX3_at 16 (P 3) g) (fX3_at 16 (P 4) g)) (va_cwS 4 hts0 (gi_S u_670 u_504 u_12 u_505) rfl rfl rfl (by decide +kernel) ⟨Nat.le_of_ble_eq_true rfl, Nat.le_of_ble_eq_true rfl⟩) (pcR_S hP hK hn) rfl rfl hl.1 rfl (lv_room (Nat.le_of_ble_eq_true rfl)) dX4_afterMove_42 ⟨Nat.zero_le _, Nat.zero_le _⟩) ?_
  refine lv_isub hx hb dX4_afterMove_45 ?_
  refine lv_istore (lv' := [(4, .int (((fX4_byGuests P) + (fX4_gain P g tb z)) - (fX4_gain P g (fX3_at 16 (P 3) g) (fX3_at 16 (P 4) g)))), (0, .ref (ad 0)), (1, .int g), (2, .int tb), (3, .int z)]) hx hb dX4_afterMove_46 hl (by decide) rfl (fun ls hl => ?_)
  exact K19 _ hF.symm  ls (lv_sub hl [0, 1, 2, 3, 4] rfl)

def fX4_wishesMet_b4 (P : PV) (kk4 : Nat) (x4_1 : Int32) (nextkk4 : Int32 → Int32) : Int32 :=
  (bd ((if (fX4_levelOfGuest P (nI kk4)) ≤ 0 then x4_1 else (x4_1 + 1)) : Int32) (fun v17_0 => (nextkk4 v17_0)))
def fX4_wishesMet_r4 (x4_1 : Int32) : Int32 :=
  x4_1
def fX4_wishesMet (P : PV) : Int32 :=
  (lq1 (fX4_wishesMet_b4 P) fX4_wishesMet_r4 ((P 10 0).toNatClampNeg) 0 0)
abbrev rmX4_wishesMet : Room := { frames := 3, cells := 0, slots := 0, locals := 86 }
set_option maxHeartbeats 4000000 in
set_option maxRecDepth 100000 in
theorem mX4_wishesMet (l : Launch) (dC : Nat → ClassId) (dI : Nat → Nat → Nat) (cI : ClassId) (ad : Nat → Nat) (P : PV) : Met l yX4_wishesMet (ws_ yX4_wishesMet cX4_wishesMet 3 (some .int)) rmX4_wishesMet (pcR (dC, dI) [(cI, .int)] (pW cI ad P) [.ref (ad 0)]) (vp_Si (fun r => r = fX4_wishesMet P)) 0 0 (fun _ => False) := by
  refine Met.ofW (cc := cX4_wishesMet) (maxL := 3) (ret := (some .int)) (by decide) rfl ?_
  intro p e s m args below meth c s₁ B hml hv
  obtain ⟨ha, hP, hK, hn⟩ := hv
  have hx := B.exec
  have hb := B.bytes
  have hr := B.returns
  have hts0 := atoms_spec (ws := (ws_ yX4_wishesMet cX4_wishesMet 3 (some .int))) B.pre
  have hts : ∀ w ∈ lw_all, w.before args s = true := fun w h => hts0 w (List.mem_cons_of_mem _ h)
  have hown : s.vm.findClass RX4 = some m.cls := findClass_of_methodNamed B.named
  have hlocks := B.notSynchronized
  have htX2 : ∀ w ∈ wsX20, w.before args s = true := fun w h => hts w (wX2 w h)
  obtain ⟨Q, hQ⟩ : ∃ Q, Q = MQ below (vp_Si (fun r => r = fX4_wishesMet P)) args s 0 0 (fun _ => False) := ⟨_, rfl⟩
  rw [← hQ]
  have hl := lv_entry ([.ref (ad 0)]) (n := 3) (Nat.le_of_ble_eq_true rfl)
  rw [ha, lg_entry_eq, ← ha]
  generalize (lg_sl ([.ref (ad 0)]) ++ List.replicate (3 - (lg_sl ([.ref (ad 0)])).length) Slot.unset).toArray = ls at hl ⊢
  have hl : lv_has ls 3 [(0, .ref (ad 0))] := hl
  show W p l e rmX4_wishesMet s m args below meth c s.heap [] 0 0 Q (F0 m 0 ls [])
  have hF : fX4_wishesMet P = fX4_wishesMet P := rfl
  refine lv_iconst (v := 0) hx hb dX4_wishesMet_0 (by decide) ?_
  refine lv_istore_n (lv' := [(1, .int 0), (0, .ref (ad 0))]) hx hb dX4_wishesMet_1 rfl hl (by decide) rfl (fun ls hl => ?_)
  refine lv_iconst (v := 0) hx hb dX4_wishesMet_2 (by decide) ?_
  refine lv_istore_n (lv' := [(2, .int 0), (1, .int 0), (0, .ref (ad 0))]) hx hb dX4_wishesMet_3 rfl hl (by decide) rfl (fun ls hl => ?_)
  have L4 : ∀ (jj4 kk4 : Nat) (x4_1 : Int32), kk4 + jj4 = ((P 10 0).toNatClampNeg) → fX4_wishesMet P = lq1 (fX4_wishesMet_b4 P) fX4_wishesMet_r4 jj4 kk4 x4_1 → ∀ (ls : Array Slot), lv_has ls 3 [(2, .int (nI kk4)), (1, .int x4_1), (0, .ref (ad 0))] → W p l e rmX4_wishesMet s m args below meth c s.heap [] 0 0 Q (F0 m 4 ls []) := by
    intro jj4
    induction jj4 using Nat.strongRecOn with
    | _ jj4 ihkk4 =>
      intro kk4 x4_1 hkkk4 hF  ls hl
      refine lv_iload_n hx hb dX4_wishesMet_4 rfl (lv_at hl 0 rfl) ?_
      refine lv_aload_n hx hb dX4_wishesMet_5 rfl (lv_at hl 2 rfl) ?_
      refine va_getN (D := (dC, dI)) (ci := 2) (v := .int (P 10 0)) (C := RX2) (T := TX2) (N := 14) hx hb htX2 (fun _ h => h) hown hK hP 0 rfl rfl 10 (by decide) (va_Nw.use rfl (hn _ (List.mem_of_getElem? (i := 14) rfl))) (fun _ h9 => h9) rfl dX4_wishesMet_6 ?_
      refine lv_icmp_ge (tgt := 29) hx hb dX4_wishesMet_9 (by decide) (fun c_9 => ?_) (fun c_9 => ?_)
      · obtain rfl := cn_exit hkkk4 c_9
        have hF := hF.trans (lq1_z _ _ _ _)
        refine lv_iload_n hx hb dX4_wishesMet_29 rfl (lv_at hl 1 rfl) ?_
        rw [hQ]
        exact W.iret (v := x4_1) hx hb hr (fun t ht hW => ⟨x4_1, rfl, hF.symm, ht⟩) (fun q hq => absurd hq List.not_mem_nil) dX4_wishesMet_30
      obtain ⟨jj4, rfl⟩ := cn_go hkkk4 c_9
      have hF := hF.trans (lq1_s _ _ _ _ _)
      obtain ⟨nextkk4, hnextkk4⟩ : ∃ y9, y9 = lq1 (fX4_wishesMet_b4 P) fX4_wishesMet_r4 jj4 (kk4 + 1) := ⟨_, rfl⟩
      rw [← hnextkk4] at hF
      refine lv_aload_n hx hb dX4_wishesMet_12 rfl (lv_at hl 2 rfl) ?_
      refine lv_iload_n hx hb dX4_wishesMet_13 rfl (lv_at hl 0 rfl) ?_
      refine k_calli (W.runS (As := [.ref (ad 0), .int (nI kk4)]) (rest := []) ⟨hx, hb, hml, hown, hts0⟩ (mX4_levelOfGuest l dC dI cI ad P (nI kk4)) (va_cwS 2 hts0 (gi_S u_312 u_313 u_12 u_314) rfl rfl rfl (by decide +kernel) ⟨Nat.le_of_ble_eq_true rfl, Nat.le_of_ble_eq_true rfl⟩) (pcR_S hP hK hn) rfl rfl hl.1 rfl (lv_room (Nat.le_of_ble_eq_true rfl)) dX4_wishesMet_14 ⟨Nat.zero_le _, Nat.zero_le _⟩) ?_
      have K17 : ∀ (v17_0 : Int32), v17_0 = (if (fX4_levelOfGuest P (nI kk4)) ≤ 0 then x4_1 else (x4_1 + 1)) → ∀ (ls : Array Slot), lv_has ls 3 [(2, .int (nI kk4)), (1, .int v17_0), (0, .ref (ad 0))] → W p l e rmX4_wishesMet s m args below meth c s.heap [] 0 0 Q (F0 m 23 ls []) := by
        intro v17_0 hz17  ls hl
        have hz := hz17
        have hF := bd_at hF hz
        refine lv_iinc (v := (nI (kk4 + 1))) (lv' := [(2, .int (nI (kk4 + 1))), (1, .int v17_0), (0, .ref (ad 0))]) hx hb dX4_wishesMet_23 hl (k := 0) rfl (nI_1 _) (by decide) rfl (fun ls hl => ?_)
        refine lv_goto (tgt := 4) hx hb dX4_wishesMet_26 (by decide) ?_
        have hF : fX4_wishesMet P = nextkk4 v17_0 := hF
        rw [hnextkk4] at hF
        exact ihkk4 jj4 (Nat.lt_succ_self _) (kk4 + 1) v17_0 (cn_next hkkk4) hF ls (lv_sub hl [0, 1, 2] rfl)
      have hF : ((if (fX4_levelOfGuest P (nI kk4)) ≤ 0 then x4_1 else (x4_1 + 1)) : Int32) = (if (fX4_levelOfGuest P (nI kk4)) ≤ 0 then x4_1 else (x4_1 + 1)) := rfl
      refine lv_if_le (tgt := 23) hx hb dX4_wishesMet_17 (by decide) (fun c_17 => ?_) (fun c_17 => ?_)
      · have hF := hF.trans (if_pos c_17)
        exact K17 _ hF.symm  ls (lv_sub hl [0, 1, 2] rfl)
      have hF := hF.trans (if_neg c_17)
      refine lv_iinc (v := (x4_1 + 1)) (lv' := [(1, .int (x4_1 + 1)), (2, .int (nI kk4)), (0, .ref (ad 0))]) hx hb dX4_wishesMet_20 hl (k := 1) rfl rfl (by decide) rfl (fun ls hl => ?_)
      exact K17 _ hF.symm  ls (lv_sub hl [1, 0, 2] rfl)
  exact L4 ((P 10 0).toNatClampNeg) 0 0 (Nat.zero_add _) hF ls (lv_sub hl [0, 1, 2] rfl)

def fX2_bestPlace_b19 (P : PV) (g : Int32) (kk7 : Nat) (kk19 : Nat) (x19_3 : Int32) (x19_2 : Int32) (nextkk19 : Int32 → Int32 → Int32) : Int32 :=
  (bd2 ((if (fX2_reasonAgainst P g (nI kk7) (nI kk19)) = 0 then (if x19_2 = (-1) then ((fX4_gain P g (nI kk7) (nI kk19)), (((nI kk7) * 8) + (nI kk19))) else (if (fX4_gain P g (nI kk7) (nI kk19)) ≤ x19_3 then (x19_3, x19_2) else ((fX4_gain P g (nI kk7) (nI kk19)), (((nI kk7) * 8) + (nI kk19))))) else (x19_3, x19_2)) : Int32 × Int32) (fun v39_0 v39_1 => (nextkk19 v39_0 v39_1)))
def fX2_bestPlace_r19 (nextkk7 : Int32 → Int32 → Int32) (x19_3 : Int32) (x19_2 : Int32) : Int32 :=
  (nextkk7 x19_3 x19_2)
def fX2_bestPlace_b7 (P : PV) (g : Int32) (kk7 : Nat) (x7_3 : Int32) (x7_2 : Int32) (nextkk7 : Int32 → Int32 → Int32) : Int32 :=
  (lq2 (fX2_bestPlace_b19 P g kk7) (fX2_bestPlace_r19 nextkk7) ((fX2_seatsAt P (nI kk7)).toNatClampNeg) 0 x7_3 x7_2)
def fX2_bestPlace_r7 (x7_3 : Int32) (x7_2 : Int32) : Int32 :=
  x7_2
def fX2_bestPlace (P : PV) (g : Int32) : Int32 :=
  (lq2 (fX2_bestPlace_b7 P g) fX2_bestPlace_r7 ((P 10 1).toNatClampNeg) 0 0 (-1))
abbrev rmX2_bestPlace : Room := { frames := 3, cells := 0, slots := 0, locals := 90 }
set_option maxHeartbeats 4000000 in
set_option maxRecDepth 100000 in
theorem mX2_bestPlace (l : Launch) (dC : Nat → ClassId) (dI : Nat → Nat → Nat) (cI : ClassId) (ad : Nat → Nat) (P : PV) (g : Int32) : Met l yX2_bestPlace (ws_ yX2_bestPlace cX2_bestPlace 7 (some .int)) rmX2_bestPlace (pcR (dC, dI) [(cI, .int)] (pW cI ad P) [.ref (ad 0), .int g]) (vp_Si (fun r => r = fX2_bestPlace P g)) 0 0 (fun _ => False) := by
  refine Met.ofW (cc := cX2_bestPlace) (maxL := 7) (ret := (some .int)) (by decide) rfl ?_
  intro p e s m args below meth c s₁ B hml hv
  obtain ⟨ha, hP, hK, hn⟩ := hv
  have hx := B.exec
  have hb := B.bytes
  have hr := B.returns
  have hts0 := atoms_spec (ws := (ws_ yX2_bestPlace cX2_bestPlace 7 (some .int))) B.pre
  have hts : ∀ w ∈ lw_all, w.before args s = true := fun w h => hts0 w (List.mem_cons_of_mem _ h)
  have hown : s.vm.findClass RX2 = some m.cls := findClass_of_methodNamed B.named
  have hlocks := B.notSynchronized
  have htX2 : ∀ w ∈ wsX20, w.before args s = true := fun w h => hts w (wX2 w h)
  obtain ⟨Q, hQ⟩ : ∃ Q, Q = MQ below (vp_Si (fun r => r = fX2_bestPlace P g)) args s 0 0 (fun _ => False) := ⟨_, rfl⟩
  rw [← hQ]
  have hl := lv_entry ([.ref (ad 0), .int g]) (n := 7) (Nat.le_of_ble_eq_true rfl)
  rw [ha, lg_entry_eq, ← ha]
  generalize (lg_sl ([.ref (ad 0), .int g]) ++ List.replicate (7 - (lg_sl ([.ref (ad 0), .int g])).length) Slot.unset).toArray = ls at hl ⊢
  have hl : lv_has ls 7 [(0, .ref (ad 0)), (1, .int g)] := hl
  show W p l e rmX2_bestPlace s m args below meth c s.heap [] 0 0 Q (F0 m 0 ls [])
  have hF : fX2_bestPlace P g = fX2_bestPlace P g := rfl
  refine lv_iconst (v := (-1)) hx hb dX2_bestPlace_0 (by decide) ?_
  refine lv_istore_n (lv' := [(2, .int (-1)), (0, .ref (ad 0)), (1, .int g)]) hx hb dX2_bestPlace_1 rfl hl (by decide) rfl (fun ls hl => ?_)
  refine lv_iconst (v := 0) hx hb dX2_bestPlace_2 (by decide) ?_
  refine lv_istore_n (lv' := [(3, .int 0), (2, .int (-1)), (0, .ref (ad 0)), (1, .int g)]) hx hb dX2_bestPlace_3 rfl hl (by decide) rfl (fun ls hl => ?_)
  refine lv_iconst (v := 0) hx hb dX2_bestPlace_4 (by decide) ?_
  refine lv_istore (lv' := [(4, .int 0), (3, .int 0), (2, .int (-1)), (0, .ref (ad 0)), (1, .int g)]) hx hb dX2_bestPlace_5 hl (by decide) rfl (fun ls hl => ?_)
  have L7 : ∀ (jj7 kk7 : Nat) (x7_3 : Int32) (x7_2 : Int32), kk7 + jj7 = ((P 10 1).toNatClampNeg) → fX2_bestPlace P g = lq2 (fX2_bestPlace_b7 P g) fX2_bestPlace_r7 jj7 kk7 x7_3 x7_2 → ∀ (ls : Array Slot), lv_has ls 7 [(4, .int (nI kk7)), (3, .int x7_3), (2, .int x7_2), (0, .ref (ad 0)), (1, .int g)] → W p l e rmX2_bestPlace s m args below meth c s.heap [] 0 0 Q (F0 m 7 ls []) := by
    intro jj7
    induction jj7 using Nat.strongRecOn with
    | _ jj7 ihkk7 =>
      intro kk7 x7_3 x7_2 hkkk7 hF  ls hl
      refine lv_iload hx hb dX2_bestPlace_7 (lv_at hl 0 rfl) ?_
      refine lv_aload_n hx hb dX2_bestPlace_9 rfl (lv_at hl 3 rfl) ?_
      refine va_get (D := (dC, dI)) (ci := 2) (v := .int (P 10 1)) (C := RX2) (T := TX2) (N := 14) hx hb htX2 (fun _ h => h) hown hK hP 0 rfl rfl 11 (by decide) (hts _ u_74) (fun _ h9 => h9) rfl dX2_bestPlace_10 ?_
      refine lv_icmp_ge (tgt := 91) hx hb dX2_bestPlace_13 (by decide) (fun c_13 => ?_) (fun c_13 => ?_)
      · obtain rfl := cn_exit hkkk7 c_13
        have hF := hF.trans (lq2_z _ _ _ _ _)
        refine lv_iload_n hx hb dX2_bestPlace_91 rfl (lv_at hl 2 rfl) ?_
        rw [hQ]
        exact W.iret (v := x7_2) hx hb hr (fun t ht hW => ⟨x7_2, rfl, hF.symm, ht⟩) (fun q hq => absurd hq List.not_mem_nil) dX2_bestPlace_92
      obtain ⟨jj7, rfl⟩ := cn_go hkkk7 c_13
      have hF := hF.trans (lq2_s _ _ _ _ _ _)
      obtain ⟨nextkk7, hnextkk7⟩ : ∃ y9, y9 = lq2 (fX2_bestPlace_b7 P g) fX2_bestPlace_r7 jj7 (kk7 + 1) := ⟨_, rfl⟩
      rw [← hnextkk7] at hF
      refine lv_iconst (v := 0) hx hb dX2_bestPlace_16 (by decide) ?_
      refine lv_istore (lv' := [(5, .int 0), (4, .int (nI kk7)), (3, .int x7_3), (2, .int x7_2), (0, .ref (ad 0)), (1, .int g)]) hx hb dX2_bestPlace_17 hl (by decide) rfl (fun ls hl => ?_)
      have L19 : ∀ (jj19 kk19 : Nat) (x19_3 : Int32) (x19_2 : Int32), kk19 + jj19 = ((fX2_seatsAt P (nI kk7)).toNatClampNeg) → fX2_bestPlace P g = lq2 (fX2_bestPlace_b19 P g kk7) (fX2_bestPlace_r19 nextkk7) jj19 kk19 x19_3 x19_2 → ∀ (ls : Array Slot), lv_has ls 7 [(5, .int (nI kk19)), (4, .int (nI kk7)), (3, .int x19_3), (2, .int x19_2), (0, .ref (ad 0)), (1, .int g)] → W p l e rmX2_bestPlace s m args below meth c s.heap [] 0 0 Q (F0 m 19 ls []) := by
        intro jj19
        induction jj19 using Nat.strongRecOn with
        | _ jj19 ihkk19 =>
          intro kk19 x19_3 x19_2 hkkk19 hF  ls hl
          refine lv_iload hx hb dX2_bestPlace_19 (lv_at hl 0 rfl) ?_
          refine lv_aload_n hx hb dX2_bestPlace_21 rfl (lv_at hl 4 rfl) ?_
          refine lv_iload hx hb dX2_bestPlace_22 (lv_at hl 1 rfl) ?_
          refine k_calli (W.runV (As := [.int (nI kk7)]) (rest := [.int (nI kk19)]) ⟨hx, hb, hml, hown, hts0⟩ (mX2_seatsAt l dC dI cI ad P (nI kk7)) (cwV 1 hts0 (gi_V u_414 u_326 u_327 u_2 u_328) rfl rfl rfl (by decide +kernel) ⟨Nat.le_of_ble_eq_true rfl, Nat.le_of_ble_eq_true rfl⟩) (pcR_V (ci := 2) (q0 := 0) hP hK hn rfl rfl) rfl rfl hl.1 rfl (lv_room (Nat.le_of_ble_eq_true rfl)) dX2_bestPlace_24 ⟨Nat.zero_le _, Nat.zero_le _⟩) ?_
          refine lv_icmp_ge (tgt := 85) hx hb dX2_bestPlace_27 (by decide) (fun c_27 => ?_) (fun c_27 => ?_)
          · obtain rfl := cn_exit hkkk19 c_27
            have hF := hF.trans (lq2_z _ _ _ _ _)
            refine lv_iinc (v := (nI (kk7 + 1))) (lv' := [(4, .int (nI (kk7 + 1))), (5, .int (nI kk19)), (3, .int x19_3), (2, .int x19_2), (0, .ref (ad 0)), (1, .int g)]) hx hb dX2_bestPlace_85 hl (k := 1) rfl (nI_1 _) (by decide) rfl (fun ls hl => ?_)
            refine lv_goto (tgt := 7) hx hb dX2_bestPlace_88 (by decide) ?_
            have hF : fX2_bestPlace P g = nextkk7 x19_3 x19_2 := hF
            rw [hnextkk7] at hF
            exact ihkk7 jj7 (Nat.lt_succ_self _) (kk7 + 1) x19_3 x19_2 (cn_next hkkk7) hF ls (lv_sub hl [0, 2, 3, 4, 5] rfl)
          obtain ⟨jj19, rfl⟩ := cn_go hkkk19 c_27
          have hF := hF.trans (lq2_s _ _ _ _ _ _)
          obtain ⟨nextkk19, hnextkk19⟩ : ∃ y9, y9 = lq2 (fX2_bestPlace_b19 P g kk7) (fX2_bestPlace_r19 nextkk7) jj19 (kk19 + 1) := ⟨_, rfl⟩
          rw [← hnextkk19] at hF
          refine lv_aload_n hx hb dX2_bestPlace_30 rfl (lv_at hl 4 rfl) ?_
          refine lv_iload_n hx hb dX2_bestPlace_31 rfl (lv_at hl 5 rfl) ?_
          refine lv_iload hx hb dX2_bestPlace_32 (lv_at hl 1 rfl) ?_
          refine lv_iload hx hb dX2_bestPlace_34 (lv_at hl 0 rfl) ?_
          refine k_calli (W.runV (As := [.int g, .int (nI kk7), .int (nI kk19)]) (rest := []) ⟨hx, hb, hml, hown, hts0⟩ (mX2_reasonAgainst l dC dI cI ad P g (nI kk7) (nI kk19)) (cwV 3 hts0 (gi_V u_488 u_489 u_490 u_2 u_491) rfl rfl rfl (by decide +kernel) ⟨Nat.le_of_ble_eq_true rfl, Nat.le_of_ble_eq_true rfl⟩) (pcR_V (ci := 2) (q0 := 0) hP hK hn rfl rfl) rfl rfl hl.1 rfl (lv_room (Nat.le_of_ble_eq_true rfl)) dX2_bestPlace_36 ⟨Nat.zero_le _, Nat.zero_le _⟩) ?_
          have K39 : ∀ (v39_0 : Int32) (v39_1 : Int32), (v39_0, v39_1) = (if (fX2_reasonAgainst P g (nI kk7) (nI kk19)) = 0 then (if x19_2 = (-1) then ((fX4_gain P g (nI kk7) (nI kk19)), (((nI kk7) * 8) + (nI kk19))) else (if (fX4_gain P g (nI kk7) (nI kk19)) ≤ x19_3 then (x19_3, x19_2) else ((fX4_gain P g (nI kk7) (nI kk19)), (((nI kk7) * 8) + (nI kk19))))) else (x19_3, x19_2)) → ∀ (ls : Array Slot), lv_has ls 7 [(3, .int v39_0), (2, .int v39_1), (5, .int (nI kk19)), (4, .int (nI kk7)), (0, .ref (ad 0)), (1, .int g)] → W p l e rmX2_bestPlace s m args below meth c s.heap [] 0 0 Q (F0 m 79 ls []) := by
            intro v39_0 v39_1 hz39  ls hl
            have hz := hz39
            have hF := bd2_at hF hz
            refine lv_iinc (v := (nI (kk19 + 1))) (lv' := [(5, .int (nI (kk19 + 1))), (3, .int v39_0), (2, .int v39_1), (4, .int (nI kk7)), (0, .ref (ad 0)), (1, .int g)]) hx hb dX2_bestPlace_79 hl (k := 2) rfl (nI_1 _) (by decide) rfl (fun ls hl => ?_)
            refine lv_goto (tgt := 19) hx hb dX2_bestPlace_82 (by decide) ?_
            have hF : fX2_bestPlace P g = nextkk19 v39_0 v39_1 := hF
            rw [hnextkk19] at hF
            exact ihkk19 jj19 (Nat.lt_succ_self _) (kk19 + 1) v39_0 v39_1 (cn_next hkkk19) hF ls (lv_sub hl [0, 3, 1, 2, 4, 5] rfl)
          have hF : ((if (fX2_reasonAgainst P g (nI kk7) (nI kk19)) = 0 then (if x19_2 = (-1) then ((fX4_gain P g (nI kk7) (nI kk19)), (((nI kk7) * 8) + (nI kk19))) else (if (fX4_gain P g (nI kk7) (nI kk19)) ≤ x19_3 then (x19_3, x19_2) else ((fX4_gain P g (nI kk7) (nI kk19)), (((nI kk7) * 8) + (nI kk19))))) else (x19_3, x19_2)) : Int32 × Int32) = (if (fX2_reasonAgainst P g (nI kk7) (nI kk19)) = 0 then (if x19_2 = (-1) then ((fX4_gain P g (nI kk7) (nI kk19)), (((nI kk7) * 8) + (nI kk19))) else (if (fX4_gain P g (nI kk7) (nI kk19)) ≤ x19_3 then (x19_3, x19_2) else ((fX4_gain P g (nI kk7) (nI kk19)), (((nI kk7) * 8) + (nI kk19))))) else (x19_3, x19_2)) := rfl
          refine lv_if_eq (tgt := 45) hx hb dX2_bestPlace_39 (by decide) (fun c_39 => ?_) (fun c_39 => ?_)
          · have hF := hF.trans (if_pos c_39)
            refine lv_aload_n hx hb dX2_bestPlace_45 rfl (lv_at hl 4 rfl) ?_
            refine lv_iload_n hx hb dX2_bestPlace_46 rfl (lv_at hl 5 rfl) ?_
            refine lv_iload hx hb dX2_bestPlace_47 (lv_at hl 1 rfl) ?_
            refine lv_iload hx hb dX2_bestPlace_49 (lv_at hl 0 rfl) ?_
            refine k_calli (W.runS (As := [.ref (ad 0), .int g, .int (nI kk7), .int (nI kk19)]) (rest := []) ⟨hx, hb, hml, hown, hts0⟩ (mX4_gain l dC dI cI ad P g (nI kk7) (nI kk19)) (va_cwS 4 hts0 (gi_S u_503 u_504 u_12 u_505) rfl rfl rfl (by decide +kernel) ⟨Nat.le_of_ble_eq_true rfl, Nat.le_of_ble_eq_true rfl⟩) (pcR_S hP hK hn) rfl rfl hl.1 rfl (lv_room (Nat.le_of_ble_eq_true rfl)) dX2_bestPlace_51 ⟨Nat.zero_le _, Nat.zero_le _⟩) ?_
            refine lv_istore (lv' := [(6, .int (fX4_gain P g (nI kk7) (nI kk19))), (5, .int (nI kk19)), (4, .int (nI kk7)), (3, .int x19_3), (2, .int x19_2), (0, .ref (ad 0)), (1, .int g)]) hx hb dX2_bestPlace_54 hl (by decide) rfl (fun ls hl => ?_)
            refine lv_iload_n hx hb dX2_bestPlace_56 rfl (lv_at hl 4 rfl) ?_
            refine lv_iconst (v := (-1)) hx hb dX2_bestPlace_57 (by decide) ?_
            refine lv_icmp_eq (tgt := 67) hx hb dX2_bestPlace_58 (by decide) (fun c_58 => ?_) (fun c_58 => ?_)
            · have hF := hF.trans (if_pos c_58)
              refine lv_iload hx hb dX2_bestPlace_67 (lv_at hl 2 rfl) ?_
              refine lv_bipush (v := 8) hx hb dX2_bestPlace_69 (by decide) ?_
              refine lv_imul hx hb dX2_bestPlace_71 ?_
              refine lv_iload hx hb dX2_bestPlace_72 (lv_at hl 1 rfl) ?_
              refine lv_iadd hx hb dX2_bestPlace_74 ?_
              refine lv_istore_n (lv' := [(2, .int (((nI kk7) * 8) + (nI kk19))), (6, .int (fX4_gain P g (nI kk7) (nI kk19))), (5, .int (nI kk19)), (4, .int (nI kk7)), (3, .int x19_3), (0, .ref (ad 0)), (1, .int g)]) hx hb dX2_bestPlace_75 rfl hl (by decide) rfl (fun ls hl => ?_)
              refine lv_iload hx hb dX2_bestPlace_76 (lv_at hl 1 rfl) ?_
              refine lv_istore_n (lv' := [(3, .int (fX4_gain P g (nI kk7) (nI kk19))), (2, .int (((nI kk7) * 8) + (nI kk19))), (6, .int (fX4_gain P g (nI kk7) (nI kk19))), (5, .int (nI kk19)), (4, .int (nI kk7)), (0, .ref (ad 0)), (1, .int g)]) hx hb dX2_bestPlace_78 rfl hl (by decide) rfl (fun ls hl => ?_)
              exact K39 _ _ hF.symm  ls (lv_sub hl [0, 1, 3, 4, 5, 6] rfl)
            have hF := hF.trans (if_neg c_58)
            refine lv_iload hx hb dX2_bestPlace_61 (lv_at hl 0 rfl) ?_
            refine lv_iload_n hx hb dX2_bestPlace_63 rfl (lv_at hl 3 rfl) ?_
            refine lv_icmp_le (tgt := 79) hx hb dX2_bestPlace_64 (by decide) (fun c_64 => ?_) (fun c_64 => ?_)
            · have hF := hF.trans (if_pos c_64)
              exact K39 _ _ hF.symm  ls (lv_sub hl [3, 4, 1, 2, 5, 6] rfl)
            have hF := hF.trans (if_neg c_64)
            refine lv_iload hx hb dX2_bestPlace_67 (lv_at hl 2 rfl) ?_
            refine lv_bipush (v := 8) hx hb dX2_bestPlace_69 (by decide) ?_
            refine lv_imul hx hb dX2_bestPlace_71 ?_
            refine lv_iload hx hb dX2_bestPlace_72 (lv_at hl 1 rfl) ?_
            refine lv_iadd hx hb dX2_bestPlace_74 ?_
            refine lv_istore_n (lv' := [(2, .int (((nI kk7) * 8) + (nI kk19))), (6, .int (fX4_gain P g (nI kk7) (nI kk19))), (5, .int (nI kk19)), (4, .int (nI kk7)), (3, .int x19_3), (0, .ref (ad 0)), (1, .int g)]) hx hb dX2_bestPlace_75 rfl hl (by decide) rfl (fun ls hl => ?_)
            refine lv_iload hx hb dX2_bestPlace_76 (lv_at hl 1 rfl) ?_
            refine lv_istore_n (lv' := [(3, .int (fX4_gain P g (nI kk7) (nI kk19))), (2, .int (((nI kk7) * 8) + (nI kk19))), (6, .int (fX4_gain P g (nI kk7) (nI kk19))), (5, .int (nI kk19)), (4, .int (nI kk7)), (0, .ref (ad 0)), (1, .int g)]) hx hb dX2_bestPlace_78 rfl hl (by decide) rfl (fun ls hl => ?_)
            exact K39 _ _ hF.symm  ls (lv_sub hl [0, 1, 3, 4, 5, 6] rfl)
          have hF := hF.trans (if_neg c_39)
          refine lv_goto (tgt := 79) hx hb dX2_bestPlace_42 (by decide) ?_
          exact K39 _ _ hF.symm  ls (lv_sub hl [2, 3, 0, 1, 4, 5] rfl)
      exact L19 ((fX2_seatsAt P (nI kk7)).toNatClampNeg) 0 x7_3 x7_2 (Nat.zero_add _) hF ls (lv_sub hl [0, 1, 2, 3, 4, 5] rfl)
  exact L7 ((P 10 1).toNatClampNeg) 0 0 (-1) (Nat.zero_add _) hF ls (lv_sub hl [0, 1, 2, 3, 4] rfl)

