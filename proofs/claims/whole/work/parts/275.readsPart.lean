def fX7_readsPart (x : Nat → Int32) (M : Nat → Int32) : Int32 × ((Nat → Int32)) :=
  (bd2 (fX7_takes x M 45) (fun r4 U4 => (bd2 (fX7_readsGuest x (upd U4 5 r4)) (fun r11 U11 => (if r11 = 0 then (if (U11 5) = 0 then (0, U11) else (if (U11 6) = (-1) then (0, U11) else (1, U11))) else (if (U11 5) = 0 then (bd2 (fX7_takes x U11 64) (fun r49 U49 => (bd2 ((if r49 = 0 then ((-1), U49) else (bd2 (fX7_readsOne x U49 48 51) (fun r60 U60 => (r60, U60)))) : Int32 × (Nat → Int32)) (fun v52_0 U52_1 => (bd2 ((if v52_0 = (-1) then ((-1), upd U52_1 7 v52_0) else (bd2 (fX7_readsOne x (upd U52_1 7 v52_0) 97 104) (fun r84 U84 => (r84, U84)))) : Int32 × (Nat → Int32)) (fun v76_0 U76_1 => (if v76_0 = (-1) then (0, (upd U76_1 8 v76_0)) else (1, (upd U76_1 8 v76_0))))))))) else (if (U11 5) = 0 then (0, U11) else (if (U11 6) = (-1) then (0, U11) else (1, U11)))))))))
abbrev rmX7_readsPart : Room := { frames := 3, cells := 0, slots := 0, locals := 65 }
set_option maxHeartbeats 4000000 in
set_option maxRecDepth 100000 in
theorem mX7_readsPart (l : Launch) (dC : Nat → ClassId) (dI : Nat → Nat → Nat) (cI : ClassId) (o q0 q1 : Nat) (f x M : Nat → Int32) (h : Int64) (hTX : TX M) : Met l yX7_readsPart (ws_ yX7_readsPart cX7_readsPart 1 (some .boolean)) rmX7_readsPart (pcM (dC, dI) [(cI, .int)] (mW cI o q0 q1 f x M h) [.ref o]) (va_Qi (fun (r9 : Int32) (u9 : (Nat → Int32)) => (r9, u9) = fX7_readsPart x M ∧ (r9 = 0 ∨ r9 = 1)) (fun u9 t => va_P (dC, dI) vwCl ((fun (v9 : (Nat → Int32)) => mW cI o q0 q1 f x v9 h) u9) t.heap) (adr (mW cI o q0 q1 f x M h))) 0 0 (adr (mW cI o q0 q1 f x M h)) := by
  refine Met.ofW (cc := cX7_readsPart) (maxL := 1) (ret := (some .boolean)) (by decide) rfl ?_
  intro p e s m args below meth c s₁ B hml hv
  obtain ⟨ha, hP, hK, hn, hD0⟩ := hv
  have hx := B.exec
  have hb := B.bytes
  have hr := B.returns
  have hts0 := atoms_spec (ws := (ws_ yX7_readsPart cX7_readsPart 1 (some .boolean))) B.pre
  have hts : ∀ w ∈ lw_all, w.before args s = true := fun w h => hts0 w (List.mem_cons_of_mem _ h)
  have hown : s.vm.findClass RX7 = some m.cls := findClass_of_methodNamed B.named
  have hlocks := B.notSynchronized
  have htX7 : ∀ w ∈ wsX70, w.before args s = true := fun w h => hts w (wX7 w h)
  have hD := adr_self hD0
  obtain ⟨A, hA⟩ : ∃ A, A = adr (mW cI o q0 q1 f x M h) := ⟨_, rfl⟩
  rw [← hA] at hD
  have hS : va_S A s.heap s.heap [] := va_S.rf
  obtain ⟨Q, hQ⟩ : ∃ Q, Q = MQ below (va_Qi (fun (r9 : Int32) (u9 : (Nat → Int32)) => (r9, u9) = fX7_readsPart x M ∧ (r9 = 0 ∨ r9 = 1)) (fun u9 t => va_P (dC, dI) vwCl ((fun (v9 : (Nat → Int32)) => mW cI o q0 q1 f x v9 h) u9) t.heap) (adr (mW cI o q0 q1 f x M h))) args s 0 0 (adr (mW cI o q0 q1 f x M h)) := ⟨_, rfl⟩
  rw [← hQ]
  rw [← hA] at hQ
  have hl := lv_entry ([.ref o]) (n := 1) (Nat.le_of_ble_eq_true rfl)
  rw [ha, lg_entry_eq, ← ha]
  generalize (lg_sl ([.ref o]) ++ List.replicate (1 - (lg_sl ([.ref o])).length) Slot.unset).toArray = ls at hl ⊢
  have hl : lv_has ls 1 [(0, .ref o)] := hl
  show W p l e rmX7_readsPart s m args below meth c s.heap [] 0 0 Q (F0 m 0 ls [])
  have hF : fX7_readsPart x M = fX7_readsPart x M := rfl
  refine lv_aload_n hx hb dX7_readsPart_0 rfl (lv_at hl 0 rfl) ?_
  refine lv_aload_n hx hb dX7_readsPart_1 rfl (lv_at hl 0 rfl) ?_
  refine lv_bipush (v := 45) hx hb dX7_readsPart_2 (by decide) ?_
  refine k_muti (Wd := (fun (v9 : (Nat → Int32)) => mW cI o q0 q1 f x v9 h)) (va_runV (As := [.int 45]) (rest := [.ref o]) ⟨hx, hb, hml, hown, hts0⟩ (mX7_takes l dC dI cI o q0 q1 f x M h 45 (by first | omega | assumption)) (cwV 1 hts0 (gi_V u_1064 u_1066 us_39 u_7 u_1067) rfl rfl rfl (by decide +kernel) ⟨Nat.le_of_ble_eq_true rfl, Nat.le_of_ble_eq_true rfl⟩) (pcM_V (ci := 5) (q0 := 0) hP hK hn hD rfl rfl) rfl rfl hl.1 rfl (lv_room (Nat.le_of_ble_eq_true rfl)) dX7_readsPart_4 ⟨Nat.zero_le _, Nat.zero_le _⟩) hP hD hS [0, 1, 2] rfl rfl (fun _ => rfl) (fun r4 U4 H locs hU4 hP hD hS => ?_)
  obtain ⟨hU4, br4⟩ := hU4
  have hP : va_P (dC, dI) vwCl (mW cI o q0 q1 f x U4 h) H := hP
  have hD : va_D A (mW cI o q0 q1 f x U4 h) := hD
  have hF := bd2_at hF hU4
  refine va_put (D := (dC, dI)) (ci := 5) (v := .int r4) (ty := .boolean) (C := RX7) (T := TX7) (N := 12) hx hb htX7 (fun _ h => h) tyX7 tyX7_ok nmX7 hown hK hP hD hS 0 rfl rfl 7 (by decide) (hts _ u_864) (fun _ h9 => h9) rfl (by decide +kernel) (nb01 br4) (fb01 br4) (Nat.le_of_ble_eq_true rfl) dX7_readsPart_7 (fun H locs hP hD hS => ?_)
  have hP : va_P (dC, dI) vwCl (mW cI o q0 q1 f x (upd U4 5 r4) h) H := hP
  have hD : va_D A (mW cI o q0 q1 f x (upd U4 5 r4) h) := hD
  have hT4 : TX (upd U4 5 r4) := TX_upd (takes_TX hTX (by decide) hU4) (by decide) (by decide)
  refine lv_aload_n hx hb dX7_readsPart_10 rfl (lv_at hl 0 rfl) ?_
  refine k_muti (Wd := (fun (v9 : (Nat → Int32)) => mW cI o q0 q1 f x v9 h)) (va_runV (As := []) (rest := []) ⟨hx, hb, hml, hown, hts0⟩ (mX7_readsGuest l dC dI cI o q0 q1 f x (upd U4 5 r4) h  hT4) (cwV 0 hts0 (gi_V u_1072 u_1074 us_41 u_7 u_1075) rfl rfl rfl (by decide +kernel) ⟨Nat.le_of_ble_eq_true rfl, Nat.le_of_ble_eq_true rfl⟩) (pcM_V (ci := 5) (q0 := 0) hP hK hn hD rfl rfl) rfl rfl hl.1 rfl (lv_room (Nat.le_of_ble_eq_true rfl)) dX7_readsPart_11 ⟨Nat.zero_le _, Nat.zero_le _⟩) hP hD hS [0, 1, 2] rfl rfl (fun _ => rfl) (fun r11 U11 H locs hU11 hP hD hS => ?_)
  obtain ⟨hU11, br11⟩ := hU11
  have hP : va_P (dC, dI) vwCl (mW cI o q0 q1 f x U11 h) H := hP
  have hD : va_D A (mW cI o q0 q1 f x U11 h) := hD
  have hF := bd2_at hF hU11
  refine lv_if_eq (tgt := 24) hx hb dX7_readsPart_14 (by decide) (fun c_14 => ?_) (fun c_14 => ?_)
  · have hF := hF.trans (if_pos c_14)
    refine lv_aload_n hx hb dX7_readsPart_24 rfl (lv_at hl 0 rfl) ?_
    refine va_get (D := (dC, dI)) (ci := 5) (v := .int (U11 5)) (C := RX7) (T := TX7) (N := 12) hx hb htX7 (fun _ h => h) hown hK hP 0 rfl rfl 7 (by decide) (hts _ u_864) (fun _ h9 => h9) rfl dX7_readsPart_25 ?_
    refine lv_if_eq (tgt := 43) hx hb dX7_readsPart_28 (by decide) (fun c_28 => ?_) (fun c_28 => ?_)
    · have hF := hF.trans (if_pos c_28)
      refine lv_iconst (v := 0) hx hb dX7_readsPart_43 (by decide) ?_
      rw [hQ]
      exact W.zret (ty := .boolean) (v := 0) hx hb hr rfl (fun t ht hW => ⟨⟨0, U11, rfl, ⟨hF.symm, Or.inl rfl⟩, toH ht hP⟩, hS.F ht⟩) hS.2.2 dX7_readsPart_44
    have hF := hF.trans (if_neg c_28)
    refine lv_aload_n hx hb dX7_readsPart_31 rfl (lv_at hl 0 rfl) ?_
    refine va_get (D := (dC, dI)) (ci := 5) (v := .int (U11 6)) (C := RX7) (T := TX7) (N := 12) hx hb htX7 (fun _ h => h) hown hK hP 0 rfl rfl 8 (by decide) (hts _ u_865) (fun _ h9 => h9) rfl dX7_readsPart_32 ?_
    refine lv_iconst (v := (-1)) hx hb dX7_readsPart_35 (by decide) ?_
    refine lv_icmp_eq (tgt := 43) hx hb dX7_readsPart_36 (by decide) (fun c_36 => ?_) (fun c_36 => ?_)
    · have hF := hF.trans (if_pos c_36)
      refine lv_iconst (v := 0) hx hb dX7_readsPart_43 (by decide) ?_
      rw [hQ]
      exact W.zret (ty := .boolean) (v := 0) hx hb hr rfl (fun t ht hW => ⟨⟨0, U11, rfl, ⟨hF.symm, Or.inl rfl⟩, toH ht hP⟩, hS.F ht⟩) hS.2.2 dX7_readsPart_44
    have hF := hF.trans (if_neg c_36)
    refine lv_iconst (v := 1) hx hb dX7_readsPart_39 (by decide) ?_
    refine lv_goto (tgt := 44) hx hb dX7_readsPart_40 (by decide) ?_
    rw [hQ]
    exact W.zret (ty := .boolean) (v := 1) hx hb hr rfl (fun t ht hW => ⟨⟨1, U11, rfl, ⟨hF.symm, Or.inr rfl⟩, toH ht hP⟩, hS.F ht⟩) hS.2.2 dX7_readsPart_44
  have hF := hF.trans (if_neg c_14)
  refine lv_aload_n hx hb dX7_readsPart_17 rfl (lv_at hl 0 rfl) ?_
  refine va_get (D := (dC, dI)) (ci := 5) (v := .int (U11 5)) (C := RX7) (T := TX7) (N := 12) hx hb htX7 (fun _ h => h) hown hK hP 0 rfl rfl 7 (by decide) (hts _ u_864) (fun _ h9 => h9) rfl dX7_readsPart_18 ?_
  refine lv_if_eq (tgt := 45) hx hb dX7_readsPart_21 (by decide) (fun c_21 => ?_) (fun c_21 => ?_)
  · have hF := hF.trans (if_pos c_21)
    have hT11 : TX U11 := readsGuest_TX hT4 hU11
    refine lv_aload_n hx hb dX7_readsPart_45 rfl (lv_at hl 0 rfl) ?_
    refine lv_aload_n hx hb dX7_readsPart_46 rfl (lv_at hl 0 rfl) ?_
    refine lv_bipush (v := 64) hx hb dX7_readsPart_47 (by decide) ?_
    refine k_muti (Wd := (fun (v9 : (Nat → Int32)) => mW cI o q0 q1 f x v9 h)) (va_runV (As := [.int 64]) (rest := [.ref o]) ⟨hx, hb, hml, hown, hts0⟩ (mX7_takes l dC dI cI o q0 q1 f x U11 h 64 hT11) (cwV 1 hts0 (gi_V u_1064 u_1066 us_39 u_7 u_1067) rfl rfl rfl (by decide +kernel) ⟨Nat.le_of_ble_eq_true rfl, Nat.le_of_ble_eq_true rfl⟩) (pcM_V (ci := 5) (q0 := 0) hP hK hn hD rfl rfl) rfl rfl hl.1 rfl (lv_room (Nat.le_of_ble_eq_true rfl)) dX7_readsPart_49 ⟨Nat.zero_le _, Nat.zero_le _⟩) hP hD hS [0, 1, 2] rfl rfl (fun _ => rfl) (fun r49 U49 H locs hU49 hP hD hS => ?_)
    obtain ⟨hU49, br49⟩ := hU49
    have hP : va_P (dC, dI) vwCl (mW cI o q0 q1 f x U49 h) H := hP
    have hD : va_D A (mW cI o q0 q1 f x U49 h) := hD
    have hF := bd2_at hF hU49
    have hT49 : TX U49 := takes_TX hT11 (by decide) hU49
    have K52 : ∀ (v52_0 : Int32) (U52_1 : Nat → Int32), (v52_0, U52_1) = (if r49 = 0 then ((-1), U49) else (bd2 (fX7_readsOne x U49 48 51) (fun r60 U60 => (r60, U60)))) → ∀ (H : Heap) (locs : List Loc), va_P (dC, dI) vwCl (mW cI o q0 q1 f x U52_1 h) H → va_D A (mW cI o q0 q1 f x U52_1 h) → va_S A s.heap H locs → ∀ (ls : Array Slot), lv_has ls 1 [(0, .ref o)] → W p l e rmX7_readsPart s m args below meth c H locs 0 0 Q (F0 m 67 ls [.int v52_0, .ref o]) := by
      intro v52_0 U52_1 hz52 H locs hP hD hS ls hl
      have hz := hz52
      have hF := bd2_at hF hz
      refine va_put (D := (dC, dI)) (ci := 5) (v := .int v52_0) (ty := .int) (C := RX7) (T := TX7) (N := 12) hx hb htX7 (fun _ h => h) tyX7 tyX7_ok nmX7 hown hK hP hD hS 0 rfl rfl 9 (by decide) (hts _ u_866) (fun _ h9 => h9) rfl (by decide +kernel) rfl rfl (Nat.le_of_ble_eq_true rfl) dX7_readsPart_67 (fun H locs hP hD hS => ?_)
      have hP : va_P (dC, dI) vwCl (mW cI o q0 q1 f x (upd U52_1 7 v52_0) h) H := hP
      have hD : va_D A (mW cI o q0 q1 f x (upd U52_1 7 v52_0) h) := hD
      have hT67 : TX (upd U52_1 7 v52_0) := TX_upd (second_TX hT49 hz52) (by decide) (by decide)
      refine lv_aload_n hx hb dX7_readsPart_70 rfl (lv_at hl 0 rfl) ?_
      refine lv_aload_n hx hb dX7_readsPart_71 rfl (lv_at hl 0 rfl) ?_
      refine va_get (D := (dC, dI)) (ci := 5) (v := .int v52_0) (C := RX7) (T := TX7) (N := 12) hx hb htX7 (fun _ h => h) hown hK hP 0 rfl rfl 9 (by decide) (hts _ u_866) (fun _ h9 => h9) rfl dX7_readsPart_72 ?_
      refine lv_iconst (v := (-1)) hx hb dX7_readsPart_75 (by decide) ?_
      have K76 : ∀ (v76_0 : Int32) (U76_1 : Nat → Int32), (v76_0, U76_1) = (if v52_0 = (-1) then ((-1), upd U52_1 7 v52_0) else (bd2 (fX7_readsOne x (upd U52_1 7 v52_0) 97 104) (fun r84 U84 => (r84, U84)))) → ∀ (H : Heap) (locs : List Loc), va_P (dC, dI) vwCl (mW cI o q0 q1 f x U76_1 h) H → va_D A (mW cI o q0 q1 f x U76_1 h) → va_S A s.heap H locs → ∀ (ls : Array Slot), lv_has ls 1 [(0, .ref o)] → W p l e rmX7_readsPart s m args below meth c H locs 0 0 Q (F0 m 91 ls [.int v76_0, .ref o]) := by
        intro v76_0 U76_1 hz76 H locs hP hD hS ls hl
        have hz := hz76
        have hF := bd2_at hF hz
        refine va_put (D := (dC, dI)) (ci := 5) (v := .int v76_0) (ty := .int) (C := RX7) (T := TX7) (N := 12) hx hb htX7 (fun _ h => h) tyX7 tyX7_ok nmX7 hown hK hP hD hS 0 rfl rfl 10 (by decide) (hts _ u_867) (fun _ h9 => h9) rfl (by decide +kernel) rfl rfl (Nat.le_of_ble_eq_true rfl) dX7_readsPart_91 (fun H locs hP hD hS => ?_)
        have hP : va_P (dC, dI) vwCl (mW cI o q0 q1 f x (upd U76_1 8 v76_0) h) H := hP
        have hD : va_D A (mW cI o q0 q1 f x (upd U76_1 8 v76_0) h) := hD
        refine lv_aload_n hx hb dX7_readsPart_94 rfl (lv_at hl 0 rfl) ?_
        refine va_get (D := (dC, dI)) (ci := 5) (v := .int v76_0) (C := RX7) (T := TX7) (N := 12) hx hb htX7 (fun _ h => h) hown hK hP 0 rfl rfl 10 (by decide) (hts _ u_867) (fun _ h9 => h9) rfl dX7_readsPart_95 ?_
        refine lv_iconst (v := (-1)) hx hb dX7_readsPart_98 (by decide) ?_
        refine lv_icmp_eq (tgt := 106) hx hb dX7_readsPart_99 (by decide) (fun c_99 => ?_) (fun c_99 => ?_)
        · have hF := hF.trans (if_pos c_99)
          refine lv_iconst (v := 0) hx hb dX7_readsPart_106 (by decide) ?_
          rw [hQ]
          exact W.zret (ty := .boolean) (v := 0) hx hb hr rfl (fun t ht hW => ⟨⟨0, (upd U76_1 8 v76_0), rfl, ⟨hF.symm, Or.inl rfl⟩, toH ht hP⟩, hS.F ht⟩) hS.2.2 dX7_readsPart_107
        have hF := hF.trans (if_neg c_99)
        refine lv_iconst (v := 1) hx hb dX7_readsPart_102 (by decide) ?_
        refine lv_goto (tgt := 107) hx hb dX7_readsPart_103 (by decide) ?_
        rw [hQ]
        exact W.zret (ty := .boolean) (v := 1) hx hb hr rfl (fun t ht hW => ⟨⟨1, (upd U76_1 8 v76_0), rfl, ⟨hF.symm, Or.inr rfl⟩, toH ht hP⟩, hS.F ht⟩) hS.2.2 dX7_readsPart_107
      have hF : ((if v52_0 = (-1) then ((-1), upd U52_1 7 v52_0) else (bd2 (fX7_readsOne x (upd U52_1 7 v52_0) 97 104) (fun r84 U84 => (r84, U84)))) : Int32 × (Nat → Int32)) = (if v52_0 = (-1) then ((-1), upd U52_1 7 v52_0) else (bd2 (fX7_readsOne x (upd U52_1 7 v52_0) 97 104) (fun r84 U84 => (r84, U84)))) := rfl
      refine lv_icmp_eq (tgt := 90) hx hb dX7_readsPart_76 (by decide) (fun c_76 => ?_) (fun c_76 => ?_)
      · have hF := hF.trans (if_pos c_76)
        refine lv_iconst (v := (-1)) hx hb dX7_readsPart_90 (by decide) ?_
        exact K76 _ _ hF.symm _ _ hP hD hS  ls (lv_sub hl [0] rfl)
      have hF := hF.trans (if_neg c_76)
      refine lv_aload_n hx hb dX7_readsPart_79 rfl (lv_at hl 0 rfl) ?_
      refine lv_bipush (v := 97) hx hb dX7_readsPart_80 (by decide) ?_
      refine lv_bipush (v := 104) hx hb dX7_readsPart_82 (by decide) ?_
      refine k_muti (Wd := (fun (v9 : (Nat → Int32)) => mW cI o q0 q1 f x v9 h)) (va_runV (As := [.int 97, .int 104]) (rest := [.ref o]) ⟨hx, hb, hml, hown, hts0⟩ (mX7_readsOne l dC dI cI o q0 q1 f x (upd U52_1 7 v52_0) h 97 104 hT67) (cwV 2 hts0 (gi_V u_1076 u_1078 us_42 u_7 u_1079) rfl rfl rfl (by decide +kernel) ⟨Nat.le_of_ble_eq_true rfl, Nat.le_of_ble_eq_true rfl⟩) (pcM_V (ci := 5) (q0 := 0) hP hK hn hD rfl rfl) rfl rfl hl.1 rfl (lv_room (Nat.le_of_ble_eq_true rfl)) dX7_readsPart_84 ⟨Nat.zero_le _, Nat.zero_le _⟩) hP hD hS [0, 1, 2] rfl rfl (fun _ => rfl) (fun r84 U84 H locs hU84 hP hD hS => ?_)
      have hP : va_P (dC, dI) vwCl (mW cI o q0 q1 f x U84 h) H := hP
      have hD : va_D A (mW cI o q0 q1 f x U84 h) := hD
      have hF := bd2_at hF hU84
      refine lv_goto (tgt := 91) hx hb dX7_readsPart_87 (by decide) ?_
      exact K76 _ _ hF.symm _ _ hP hD hS  ls (lv_sub hl [0] rfl)
    have hF : ((if r49 = 0 then ((-1), U49) else (bd2 (fX7_readsOne x U49 48 51) (fun r60 U60 => (r60, U60)))) : Int32 × (Nat → Int32)) = (if r49 = 0 then ((-1), U49) else (bd2 (fX7_readsOne x U49 48 51) (fun r60 U60 => (r60, U60)))) := rfl
    refine lv_if_eq (tgt := 66) hx hb dX7_readsPart_52 (by decide) (fun c_52 => ?_) (fun c_52 => ?_)
    · have hF := hF.trans (if_pos c_52)
      refine lv_iconst (v := (-1)) hx hb dX7_readsPart_66 (by decide) ?_
      exact K52 _ _ hF.symm _ _ hP hD hS  ls (lv_sub hl [0] rfl)
    have hF := hF.trans (if_neg c_52)
    refine lv_aload_n hx hb dX7_readsPart_55 rfl (lv_at hl 0 rfl) ?_
    refine lv_bipush (v := 48) hx hb dX7_readsPart_56 (by decide) ?_
    refine lv_bipush (v := 51) hx hb dX7_readsPart_58 (by decide) ?_
    refine k_muti (Wd := (fun (v9 : (Nat → Int32)) => mW cI o q0 q1 f x v9 h)) (va_runV (As := [.int 48, .int 51]) (rest := [.ref o]) ⟨hx, hb, hml, hown, hts0⟩ (mX7_readsOne l dC dI cI o q0 q1 f x U49 h 48 51 hT49) (cwV 2 hts0 (gi_V u_1076 u_1078 us_42 u_7 u_1079) rfl rfl rfl (by decide +kernel) ⟨Nat.le_of_ble_eq_true rfl, Nat.le_of_ble_eq_true rfl⟩) (pcM_V (ci := 5) (q0 := 0) hP hK hn hD rfl rfl) rfl rfl hl.1 rfl (lv_room (Nat.le_of_ble_eq_true rfl)) dX7_readsPart_60 ⟨Nat.zero_le _, Nat.zero_le _⟩) hP hD hS [0, 1, 2] rfl rfl (fun _ => rfl) (fun r60 U60 H locs hU60 hP hD hS => ?_)
    have hP : va_P (dC, dI) vwCl (mW cI o q0 q1 f x U60 h) H := hP
    have hD : va_D A (mW cI o q0 q1 f x U60 h) := hD
    have hF := bd2_at hF hU60
    refine lv_goto (tgt := 67) hx hb dX7_readsPart_63 (by decide) ?_
    exact K52 _ _ hF.symm _ _ hP hD hS  ls (lv_sub hl [0] rfl)
  have hF := hF.trans (if_neg c_21)
  refine lv_aload_n hx hb dX7_readsPart_24 rfl (lv_at hl 0 rfl) ?_
  refine va_get (D := (dC, dI)) (ci := 5) (v := .int (U11 5)) (C := RX7) (T := TX7) (N := 12) hx hb htX7 (fun _ h => h) hown hK hP 0 rfl rfl 7 (by decide) (hts _ u_864) (fun _ h9 => h9) rfl dX7_readsPart_25 ?_
  refine lv_if_eq (tgt := 43) hx hb dX7_readsPart_28 (by decide) (fun c_28 => ?_) (fun c_28 => ?_)
  · have hF := hF.trans (if_pos c_28)
    refine lv_iconst (v := 0) hx hb dX7_readsPart_43 (by decide) ?_
    rw [hQ]
    exact W.zret (ty := .boolean) (v := 0) hx hb hr rfl (fun t ht hW => ⟨⟨0, U11, rfl, ⟨hF.symm, Or.inl rfl⟩, toH ht hP⟩, hS.F ht⟩) hS.2.2 dX7_readsPart_44
  have hF := hF.trans (if_neg c_28)
  refine lv_aload_n hx hb dX7_readsPart_31 rfl (lv_at hl 0 rfl) ?_
  refine va_get (D := (dC, dI)) (ci := 5) (v := .int (U11 6)) (C := RX7) (T := TX7) (N := 12) hx hb htX7 (fun _ h => h) hown hK hP 0 rfl rfl 8 (by decide) (hts _ u_865) (fun _ h9 => h9) rfl dX7_readsPart_32 ?_
  refine lv_iconst (v := (-1)) hx hb dX7_readsPart_35 (by decide) ?_
  refine lv_icmp_eq (tgt := 43) hx hb dX7_readsPart_36 (by decide) (fun c_36 => ?_) (fun c_36 => ?_)
  · have hF := hF.trans (if_pos c_36)
    refine lv_iconst (v := 0) hx hb dX7_readsPart_43 (by decide) ?_
    rw [hQ]
    exact W.zret (ty := .boolean) (v := 0) hx hb hr rfl (fun t ht hW => ⟨⟨0, U11, rfl, ⟨hF.symm, Or.inl rfl⟩, toH ht hP⟩, hS.F ht⟩) hS.2.2 dX7_readsPart_44
  have hF := hF.trans (if_neg c_36)
  refine lv_iconst (v := 1) hx hb dX7_readsPart_39 (by decide) ?_
  refine lv_goto (tgt := 44) hx hb dX7_readsPart_40 (by decide) ?_
  rw [hQ]
  exact W.zret (ty := .boolean) (v := 1) hx hb hr rfl (fun t ht hW => ⟨⟨1, U11, rfl, ⟨hF.symm, Or.inr rfl⟩, toH ht hP⟩, hS.F ht⟩) hS.2.2 dX7_readsPart_44
