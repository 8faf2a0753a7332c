def fX7_readsGuest (x : Nat → Int32) (M : Nat → Int32) : Int32 × ((Nat → Int32)) :=
  (bd2 (fX7_readsOne x M 48 57) (fun r6 U6 => (bd ((if r6 = 1 then (if (fX7_in (fX7_sign x (upd U6 6 r6)) 48 53) = 0 then upd U6 6 r6 else (bd2 (fX7_readsOne x (upd U6 6 r6) 48 53) (fun r42 U42 => upd U42 6 (10 + r42)))) else upd U6 6 r6) : (Nat → Int32)) (fun U17_0 => (if (U17_0 6) = (-1) then (0, U17_0) else (1, U17_0))))))
abbrev rmX7_readsGuest : Room := { frames := 2, cells := 0, slots := 0, locals := 45 }
set_option maxHeartbeats 4000000 in
set_option maxRecDepth 100000 in
theorem mX7_readsGuest (l : Launch) (dC : Nat → ClassId) (dI : Nat → Nat → Nat) (cI : ClassId) (o q0 q1 : Nat) (f x M : Nat → Int32) (h : Int64) (hTX : TX M) : Met l yX7_readsGuest (ws_ yX7_readsGuest cX7_readsGuest 1 (some .boolean)) rmX7_readsGuest (pcM (dC, dI) [(cI, .int)] (mW cI o q0 q1 f x M h) [.ref o]) (va_Qi (fun (r9 : Int32) (u9 : (Nat → Int32)) => (r9, u9) = fX7_readsGuest x M ∧ (r9 = 0 ∨ r9 = 1)) (fun u9 t => va_P (dC, dI) vwCl ((fun (v9 : (Nat → Int32)) => mW cI o q0 q1 f x v9 h) u9) t.heap) (adr (mW cI o q0 q1 f x M h))) 0 0 (adr (mW cI o q0 q1 f x M h)) := by
  refine Met.ofW (cc := cX7_readsGuest) (maxL := 1) (ret := (some .boolean)) (by decide) rfl ?_
  intro p e s m args below meth c s₁ B hml hv
  obtain ⟨ha, hP, hK, hn, hD0⟩ := hv
  have hx := B.exec
  have hb := B.bytes
  have hr := B.returns
  have hts0 := atoms_spec (ws := (ws_ yX7_readsGuest cX7_readsGuest 1 (some .boolean))) B.pre
  have hts : ∀ w ∈ lw_all, w.before args s = true := fun w h => hts0 w (List.mem_cons_of_mem _ h)
  have hown : s.vm.findClass RX7 = some m.cls := findClass_of_methodNamed B.named
  have hlocks := B.notSynchronized
  have htX7 : ∀ w ∈ wsX70, w.before args s = true := fun w h => hts w (wX7 w h)
  have hD := adr_self hD0
  obtain ⟨A, hA⟩ : ∃ A, A = adr (mW cI o q0 q1 f x M h) := ⟨_, rfl⟩
  rw [← hA] at hD
  have hS : va_S A s.heap s.heap [] := va_S.rf
  obtain ⟨Q, hQ⟩ : ∃ Q, Q = MQ below (va_Qi (fun (r9 : Int32) (u9 : (Nat → Int32)) => (r9, u9) = fX7_readsGuest x M ∧ (r9 = 0 ∨ r9 = 1)) (fun u9 t => va_P (dC, dI) vwCl ((fun (v9 : (Nat → Int32)) => mW cI o q0 q1 f x v9 h) u9) t.heap) (adr (mW cI o q0 q1 f x M h))) args s 0 0 (adr (mW cI o q0 q1 f x M h)) := ⟨_, rfl⟩
  rw [← hQ]
  rw [← hA] at hQ
  have hl := lv_entry ([.ref o]) (n := 1) (Nat.le_of_ble_eq_true rfl)
  rw [ha, lg_entry_eq, ← ha]
  generalize (lg_sl ([.ref o]) ++ List.replicate (1 - (lg_sl ([.ref o])).length) Slot.unset).toArray = ls at hl ⊢
  have hl : lv_has ls 1 [(0, .ref o)] := hl
  show W p l e rmX7_readsGuest s m args below meth c s.heap [] 0 0 Q (F0 m 0 ls [])
  have hF : fX7_readsGuest x M = fX7_readsGuest x M := rfl
  refine lv_aload_n hx hb dX7_readsGuest_0 rfl (lv_at hl 0 rfl) ?_
  refine lv_aload_n hx hb dX7_readsGuest_1 rfl (lv_at hl 0 rfl) ?_
  refine lv_bipush (v := 48) hx hb dX7_readsGuest_2 (by decide) ?_
  refine lv_bipush (v := 57) hx hb dX7_readsGuest_4 (by decide) ?_
  refine k_muti (Wd := (fun (v9 : (Nat → Int32)) => mW cI o q0 q1 f x v9 h)) (va_runV (As := [.int 48, .int 57]) (rest := [.ref o]) ⟨hx, hb, hml, hown, hts0⟩ (mX7_readsOne l dC dI cI o q0 q1 f x M h 48 57 (by first | omega | assumption)) (cwV 2 hts0 (gi_V u_1076 u_1078 us_42 u_7 u_1079) rfl rfl rfl (by decide +kernel) ⟨Nat.le_of_ble_eq_true rfl, Nat.le_of_ble_eq_true rfl⟩) (pcM_V (ci := 5) (q0 := 0) hP hK hn hD rfl rfl) rfl rfl hl.1 rfl (lv_room (Nat.le_of_ble_eq_true rfl)) dX7_readsGuest_6 ⟨Nat.zero_le _, Nat.zero_le _⟩) hP hD hS [0, 1, 2] rfl rfl (fun _ => rfl) (fun r6 U6 H locs hU6 hP hD hS => ?_)
  have hP : va_P (dC, dI) vwCl (mW cI o q0 q1 f x U6 h) H := hP
  have hD : va_D A (mW cI o q0 q1 f x U6 h) := hD
  have hF := bd2_at hF hU6
  refine va_put (D := (dC, dI)) (ci := 5) (v := .int r6) (ty := .int) (C := RX7) (T := TX7) (N := 12) hx hb htX7 (fun _ h => h) tyX7 tyX7_ok nmX7 hown hK hP hD hS 0 rfl rfl 8 (by decide) (hts _ u_865) (fun _ h9 => h9) rfl (by decide +kernel) rfl rfl (Nat.le_of_ble_eq_true rfl) dX7_readsGuest_9 (fun H locs hP hD hS => ?_)
  have hP : va_P (dC, dI) vwCl (mW cI o q0 q1 f x (upd U6 6 r6) h) H := hP
  have hD : va_D A (mW cI o q0 q1 f x (upd U6 6 r6) h) := hD
  refine lv_aload_n hx hb dX7_readsGuest_12 rfl (lv_at hl 0 rfl) ?_
  refine va_get (D := (dC, dI)) (ci := 5) (v := .int r6) (C := RX7) (T := TX7) (N := 12) hx hb htX7 (fun _ h => h) hown hK hP 0 rfl rfl 8 (by decide) (hts _ u_865) (fun _ h9 => h9) rfl dX7_readsGuest_13 ?_
  refine lv_iconst (v := 1) hx hb dX7_readsGuest_16 (by decide) ?_
  have K17 : ∀ (U17_0 : Nat → Int32), U17_0 = (if r6 = 1 then (if (fX7_in (fX7_sign x (upd U6 6 r6)) 48 53) = 0 then upd U6 6 r6 else (bd2 (fX7_readsOne x (upd U6 6 r6) 48 53) (fun r42 U42 => upd U42 6 (10 + r42)))) else upd U6 6 r6) → ∀ (H : Heap) (locs : List Loc), va_P (dC, dI) vwCl (mW cI o q0 q1 f x U17_0 h) H → va_D A (mW cI o q0 q1 f x U17_0 h) → va_S A s.heap H locs → ∀ (ls : Array Slot), lv_has ls 1 [(0, .ref o)] → W p l e rmX7_readsGuest s m args below meth c H locs 0 0 Q (F0 m 49 ls []) := by
    intro U17_0 hz17 H locs hP hD hS ls hl
    have hz := hz17
    have hF := bd_at hF hz
    refine lv_aload_n hx hb dX7_readsGuest_49 rfl (lv_at hl 0 rfl) ?_
    refine va_get (D := (dC, dI)) (ci := 5) (v := .int (U17_0 6)) (C := RX7) (T := TX7) (N := 12) hx hb htX7 (fun _ h => h) hown hK hP 0 rfl rfl 8 (by decide) (hts _ u_865) (fun _ h9 => h9) rfl dX7_readsGuest_50 ?_
    refine lv_iconst (v := (-1)) hx hb dX7_readsGuest_53 (by decide) ?_
    refine lv_icmp_eq (tgt := 61) hx hb dX7_readsGuest_54 (by decide) (fun c_54 => ?_) (fun c_54 => ?_)
    · have hF := hF.trans (if_pos c_54)
      refine lv_iconst (v := 0) hx hb dX7_readsGuest_61 (by decide) ?_
      rw [hQ]
      exact W.zret (ty := .boolean) (v := 0) hx hb hr rfl (fun t ht hW => ⟨⟨0, U17_0, rfl, ⟨hF.symm, Or.inl rfl⟩, toH ht hP⟩, hS.F ht⟩) hS.2.2 dX7_readsGuest_62
    have hF := hF.trans (if_neg c_54)
    refine lv_iconst (v := 1) hx hb dX7_readsGuest_57 (by decide) ?_
    refine lv_goto (tgt := 62) hx hb dX7_readsGuest_58 (by decide) ?_
    rw [hQ]
    exact W.zret (ty := .boolean) (v := 1) hx hb hr rfl (fun t ht hW => ⟨⟨1, U17_0, rfl, ⟨hF.symm, Or.inr rfl⟩, toH ht hP⟩, hS.F ht⟩) hS.2.2 dX7_readsGuest_62
  have hF : ((if r6 = 1 then (if (fX7_in (fX7_sign x (upd U6 6 r6)) 48 53) = 0 then upd U6 6 r6 else (bd2 (fX7_readsOne x (upd U6 6 r6) 48 53) (fun r42 U42 => upd U42 6 (10 + r42)))) else upd U6 6 r6) : (Nat → Int32)) = (if r6 = 1 then (if (fX7_in (fX7_sign x (upd U6 6 r6)) 48 53) = 0 then upd U6 6 r6 else (bd2 (fX7_readsOne x (upd U6 6 r6) 48 53) (fun r42 U42 => upd U42 6 (10 + r42)))) else upd U6 6 r6) := rfl
  refine lv_icmp_ne (tgt := 49) hx hb dX7_readsGuest_17 (by decide) (fun c_17 => ?_) (fun c_17 => ?_)
  · have hF := hF.trans (if_neg c_17)
    exact K17 _ hF.symm _ _ hP hD hS  ls (lv_sub hl [0] rfl)
  have hF := hF.trans (if_pos c_17)
  have hT6 : TX (upd U6 6 r6) := TX_upd (readsOne_TX hTX hU6) (by decide) (by decide)
  refine lv_aload_n hx hb dX7_readsGuest_20 rfl (lv_at hl 0 rfl) ?_
  refine k_calli (W.runV (As := []) (rest := []) ⟨hx, hb, hml, hown, hts0⟩ (mX7_sign l dC dI cI o q0 q1 f x (upd U6 6 r6) h  hT6) (cwV 0 hts0 (gi_V u_1068 u_1070 us_40 u_7 u_1071) rfl rfl rfl (by decide +kernel) ⟨Nat.le_of_ble_eq_true rfl, Nat.le_of_ble_eq_true rfl⟩) (pcR_V (ci := 5) (q0 := 0) hP hK hn rfl rfl) rfl rfl hl.1 rfl (lv_room (Nat.le_of_ble_eq_true rfl)) dX7_readsGuest_21 ⟨Nat.zero_le _, Nat.zero_le _⟩) ?_
  refine lv_bipush (v := 48) hx hb dX7_readsGuest_24 (by decide) ?_
  refine lv_bipush (v := 53) hx hb dX7_readsGuest_26 (by decide) ?_
  refine k_callb (W.runS (As := [.int (fX7_sign x (upd U6 6 r6)), .int 48, .int 53]) (rest := []) ⟨hx, hb, hml, hown, hts0⟩ (mX7_in l dC dI  (fX7_sign x (upd U6 6 r6)) 48 53) (va_cwS 3 hts0 (gi_S u_905 u_906 u_7 u_907) rfl rfl rfl (by decide +kernel) ⟨Nat.le_of_ble_eq_true rfl, Nat.le_of_ble_eq_true rfl⟩) (pcR_S (hP.sub (ws' := []) [] rfl) (hK.sub (tys' := []) [] rfl) hn) rfl rfl hl.1 rfl (lv_room (Nat.le_of_ble_eq_true rfl)) dX7_readsGuest_28 ⟨Nat.zero_le _, Nat.zero_le _⟩) (fun br28 => ?_)
  refine lv_if_eq (tgt := 49) hx hb dX7_readsGuest_31 (by decide) (fun c_31 => ?_) (fun c_31 => ?_)
  · have hF := hF.trans (if_pos c_31)
    exact K17 _ hF.symm _ _ hP hD hS  ls (lv_sub hl [0] rfl)
  have hF := hF.trans (if_neg c_31)
  refine lv_aload_n hx hb dX7_readsGuest_34 rfl (lv_at hl 0 rfl) ?_
  refine lv_bipush (v := 10) hx hb dX7_readsGuest_35 (by decide) ?_
  refine lv_aload_n hx hb dX7_readsGuest_37 rfl (lv_at hl 0 rfl) ?_
  refine lv_bipush (v := 48) hx hb dX7_readsGuest_38 (by decide) ?_
  refine lv_bipush (v := 53) hx hb dX7_readsGuest_40 (by decide) ?_
  refine k_muti (Wd := (fun (v9 : (Nat → Int32)) => mW cI o q0 q1 f x v9 h)) (va_runV (As := [.int 48, .int 53]) (rest := [.int 10, .ref o]) ⟨hx, hb, hml, hown, hts0⟩ (mX7_readsOne l dC dI cI o q0 q1 f x (upd U6 6 r6) h 48 53 hT6) (cwV 2 hts0 (gi_V u_1076 u_1078 us_42 u_7 u_1079) rfl rfl rfl (by decide +kernel) ⟨Nat.le_of_ble_eq_true rfl, Nat.le_of_ble_eq_true rfl⟩) (pcM_V (ci := 5) (q0 := 0) hP hK hn hD rfl rfl) rfl rfl hl.1 rfl (lv_room (Nat.le_of_ble_eq_true rfl)) dX7_readsGuest_42 ⟨Nat.zero_le _, Nat.zero_le _⟩) hP hD hS [0, 1, 2] rfl rfl (fun _ => rfl) (fun r42 U42 H locs hU42 hP hD hS => ?_)
  have hP : va_P (dC, dI) vwCl (mW cI o q0 q1 f x U42 h) H := hP
  have hD : va_D A (mW cI o q0 q1 f x U42 h) := hD
  have hF := bd2_at hF hU42
  refine lv_iadd hx hb dX7_readsGuest_45 ?_
  refine va_put (D := (dC, dI)) (ci := 5) (v := .int (10 + r42)) (ty := .int) (C := RX7) (T := TX7) (N := 12) hx hb htX7 (fun _ h => h) tyX7 tyX7_ok nmX7 hown hK hP hD hS 0 rfl rfl 8 (by decide) (hts _ u_865) (fun _ h9 => h9) rfl (by decide +kernel) rfl rfl (Nat.le_of_ble_eq_true rfl) dX7_readsGuest_46 (fun H locs hP hD hS => ?_)
  have hP : va_P (dC, dI) vwCl (mW cI o q0 q1 f x (upd U42 6 (10 + r42)) h) H := hP
  have hD : va_D A (mW cI o q0 q1 f x (upd U42 6 (10 + r42)) h) := hD
  exact K17 _ hF.symm _ _ hP hD hS  ls (lv_sub hl [0] rfl)
