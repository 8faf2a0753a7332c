def fX2_addGuest (P : PV) (a : Int32) (b : Int32) : Int32 × (PV) :=
  (bd (fX3_put 16 (P 0) (P 10 0) a) (fun U11 => (bd (fX3_put 16 (P 1) (P 10 0) b) (fun U20 => (bd (fX3_put 16 (P 2) (P 10 0) (-1)) (fun U29 => (bd (fX3_put 16 (P 3) (P 10 0) (-1)) (fun U38 => (bd (fX3_put 16 (P 4) (P 10 0) (-1)) (fun U47 => ((P 10 0), (sset (rset (rset (rset (rset (rset P 0 U11) 1 U20) 2 U29) 3 U38) 4 U47) 0 ((P 10 0) + 1)))))))))))))
abbrev rmX2_addGuest : Room := { frames := 1, cells := 0, slots := 0, locals := 22 }
set_option maxHeartbeats 4000000 in
set_option maxRecDepth 100000 in
theorem mX2_addGuest (l : Launch) (dC : Nat → ClassId) (dI : Nat → Nat → Nat) (cI : ClassId) (ad : Nat → Nat) (P : PV) (a : Int32) (b : Int32) : Met l yX2_addGuest (ws_ yX2_addGuest cX2_addGuest 4 (some .int)) rmX2_addGuest (pcM (dC, dI) [(cI, .int)] (pW cI ad P) [.ref (ad 0), .int a, .int b]) (va_Qi (fun (r9 : Int32) (u9 : PV) => (r9, u9) = fX2_addGuest P a b) (fun u9 t => va_P (dC, dI) vwCl ((fun (v : PV) => pW cI ad v) u9) t.heap) (adr (pW cI ad P))) 0 0 (adr (pW cI ad P)) := by
  refine Met.ofW (cc := cX2_addGuest) (maxL := 4) (ret := (some .int)) (by decide) rfl ?_
  intro p e s m args below meth c s₁ B hml hv
  obtain ⟨ha, hP, hK, hn, hD0⟩ := hv
  have hx := B.exec
  have hb := B.bytes
  have hr := B.returns
  have hts0 := atoms_spec (ws := (ws_ yX2_addGuest cX2_addGuest 4 (some .int))) B.pre
  have hts : ∀ w ∈ lw_all, w.before args s = true := fun w h => hts0 w (List.mem_cons_of_mem _ h)
  have hown : s.vm.findClass RX2 = some m.cls := findClass_of_methodNamed B.named
  have hlocks := B.notSynchronized
  have htX2 : ∀ w ∈ wsX20, w.before args s = true := fun w h => hts w (wX2 w h)
  have hD := adr_self hD0
  obtain ⟨A, hA⟩ : ∃ A, A = adr (pW cI ad P) := ⟨_, rfl⟩
  rw [← hA] at hD
  have hS : va_S A s.heap s.heap [] := va_S.rf
  obtain ⟨Q, hQ⟩ : ∃ Q, Q = MQ below (va_Qi (fun (r9 : Int32) (u9 : PV) => (r9, u9) = fX2_addGuest P a b) (fun u9 t => va_P (dC, dI) vwCl ((fun (v : PV) => pW cI ad v) u9) t.heap) (adr (pW cI ad P))) args s 0 0 (adr (pW cI ad P)) := ⟨_, rfl⟩
  rw [← hQ]
  rw [← hA] at hQ
  have hl := lv_entry ([.ref (ad 0), .int a, .int b]) (n := 4) (Nat.le_of_ble_eq_true rfl)
  rw [ha, lg_entry_eq, ← ha]
  generalize (lg_sl ([.ref (ad 0), .int a, .int b]) ++ List.replicate (4 - (lg_sl ([.ref (ad 0), .int a, .int b])).length) Slot.unset).toArray = ls at hl ⊢
  have hl : lv_has ls 4 [(0, .ref (ad 0)), (1, .int a), (2, .int b)] := hl
  show W p l e rmX2_addGuest s m args below meth c s.heap [] 0 0 Q (F0 m 0 ls [])
  have hF : fX2_addGuest P a b = fX2_addGuest P a b := rfl
  refine lv_aload_n hx hb dX2_addGuest_0 rfl (lv_at hl 0 rfl) ?_
  refine va_get (D := (dC, dI)) (ci := 2) (v := .int (P 10 0)) (C := RX2) (T := TX2) (N := 14) hx hb htX2 (fun _ h => h) hown hK hP 0 rfl rfl 10 (by decide) (hts _ u_73) (fun _ h9 => h9) rfl dX2_addGuest_1 ?_
  refine lv_istore_n (lv' := [(3, .int (P 10 0)), (0, .ref (ad 0)), (1, .int a), (2, .int b)]) hx hb dX2_addGuest_4 rfl hl (by decide) rfl (fun ls hl => ?_)
  refine lv_aload_n hx hb dX2_addGuest_5 rfl (lv_at hl 1 rfl) ?_
  refine va_get (D := (dC, dI)) (ci := 2) (v := .ref (ad 1)) (C := RX2) (T := TX2) (N := 14) hx hb htX2 (fun _ h => h) hown hK hP 0 rfl rfl 0 (by decide) (hts _ u_48) (fun _ h9 => h9) rfl dX2_addGuest_6 ?_
  refine lv_iload_n hx hb dX2_addGuest_9 rfl (lv_at hl 0 rfl) ?_
  refine lv_iload_n hx hb dX2_addGuest_10 rfl (lv_at hl 2 rfl) ?_
  refine k_mutv (Wd := (fun (v : Nat → Int32) => aW cI (ad 1) 16 v)) (va_runS (As := [.ref (ad 1), .int (P 10 0), .int a]) (rest := []) ⟨hx, hb, hml, hown, hts0⟩ (mX3_put l dC dI cI (ad 1) 16 (by decide) (P 0) (P 10 0) a) (va_cwS 3 hts0 (gi_S u_459 u_460 u_7 u_461) rfl rfl rfl (by decide +kernel) ⟨Nat.le_of_ble_eq_true rfl, Nat.le_of_ble_eq_true rfl⟩) (pcM_S (hP.sub (ws' := aW cI (ad 1) 16 (P 0)) [1] rfl) hK hn (hD.sub (ws' := aW cI (ad 1) 16 (P 0)) [1] (by decide) rfl)) rfl rfl hl.1 rfl (lv_room (Nat.le_of_ble_eq_true rfl)) dX2_addGuest_11 ⟨Nat.zero_le _, Nat.zero_le _⟩) hP hD hS [1] rfl rfl (fun _ => rfl) (fun U11 H locs hU11 hP hD hS => ?_)
  have hP : va_P (dC, dI) vwCl (pW cI ad (rset P 0 U11)) H := hP
  have hD : va_D A (pW cI ad (rset P 0 U11)) := hD
  have hF := bd_at hF hU11
  refine lv_aload_n hx hb dX2_addGuest_14 rfl (lv_at hl 1 rfl) ?_
  refine va_get (D := (dC, dI)) (ci := 2) (v := .ref (ad 2)) (C := RX2) (T := TX2) (N := 14) hx hb htX2 (fun _ h => h) hown hK hP 0 rfl rfl 1 (by decide) (hts _ u_50) (fun _ h9 => h9) rfl dX2_addGuest_15 ?_
  refine lv_iload_n hx hb dX2_addGuest_18 rfl (lv_at hl 0 rfl) ?_
  refine lv_iload_n hx hb dX2_addGuest_19 rfl (lv_at hl 3 rfl) ?_
  refine k_mutv (Wd := (fun (v : Nat → Int32) => aW cI (ad 2) 16 v)) (va_runS (As := [.ref (ad 2), .int (P 10 0), .int b]) (rest := []) ⟨hx, hb, hml, hown, hts0⟩ (mX3_put l dC dI cI (ad 2) 16 (by decide) (P 1) (P 10 0) b) (va_cwS 3 hts0 (gi_S u_459 u_460 u_7 u_461) rfl rfl rfl (by decide +kernel) ⟨Nat.le_of_ble_eq_true rfl, Nat.le_of_ble_eq_true rfl⟩) (pcM_S (hP.sub (ws' := aW cI (ad 2) 16 (P 1)) [2] rfl) hK hn (hD.sub (ws' := aW cI (ad 2) 16 (P 1)) [2] (by decide) rfl)) rfl rfl hl.1 rfl (lv_room (Nat.le_of_ble_eq_true rfl)) dX2_addGuest_20 ⟨Nat.zero_le _, Nat.zero_le _⟩) hP hD hS [2] rfl rfl (fun _ => rfl) (fun U20 H locs hU20 hP hD hS => ?_)
  have hP : va_P (dC, dI) vwCl (pW cI ad (rset (rset P 0 U11) 1 U20)) H := hP
  have hD : va_D A (pW cI ad (rset (rset P 0 U11) 1 U20)) := hD
  have hF := bd_at hF hU20
  refine lv_aload_n hx hb dX2_addGuest_23 rfl (lv_at hl 1 rfl) ?_
  refine va_get (D := (dC, dI)) (ci := 2) (v := .ref (ad 3)) (C := RX2) (T := TX2) (N := 14) hx hb htX2 (fun _ h => h) hown hK hP 0 rfl rfl 2 (by decide) (hts _ u_53) (fun _ h9 => h9) rfl dX2_addGuest_24 ?_
  refine lv_iload_n hx hb dX2_addGuest_27 rfl (lv_at hl 0 rfl) ?_
  refine lv_iconst (v := (-1)) hx hb dX2_addGuest_28 (by decide) ?_
  refine k_mutv (Wd := (fun (v : Nat → Int32) => aW cI (ad 3) 16 v)) (va_runS (As := [.ref (ad 3), .int (P 10 0), .int (-1)]) (rest := []) ⟨hx, hb, hml, hown, hts0⟩ (mX3_put l dC dI cI (ad 3) 16 (by decide) (P 2) (P 10 0) (-1)) (va_cwS 3 hts0 (gi_S u_459 u_460 u_7 u_461) rfl rfl rfl (by decide +kernel) ⟨Nat.le_of_ble_eq_true rfl, Nat.le_of_ble_eq_true rfl⟩) (pcM_S (hP.sub (ws' := aW cI (ad 3) 16 (P 2)) [3] rfl) hK hn (hD.sub (ws' := aW cI (ad 3) 16 (P 2)) [3] (by decide) rfl)) rfl rfl hl.1 rfl (lv_room (Nat.le_of_ble_eq_true rfl)) dX2_addGuest_29 ⟨Nat.zero_le _, Nat.zero_le _⟩) hP hD hS [3] rfl rfl (fun _ => rfl) (fun U29 H locs hU29 hP hD hS => ?_)
  have hP : va_P (dC, dI) vwCl (pW cI ad (rset (rset (rset P 0 U11) 1 U20) 2 U29)) H := hP
  have hD : va_D A (pW cI ad (rset (rset (rset P 0 U11) 1 U20) 2 U29)) := hD
  have hF := bd_at hF hU29
  refine lv_aload_n hx hb dX2_addGuest_32 rfl (lv_at hl 1 rfl) ?_
  refine va_get (D := (dC, dI)) (ci := 2) (v := .ref (ad 4)) (C := RX2) (T := TX2) (N := 14) hx hb htX2 (fun _ h => h) hown hK hP 0 rfl rfl 3 (by decide) (hts _ u_56) (fun _ h9 => h9) rfl dX2_addGuest_33 ?_
  refine lv_iload_n hx hb dX2_addGuest_36 rfl (lv_at hl 0 rfl) ?_
  refine lv_iconst (v := (-1)) hx hb dX2_addGuest_37 (by decide) ?_
  refine k_mutv (Wd := (fun (v : Nat → Int32) => aW cI (ad 4) 16 v)) (va_runS (As := [.ref (ad 4), .int (P 10 0), .int (-1)]) (rest := []) ⟨hx, hb, hml, hown, hts0⟩ (mX3_put l dC dI cI (ad 4) 16 (by decide) (P 3) (P 10 0) (-1)) (va_cwS 3 hts0 (gi_S u_459 u_460 u_7 u_461) rfl rfl rfl (by decide +kernel) ⟨Nat.le_of_ble_eq_true rfl, Nat.le_of_ble_eq_true rfl⟩) (pcM_S (hP.sub (ws' := aW cI (ad 4) 16 (P 3)) [4] rfl) hK hn (hD.sub (ws' := aW cI (ad 4) 16 (P 3)) [4] (by decide) rfl)) rfl rfl hl.1 rfl (lv_room (Nat.le_of_ble_eq_true rfl)) dX2_addGuest_38 ⟨Nat.zero_le _, Nat.zero_le _⟩) hP hD hS [4] rfl rfl (fun _ => rfl) (fun U38 H locs hU38 hP hD hS => ?_)
  have hP : va_P (dC, dI) vwCl (pW cI ad (rset (rset (rset (rset P 0 U11) 1 U20) 2 U29) 3 U38)) H := hP
  have hD : va_D A (pW cI ad (rset (rset (rset (rset P 0 U11) 1 U20) 2 U29) 3 U38)) := hD
  have hF := bd_at hF hU38
  refine lv_aload_n hx hb dX2_addGuest_41 rfl (lv_at hl 1 rfl) ?_
  refine va_get (D := (dC, dI)) (ci := 2) (v := .ref (ad 5)) (C := RX2) (T := TX2) (N := 14) hx hb htX2 (fun _ h => h) hown hK hP 0 rfl rfl 4 (by decide) (hts _ u_59) (fun _ h9 => h9) rfl dX2_addGuest_42 ?_
  refine lv_iload_n hx hb dX2_addGuest_45 rfl (lv_at hl 0 rfl) ?_
  refine lv_iconst (v := (-1)) hx hb dX2_addGuest_46 (by decide) ?_
  refine k_mutv (Wd := (fun (v : Nat → Int32) => aW cI (ad 5) 16 v)) (va_runS (As := [.ref (ad 5), .int (P 10 0), .int (-1)]) (rest := []) ⟨hx, hb, hml, hown, hts0⟩ (mX3_put l dC dI cI (ad 5) 16 (by decide) (P 4) (P 10 0) (-1)) (va_cwS 3 hts0 (gi_S u_459 u_460 u_7 u_461) rfl rfl rfl (by decide +kernel) ⟨Nat.le_of_ble_eq_true rfl, Nat.le_of_ble_eq_true rfl⟩) (pcM_S (hP.sub (ws' := aW cI (ad 5) 16 (P 4)) [5] rfl) hK hn (hD.sub (ws' := aW cI (ad 5) 16 (P 4)) [5] (by decide) rfl)) rfl rfl hl.1 rfl (lv_room (Nat.le_of_ble_eq_true rfl)) dX2_addGuest_47 ⟨Nat.zero_le _, Nat.zero_le _⟩) hP hD hS [5] rfl rfl (fun _ => rfl) (fun U47 H locs hU47 hP hD hS => ?_)
  have hP : va_P (dC, dI) vwCl (pW cI ad (rset (rset (rset (rset (rset P 0 U11) 1 U20) 2 U29) 3 U38) 4 U47)) H := hP
  have hD : va_D A (pW cI ad (rset (rset (rset (rset (rset P 0 U11) 1 U20) 2 U29) 3 U38) 4 U47)) := hD
  have hF := bd_at hF hU47
  refine lv_aload_n hx hb dX2_addGuest_50 rfl (lv_at hl 1 rfl) ?_
  refine lv_dup hx hb dX2_addGuest_51 rfl ?_
  refine va_get (D := (dC, dI)) (ci := 2) (v := .int (P 10 0)) (C := RX2) (T := TX2) (N := 14) hx hb htX2 (fun _ h => h) hown hK hP 0 rfl rfl 10 (by decide) (hts _ u_73) (fun _ h9 => h9) rfl dX2_addGuest_52 ?_
  refine lv_iconst (v := 1) hx hb dX2_addGuest_55 (by decide) ?_
  refine lv_iadd hx hb dX2_addGuest_56 ?_
  refine va_put (D := (dC, dI)) (ci := 2) (v := .int ((P 10 0) + 1)) (ty := .int) (C := RX2) (T := TX2) (N := 14) hx hb htX2 (fun _ h => h) tyX2 tyX2_ok nmX2 hown hK hP hD hS 0 rfl rfl 10 (by decide) (hts _ u_73) (fun _ h9 => h9) rfl (by decide +kernel) rfl rfl (Nat.le_of_ble_eq_true rfl) dX2_addGuest_57 (fun H locs hP hD hS => ?_)
  have hP : va_P (dC, dI) vwCl (pW cI ad (sset (rset (rset (rset (rset (rset P 0 U11) 1 U20) 2 U29) 3 U38) 4 U47) 0 ((P 10 0) + 1))) H := hP
  have hD : va_D A (pW cI ad (sset (rset (rset (rset (rset (rset P 0 U11) 1 U20) 2 U29) 3 U38) 4 U47) 0 ((P 10 0) + 1))) := hD
  refine lv_iload_n hx hb dX2_addGuest_60 rfl (lv_at hl 0 rfl) ?_
  rw [hQ]
  exact W.iret (v := (P 10 0)) hx hb hr (fun t ht hW => ⟨⟨(P 10 0), (sset (rset (rset (rset (rset (rset P 0 U11) 1 U20) 2 U29) 3 U38) 4 U47) 0 ((P 10 0) + 1)), rfl, hF.symm, toH ht hP⟩, hS.F ht⟩) hS.2.2 dX2_addGuest_61

def fX2_addTable_b16 (P : PV) (kk16 : Nat) (U16_0 : PV) (nextkk16 : PV → (Int32 × (PV))) : Int32 × (PV) :=
  (bd (fX3_put 32 (U16_0 6) (((P 10 1) * 8) + (nI kk16)) (-1)) (fun U33 => (nextkk16 (rset U16_0 6 U33))))
def fX2_addTable_r16 (P : PV) (U16_0 : PV) : Int32 × (PV) :=
  ((P 10 1), (sset U16_0 1 ((U16_0 10 1) + 1)))
def fX2_addTable (P : PV) (n5 : Int32) : Int32 × (PV) :=
  (bd (fX3_put 4 (P 5) (P 10 1) n5) (fun U11 => (lq1 (fX2_addTable_b16 P) (fX2_addTable_r16 P) ((8 : Int32).toNatClampNeg) 0 (rset P 5 U11))))
abbrev rmX2_addTable : Room := { frames := 1, cells := 0, slots := 0, locals := 22 }
set_option maxHeartbeats 4000000 in
set_option maxRecDepth 100000 in
theorem mX2_addTable (l : Launch) (dC : Nat → ClassId) (dI : Nat → Nat → Nat) (cI : ClassId) (ad : Nat → Nat) (P : PV) (n5 : Int32) : Met l yX2_addTable (ws_ yX2_addTable cX2_addTable 4 (some .int)) rmX2_addTable (pcM (dC, dI) [(cI, .int)] (pW cI ad P) [.ref (ad 0), .int n5]) (va_Qi (fun (r9 : Int32) (u9 : PV) => (r9, u9) = fX2_addTable P n5) (fun u9 t => va_P (dC, dI) vwCl ((fun (v : PV) => pW cI ad v) u9) t.heap) (adr (pW cI ad P))) 0 0 (adr (pW cI ad P)) := by
  refine Met.ofW (cc := cX2_addTable) (maxL := 4) (ret := (some .int)) (by decide) rfl ?_
  intro p e s m args below meth c s₁ B hml hv
  obtain ⟨ha, hP, hK, hn, hD0⟩ := hv
  have hx := B.exec
  have hb := B.bytes
  have hr := B.returns
  have hts0 := atoms_spec (ws := (ws_ yX2_addTable cX2_addTable 4 (some .int))) B.pre
  have hts : ∀ w ∈ lw_all, w.before args s = true := fun w h => hts0 w (List.mem_cons_of_mem _ h)
  have hown : s.vm.findClass RX2 = some m.cls := findClass_of_methodNamed B.named
  have hlocks := B.notSynchronized
  have htX2 : ∀ w ∈ wsX20, w.before args s = true := fun w h => hts w (wX2 w h)
  have hD := adr_self hD0
  obtain ⟨A, hA⟩ : ∃ A, A = adr (pW cI ad P) := ⟨_, rfl⟩
  rw [← hA] at hD
  have hS : va_S A s.heap s.heap [] := va_S.rf
  obtain ⟨Q, hQ⟩ : ∃ Q, Q = MQ below (va_Qi (fun (r9 : Int32) (u9 : PV) => (r9, u9) = fX2_addTable P n5) (fun u9 t => va_P (dC, dI) vwCl ((fun (v : PV) => pW cI ad v) u9) t.heap) (adr (pW cI ad P))) args s 0 0 (adr (pW cI ad P)) := ⟨_, rfl⟩
  rw [← hQ]
  rw [← hA] at hQ
  have hl := lv_entry ([.ref (ad 0), .int n5]) (n := 4) (Nat.le_of_ble_eq_true rfl)
  rw [ha, lg_entry_eq, ← ha]
  generalize (lg_sl ([.ref (ad 0), .int n5]) ++ List.replicate (4 - (lg_sl ([.ref (ad 0), .int n5])).length) Slot.unset).toArray = ls at hl ⊢
  have hl : lv_has ls 4 [(0, .ref (ad 0)), (1, .int n5)] := hl
  show W p l e rmX2_addTable s m args below meth c s.heap [] 0 0 Q (F0 m 0 ls [])
  have hF : fX2_addTable P n5 = fX2_addTable P n5 := rfl
  refine lv_aload_n hx hb dX2_addTable_0 rfl (lv_at hl 0 rfl) ?_
  refine va_get (D := (dC, dI)) (ci := 2) (v := .int (P 10 1)) (C := RX2) (T := TX2) (N := 14) hx hb htX2 (fun _ h => h) hown hK hP 0 rfl rfl 11 (by decide) (hts _ u_74) (fun _ h9 => h9) rfl dX2_addTable_1 ?_
  refine lv_istore_n (lv' := [(2, .int (P 10 1)), (0, .ref (ad 0)), (1, .int n5)]) hx hb dX2_addTable_4 rfl hl (by decide) rfl (fun ls hl => ?_)
  refine lv_aload_n hx hb dX2_addTable_5 rfl (lv_at hl 1 rfl) ?_
  refine va_get (D := (dC, dI)) (ci := 2) (v := .ref (ad 6)) (C := RX2) (T := TX2) (N := 14) hx hb htX2 (fun _ h => h) hown hK hP 0 rfl rfl 5 (by decide) (hts _ u_62) (fun _ h9 => h9) rfl dX2_addTable_6 ?_
  refine lv_iload_n hx hb dX2_addTable_9 rfl (lv_at hl 0 rfl) ?_
  refine lv_iload_n hx hb dX2_addTable_10 rfl (lv_at hl 2 rfl) ?_
  refine k_mutv (Wd := (fun (v : Nat → Int32) => aW cI (ad 6) 4 v)) (va_runS (As := [.ref (ad 6), .int (P 10 1), .int n5]) (rest := []) ⟨hx, hb, hml, hown, hts0⟩ (mX3_put l dC dI cI (ad 6) 4 (by decide) (P 5) (P 10 1) n5) (va_cwS 3 hts0 (gi_S u_459 u_460 u_7 u_461) rfl rfl rfl (by decide +kernel) ⟨Nat.le_of_ble_eq_true rfl, Nat.le_of_ble_eq_true rfl⟩) (pcM_S (hP.sub (ws' := aW cI (ad 6) 4 (P 5)) [6] rfl) hK hn (hD.sub (ws' := aW cI (ad 6) 4 (P 5)) [6] (by decide) rfl)) rfl rfl hl.1 rfl (lv_room (Nat.le_of_ble_eq_true rfl)) dX2_addTable_11 ⟨Nat.zero_le _, Nat.zero_le _⟩) hP hD hS [6] rfl rfl (fun _ => rfl) (fun U11 H locs hU11 hP hD hS => ?_)
  have hP : va_P (dC, dI) vwCl (pW cI ad (rset P 5 U11)) H := hP
  have hD : va_D A (pW cI ad (rset P 5 U11)) := hD
  have hF := bd_at hF hU11
  refine lv_iconst (v := 0) hx hb dX2_addTable_14 (by decide) ?_
  refine lv_istore_n (lv' := [(3, .int 0), (2, .int (P 10 1)), (0, .ref (ad 0)), (1, .int n5)]) hx hb dX2_addTable_15 rfl hl (by decide) rfl (fun ls hl => ?_)
  have L16 : ∀ (jj16 kk16 : Nat) (U16_0 : PV), kk16 + jj16 = ((8 : Int32).toNatClampNeg) → fX2_addTable P n5 = lq1 (fX2_addTable_b16 P) (fX2_addTable_r16 P) jj16 kk16 U16_0 → ∀ (H : Heap) (locs : List Loc), va_P (dC, dI) vwCl (pW cI ad U16_0) H → va_D A (pW cI ad U16_0) → va_S A s.heap H locs → ∀ (ls : Array Slot), lv_has ls 4 [(3, .int (nI kk16)), (2, .int (P 10 1)), (0, .ref (ad 0)), (1, .int n5)] → W p l e rmX2_addTable s m args below meth c H locs 0 0 Q (F0 m 16 ls []) := by
    intro jj16
    induction jj16 using Nat.strongRecOn with
    | _ jj16 ihkk16 =>
      intro kk16 U16_0 hkkk16 hF H locs hP hD hS ls hl
      refine lv_iload_n hx hb dX2_addTable_16 rfl (lv_at hl 0 rfl) ?_
      refine lv_bipush (v := 8) hx hb dX2_addTable_17 (by decide) ?_
      refine lv_icmp_ge (tgt := 42) hx hb dX2_addTable_19 (by decide) (fun c_19 => ?_) (fun c_19 => ?_)
      · obtain rfl := cn_exit hkkk16 c_19
        have hF := hF.trans (lq1_z _ _ _ _)
        refine lv_aload_n hx hb dX2_addTable_42 rfl (lv_at hl 2 rfl) ?_
        refine lv_dup hx hb dX2_addTable_43 rfl ?_
        refine va_get (D := (dC, dI)) (ci := 2) (v := .int (U16_0 10 1)) (C := RX2) (T := TX2) (N := 14) hx hb htX2 (fun _ h => h) hown hK hP 0 rfl rfl 11 (by decide) (hts _ u_74) (fun _ h9 => h9) rfl dX2_addTable_44 ?_
        refine lv_iconst (v := 1) hx hb dX2_addTable_47 (by decide) ?_
        refine lv_iadd hx hb dX2_addTable_48 ?_
        refine va_put (D := (dC, dI)) (ci := 2) (v := .int ((U16_0 10 1) + 1)) (ty := .int) (C := RX2) (T := TX2) (N := 14) hx hb htX2 (fun _ h => h) tyX2 tyX2_ok nmX2 hown hK hP hD hS 0 rfl rfl 11 (by decide) (hts _ u_74) (fun _ h9 => h9) rfl (by decide +kernel) rfl rfl (Nat.le_of_ble_eq_true rfl) dX2_addTable_49 (fun H locs hP hD hS => ?_)
        have hP : va_P (dC, dI) vwCl (pW cI ad (sset U16_0 1 ((U16_0 10 1) + 1))) H := hP
        have hD : va_D A (pW cI ad (sset U16_0 1 ((U16_0 10 1) + 1))) := hD
        refine lv_iload_n hx hb dX2_addTable_52 rfl (lv_at hl 1 rfl) ?_
        rw [hQ]
        exact W.iret (v := (P 10 1)) hx hb hr (fun t ht hW => ⟨⟨(P 10 1), (sset U16_0 1 ((U16_0 10 1) + 1)), rfl, hF.symm, toH ht hP⟩, hS.F ht⟩) hS.2.2 dX2_addTable_53
      obtain ⟨jj16, rfl⟩ := cn_go hkkk16 c_19
      have hF := hF.trans (lq1_s _ _ _ _ _)
      obtain ⟨nextkk16, hnextkk16⟩ : ∃ y9, y9 = lq1 (fX2_addTable_b16 P) (fX2_addTable_r16 P) jj16 (kk16 + 1) := ⟨_, rfl⟩
      rw [← hnextkk16] at hF
      refine lv_aload_n hx hb dX2_addTable_22 rfl (lv_at hl 2 rfl) ?_
      refine va_get (D := (dC, dI)) (ci := 2) (v := .ref (ad 7)) (C := RX2) (T := TX2) (N := 14) hx hb htX2 (fun _ h => h) hown hK hP 0 rfl rfl 6 (by decide) (hts _ u_63) (fun _ h9 => h9) rfl dX2_addTable_23 ?_
      refine lv_iload_n hx hb dX2_addTable_26 rfl (lv_at hl 1 rfl) ?_
      refine lv_bipush (v := 8) hx hb dX2_addTable_27 (by decide) ?_
      refine lv_imul hx hb dX2_addTable_29 ?_
      refine lv_iload_n hx hb dX2_addTable_30 rfl (lv_at hl 0 rfl) ?_
      refine lv_iadd hx hb dX2_addTable_31 ?_
      refine lv_iconst (v := (-1)) hx hb dX2_addTable_32 (by decide) ?_
      refine k_mutv (Wd := (fun (v : Nat → Int32) => aW cI (ad 7) 32 v)) (va_runS (As := [.ref (ad 7), .int (((P 10 1) * 8) + (nI kk16)), .int (-1)]) (rest := []) ⟨hx, hb, hml, hown, hts0⟩ (mX3_put l dC dI cI (ad 7) 32 (by decide) (U16_0 6) (((P 10 1) * 8) + (nI kk16)) (-1)) (va_cwS 3 hts0 (gi_S u_459 u_460 u_7 u_461) rfl rfl rfl (by decide +kernel) ⟨Nat.le_of_ble_eq_true rfl, Nat.le_of_ble_eq_true rfl⟩) (pcM_S (hP.sub (ws' := aW cI (ad 7) 32 (U16_0 6)) [7] rfl) hK hn (hD.sub (ws' := aW cI (ad 7) 32 (U16_0 6)) [7] (by decide) rfl)) rfl rfl hl.1 rfl (lv_room (Nat.le_of_ble_eq_true rfl)) dX2_addTable_33 ⟨Nat.zero_le _, Nat.zero_le _⟩) hP hD hS [7] rfl rfl (fun _ => rfl) (fun U33 H locs hU33 hP hD hS => ?_)
      have hP : va_P (dC, dI) vwCl (pW cI ad (rset U16_0 6 U33)) H := hP
      have hD : va_D A (pW cI ad (rset U16_0 6 U33)) := hD
      have hF := bd_at hF hU33
      refine lv_iinc (v := (nI (kk16 + 1))) (lv' := [(3, .int (nI (kk16 + 1))), (2, .int (P 10 1)), (0, .ref (ad 0)), (1, .int n5)]) hx hb dX2_addTable_36 hl (k := 0) rfl (nI_1 _) (by decide) rfl (fun ls hl => ?_)
      refine lv_goto (tgt := 16) hx hb dX2_addTable_39 (by decide) ?_
      have hF : fX2_addTable P n5 = nextkk16 (rset U16_0 6 U33) := hF
      rw [hnextkk16] at hF
      exact ihkk16 jj16 (Nat.lt_succ_self _) (kk16 + 1) (rset U16_0 6 U33) (cn_next hkkk16) hF _ _ hP hD hS ls (lv_sub hl [0, 1, 2, 3] rfl)
  exact L16 ((8 : Int32).toNatClampNeg) 0 (rset P 5 U11) (Nat.zero_add _) hF _ _ hP hD hS ls (lv_sub hl [0, 1, 2, 3] rfl)

def fX2_standUp (P : PV) (g : Int32) : PV :=
  (bd (fX3_put 32 (P 6) (((fX3_at 16 (P 3) g) * 8) + (fX3_at 16 (P 4) g)) (-1)) (fun U29 => (bd (fX3_put 16 (P 3) g (-1)) (fun U38 => (bd (fX3_put 16 (P 4) g (-1)) (fun U47 => (bd (fX1_dropItem 16 (P 9) (P 10 5) g) (fun U55 => (sset (sset (rset (rset (rset (rset P 6 U29) 3 U38) 4 U47) 9 U55.1) 5 U55.2) 3 ((P 10 3) + 1))))))))))
abbrev rmX2_standUp : Room := { frames := 2, cells := 0, slots := 0, locals := 46 }
set_option maxHeartbeats 4000000 in
set_option maxRecDepth 100000 in
theorem mX2_standUp (l : Launch) (dC : Nat → ClassId) (dI : Nat → Nat → Nat) (cI : ClassId) (ad : Nat → Nat) (P : PV) (g : Int32) : Met l yX2_standUp (ws_ yX2_standUp cX2_standUp 4 none) rmX2_standUp (pcM (dC, dI) [(cI, .int)] (pW cI ad P) [.ref (ad 0), .int g]) (va_Qv (fun (u9 : PV) => u9 = fX2_standUp P g) (fun u9 t => va_P (dC, dI) vwCl ((fun (v : PV) => pW cI ad v) u9) t.heap) (adr (pW cI ad P))) 0 0 (adr (pW cI ad P)) := by
  refine Met.ofW (cc := cX2_standUp) (maxL := 4) (ret := none) (by decide) rfl ?_
  intro p e s m args below meth c s₁ B hml hv
  obtain ⟨ha, hP, hK, hn, hD0⟩ := hv
  have hx := B.exec
  have hb := B.bytes
  have hr := B.returns
  have hts0 := atoms_spec (ws := (ws_ yX2_standUp cX2_standUp 4 none)) B.pre
  have hts : ∀ w ∈ lw_all, w.before args s = true := fun w h => hts0 w (List.mem_cons_of_mem _ h)
  have hown : s.vm.findClass RX2 = some m.cls := findClass_of_methodNamed B.named
  have hlocks := B.notSynchronized
  have htX2 : ∀ w ∈ wsX20, w.before args s = true := fun w h => hts w (wX2 w h)
  have hD := adr_self hD0
  obtain ⟨A, hA⟩ : ∃ A, A = adr (pW cI ad P) := ⟨_, rfl⟩
  rw [← hA] at hD
  have hS : va_S A s.heap s.heap [] := va_S.rf
  obtain ⟨Q, hQ⟩ : ∃ Q, Q = MQ below (va_Qv (fun (u9 : PV) => u9 = fX2_standUp P g) (fun u9 t => va_P (dC, dI) vwCl ((fun (v : PV) => pW cI ad v) u9) t.heap) (adr (pW cI ad P))) args s 0 0 (adr (pW cI ad P)) := ⟨_, rfl⟩
  rw [← hQ]
  rw [← hA] at hQ
  have hl := lv_entry ([.ref (ad 0), .int g]) (n := 4) (Nat.le_of_ble_eq_true rfl)
  rw [ha, lg_entry_eq, ← ha]
  generalize (lg_sl ([.ref (ad 0), .int g]) ++ List.replicate (4 - (lg_sl ([.ref (ad 0), .int g])).length) Slot.unset).toArray = ls at hl ⊢
  have hl : lv_has ls 4 [(0, .ref (ad 0)), (1, .int g)] := hl
  show W p l e rmX2_standUp s m args below meth c s.heap [] 0 0 Q (F0 m 0 ls [])
  have hF : fX2_standUp P g = fX2_standUp P g := rfl
  refine lv_aload_n hx hb dX2_standUp_0 rfl (lv_at hl 0 rfl) ?_
  refine va_get (D := (dC, dI)) (ci := 2) (v := .ref (ad 4)) (C := RX2) (T := TX2) (N := 14) hx hb htX2 (fun _ h => h) hown hK hP 0 rfl rfl 3 (by decide) (hts _ u_56) (fun _ h9 => h9) rfl dX2_standUp_1 ?_
  refine lv_iload_n hx hb dX2_standUp_4 rfl (lv_at hl 1 rfl) ?_
  refine k_calli (W.runS (As := [.ref (ad 4), .int g]) (rest := []) ⟨hx, hb, hml, hown, hts0⟩ (mX3_at l dC dI cI (ad 4) 16 (by decide) (P 3) g) (va_cwS 2 hts0 (gi_S u_302 u_303 u_7 u_304) rfl rfl rfl (by decide +kernel) ⟨Nat.le_of_ble_eq_true rfl, Nat.le_of_ble_eq_true rfl⟩) (pcR_S (hP.sub (ws' := aW cI (ad 4) 16 (P 3)) [4] rfl) hK hn) rfl rfl hl.1 rfl (lv_room (Nat.le_of_ble_eq_true rfl)) dX2_standUp_5 ⟨Nat.zero_le _, Nat.zero_le _⟩) ?_
  refine lv_istore_n (lv' := [(2, .int (fX3_at 16 (P 3) g)), (0, .ref (ad 0)), (1, .int g)]) hx hb dX2_standUp_8 rfl hl (by decide) rfl (fun ls hl => ?_)
  refine lv_aload_n hx hb dX2_standUp_9 rfl (lv_at hl 1 rfl) ?_
  refine va_get (D := (dC, dI)) (ci := 2) (v := .ref (ad 5)) (C := RX2) (T := TX2) (N := 14) hx hb htX2 (fun _ h => h) hown hK hP 0 rfl rfl 4 (by decide) (hts _ u_59) (fun _ h9 => h9) rfl dX2_standUp_10 ?_
  refine lv_iload_n hx hb dX2_standUp_13 rfl (lv_at hl 2 rfl) ?_
  refine k_calli (W.runS (As := [.ref (ad 5), .int g]) (rest := []) ⟨hx, hb, hml, hown, hts0⟩ (mX3_at l dC dI cI (ad 5) 16 (by decide) (P 4) g) (va_cwS 2 hts0 (gi_S u_302 u_303 u_7 u_304) rfl rfl rfl (by decide +kernel) ⟨Nat.le_of_ble_eq_true rfl, Nat.le_of_ble_eq_true rfl⟩) (pcR_S (hP.sub (ws' := aW cI (ad 5) 16 (P 4)) [5] rfl) hK hn) rfl rfl hl.1 rfl (lv_room (Nat.le_of_ble_eq_true rfl)) dX2_standUp_14 ⟨Nat.zero_le _, Nat.zero_le _⟩) ?_
  refine lv_istore_n (lv' := [(3, .int (fX3_at 16 (P 4) g)), (2, .int (fX3_at 16 (P 3) g)), (0, .ref (ad 0)), (1, .int g)]) hx hb dX2_standUp_17 rfl hl (by decide) rfl (fun ls hl => ?_)
  refine lv_aload_n hx hb dX2_standUp_18 rfl (lv_at hl 2 rfl) ?_
  refine va_get (D := (dC, dI)) (ci := 2) (v := .ref (ad 7)) (C := RX2) (T := TX2) (N := 14) hx hb htX2 (fun _ h => h) hown hK hP 0 rfl rfl 6 (by decide) (hts _ u_63) (fun _ h9 => h9) rfl dX2_standUp_19 ?_
  refine lv_iload_n hx hb dX2_standUp_22 rfl (lv_at hl 1 rfl) ?_
  refine lv_bipush (v := 8) hx hb dX2_standUp_23 (by decide) ?_
  refine lv_imul hx hb dX2_standUp_25 ?_
  refine lv_iload_n hx hb dX2_standUp_26 rfl (lv_at hl 0 rfl) ?_
  refine lv_iadd hx hb dX2_standUp_27 ?_
  refine lv_iconst (v := (-1)) hx hb dX2_standUp_28 (by decide) ?_
  refine k_mutv (Wd := (fun (v : Nat → Int32) => aW cI (ad 7) 32 v)) (va_runS (As := [.ref (ad 7), .int (((fX3_at 16 (P 3) g) * 8) + (fX3_at 16 (P 4) g)), .int (-1)]) (rest := []) ⟨hx, hb, hml, hown, hts0⟩ (mX3_put l dC dI cI (ad 7) 32 (by decide) (P 6) (((fX3_at 16 (P 3) g) * 8) + (fX3_at 16 (P 4) g)) (-1)) (va_cwS 3 hts0 (gi_S u_459 u_460 u_7 u_461) rfl rfl rfl (by decide +kernel) ⟨Nat.le_of_ble_eq_true rfl, Nat.le_of_ble_eq_true rfl⟩) (pcM_S (hP.sub (ws' := aW cI (ad 7) 32 (P 6)) [7] rfl) hK hn (hD.sub (ws' := aW cI (ad 7) 32 (P 6)) [7] (by decide) rfl)) rfl rfl hl.1 rfl (lv_room (Nat.le_of_ble_eq_true rfl)) dX2_standUp_29 ⟨Nat.zero_le _, Nat.zero_le _⟩) hP hD hS [7] rfl rfl (fun _ => rfl) (fun U29 H locs hU29 hP hD hS => ?_)
  have hP : va_P (dC, dI) vwCl (pW cI ad (rset P 6 U29)) H := hP
  have hD : va_D A (pW cI ad (rset P 6 U29)) := hD
  have hF := bd_at hF hU29
  refine lv_aload_n hx hb dX2_standUp_32 rfl (lv_at hl 2 rfl) ?_
  refine va_get (D := (dC, dI)) (ci := 2) (v := .ref (ad 4)) (C := RX2) (T := TX2) (N := 14) hx hb htX2 (fun _ h => h) hown hK hP 0 rfl rfl 3 (by decide) (hts _ u_56) (fun _ h9 => h9) rfl dX2_standUp_33 ?_
  refine lv_iload_n hx hb dX2_standUp_36 rfl (lv_at hl 3 rfl) ?_
  refine lv_iconst (v := (-1)) hx hb dX2_standUp_37 (by decide) ?_
  refine k_mutv (Wd := (fun (v : Nat → Int32) => aW cI (ad 4) 16 v)) (va_runS (As := [.ref (ad 4), .int g, .int (-1)]) (rest := []) ⟨hx, hb, hml, hown, hts0⟩ (mX3_put l dC dI cI (ad 4) 16 (by decide) (P 3) g (-1)) (va_cwS 3 hts0 (gi_S u_459 u_460 u_7 u_461) rfl rfl rfl (by decide +kernel) ⟨Nat.le_of_ble_eq_true rfl, Nat.le_of_ble_eq_true rfl⟩) (pcM_S (hP.sub (ws' := aW cI (ad 4) 16 (P 3)) [4] rfl) hK hn (hD.sub (ws' := aW cI (ad 4) 16 (P 3)) [4] (by decide) rfl)) rfl rfl hl.1 rfl (lv_room (Nat.le_of_ble_eq_true rfl)) dX2_standUp_38 ⟨Nat.zero_le _, Nat.zero_le _⟩) hP hD hS [4] rfl rfl (fun _ => rfl) (fun U38 H locs hU38 hP hD hS => ?_)
  have hP : va_P (dC, dI) vwCl (pW cI ad (rset (rset P 6 U29) 3 U38)) H := hP
  have hD : va_D A (pW cI ad (rset (rset P 6 U29) 3 U38)) := hD
  have hF := bd_at hF hU38
  refine lv_aload_n hx hb dX2_standUp_41 rfl (lv_at hl 2 rfl) ?_
  refine va_get (D := (dC, dI)) (ci := 2) (v := .ref (ad 5)) (C := RX2) (T := TX2) (N := 14) hx hb htX2 (fun _ h => h) hown hK hP 0 rfl rfl 4 (by decide) (hts _ u_59) (fun _ h9 => h9) rfl dX2_standUp_42 ?_
  refine lv_iload_n hx hb dX2_standUp_45 rfl (lv_at hl 3 rfl) ?_
  refine lv_iconst (v := (-1)) hx hb dX2_standUp_46 (by decide) ?_
  refine k_mutv (Wd := (fun (v : Nat → Int32) => aW cI (ad 5) 16 v)) (va_runS (As := [.ref (ad 5), .int g, .int (-1)]) (rest := []) ⟨hx, hb, hml, hown, hts0⟩ (mX3_put l dC dI cI (ad 5) 16 (by decide) (P 4) g (-1)) (va_cwS 3 hts0 (gi_S u_459 u_460 u_7 u_461) rfl rfl rfl (by decide +kernel) ⟨Nat.le_of_ble_eq_true rfl, Nat.le_of_ble_eq_true rfl⟩) (pcM_S (hP.sub (ws' := aW cI (ad 5) 16 (P 4)) [5] rfl) hK hn (hD.sub (ws' := aW cI (ad 5) 16 (P 4)) [5] (by decide) rfl)) rfl rfl hl.1 rfl (lv_room (Nat.le_of_ble_eq_true rfl)) dX2_standUp_47 ⟨Nat.zero_le _, Nat.zero_le _⟩) hP hD hS [5] rfl rfl (fun _ => rfl) (fun U47 H locs hU47 hP hD hS => ?_)
  have hP : va_P (dC, dI) vwCl (pW cI ad (rset (rset (rset P 6 U29) 3 U38) 4 U47)) H := hP
  have hD : va_D A (pW cI ad (rset (rset (rset P 6 U29) 3 U38) 4 U47)) := hD
  have hF := bd_at hF hU47
  refine lv_aload_n hx hb dX2_standUp_50 rfl (lv_at hl 2 rfl) ?_
  refine va_get (D := (dC, dI)) (ci := 2) (v := .ref (ad 11)) (C := RX2) (T := TX2) (N := 14) hx hb htX2 (fun _ h => h) hown hK hP 0 rfl rfl 9 (by decide) (hts _ u_69) (fun _ h9 => h9) rfl dX2_standUp_51 ?_
  refine lv_iload_n hx hb dX2_standUp_54 rfl (lv_at hl 3 rfl) ?_
  refine k_mutv (Wd := (fun (v : (Nat → Int32) × Int32) => lW cI (ad 11) (ad 12) 16 v.1 v.2)) (va_runV (As := [.int g]) (rest := []) ⟨hx, hb, hml, hown, hts0⟩ (mX1_dropItem l dC dI cI (ad 11) (ad 12) 16 (by decide) (P 9) (P 10 5) g) (cwV 1 hts0 (gi_V u_514 u_515 u_516 u_3 u_517) rfl rfl rfl (by decide +kernel) ⟨Nat.le_of_ble_eq_true rfl, Nat.le_of_ble_eq_true rfl⟩) (pcM_V (ci := 1) (q0 := 0) (hP.sub (ws' := lW cI (ad 11) (ad 12) 16 (P 9) (P 10 5)) [11, 12] rfl) hK hn (hD.sub (ws' := lW cI (ad 11) (ad 12) 16 (P 9) (P 10 5)) [11, 12] (by decide) rfl) rfl rfl) rfl rfl hl.1 rfl (lv_room (Nat.le_of_ble_eq_true rfl)) dX2_standUp_55 ⟨Nat.zero_le _, Nat.zero_le _⟩) hP hD hS [11, 12] rfl rfl (fun _ => rfl) (fun U55 H locs hU55 hP hD hS => ?_)
  have hP : va_P (dC, dI) vwCl (pW cI ad (sset (rset (rset (rset (rset P 6 U29) 3 U38) 4 U47) 9 U55.1) 5 U55.2)) H := hP
  have hD : va_D A (pW cI ad (sset (rset (rset (rset (rset P 6 U29) 3 U38) 4 U47) 9 U55.1) 5 U55.2)) := hD
  have hF := bd_at hF hU55
  refine lv_aload_n hx hb dX2_standUp_58 rfl (lv_at hl 2 rfl) ?_
  refine lv_dup hx hb dX2_standUp_59 rfl ?_
  refine va_get (D := (dC, dI)) (ci := 2) (v := .int (P 10 3)) (C := RX2) (T := TX2) (N := 14) hx hb htX2 (fun _ h => h) hown hK hP 0 rfl rfl 13 (by decide) (hts _ u_79) (fun _ h9 => h9) rfl dX2_standUp_60 ?_
  refine lv_iconst (v := 1) hx hb dX2_standUp_63 (by decide) ?_
  refine lv_iadd hx hb dX2_standUp_64 ?_
  refine va_put (D := (dC, dI)) (ci := 2) (v := .int ((P 10 3) + 1)) (ty := .int) (C := RX2) (T := TX2) (N := 14) hx hb htX2 (fun _ h => h) tyX2 tyX2_ok nmX2 hown hK hP hD hS 0 rfl rfl 13 (by decide) (hts _ u_79) (fun _ h9 => h9) rfl (by decide +kernel) rfl rfl (Nat.le_of_ble_eq_true rfl) dX2_standUp_65 (fun H locs hP hD hS => ?_)
  have hP : va_P (dC, dI) vwCl (pW cI ad (sset (sset (rset (rset (rset (rset P 6 U29) 3 U38) 4 U47) 9 U55.1) 5 U55.2) 3 ((P 10 3) + 1))) H := hP
  have hD : va_D A (pW cI ad (sset (sset (rset (rset (rset (rset P 6 U29) 3 U38) 4 U47) 9 U55.1) 5 U55.2) 3 ((P 10 3) + 1))) := hD
  rw [hQ]
  exact W.vret hx hb hr (fun t ht hW => ⟨⟨(sset (sset (rset (rset (rset (rset P 6 U29) 3 U38) 4 U47) 9 U55.1) 5 U55.2) 3 ((P 10 3) + 1)), rfl, hF.symm, toH ht hP⟩, hS.F ht⟩) hS.2.2 dX2_standUp_68

def fX2_takeSeat (P : PV) (g : Int32) (tb : Int32) (z : Int32) : PV :=
  (bd ((if (fX2_isSitting P g) = 0 then P else (bd (fX2_standUp P g) (fun U10 => U10))) : PV) (fun U5_0 => (bd (fX3_put 16 (U5_0 3) g tb) (fun U19 => (bd (fX3_put 16 (U5_0 4) g z) (fun U28 => (bd (fX3_put 32 (U5_0 6) ((tb * 8) + z) g) (fun U42 => (bd (fX1_addLast 16 (U5_0 9) (U5_0 10 5) g) (fun U50 => (sset (sset (rset (rset (rset (rset U5_0 3 U19) 4 U28) 6 U42) 9 U50.1) 5 U50.2) 2 ((U5_0 10 2) + 1))))))))))))
abbrev rmX2_takeSeat : Room := { frames := 3, cells := 0, slots := 0, locals := 69 }
set_option maxHeartbeats 4000000 in
set_option maxRecDepth 100000 in
theorem mX2_takeSeat (l : Launch) (dC : Nat → ClassId) (dI : Nat → Nat → Nat) (cI : ClassId) (ad : Nat → Nat) (P : PV) (g : Int32) (tb : Int32) (z : Int32) : Met l yX2_takeSeat (ws_ yX2_takeSeat cX2_takeSeat 4 none) rmX2_takeSeat (pcM (dC, dI) [(cI, .int)] (pW cI ad P) [.ref (ad 0), .int g, .int tb, .int z]) (va_Qv (fun (u9 : PV) => u9 = fX2_takeSeat P g tb z) (fun u9 t => va_P (dC, dI) vwCl ((fun (v : PV) => pW cI ad v) u9) t.heap) (adr (pW cI ad P))) 0 0 (adr (pW cI ad P)) := by
  refine Met.ofW (cc := cX2_takeSeat) (maxL := 4) (ret := none) (by decide) rfl ?_
  intro p e s m args below meth c s₁ B hml hv
  obtain ⟨ha, hP, hK, hn, hD0⟩ := hv
  have hx := B.exec
  have hb := B.bytes
  have hr := B.returns
  have hts0 := atoms_spec (ws := (ws_ yX2_takeSeat cX2_takeSeat 4 none)) B.pre
  have hts : ∀ w ∈ lw_all, w.before args s = true := fun w h => hts0 w (List.mem_cons_of_mem _ h)
  have hown : s.vm.findClass RX2 = some m.cls := findClass_of_methodNamed B.named
  have hlocks := B.notSynchronized
  have htX2 : ∀ w ∈ wsX20, w.before args s = true := fun w h => hts w (wX2 w h)
  have hD := adr_self hD0
  obtain ⟨A, hA⟩ : ∃ A, A = adr (pW cI ad P) := ⟨_, rfl⟩
  rw [← hA] at hD
  have hS : va_S A s.heap s.heap [] := va_S.rf
  obtain ⟨Q, hQ⟩ : ∃ Q, Q = MQ below (va_Qv (fun (u9 : PV) => u9 = fX2_takeSeat P g tb z) (fun u9 t => va_P (dC, dI) vwCl ((fun (v : PV) => pW cI ad v) u9) t.heap) (adr (pW cI ad P))) args s 0 0 (adr (pW cI ad P)) := ⟨_, rfl⟩
  rw [← hQ]
  rw [← hA] at hQ
  have hl := lv_entry ([.ref (ad 0), .int g, .int tb, .int z]) (n := 4) (Nat.le_of_ble_eq_true rfl)
  rw [ha, lg_entry_eq, ← ha]
  generalize (lg_sl ([.ref (ad 0), .int g, .int tb, .int z]) ++ List.replicate (4 - (lg_sl ([.ref (ad 0), .int g, .int tb, .int z])).length) Slot.unset).toArray = ls at hl ⊢
  have hl : lv_has ls 4 [(0, .ref (ad 0)), (1, .int g), (2, .int tb), (3, .int z)] := hl
  show W p l e rmX2_takeSeat s m args below meth c s.heap [] 0 0 Q (F0 m 0 ls [])
  have hF : fX2_takeSeat P g tb z = fX2_takeSeat P g tb z := rfl
  refine lv_aload_n hx hb dX2_takeSeat_0 rfl (lv_at hl 0 rfl) ?_
  refine lv_iload_n hx hb dX2_takeSeat_1 rfl (lv_at hl 1 rfl) ?_
  refine k_callb (W.runV (As := [.int g]) (rest := []) ⟨hx, hb, hml, hown, hts0⟩ (mX2_isSitting l dC dI cI ad P g) (cwV 1 hts0 (gi_V u_483 u_299 u_300 u_2 u_301) rfl rfl rfl (by decide +kernel) ⟨Nat.le_of_ble_eq_true rfl, Nat.le_of_ble_eq_true rfl⟩) (pcR_V (ci := 2) (q0 := 0) hP hK hn rfl rfl) rfl rfl hl.1 rfl (lv_room (Nat.le_of_ble_eq_true rfl)) dX2_takeSeat_2 ⟨Nat.zero_le _, Nat.zero_le _⟩) (fun br2 => ?_)
  have K5 : ∀ (U5_0 : PV), U5_0 = (if (fX2_isSitting P g) = 0 then P else (bd (fX2_standUp P g) (fun U10 => U10))) → ∀ (H : Heap) (locs : List Loc), va_P (dC, dI) vwCl (pW cI ad U5_0) H → va_D A (pW cI ad U5_0) → va_S A s.heap H locs → ∀ (ls : Array Slot), lv_has ls 4 [(0, .ref (ad 0)), (1, .int g), (2, .int tb), (3, .int z)] → W p l e rmX2_takeSeat s m args below meth c H locs 0 0 Q (F0 m 13 ls []) := by
    intro U5_0 hz5 H locs hP hD hS ls hl
    have hz := hz5
    have hF := bd_at hF hz
    refine lv_aload_n hx hb dX2_takeSeat_13 rfl (lv_at hl 0 rfl) ?_
    refine va_get (D := (dC, dI)) (ci := 2) (v := .ref (ad 4)) (C := RX2) (T := TX2) (N := 14) hx hb htX2 (fun _ h => h) hown hK hP 0 rfl rfl 3 (by decide) (hts _ u_56) (fun _ h9 => h9) rfl dX2_takeSeat_14 ?_
    refine lv_iload_n hx hb dX2_takeSeat_17 rfl (lv_at hl 1 rfl) ?_
    refine lv_iload_n hx hb dX2_takeSeat_18 rfl (lv_at hl 2 rfl) ?_
    refine k_mutv (Wd := (fun (v : Nat → Int32) => aW cI (ad 4) 16 v)) (va_runS (As := [.ref (ad 4), .int g, .int tb]) (rest := []) ⟨hx, hb, hml, hown, hts0⟩ (mX3_put l dC dI cI (ad 4) 16 (by decide) (U5_0 3) g tb) (va_cwS 3 hts0 (gi_S u_459 u_460 u_7 u_461) rfl rfl rfl (by decide +kernel) ⟨Nat.le_of_ble_eq_true rfl, Nat.le_of_ble_eq_true rfl⟩) (pcM_S (hP.sub (ws' := aW cI (ad 4) 16 (U5_0 3)) [4] rfl) hK hn (hD.sub (ws' := aW cI (ad 4) 16 (U5_0 3)) [4] (by decide) rfl)) rfl rfl hl.1 rfl (lv_room (Nat.le_of_ble_eq_true rfl)) dX2_takeSeat_19 ⟨Nat.zero_le _, Nat.zero_le _⟩) hP hD hS [4] rfl rfl (fun _ => rfl) (fun U19 H locs hU19 hP hD hS => ?_)
    have hP : va_P (dC, dI) vwCl (pW cI ad (rset U5_0 3 U19)) H := hP
    have hD : va_D A (pW cI ad (rset U5_0 3 U19)) := hD
    have hF := bd_at hF hU19
    refine lv_aload_n hx hb dX2_takeSeat_22 rfl (lv_at hl 0 rfl) ?_
    refine va_get (D := (dC, dI)) (ci := 2) (v := .ref (ad 5)) (C := RX2) (T := TX2) (N := 14) hx hb htX2 (fun _ h => h) hown hK hP 0 rfl rfl 4 (by decide) (hts _ u_59) (fun _ h9 => h9) rfl dX2_takeSeat_23 ?_
    refine lv_iload_n hx hb dX2_takeSeat_26 rfl (lv_at hl 1 rfl) ?_
    refine lv_iload_n hx hb dX2_takeSeat_27 rfl (lv_at hl 3 rfl) ?_
    refine k_mutv (Wd := (fun (v : Nat → Int32) => aW cI (ad 5) 16 v)) (va_runS (As := [.ref (ad 5), .int g, .int z]) (rest := []) ⟨hx, hb, hml, hown, hts0⟩ (mX3_put l dC dI cI (ad 5) 16 (by decide) (U5_0 4) g z) (va_cwS 3 hts0 (gi_S u_459 u_460 u_7 u_461) rfl rfl rfl (by decide +kernel) ⟨Nat.le_of_ble_eq_true rfl, Nat.le_of_ble_eq_true rfl⟩) (pcM_S (hP.sub (ws' := aW cI (ad 5) 16 (U5_0 4)) [5] rfl) hK hn (hD.sub (ws' := aW cI (ad 5) 16 (U5_0 4)) [5] (by decide) rfl)) rfl rfl hl.1 rfl (lv_room (Nat.le_of_ble_eq_true rfl)) dX2_takeSeat_28 ⟨Nat.zero_le _, Nat.zero_le _⟩) hP hD hS [5] rfl rfl (fun _ => rfl) (fun U28 H locs hU28 hP hD hS => ?_)
    have hP : va_P (dC, dI) vwCl (pW cI ad (rset (rset U5_0 3 U19) 4 U28)) H := hP
    have hD : va_D A (pW cI ad (rset (rset U5_0 3 U19) 4 U28)) := hD
    have hF := bd_at hF hU28
    refine lv_aload_n hx hb dX2_takeSeat_31 rfl (lv_at hl 0 rfl) ?_
    refine va_get (D := (dC, dI)) (ci := 2) (v := .ref (ad 7)) (C := RX2) (T := TX2) (N := 14) hx hb htX2 (fun _ h => h) hown hK hP 0 rfl rfl 6 (by decide) (hts _ u_63) (fun _ h9 => h9) rfl dX2_takeSeat_32 ?_
    refine lv_iload_n hx hb dX2_takeSeat_35 rfl (lv_at hl 2 rfl) ?_
    refine lv_bipush (v := 8) hx hb dX2_takeSeat_36 (by decide) ?_
    refine lv_imul hx hb dX2_takeSeat_38 ?_
    refine lv_iload_n hx hb dX2_takeSeat_39 rfl (lv_at hl 3 rfl) ?_
    refine lv_iadd hx hb dX2_takeSeat_40 ?_
    refine lv_iload_n hx hb dX2_takeSeat_41 rfl (lv_at hl 1 rfl) ?_
    refine k_mutv (Wd := (fun (v : Nat → Int32) => aW cI (ad 7) 32 v)) (va_runS (As := [.ref (ad 7), .int ((tb * 8) + z), .int g]) (rest := []) ⟨hx, hb, hml, hown, hts0⟩ (mX3_put l dC dI cI (ad 7) 32 (by decide) (U5_0 6) ((tb * 8) + z) g) (va_cwS 3 hts0 (gi_S u_459 u_460 u_7 u_461) rfl rfl rfl (by decide +kernel) ⟨Nat.le_of_ble_eq_true rfl, Nat.le_of_ble_eq_true rfl⟩) (pcM_S (hP.sub (ws' := aW cI (ad 7) 32 (U5_0 6)) [7] rfl) hK hn (hD.sub (ws' := aW cI (ad 7) 32 (U5_0 6)) [7] (by decide) rfl)) rfl rfl hl.1 rfl (lv_room (Nat.le_of_ble_eq_true rfl)) dX2_takeSeat_42 ⟨Nat.zero_le _, Nat.zero_le _⟩) hP hD hS [7] rfl rfl (fun _ => rfl) (fun U42 H locs hU42 hP hD hS => ?_)
    have hP : va_P (dC, dI) vwCl (pW cI ad (rset (rset (rset U5_0 3 U19) 4 U28) 6 U42)) H := hP
    have hD : va_D A (pW cI ad (rset (rset (rset U5_0 3 U19) 4 U28) 6 U42)) := hD
    have hF := bd_at hF hU42
    refine lv_aload_n hx hb dX2_takeSeat_45 rfl (lv_at hl 0 rfl) ?_
    refine va_get (D := (dC, dI)) (ci := 2) (v := .ref (ad 11)) (C := RX2) (T := TX2) (N := 14) hx hb htX2 (fun _ h => h) hown hK hP 0 rfl rfl 9 (by decide) (hts _ u_69) (fun _ h9 => h9) rfl dX2_takeSeat_46 ?_
    refine lv_iload_n hx hb dX2_takeSeat_49 rfl (lv_at hl 1 rfl) ?_
    refine k_mutv (Wd := (fun (v : (Nat → Int32) × Int32) => lW cI (ad 11) (ad 12) 16 v.1 v.2)) (va_runV (As := [.int g]) (rest := []) ⟨hx, hb, hml, hown, hts0⟩ (mX1_addLast l dC dI cI (ad 11) (ad 12) 16 (by decide) (U5_0 9) (U5_0 10 5) g) (cwV 1 hts0 (gi_V u_520 u_521 u_522 u_3 u_523) rfl rfl rfl (by decide +kernel) ⟨Nat.le_of_ble_eq_true rfl, Nat.le_of_ble_eq_true rfl⟩) (pcM_V (ci := 1) (q0 := 0) (hP.sub (ws' := lW cI (ad 11) (ad 12) 16 (U5_0 9) (U5_0 10 5)) [11, 12] rfl) hK hn (hD.sub (ws' := lW cI (ad 11) (ad 12) 16 (U5_0 9) (U5_0 10 5)) [11, 12] (by decide) rfl) rfl rfl) rfl rfl hl.1 rfl (lv_room (Nat.le_of_ble_eq_true rfl)) dX2_takeSeat_50 ⟨Nat.zero_le _, Nat.zero_le _⟩) hP hD hS [11, 12] rfl rfl (fun _ => rfl) (fun U50 H locs hU50 hP hD hS => ?_)
    have hP : va_P (dC, dI) vwCl (pW cI ad (sset (rset (rset (rset (rset U5_0 3 U19) 4 U28) 6 U42) 9 U50.1) 5 U50.2)) H := hP
    have hD : va_D A (pW cI ad (sset (rset (rset (rset (rset U5_0 3 U19) 4 U28) 6 U42) 9 U50.1) 5 U50.2)) := hD
    have hF := bd_at hF hU50
    refine lv_aload_n hx hb dX2_takeSeat_53 rfl (lv_at hl 0 rfl) ?_
    refine lv_dup hx hb dX2_takeSeat_54 rfl ?_
    refine va_get (D := (dC, dI)) (ci := 2) (v := .int (U5_0 10 2)) (C := RX2) (T := TX2) (N := 14) hx hb htX2 (fun _ h => h) hown hK hP 0 rfl rfl 12 (by decide) (hts _ u_77) (fun _ h9 => h9) rfl dX2_takeSeat_55 ?_
    refine lv_iconst (v := 1) hx hb dX2_takeSeat_58 (by decide) ?_
    refine lv_iadd hx hb dX2_takeSeat_59 ?_
    refine va_put (D := (dC, dI)) (ci := 2) (v := .int ((U5_0 10 2) + 1)) (ty := .int) (C := RX2) (T := TX2) (N := 14) hx hb htX2 (fun _ h => h) tyX2 tyX2_ok nmX2 hown hK hP hD hS 0 rfl rfl 12 (by decide) (hts _ u_77) (fun _ h9 => h9) rfl (by decide +kernel) rfl rfl (Nat.le_of_ble_eq_true rfl) dX2_takeSeat_60 (fun H locs hP hD hS => ?_)
    have hP : va_P (dC, dI) vwCl (pW cI ad (sset (sset (rset (rset (rset (rset U5_0 3 U19) 4 U28) 6 U42) 9 U50.1) 5 U50.2) 2 ((U5_0 10 2) + 1))) H := hP
    have hD : va_D A (pW cI ad (sset (sset (rset (rset (rset (rset U5_0 3 U19) 4 U28) 6 U42) 9 U50.1) 5 U50.2) 2 ((U5_0 10 2) + 1))) := hD
    rw [hQ]
    exact W.vret hx hb hr (fun t ht hW => ⟨⟨(sset (sset (rset (rset (rset (rset U5_0 3 U19) 4 U28) 6 U42) 9 U50.1) 5 U50.2) 2 ((U5_0 10 2) + 1)), rfl, hF.symm, toH ht hP⟩, hS.F ht⟩) hS.2.2 dX2_takeSeat_63
  have hF : ((if (fX2_isSitting P g) = 0 then P else (bd (fX2_standUp P g) (fun U10 => U10))) : PV) = (if (fX2_isSitting P g) = 0 then P else (bd (fX2_standUp P g) (fun U10 => U10))) := rfl
  refine lv_if_eq (tgt := 13) hx hb dX2_takeSeat_5 (by decide) (fun c_5 => ?_) (fun c_5 => ?_)
  · have hF := hF.trans (if_pos c_5)
    exact K5 _ hF.symm _ _ hP hD hS  ls (lv_sub hl [0, 1, 2, 3] rfl)
  have hF := hF.trans (if_neg c_5)
  refine lv_aload_n hx hb dX2_takeSeat_8 rfl (lv_at hl 0 rfl) ?_
  refine lv_iload_n hx hb dX2_takeSeat_9 rfl (lv_at hl 1 rfl) ?_
  refine k_mutv (Wd := (fun (v : PV) => pW cI ad v)) (va_runV (As := [.int g]) (rest := []) ⟨hx, hb, hml, hown, hts0⟩ (mX2_standUp l dC dI cI ad P g) (cwV 1 hts0 (gi_V u_510 u_511 u_512 u_2 u_513) rfl rfl rfl (by decide +kernel) ⟨Nat.le_of_ble_eq_true rfl, Nat.le_of_ble_eq_true rfl⟩) (pcM_V (ci := 2) (q0 := 0) hP hK hn hD rfl rfl) rfl rfl hl.1 rfl (lv_room (Nat.le_of_ble_eq_true rfl)) dX2_takeSeat_10 ⟨Nat.zero_le _, Nat.zero_le _⟩) hP hD hS [0, 1, 2, 3, 4, 5, 6, 7, 8, 9, 10, 11, 12] rfl rfl (fun _ => rfl) (fun U10 H locs hU10 hP hD hS => ?_)
  have hP : va_P (dC, dI) vwCl (pW cI ad U10) H := hP
  have hD : va_D A (pW cI ad U10) := hD
  have hF := bd_at hF hU10
  exact K5 _ hF.symm _ _ hP hD hS  ls (lv_sub hl [0, 1, 2, 3] rfl)

def fX2_exchange (P : PV) (g : Int32) (h : Int32) : Int32 × (PV) :=
  (if (fX2_isSitting P g) = 0 then (0, P) else (if (fX2_isSitting P h) = 0 then (0, P) else (bd (fX2_standUp P g) (fun U59 => (bd (fX2_standUp U59 h) (fun U64 => (if (fX2_mayTake U64 g (fX3_at 16 (P 3) h) (fX3_at 16 (P 4) h)) = 0 then (0, U64) else (bd (fX2_takeSeat U64 g (fX3_at 16 (P 3) h) (fX3_at 16 (P 4) h)) (fun U87 => (if (fX2_mayTake U87 h (fX3_at 16 (P 3) g) (fX3_at 16 (P 4) g)) = 0 then (0, U87) else (bd (fX2_takeSeat U87 h (fX3_at 16 (P 3) g) (fX3_at 16 (P 4) g)) (fun U108 => (1, U108)))))))))))))
abbrev rmX2_exchange : Room := { frames := 4, cells := 0, slots := 0, locals := 97 }
def fX2_copyFrom (P : PV) (P2 : PV) : PV :=
  (bd (fX3_copy 16 (P2 0) 16 (P 0)) (fun U8 => (bd (fX3_copy 16 (P2 1) 16 (P 1)) (fun U19 => (bd (fX3_copy 16 (P2 2) 16 (P 2)) (fun U30 => (bd (fX3_copy 16 (P2 3) 16 (P 3)) (fun U41 => (bd (fX3_copy 16 (P2 4) 16 (P 4)) (fun U52 => (bd (fX3_copy 4 (P2 5) 4 (P 5)) (fun U63 => (bd (fX3_copy 32 (P2 6) 32 (P 6)) (fun U74 => (bd (fX3_copy 4 (P2 7) 4 (P 7)) (fun U85 => (bd (fX1_copyFrom 8 (P 8) (P 10 4) 8 (P2 8) (P2 10 4)) (fun U96 => (bd (fX1_copyFrom 16 (P 9) (P 10 5) 16 (P2 9) (P2 10 5)) (fun U107 => (sset (sset (sset (sset (sset (rset (sset (rset (rset (rset (rset (rset (rset (rset (rset (rset P 0 U8) 1 U19) 2 U30) 3 U41) 4 U52) 5 U63) 6 U74) 7 U85) 8 U96.1) 4 U96.2) 9 U107.1) 5 U107.2) 0 (P2 10 0)) 1 (P2 10 1)) 2 (P2 10 2)) 3 (P2 10 3))))))))))))))))))))))
abbrev rmX2_copyFrom : Room := { frames := 2, cells := 0, slots := 0, locals := 61 }
set_option maxHeartbeats 4000000 in
set_option maxRecDepth 100000 in
theorem mX2_copyFrom (l : Launch) (dC : Nat → ClassId) (dI : Nat → Nat → Nat) (cI : ClassId) (ad : Nat → Nat) (P : PV) (ad2 : Nat → Nat) (P2 : PV) : Met l yX2_copyFrom (ws_ yX2_copyFrom cX2_copyFrom 2 none) rmX2_copyFrom (pcM (dC, dI) [(cI, .int)] (pW cI ad P ++ pW cI ad2 P2) [.ref (ad 0), .ref (ad2 0)]) (va_Qv (fun (u9 : PV) => u9 = fX2_copyFrom P P2) (fun u9 t => va_P (dC, dI) vwCl ((fun (v : PV) => pW cI ad v ++ pW cI ad2 P2) u9) t.heap) (adr (pW cI ad P ++ pW cI ad2 P2))) 0 0 (adr (pW cI ad P ++ pW cI ad2 P2)) := by
  refine Met.ofW (cc := cX2_copyFrom) (maxL := 2) (ret := none) (by decide) rfl ?_
  intro p e s m args below meth c s₁ B hml hv
  obtain ⟨ha, hP, hK, hn, hD0⟩ := hv
  have hx := B.exec
  have hb := B.bytes
  have hr := B.returns
  have hts0 := atoms_spec (ws := (ws_ yX2_copyFrom cX2_copyFrom 2 none)) B.pre
  have hts : ∀ w ∈ lw_all, w.before args s = true := fun w h => hts0 w (List.mem_cons_of_mem _ h)
  have hown : s.vm.findClass RX2 = some m.cls := findClass_of_methodNamed B.named
  have hlocks := B.notSynchronized
  have htX2 : ∀ w ∈ wsX20, w.before args s = true := fun w h => hts w (wX2 w h)
  have hD := adr_self hD0
  obtain ⟨A, hA⟩ : ∃ A, A = adr (pW cI ad P ++ pW cI ad2 P2) := ⟨_, rfl⟩
  rw [← hA] at hD
  have hS : va_S A s.heap s.heap [] := va_S.rf
  obtain ⟨Q, hQ⟩ : ∃ Q, Q = MQ below (va_Qv (fun (u9 : PV) => u9 = fX2_copyFrom P P2) (fun u9 t => va_P (dC, dI) vwCl ((fun (v : PV) => pW cI ad v ++ pW cI ad2 P2) u9) t.heap) (adr (pW cI ad P ++ pW cI ad2 P2))) args s 0 0 (adr (pW cI ad P ++ pW cI ad2 P2)) := ⟨_, rfl⟩
  rw [← hQ]
  rw [← hA] at hQ
  have hl := lv_entry ([.ref (ad 0), .ref (ad2 0)]) (n := 2) (Nat.le_of_ble_eq_true rfl)
  rw [ha, lg_entry_eq, ← ha]
  generalize (lg_sl ([.ref (ad 0), .ref (ad2 0)]) ++ List.replicate (2 - (lg_sl ([.ref (ad 0), .ref (ad2 0)])).length) Slot.unset).toArray = ls at hl ⊢
  have hl : lv_has ls 2 [(0, .ref (ad 0)), (1, .ref (ad2 0))] := hl
  show W p l e rmX2_copyFrom s m args below meth c s.heap [] 0 0 Q (F0 m 0 ls [])
  have hF : fX2_copyFrom P P2 = fX2_copyFrom P P2 := rfl
  refine lv_aload_n hx hb dX2_copyFrom_0 rfl (lv_at hl 1 rfl) ?_
  refine va_get (D := (dC, dI)) (ci := 2) (v := .ref (ad2 1)) (C := RX2) (T := TX2) (N := 14) hx hb htX2 (fun _ h => h) hown hK hP 13 rfl rfl 0 (by decide) (hts _ u_48) (fun _ h9 => h9) rfl dX2_copyFrom_1 ?_
  refine lv_aload_n hx hb dX2_copyFrom_4 rfl (lv_at hl 0 rfl) ?_
  refine va_get (D := (dC, dI)) (ci := 2) (v := .ref (ad 1)) (C := RX2) (T := TX2) (N := 14) hx hb htX2 (fun _ h => h) hown hK hP 0 rfl rfl 0 (by decide) (hts _ u_48) (fun _ h9 => h9) rfl dX2_copyFrom_5 ?_
  refine k_mutv (Wd := (fun (v : (Nat → Int32)) => aW cI (ad2 1) 16 (P2 0) ++ aW cI (ad 1) 16 v)) (va_runS (As := [.ref (ad2 1), .ref (ad 1)]) (rest := []) ⟨hx, hb, hml, hown, hts0⟩ (mX3_copy l dC dI cI (ad2 1) 16 (by decide) (P2 0) (ad 1) 16 (by decide) (P 0) ) (va_cwS 2 hts0 (gi_S u_248 u_249 u_7 u_250) rfl rfl rfl (by decide +kernel) ⟨Nat.le_of_ble_eq_true rfl, Nat.le_of_ble_eq_true rfl⟩) (pcM_S (hP.sub (ws' := (aW cI (ad2 1) 16 (P2 0) ++ aW cI (ad 1) 16 (P 0))) [14, 1] rfl) hK hn (hD.sub (ws' := (aW cI (ad2 1) 16 (P2 0) ++ aW cI (ad 1) 16 (P 0))) [14, 1] (by decide) rfl)) rfl rfl hl.1 rfl (lv_room (Nat.le_of_ble_eq_true rfl)) dX2_copyFrom_8 ⟨Nat.zero_le _, Nat.zero_le _⟩) hP hD hS [14, 1] rfl rfl (fun _ => rfl) (fun U8 H locs hU8 hP hD hS => ?_)
  have hP : va_P (dC, dI) vwCl (pW cI ad (rset P 0 U8) ++ pW cI ad2 P2) H := hP
  have hD : va_D A (pW cI ad (rset P 0 U8) ++ pW cI ad2 P2) := hD
  have hF := bd_at hF hU8
  refine lv_aload_n hx hb dX2_copyFrom_11 rfl (lv_at hl 1 rfl) ?_
  refine va_get (D := (dC, dI)) (ci := 2) (v := .ref (ad2 2)) (C := RX2) (T := TX2) (N := 14) hx hb htX2 (fun _ h => h) hown hK hP 13 rfl rfl 1 (by decide) (hts _ u_50) (fun _ h9 => h9) rfl dX2_copyFrom_12 ?_
  refine lv_aload_n hx hb dX2_copyFrom_15 rfl (lv_at hl 0 rfl) ?_
  refine va_get (D := (dC, dI)) (ci := 2) (v := .ref (ad 2)) (C := RX2) (T := TX2) (N := 14) hx hb htX2 (fun _ h => h) hown hK hP 0 rfl rfl 1 (by decide) (hts _ u_50) (fun _ h9 => h9) rfl dX2_copyFrom_16 ?_
  refine k_mutv (Wd := (fun (v : (Nat → Int32)) => aW cI (ad2 2) 16 (P2 1) ++ aW cI (ad 2) 16 v)) (va_runS (As := [.ref (ad2 2), .ref (ad 2)]) (rest := []) ⟨hx, hb, hml, hown, hts0⟩ (mX3_copy l dC dI cI (ad2 2) 16 (by decide) (P2 1) (ad 2) 16 (by decide) (P 1) ) (va_cwS 2 hts0 (gi_S u_248 u_249 u_7 u_250) rfl rfl rfl (by decide +kernel) ⟨Nat.le_of_ble_eq_true rfl, Nat.le_of_ble_eq_true rfl⟩) (pcM_S (hP.sub (ws' := (aW cI (ad2 2) 16 (P2 1) ++ aW cI (ad 2) 16 (P 1))) [15, 2] rfl) hK hn (hD.sub (ws' := (aW cI (ad2 2) 16 (P2 1) ++ aW cI (ad 2) 16 (P 1))) [15, 2] (by decide) rfl)) rfl rfl hl.1 rfl (lv_room (Nat.le_of_ble_eq_true rfl)) dX2_copyFrom_19 ⟨Nat.zero_le _, Nat.zero_le _⟩) hP hD hS [15, 2] rfl rfl (fun _ => rfl) (fun U19 H locs hU19 hP hD hS => ?_)
  have hP : va_P (dC, dI) vwCl (pW cI ad (rset (rset P 0 U8) 1 U19) ++ pW cI ad2 P2) H := hP
  have hD : va_D A (pW cI ad (rset (rset P 0 U8) 1 U19) ++ pW cI ad2 P2) := hD
  have hF := bd_at hF hU19
  refine lv_aload_n hx hb dX2_copyFrom_22 rfl (lv_at hl 1 rfl) ?_
  refine va_get (D := (dC, dI)) (ci := 2) (v := .ref (ad2 3)) (C := RX2) (T := TX2) (N := 14) hx hb htX2 (fun _ h => h) hown hK hP 13 rfl rfl 2 (by decide) (hts _ u_53) (fun _ h9 => h9) rfl dX2_copyFrom_23 ?_
  refine lv_aload_n hx hb dX2_copyFrom_26 rfl (lv_at hl 0 rfl) ?_
  refine va_get (D := (dC, dI)) (ci := 2) (v := .ref (ad 3)) (C := RX2) (T := TX2) (N := 14) hx hb htX2 (fun _ h => h) hown hK hP 0 rfl rfl 2 (by decide) (hts _ u_53) (fun _ h9 => h9) rfl dX2_copyFrom_27 ?_
  refine k_mutv (Wd := (fun (v : (Nat → Int32)) => aW cI (ad2 3) 16 (P2 2) ++ aW cI (ad 3) 16 v)) (va_runS (As := [.ref (ad2 3), .ref (ad 3)]) (rest := []) ⟨hx, hb, hml, hown, hts0⟩ (mX3_copy l dC dI cI (ad2 3) 16 (by decide) (P2 2) (ad 3) 16 (by decide) (P 2) ) (va_cwS 2 hts0 (gi_S u_248 u_249 u_7 u_250) rfl rfl rfl (by decide +kernel) ⟨Nat.le_of_ble_eq_true rfl, Nat.le_of_ble_eq_true rfl⟩) (pcM_S (hP.sub (ws' := (aW cI (ad2 3) 16 (P2 2) ++ aW cI (ad 3) 16 (P 2))) [16, 3] rfl) hK hn (hD.sub (ws' := (aW cI (ad2 3) 16 (P2 2) ++ aW cI (ad 3) 16 (P 2))) [16, 3] (by decide) rfl)) rfl rfl hl.1 rfl (lv_room (Nat.le_of_ble_eq_true rfl)) dX2_copyFrom_30 ⟨Nat.zero_le _, Nat.zero_le _⟩) hP hD hS [16, 3] rfl rfl (fun _ => rfl) (fun U30 H locs hU30 hP hD hS => ?_)
  have hP : va_P (dC, dI) vwCl (pW cI ad (rset (rset (rset P 0 U8) 1 U19) 2 U30) ++ pW cI ad2 P2) H := hP
  have hD : va_D A (pW cI ad (rset (rset (rset P 0 U8) 1 U19) 2 U30) ++ pW cI ad2 P2) := hD
  have hF := bd_at hF hU30
  refine lv_aload_n hx hb dX2_copyFrom_33 rfl (lv_at hl 1 rfl) ?_
  refine va_get (D := (dC, dI)) (ci := 2) (v := .ref (ad2 4)) (C := RX2) (T := TX2) (N := 14) hx hb htX2 (fun _ h => h) hown hK hP 13 rfl rfl 3 (by decide) (hts _ u_56) (fun _ h9 => h9) rfl dX2_copyFrom_34 ?_
  refine lv_aload_n hx hb dX2_copyFrom_37 rfl (lv_at hl 0 rfl) ?_
  refine va_get (D := (dC, dI)) (ci := 2) (v := .ref (ad 4)) (C := RX2) (T := TX2) (N := 14) hx hb htX2 (fun _ h => h) hown hK hP 0 rfl rfl 3 (by decide) (hts _ u_56) (fun _ h9 => h9) rfl dX2_copyFrom_38 ?_
  refine k_mutv (Wd := (fun (v : (Nat → Int32)) => aW cI (ad2 4) 16 (P2 3) ++ aW cI (ad 4) 16 v)) (va_runS (As := [.ref (ad2 4), .ref (ad 4)]) (rest := []) ⟨hx, hb, hml, hown, hts0⟩ (mX3_copy l dC dI cI (ad2 4) 16 (by decide) (P2 3) (ad 4) 16 (by decide) (P 3) ) (va_cwS 2 hts0 (gi_S u_248 u_249 u_7 u_250) rfl rfl rfl (by decide +kernel) ⟨Nat.le_of_ble_eq_true rfl, Nat.le_of_ble_eq_true rfl⟩) (pcM_S (hP.sub (ws' := (aW cI (ad2 4) 16 (P2 3) ++ aW cI (ad 4) 16 (P 3))) [17, 4] rfl) hK hn (hD.sub (ws' := (aW cI (ad2 4) 16 (P2 3) ++ aW cI (ad 4) 16 (P 3))) [17, 4] (by decide) rfl)) rfl rfl hl.1 rfl (lv_room (Nat.le_of_ble_eq_true rfl)) dX2_copyFrom_41 ⟨Nat.zero_le _, Nat.zero_le _⟩) hP hD hS [17, 4] rfl rfl (fun _ => rfl) (fun U41 H locs hU41 hP hD hS => ?_)
  have hP : va_P (dC, dI) vwCl (pW cI ad (rset (rset (rset (rset P 0 U8) 1 U19) 2 U30) 3 U41) ++ pW cI ad2 P2) H := hP
  have hD : va_D A (pW cI ad (rset (rset (rset (rset P 0 U8) 1 U19) 2 U30) 3 U41) ++ pW cI ad2 P2) := hD
  have hF := bd_at hF hU41
  refine lv_aload_n hx hb dX2_copyFrom_44 rfl (lv_at hl 1 rfl) ?_
  refine va_get (D := (dC, dI)) (ci := 2) (v := .ref (ad2 5)) (C := RX2) (T := TX2) (N := 14) hx hb htX2 (fun _ h => h) hown hK hP 13 rfl rfl 4 (by decide) (hts _ u_59) (fun _ h9 => h9) rfl dX2_copyFrom_45 ?_
  refine lv_aload_n hx hb dX2_copyFrom_48 rfl (lv_at hl 0 rfl) ?_
  refine va_get (D := (dC, dI)) (ci := 2) (v := .ref (ad 5)) (C := RX2) (T := TX2) (N := 14) hx hb htX2 (fun _ h => h) hown hK hP 0 rfl rfl 4 (by decide) (hts _ u_59) (fun _ h9 => h9) rfl dX2_copyFrom_49 ?_
  refine k_mutv (Wd := (fun (v : (Nat → Int32)) => aW cI (ad2 5) 16 (P2 4) ++ aW cI (ad 5) 16 v)) (va_runS (As := [.ref (ad2 5), .ref (ad 5)]) (rest := []) ⟨hx, hb, hml, hown, hts0⟩ (mX3_copy l dC dI cI (ad2 5) 16 (by decide) (P2 4) (ad 5) 16 (by decide) (P 4) ) (va_cwS 2 hts0 (gi_S u_248 u_249 u_7 u_250) rfl rfl rfl (by decide +kernel) ⟨Nat.le_of_ble_eq_true rfl, Nat.le_of_ble_eq_true rfl⟩) (pcM_S (hP.sub (ws' := (aW cI (ad2 5) 16 (P2 4) ++ aW cI (ad 5) 16 (P 4))) [18, 5] rfl) hK hn (hD.sub (ws' := (aW cI (ad2 5) 16 (P2 4) ++ aW cI (ad 5) 16 (P 4))) [18, 5] (by decide) rfl)) rfl rfl hl.1 rfl (lv_room (Nat.le_of_ble_eq_true rfl)) dX2_copyFrom_52 ⟨Nat.zero_le _, Nat.zero_le _⟩) hP hD hS [18, 5] rfl rfl (fun _ => rfl) (fun U52 H locs hU52 hP hD hS => ?_)
  have hP : va_P (dC, dI) vwCl (pW cI ad (rset (rset (rset (rset (rset P 0 U8) 1 U19) 2 U30) 3 U41) 4 U52) ++ pW cI ad2 P2) H := hP
  have hD : va_D A (pW cI ad (rset (rset (rset (rset (rset P 0 U8) 1 U19) 2 U30) 3 U41) 4 U52) ++ pW cI ad2 P2) := hD
  have hF := bd_at hF hU52
  refine lv_aload_n hx hb dX2_copyFrom_55 rfl (lv_at hl 1 rfl) ?_
  refine va_get (D := (dC, dI)) (ci := 2) (v := .ref (ad2 6)) (C := RX2) (T := TX2) (N := 14) hx hb htX2 (fun _ h => h) hown hK hP 13 rfl rfl 5 (by decide) (hts _ u_62) (fun _ h9 => h9) rfl dX2_copyFrom_56 ?_
  refine lv_aload_n hx hb dX2_copyFrom_59 rfl (lv_at hl 0 rfl) ?_
  refine va_get (D := (dC, dI)) (ci := 2) (v := .ref (ad 6)) (C := RX2) (T := TX2) (N := 14) hx hb htX2 (fun _ h => h) hown hK hP 0 rfl rfl 5 (by decide) (hts _ u_62) (fun _ h9 => h9) rfl dX2_copyFrom_60 ?_
  refine k_mutv (Wd := (fun (v : (Nat → Int32)) => aW cI (ad2 6) 4 (P2 5) ++ aW cI (ad 6) 4 v)) (va_runS (As := [.ref (ad2 6), .ref (ad 6)]) (rest := []) ⟨hx, hb, hml, hown, hts0⟩ (mX3_copy l dC dI cI (ad2 6) 4 (by decide) (P2 5) (ad 6) 4 (by decide) (P 5) ) (va_cwS 2 hts0 (gi_S u_248 u_249 u_7 u_250) rfl rfl rfl (by decide +kernel) ⟨Nat.le_of_ble_eq_true rfl, Nat.le_of_ble_eq_true rfl⟩) (pcM_S (hP.sub (ws' := (aW cI (ad2 6) 4 (P2 5) ++ aW cI (ad 6) 4 (P 5))) [19, 6] rfl) hK hn (hD.sub (ws' := (aW cI (ad2 6) 4 (P2 5) ++ aW cI (ad 6) 4 (P 5))) [19, 6] (by decide) rfl)) rfl rfl hl.1 rfl (lv_room (Nat.le_of_ble_eq_true rfl)) dX2_copyFrom_63 ⟨Nat.zero_le _, Nat.zero_le _⟩) hP hD hS [19, 6] rfl rfl (fun _ => rfl) (fun U63 H locs hU63 hP hD hS => ?_)
  have hP : va_P (dC, dI) vwCl (pW cI ad (rset (rset (rset (rset (rset (rset P 0 U8) 1 U19) 2 U30) 3 U41) 4 U52) 5 U63) ++ pW cI ad2 P2) H := hP
  have hD : va_D A (pW cI ad (rset (rset (rset (rset (rset (rset P 0 U8) 1 U19) 2 U30) 3 U41) 4 U52) 5 U63) ++ pW cI ad2 P2) := hD
  have hF := bd_at hF hU63
  refine lv_aload_n hx hb dX2_copyFrom_66 rfl (lv_at hl 1 rfl) ?_
  refine va_get (D := (dC, dI)) (ci := 2) (v := .ref (ad2 7)) (C := RX2) (T := TX2) (N := 14) hx hb htX2 (fun _ h => h) hown hK hP 13 rfl rfl 6 (by decide) (hts _ u_63) (fun _ h9 => h9) rfl dX2_copyFrom_67 ?_
  refine lv_aload_n hx hb dX2_copyFrom_70 rfl (lv_at hl 0 rfl) ?_
  refine va_get (D := (dC, dI)) (ci := 2) (v := .ref (ad 7)) (C := RX2) (T := TX2) (N := 14) hx hb htX2 (fun _ h => h) hown hK hP 0 rfl rfl 6 (by decide) (hts _ u_63) (fun _ h9 => h9) rfl dX2_copyFrom_71 ?_
  refine k_mutv (Wd := (fun (v : (Nat → Int32)) => aW cI (ad2 7) 32 (P2 6) ++ aW cI (ad 7) 32 v)) (va_runS (As := [.ref (ad2 7), .ref (ad 7)]) (rest := []) ⟨hx, hb, hml, hown, hts0⟩ (mX3_copy l dC dI cI (ad2 7) 32 (by decide) (P2 6) (ad 7) 32 (by decide) (P 6) ) (va_cwS 2 hts0 (gi_S u_248 u_249 u_7 u_250) rfl rfl rfl (by decide +kernel) ⟨Nat.le_of_ble_eq_true rfl, Nat.le_of_ble_eq_true rfl⟩) (pcM_S (hP.sub (ws' := (aW cI (ad2 7) 32 (P2 6) ++ aW cI (ad 7) 32 (P 6))) [20, 7] rfl) hK hn (hD.sub (ws' := (aW cI (ad2 7) 32 (P2 6) ++ aW cI (ad 7) 32 (P 6))) [20, 7] (by decide) rfl)) rfl rfl hl.1 rfl (lv_room (Nat.le_of_ble_eq_true rfl)) dX2_copyFrom_74 ⟨Nat.zero_le _, Nat.zero_le _⟩) hP hD hS [20, 7] rfl rfl (fun _ => rfl) (fun U74 H locs hU74 hP hD hS => ?_)
  have hP : va_P (dC, dI) vwCl (pW cI ad (rset (rset (rset (rset (rset (rset (rset P 0 U8) 1 U19) 2 U30) 3 U41) 4 U52) 5 U63) 6 U74) ++ pW cI ad2 P2) H := hP
  have hD : va_D A (pW cI ad (rset (rset (rset (rset (rset (rset (rset P 0 U8) 1 U19) 2 U30) 3 U41) 4 U52) 5 U63) 6 U74) ++ pW cI ad2 P2) := hD
  have hF := bd_at hF hU74
  refine lv_aload_n hx hb dX2_copyFrom_77 rfl (lv_at hl 1 rfl) ?_
  refine va_get (D := (dC, dI)) (ci := 2) (v := .ref (ad2 8)) (C := RX2) (T := TX2) (N := 14) hx hb htX2 (fun _ h => h) hown hK hP 13 rfl rfl 7 (by decide) (hts _ u_64) (fun _ h9 => h9) rfl dX2_copyFrom_78 ?_
  refine lv_aload_n hx hb dX2_copyFrom_81 rfl (lv_at hl 0 rfl) ?_
  refine va_get (D := (dC, dI)) (ci := 2) (v := .ref (ad 8)) (C := RX2) (T := TX2) (N := 14) hx hb htX2 (fun _ h => h) hown hK hP 0 rfl rfl 7 (by decide) (hts _ u_64) (fun _ h9 => h9) rfl dX2_copyFrom_82 ?_
  refine k_mutv (Wd := (fun (v : (Nat → Int32)) => aW cI (ad2 8) 4 (P2 7) ++ aW cI (ad 8) 4 v)) (va_runS (As := [.ref (ad2 8), .ref (ad 8)]) (rest := []) ⟨hx, hb, hml, hown, hts0⟩ (mX3_copy l dC dI cI (ad2 8) 4 (by decide) (P2 7) (ad 8) 4 (by decide) (P 7) ) (va_cwS 2 hts0 (gi_S u_248 u_249 u_7 u_250) rfl rfl rfl (by decide +kernel) ⟨Nat.le_of_ble_eq_true rfl, Nat.le_of_ble_eq_true rfl⟩) (pcM_S (hP.sub (ws' := (aW cI (ad2 8) 4 (P2 7) ++ aW cI (ad 8) 4 (P 7))) [21, 8] rfl) hK hn (hD.sub (ws' := (aW cI (ad2 8) 4 (P2 7) ++ aW cI (ad 8) 4 (P 7))) [21, 8] (by decide) rfl)) rfl rfl hl.1 rfl (lv_room (Nat.le_of_ble_eq_true rfl)) dX2_copyFrom_85 ⟨Nat.zero_le _, Nat.zero_le _⟩) hP hD hS [21, 8] rfl rfl (fun _ => rfl) (fun U85 H locs hU85 hP hD hS => ?_)
  have hP : va_P (dC, dI) vwCl (pW cI ad (rset (rset (rset (rset (rset (rset (rset (rset P 0 U8) 1 U19) 2 U30) 3 U41) 4 U52) 5 U63) 6 U74) 7 U85) ++ pW cI ad2 P2) H := hP
  have hD : va_D A (pW cI ad (rset (rset (rset (rset (rset (rset (rset (rset P 0 U8) 1 U19) 2 U30) 3 U41) 4 U52) 5 U63) 6 U74) 7 U85) ++ pW cI ad2 P2) := hD
  have hF := bd_at hF hU85
  refine lv_aload_n hx hb dX2_copyFrom_88 rfl (lv_at hl 0 rfl) ?_
  refine va_get (D := (dC, dI)) (ci := 2) (v := .ref (ad 9)) (C := RX2) (T := TX2) (N := 14) hx hb htX2 (fun _ h => h) hown hK hP 0 rfl rfl 8 (by decide) (hts _ u_67) (fun _ h9 => h9) rfl dX2_copyFrom_89 ?_
  refine lv_aload_n hx hb dX2_copyFrom_92 rfl (lv_at hl 1 rfl) ?_
  refine va_get (D := (dC, dI)) (ci := 2) (v := .ref (ad2 9)) (C := RX2) (T := TX2) (N := 14) hx hb htX2 (fun _ h => h) hown hK hP 13 rfl rfl 8 (by decide) (hts _ u_67) (fun _ h9 => h9) rfl dX2_copyFrom_93 ?_
  refine k_mutv (Wd := (fun (v : (Nat → Int32) × Int32) => lW cI (ad 9) (ad 10) 8 v.1 v.2 ++ lW cI (ad2 9) (ad2 10) 8 (P2 8) (P2 10 4))) (va_runV (As := [.ref (ad2 9)]) (rest := []) ⟨hx, hb, hml, hown, hts0⟩ (mX1_copyFrom l dC dI cI (ad 9) (ad 10) 8 (by decide) (P 8) (P 10 4) (ad2 9) (ad2 10) 8 (by decide) (P2 8) (P2 10 4) ) (cwV 1 hts0 (gi_V u_251 u_252 u_253 u_3 u_254) rfl rfl rfl (by decide +kernel) ⟨Nat.le_of_ble_eq_true rfl, Nat.le_of_ble_eq_true rfl⟩) (pcM_V (ci := 1) (q0 := 0) (hP.sub (ws' := (lW cI (ad 9) (ad 10) 8 (P 8) (P 10 4) ++ lW cI (ad2 9) (ad2 10) 8 (P2 8) (P2 10 4))) [9, 10, 22, 23] rfl) hK hn (hD.sub (ws' := (lW cI (ad 9) (ad 10) 8 (P 8) (P 10 4) ++ lW cI (ad2 9) (ad2 10) 8 (P2 8) (P2 10 4))) [9, 10, 22, 23] (by decide) rfl) rfl rfl) rfl rfl hl.1 rfl (lv_room (Nat.le_of_ble_eq_true rfl)) dX2_copyFrom_96 ⟨Nat.zero_le _, Nat.zero_le _⟩) hP hD hS [9, 10, 22, 23] rfl rfl (fun _ => rfl) (fun U96 H locs hU96 hP hD hS => ?_)
  have hP : va_P (dC, dI) vwCl (pW cI ad (sset (rset (rset (rset (rset (rset (rset (rset (rset (rset P 0 U8) 1 U19) 2 U30) 3 U41) 4 U52) 5 U63) 6 U74) 7 U85) 8 U96.1) 4 U96.2) ++ pW cI ad2 P2) H := hP
  have hD : va_D A (pW cI ad (sset (rset (rset (rset (rset (rset (rset (rset (rset (rset P 0 U8) 1 U19) 2 U30) 3 U41) 4 U52) 5 U63) 6 U74) 7 U85) 8 U96.1) 4 U96.2) ++ pW cI ad2 P2) := hD
  have hF := bd_at hF hU96
  refine lv_aload_n hx hb dX2_copyFrom_99 rfl (lv_at hl 0 rfl) ?_
  refine va_get (D := (dC, dI)) (ci := 2) (v := .ref (ad 11)) (C := RX2) (T := TX2) (N := 14) hx hb htX2 (fun _ h => h) hown hK hP 0 rfl rfl 9 (by decide) (hts _ u_69) (fun _ h9 => h9) rfl dX2_copyFrom_100 ?_
  refine lv_aload_n hx hb dX2_copyFrom_103 rfl (lv_at hl 1 rfl) ?_
  refine va_get (D := (dC, dI)) (ci := 2) (v := .ref (ad2 11)) (C := RX2) (T := TX2) (N := 14) hx hb htX2 (fun _ h => h) hown hK hP 13 rfl rfl 9 (by decide) (hts _ u_69) (fun _ h9 => h9) rfl dX2_copyFrom_104 ?_
  refine k_mutv (Wd := (fun (v : (Nat → Int32) × Int32) => lW cI (ad 11) (ad 12) 16 v.1 v.2 ++ lW cI (ad2 11) (ad2 12) 16 (P2 9) (P2 10 5))) (va_runV (As := [.ref (ad2 11)]) (rest := []) ⟨hx, hb, hml, hown, hts0⟩ (mX1_copyFrom l dC dI cI (ad 11) (ad 12) 16 (by decide) (P 9) (P 10 5) (ad2 11) (ad2 12) 16 (by decide) (P2 9) (P2 10 5) ) (cwV 1 hts0 (gi_V u_251 u_252 u_253 u_3 u_254) rfl rfl rfl (by decide +kernel) ⟨Nat.le_of_ble_eq_true rfl, Nat.le_of_ble_eq_true rfl⟩) (pcM_V (ci := 1) (q0 := 0) (hP.sub (ws' := (lW cI (ad 11) (ad 12) 16 (P 9) (P 10 5) ++ lW cI (ad2 11) (ad2 12) 16 (P2 9) (P2 10 5))) [11, 12, 24, 25] rfl) hK hn (hD.sub (ws' := (lW cI (ad 11) (ad 12) 16 (P 9) (P 10 5) ++ lW cI (ad2 11) (ad2 12) 16 (P2 9) (P2 10 5))) [11, 12, 24, 25] (by decide) rfl) rfl rfl) rfl rfl hl.1 rfl (lv_room (Nat.le_of_ble_eq_true rfl)) dX2_copyFrom_107 ⟨Nat.zero_le _, Nat.zero_le _⟩) hP hD hS [11, 12, 24, 25] rfl rfl (fun _ => rfl) (fun U107 H locs hU107 hP hD hS => ?_)
  have hP : va_P (dC, dI) vwCl (pW cI ad (sset (rset (sset (rset (rset (rset (rset (rset (rset (rset (rset (rset P 0 U8) 1 U19) 2 U30) 3 U41) 4 U52) 5 U63) 6 U74) 7 U85) 8 U96.1) 4 U96.2) 9 U107.1) 5 U107.2) ++ pW cI ad2 P2) H := hP
  have hD : va_D A (pW cI ad (sset (rset (sset (rset (rset (rset (rset (rset (rset (rset (rset (rset P 0 U8) 1 U19) 2 U30) 3 U41) 4 U52) 5 U63) 6 U74) 7 U85) 8 U96.1) 4 U96.2) 9 U107.1) 5 U107.2) ++ pW cI ad2 P2) := hD
  have hF := bd_at hF hU107
  refine lv_aload_n hx hb dX2_copyFrom_110 rfl (lv_at hl 0 rfl) ?_
  refine lv_aload_n hx hb dX2_copyFrom_111 rfl (lv_at hl 1 rfl) ?_
  refine va_get (D := (dC, dI)) (ci := 2) (v := .int (P2 10 0)) (C := RX2) (T := TX2) (N := 14) hx hb htX2 (fun _ h => h) hown hK hP 13 rfl rfl 10 (by decide) (hts _ u_73) (fun _ h9 => h9) rfl dX2_copyFrom_112 ?_
  refine va_put (D := (dC, dI)) (ci := 2) (v := .int (P2 10 0)) (ty := .int) (C := RX2) (T := TX2) (N := 14) hx hb htX2 (fun _ h => h) tyX2 tyX2_ok nmX2 hown hK hP hD hS 0 rfl rfl 10 (by decide) (hts _ u_73) (fun _ h9 => h9) rfl (by decide +kernel) rfl rfl (Nat.le_of_ble_eq_true rfl) dX2_copyFrom_115 (fun H locs hP hD hS => ?_)
  have hP : va_P (dC, dI) vwCl (pW cI ad (sset (sset (rset (sset (rset (rset (rset (rset (rset (rset (rset (rset (rset P 0 U8) 1 U19) 2 U30) 3 U41) 4 U52) 5 U63) 6 U74) 7 U85) 8 U96.1) 4 U96.2) 9 U107.1) 5 U107.2) 0 (P2 10 0)) ++ pW cI ad2 P2) H := hP
  have hD : va_D A (pW cI ad (sset (sset (rset (sset (rset (rset (rset (rset (rset (rset (rset (rset (rset P 0 U8) 1 U19) 2 U30) 3 U41) 4 U52) 5 U63) 6 U74) 7 U85) 8 U96.1) 4 U96.2) 9 U107.1) 5 U107.2) 0 (P2 10 0)) ++ pW cI ad2 P2) := hD
  refine lv_aload_n hx hb dX2_copyFrom_118 rfl (lv_at hl 0 rfl) ?_
  refine lv_aload_n hx hb dX2_copyFrom_119 rfl (lv_at hl 1 rfl) ?_
  refine va_get (D := (dC, dI)) (ci := 2) (v := .int (P2 10 1)) (C := RX2) (T := TX2) (N := 14) hx hb htX2 (fun _ h => h) hown hK hP 13 rfl rfl 11 (by decide) (hts _ u_74) (fun _ h9 => h9) rfl dX2_copyFrom_120 ?_
  refine va_put (D := (dC, dI)) (ci := 2) (v := .int (P2 10 1)) (ty := .int) (C := RX2) (T := TX2) (N := 14) hx hb htX2 (fun _ h => h) tyX2 tyX2_ok nmX2 hown hK hP hD hS 0 rfl rfl 11 (by decide) (hts _ u_74) (fun _ h9 => h9) rfl (by decide +kernel) rfl rfl (Nat.le_of_ble_eq_true rfl) dX2_copyFrom_123 (fun H locs hP hD hS => ?_)
  have hP : va_P (dC, dI) vwCl (pW cI ad (sset (sset (sset (rset (sset (rset (rset (rset (rset (rset (rset (rset (rset (rset P 0 U8) 1 U19) 2 U30) 3 U41) 4 U52) 5 U63) 6 U74) 7 U85) 8 U96.1) 4 U96.2) 9 U107.1) 5 U107.2) 0 (P2 10 0)) 1 (P2 10 1)) ++ pW cI ad2 P2) H := hP
  have hD : va_D A (pW cI ad (sset (sset (sset (rset (sset (rset (rset (rset (rset (rset (rset (rset (rset (rset P 0 U8) 1 U19) 2 U30) 3 U41) 4 U52) 5 U63) 6 U74) 7 U85) 8 U96.1) 4 U96.2) 9 U107.1) 5 U107.2) 0 (P2 10 0)) 1 (P2 10 1)) ++ pW cI ad2 P2) := hD
  refine lv_aload_n hx hb dX2_copyFrom_126 rfl (lv_at hl 0 rfl) ?_
  refine lv_aload_n hx hb dX2_copyFrom_127 rfl (lv_at hl 1 rfl) ?_
  refine va_get (D := (dC, dI)) (ci := 2) (v := .int (P2 10 2)) (C := RX2) (T := TX2) (N := 14) hx hb htX2 (fun _ h => h) hown hK hP 13 rfl rfl 12 (by decide) (hts _ u_77) (fun _ h9 => h9) rfl dX2_copyFrom_128 ?_
  refine va_put (D := (dC, dI)) (ci := 2) (v := .int (P2 10 2)) (ty := .int) (C := RX2) (T := TX2) (N := 14) hx hb htX2 (fun _ h => h) tyX2 tyX2_ok nmX2 hown hK hP hD hS 0 rfl rfl 12 (by decide) (hts _ u_77) (fun _ h9 => h9) rfl (by decide +kernel) rfl rfl (Nat.le_of_ble_eq_true rfl) dX2_copyFrom_131 (fun H locs hP hD hS => ?_)
  have hP : va_P (dC, dI) vwCl (pW cI ad (sset (sset (sset (sset (rset (sset (rset (rset (rset (rset (rset (rset (rset (rset (rset P 0 U8) 1 U19) 2 U30) 3 U41) 4 U52) 5 U63) 6 U74) 7 U85) 8 U96.1) 4 U96.2) 9 U107.1) 5 U107.2) 0 (P2 10 0)) 1 (P2 10 1)) 2 (P2 10 2)) ++ pW cI ad2 P2) H := hP
  have hD : va_D A (pW cI ad (sset (sset (sset (sset (rset (sset (rset (rset (rset (rset (rset (rset (rset (rset (rset P 0 U8) 1 U19) 2 U30) 3 U41) 4 U52) 5 U63) 6 U74) 7 U85) 8 U96.1) 4 U96.2) 9 U107.1) 5 U107.2) 0 (P2 10 0)) 1 (P2 10 1)) 2 (P2 10 2)) ++ pW cI ad2 P2) := hD
  refine lv_aload_n hx hb dX2_copyFrom_134 rfl (lv_at hl 0 rfl) ?_
  refine lv_aload_n hx hb dX2_copyFrom_135 rfl (lv_at hl 1 rfl) ?_
  refine va_get (D := (dC, dI)) (ci := 2) (v := .int (P2 10 3)) (C := RX2) (T := TX2) (N := 14) hx hb htX2 (fun _ h => h) hown hK hP 13 rfl rfl 13 (by decide) (hts _ u_79) (fun _ h9 => h9) rfl dX2_copyFrom_136 ?_
  refine va_put (D := (dC, dI)) (ci := 2) (v := .int (P2 10 3)) (ty := .int) (C := RX2) (T := TX2) (N := 14) hx hb htX2 (fun _ h => h) tyX2 tyX2_ok nmX2 hown hK hP hD hS 0 rfl rfl 13 (by decide) (hts _ u_79) (fun _ h9 => h9) rfl (by decide +kernel) rfl rfl (Nat.le_of_ble_eq_true rfl) dX2_copyFrom_139 (fun H locs hP hD hS => ?_)
  have hP : va_P (dC, dI) vwCl (pW cI ad (sset (sset (sset (sset (sset (rset (sset (rset (rset (rset (rset (rset (rset (rset (rset (rset P 0 U8) 1 U19) 2 U30) 3 U41) 4 U52) 5 U63) 6 U74) 7 U85) 8 U96.1) 4 U96.2) 9 U107.1) 5 U107.2) 0 (P2 10 0)) 1 (P2 10 1)) 2 (P2 10 2)) 3 (P2 10 3)) ++ pW cI ad2 P2) H := hP
  have hD : va_D A (pW cI ad (sset (sset (sset (sset (sset (rset (sset (rset (rset (rset (rset (rset (rset (rset (rset (rset P 0 U8) 1 U19) 2 U30) 3 U41) 4 U52) 5 U63) 6 U74) 7 U85) 8 U96.1) 4 U96.2) 9 U107.1) 5 U107.2) 0 (P2 10 0)) 1 (P2 10 1)) 2 (P2 10 2)) 3 (P2 10 3)) ++ pW cI ad2 P2) := hD
  rw [hQ]
  exact W.vret hx hb hr (fun t ht hW => ⟨⟨(sset (sset (sset (sset (sset (rset (sset (rset (rset (rset (rset (rset (rset (rset (rset (rset P 0 U8) 1 U19) 2 U30) 3 U41) 4 U52) 5 U63) 6 U74) 7 U85) 8 U96.1) 4 U96.2) 9 U107.1) 5 U107.2) 0 (P2 10 0)) 1 (P2 10 1)) 2 (P2 10 2)) 3 (P2 10 3)), rfl, hF.symm, toH ht hP⟩, hS.F ht⟩) hS.2.2 dX2_copyFrom_142

