def fX7_areSeats_b5 (x : Nat → Int32) (kk5 : Nat) (U5_0 : Nat → Int32) (nextkk5 : (Nat → Int32) → (Int32 × ((Nat → Int32)))) : Int32 × ((Nat → Int32)) :=
  (bd2 (fX7_readsPart x U5_0) (fun r6 U6 => (if r6 = 0 then (0, U6) else (if (U6 4) = (U6 3) then (1, U6) else (bd2 (fX7_takes x U6 59) (fun r28 U28 => (if r28 = 0 then (0, U28) else (nextkk5 U28))))))))
def fX7_areSeats_r5 (U5_0 : Nat → Int32) : Int32 × ((Nat → Int32)) :=
  (0, U5_0)
def fX7_areSeats (x : Nat → Int32) (M : Nat → Int32) : Int32 × ((Nat → Int32)) :=
  (lq1 (fX7_areSeats_b5 x) fX7_areSeats_r5 61 0 (upd M 4 0))
abbrev rmX7_areSeats : Room := { frames := 4, cells := 0, slots := 0, locals := 85 }
set_option maxHeartbeats 4000000 in
set_option maxRecDepth 100000 in
theorem mX7_areSeats (l : Launch) (dC : Nat → ClassId) (dI : Nat → Nat → Nat) (cI : ClassId) (o q0 q1 : Nat) (f x M : Nat → Int32) (h : Int64) (hM3 : IN (M 3) 60) : Met l yX7_areSeats (ws_ yX7_areSeats cX7_areSeats 1 (some .boolean)) rmX7_areSeats (pcM (dC, dI) [(cI, .int)] (mW cI o q0 q1 f x M h) [.ref o]) (va_Qi (fun (r9 : Int32) (u9 : (Nat → Int32)) => (r9, u9) = fX7_areSeats x M ∧ (r9 = 0 ∨ r9 = 1)) (fun u9 t => va_P (dC, dI) vwCl ((fun (v9 : (Nat → Int32)) => mW cI o q0 q1 f x v9 h) u9) t.heap) (adr (mW cI o q0 q1 f x M h))) 0 0 (adr (mW cI o q0 q1 f x M h)) := by
  refine Met.ofW (cc := cX7_areSeats) (maxL := 1) (ret := (some .boolean)) (by decide) rfl ?_
  intro p e s m args below meth c s₁ B hml hv
  obtain ⟨ha, hP, hK, hn, hD0⟩ := hv
  have hx := B.exec
  have hb := B.bytes
  have hr := B.returns
  have hts0 := atoms_spec (ws := (ws_ yX7_areSeats cX7_areSeats 1 (some .boolean))) B.pre
  have hts : ∀ w ∈ lw_all, w.before args s = true := fun w h => hts0 w (List.mem_cons_of_mem _ h)
  have hown : s.vm.findClass RX7 = some m.cls := findClass_of_methodNamed B.named
  have hlocks := B.notSynchronized
  have htX7 : ∀ w ∈ wsX70, w.before args s = true := fun w h => hts w (wX7 w h)
  have hD := adr_self hD0
  obtain ⟨A, hA⟩ : ∃ A, A = adr (mW cI o q0 q1 f x M h) := ⟨_, rfl⟩
  rw [← hA] at hD
  have hS : va_S A s.heap s.heap [] := va_S.rf
  obtain ⟨Q, hQ⟩ : ∃ Q, Q = MQ below (va_Qi (fun (r9 : Int32) (u9 : (Nat → Int32)) => (r9, u9) = fX7_areSeats x M ∧ (r9 = 0 ∨ r9 = 1)) (fun u9 t => va_P (dC, dI) vwCl ((fun (v9 : (Nat → Int32)) => mW cI o q0 q1 f x v9 h) u9) t.heap) (adr (mW cI o q0 q1 f x M h))) args s 0 0 (adr (mW cI o q0 q1 f x M h)) := ⟨_, rfl⟩
  rw [← hQ]
  rw [← hA] at hQ
  have hl := lv_entry ([.ref o]) (n := 1) (Nat.le_of_ble_eq_true rfl)
  rw [ha, lg_entry_eq, ← ha]
  generalize (lg_sl ([.ref o]) ++ List.replicate (1 - (lg_sl ([.ref o])).length) Slot.unset).toArray = ls at hl ⊢
  have hl : lv_has ls 1 [(0, .ref o)] := hl
  show W p l e rmX7_areSeats s m args below meth c s.heap [] 0 0 Q (F0 m 0 ls [])
  have hF : fX7_areSeats x M = fX7_areSeats x M := rfl
  refine lv_aload_n hx hb dX7_areSeats_0 rfl (lv_at hl 0 rfl) ?_
  refine lv_iconst (v := 0) hx hb dX7_areSeats_1 (by decide) ?_
  refine va_put (D := (dC, dI)) (ci := 5) (v := .int 0) (ty := .int) (C := RX7) (T := TX7) (N := 12) hx hb htX7 (fun _ h => h) tyX7 tyX7_ok nmX7 hown hK hP hD hS 0 rfl rfl 6 (by decide) (hts _ u_863) (fun _ h9 => h9) rfl (by decide +kernel) rfl rfl (Nat.le_of_ble_eq_true rfl) dX7_areSeats_2 (fun H locs hP hD hS => ?_)
  have hP : va_P (dC, dI) vwCl (mW cI o q0 q1 f x (upd M 4 0) h) H := hP
  have hD : va_D A (mW cI o q0 q1 f x (upd M 4 0) h) := hD
  have L5 : ∀ (jj5 kk5 : Nat) (U5_0 : Nat → Int32), kk5 + jj5 = 61 → fX7_areSeats x M = lq1 (fX7_areSeats_b5 x) fX7_areSeats_r5 jj5 kk5 U5_0 → (TX U5_0 ∧ kk5 ≤ (U5_0 4).toNatClampNeg) → ∀ (H : Heap) (locs : List Loc), va_P (dC, dI) vwCl (mW cI o q0 q1 f x U5_0 h) H → va_D A (mW cI o q0 q1 f x U5_0 h) → va_S A s.heap H locs → ∀ (ls : Array Slot), lv_has ls 1 [(0, .ref o)] → W p l e rmX7_areSeats s m args below meth c H locs 0 0 Q (F0 m 5 ls []) := by
    intro jj5
    induction jj5 using Nat.strongRecOn with
    | _ jj5 ihkk5 =>
      intro kk5 U5_0 hkkk5 hF hikk5 H locs hP hD hS ls hl
      obtain ⟨hT5, hk5⟩ := hikk5
      have hb5 := hT5.2.1.c (by decide)
      obtain ⟨jj5, rfl⟩ : ∃ j9, jj5 = j9 + 1 := ⟨jj5 - 1, by omega⟩
      have hF := hF.trans (lq1_s _ _ _ _ _)
      obtain ⟨nextkk5, hnextkk5⟩ : ∃ y9, y9 = lq1 (fX7_areSeats_b5 x) fX7_areSeats_r5 jj5 (kk5 + 1) := ⟨_, rfl⟩
      rw [← hnextkk5] at hF
      refine lv_aload_n hx hb dX7_areSeats_5 rfl (lv_at hl 0 rfl) ?_
      refine k_muti (Wd := (fun (v9 : (Nat → Int32)) => mW cI o q0 q1 f x v9 h)) (va_runV (As := []) (rest := []) ⟨hx, hb, hml, hown, hts0⟩ (mX7_readsPart l dC dI cI o q0 q1 f x U5_0 h  hT5) (cwV 0 hts0 (gi_V u_1060 u_1062 us_38 u_7 u_1063) rfl rfl rfl (by decide +kernel) ⟨Nat.le_of_ble_eq_true rfl, Nat.le_of_ble_eq_true rfl⟩) (pcM_V (ci := 5) (q0 := 0) hP hK hn hD rfl rfl) rfl rfl hl.1 rfl (lv_room (Nat.le_of_ble_eq_true rfl)) dX7_areSeats_6 ⟨Nat.zero_le _, Nat.zero_le _⟩) hP hD hS [0, 1, 2] rfl rfl (fun _ => rfl) (fun r6 U6 H locs hU6 hP hD hS => ?_)
      obtain ⟨hU6, br6⟩ := hU6
      have hP : va_P (dC, dI) vwCl (mW cI o q0 q1 f x U6 h) H := hP
      have hD : va_D A (mW cI o q0 q1 f x U6 h) := hD
      have hF := bd2_at hF hU6
      refine lv_if_eq (tgt := 36) hx hb dX7_areSeats_9 (by decide) (fun c_9 => ?_) (fun c_9 => ?_)
      · have hF := hF.trans (if_pos c_9)
        refine lv_iconst (v := 0) hx hb dX7_areSeats_36 (by decide) ?_
        rw [hQ]
        exact W.zret (ty := .boolean) (v := 0) hx hb hr rfl (fun t ht hW => ⟨⟨0, U6, rfl, ⟨hF.symm, Or.inl rfl⟩, toH ht hP⟩, hS.F ht⟩) hS.2.2 dX7_areSeats_37
      have hF := hF.trans (if_neg c_9)
      refine lv_aload_n hx hb dX7_areSeats_12 rfl (lv_at hl 0 rfl) ?_
      refine va_get (D := (dC, dI)) (ci := 5) (v := .int (U6 4)) (C := RX7) (T := TX7) (N := 12) hx hb htX7 (fun _ h => h) hown hK hP 0 rfl rfl 6 (by decide) (hts _ u_863) (fun _ h9 => h9) rfl dX7_areSeats_13 ?_
      refine lv_aload_n hx hb dX7_areSeats_16 rfl (lv_at hl 0 rfl) ?_
      refine va_get (D := (dC, dI)) (ci := 5) (v := .int (U6 3)) (C := RX7) (T := TX7) (N := 12) hx hb htX7 (fun _ h => h) hown hK hP 0 rfl rfl 5 (by decide) (hts _ u_862) (fun _ h9 => h9) rfl dX7_areSeats_17 ?_
      refine lv_icmp_ne (tgt := 25) hx hb dX7_areSeats_20 (by decide) (fun c_20 => ?_) (fun c_20 => ?_)
      · have hF := hF.trans (if_neg c_20)
        refine lv_aload_n hx hb dX7_areSeats_25 rfl (lv_at hl 0 rfl) ?_
        refine lv_bipush (v := 59) hx hb dX7_areSeats_26 (by decide) ?_
        refine k_muti (Wd := (fun (v9 : (Nat → Int32)) => mW cI o q0 q1 f x v9 h)) (va_runV (As := [.int 59]) (rest := []) ⟨hx, hb, hml, hown, hts0⟩ (mX7_takes l dC dI cI o q0 q1 f x U6 h 59 (readsPart_TX hT5 hU6)) (cwV 1 hts0 (gi_V u_1064 u_1066 us_39 u_7 u_1067) rfl rfl rfl (by decide +kernel) ⟨Nat.le_of_ble_eq_true rfl, Nat.le_of_ble_eq_true rfl⟩) (pcM_V (ci := 5) (q0 := 0) hP hK hn hD rfl rfl) rfl rfl hl.1 rfl (lv_room (Nat.le_of_ble_eq_true rfl)) dX7_areSeats_28 ⟨Nat.zero_le _, Nat.zero_le _⟩) hP hD hS [0, 1, 2] rfl rfl (fun _ => rfl) (fun r28 U28 H locs hU28 hP hD hS => ?_)
        obtain ⟨hU28, br28⟩ := hU28
        have hP : va_P (dC, dI) vwCl (mW cI o q0 q1 f x U28 h) H := hP
        have hD : va_D A (mW cI o q0 q1 f x U28 h) := hD
        have hF := bd2_at hF hU28
        refine lv_if_ne (tgt := 5) hx hb dX7_areSeats_31 (by decide) (fun c_31 => ?_) (fun c_31 => ?_)
        · have hF := hF.trans (if_neg c_31)
          have hF : fX7_areSeats x M = nextkk5 U28 := hF
          rw [hnextkk5] at hF
          exact ihkk5 jj5 (Nat.lt_succ_self _) (kk5 + 1) U28 (cn_next hkkk5) hF (areSeats_step hT5 hk5 hU6 c_9 hU28) _ _ hP hD hS ls (lv_sub hl [0] rfl)
        have hF := hF.trans (if_pos c_31)
        refine lv_iconst (v := 0) hx hb dX7_areSeats_34 (by decide) ?_
        rw [hQ]
        exact W.zret (ty := .boolean) (v := 0) hx hb hr rfl (fun t ht hW => ⟨⟨0, U28, rfl, ⟨hF.symm, Or.inl rfl⟩, toH ht hP⟩, hS.F ht⟩) hS.2.2 dX7_areSeats_35
      have hF := hF.trans (if_pos c_20)
      refine lv_iconst (v := 1) hx hb dX7_areSeats_23 (by decide) ?_
      rw [hQ]
      exact W.zret (ty := .boolean) (v := 1) hx hb hr rfl (fun t ht hW => ⟨⟨1, U6, rfl, ⟨hF.symm, Or.inr rfl⟩, toH ht hP⟩, hS.F ht⟩) hS.2.2 dX7_areSeats_24
  exact L5 61 0 (upd M 4 0) (Nat.zero_add _) hF ⟨TX_at0 hM3, Nat.zero_le _⟩ _ _ hP hD hS ls (lv_sub hl [0] rfl)

def fX7_firstError (x : Nat → Int32) (M : Nat → Int32) : Int32 × ((Nat → Int32)) :=
  (bd2 (fX7_areSeats x (upd M 0 0)) (fun r6 U6 => ((U6 4), U6)))
abbrev rmX7_firstError : Room := { frames := 5, cells := 0, slots := 0, locals := 105 }
set_option maxHeartbeats 4000000 in
set_option maxRecDepth 100000 in
theorem mX7_firstError (l : Launch) (dC : Nat → ClassId) (dI : Nat → Nat → Nat) (cI : ClassId) (o q0 q1 : Nat) (f x M : Nat → Int32) (h : Int64) (hM3 : IN (M 3) 60) : Met l yX7_firstError (ws_ yX7_firstError cX7_firstError 1 (some .int)) rmX7_firstError (pcM (dC, dI) [(cI, .int)] (mW cI o q0 q1 f x M h) [.ref o]) (va_Qi (fun (r9 : Int32) (u9 : (Nat → Int32)) => (r9, u9) = fX7_firstError x M) (fun u9 t => va_P (dC, dI) vwCl ((fun (v9 : (Nat → Int32)) => mW cI o q0 q1 f x v9 h) u9) t.heap) (adr (mW cI o q0 q1 f x M h))) 0 0 (adr (mW cI o q0 q1 f x M h)) := by
  refine Met.ofW (cc := cX7_firstError) (maxL := 1) (ret := (some .int)) (by decide) rfl ?_
  intro p e s m args below meth c s₁ B hml hv
  obtain ⟨ha, hP, hK, hn, hD0⟩ := hv
  have hx := B.exec
  have hb := B.bytes
  have hr := B.returns
  have hts0 := atoms_spec (ws := (ws_ yX7_firstError cX7_firstError 1 (some .int))) B.pre
  have hts : ∀ w ∈ lw_all, w.before args s = true := fun w h => hts0 w (List.mem_cons_of_mem _ h)
  have hown : s.vm.findClass RX7 = some m.cls := findClass_of_methodNamed B.named
  have hlocks := B.notSynchronized
  have htX7 : ∀ w ∈ wsX70, w.before args s = true := fun w h => hts w (wX7 w h)
  have hD := adr_self hD0
  obtain ⟨A, hA⟩ : ∃ A, A = adr (mW cI o q0 q1 f x M h) := ⟨_, rfl⟩
  rw [← hA] at hD
  have hS : va_S A s.heap s.heap [] := va_S.rf
  obtain ⟨Q, hQ⟩ : ∃ Q, Q = MQ below (va_Qi (fun (r9 : Int32) (u9 : (Nat → Int32)) => (r9, u9) = fX7_firstError x M) (fun u9 t => va_P (dC, dI) vwCl ((fun (v9 : (Nat → Int32)) => mW cI o q0 q1 f x v9 h) u9) t.heap) (adr (mW cI o q0 q1 f x M h))) args s 0 0 (adr (mW cI o q0 q1 f x M h)) := ⟨_, rfl⟩
  rw [← hQ]
  rw [← hA] at hQ
  have hl := lv_entry ([.ref o]) (n := 1) (Nat.le_of_ble_eq_true rfl)
  rw [ha, lg_entry_eq, ← ha]
  generalize (lg_sl ([.ref o]) ++ List.replicate (1 - (lg_sl ([.ref o])).length) Slot.unset).toArray = ls at hl ⊢
  have hl : lv_has ls 1 [(0, .ref o)] := hl
  show W p l e rmX7_firstError s m args below meth c s.heap [] 0 0 Q (F0 m 0 ls [])
  have hF : fX7_firstError x M = fX7_firstError x M := rfl
  refine lv_aload_n hx hb dX7_firstError_0 rfl (lv_at hl 0 rfl) ?_
  refine lv_iconst (v := 0) hx hb dX7_firstError_1 (by decide) ?_
  refine va_put (D := (dC, dI)) (ci := 5) (v := .int 0) (ty := .int) (C := RX7) (T := TX7) (N := 12) hx hb htX7 (fun _ h => h) tyX7 tyX7_ok nmX7 hown hK hP hD hS 0 rfl rfl 0 (by decide) (hts _ u_857) (fun _ h9 => h9) rfl (by decide +kernel) rfl rfl (Nat.le_of_ble_eq_true rfl) dX7_firstError_2 (fun H locs hP hD hS => ?_)
  have hP : va_P (dC, dI) vwCl (mW cI o q0 q1 f x (upd M 0 0) h) H := hP
  have hD : va_D A (mW cI o q0 q1 f x (upd M 0 0) h) := hD
  refine lv_aload_n hx hb dX7_firstError_5 rfl (lv_at hl 0 rfl) ?_
  refine k_muti (Wd := (fun (v9 : (Nat → Int32)) => mW cI o q0 q1 f x v9 h)) (va_runV (As := []) (rest := []) ⟨hx, hb, hml, hown, hts0⟩ (mX7_areSeats l dC dI cI o q0 q1 f x (upd M 0 0) h  hM3) (cwV 0 hts0 (gi_V u_1056 u_1058 us_37 u_7 u_1059) rfl rfl rfl (by decide +kernel) ⟨Nat.le_of_ble_eq_true rfl, Nat.le_of_ble_eq_true rfl⟩) (pcM_V (ci := 5) (q0 := 0) hP hK hn hD rfl rfl) rfl rfl hl.1 rfl (lv_room (Nat.le_of_ble_eq_true rfl)) dX7_firstError_6 ⟨Nat.zero_le _, Nat.zero_le _⟩) hP hD hS [0, 1, 2] rfl rfl (fun _ => rfl) (fun r6 U6 H locs hU6 hP hD hS => ?_)
  obtain ⟨hU6, br6⟩ := hU6
  have hP : va_P (dC, dI) vwCl (mW cI o q0 q1 f x U6 h) H := hP
  have hD : va_D A (mW cI o q0 q1 f x U6 h) := hD
  have hF := bd2_at hF hU6
  refine lv_pop hx hb dX7_firstError_9 rfl ?_
  refine lv_aload_n hx hb dX7_firstError_10 rfl (lv_at hl 0 rfl) ?_
  refine va_get (D := (dC, dI)) (ci := 5) (v := .int (U6 4)) (C := RX7) (T := TX7) (N := 12) hx hb htX7 (fun _ h => h) hown hK hP 0 rfl rfl 6 (by decide) (hts _ u_863) (fun _ h9 => h9) rfl dX7_firstError_11 ?_
  rw [hQ]
  exact W.iret (v := (U6 4)) hx hb hr (fun t ht hW => ⟨⟨(U6 4), U6, rfl, hF.symm, toH ht hP⟩, hS.F ht⟩) hS.2.2 dX7_firstError_14

def fX7_isDone (f : Nat → Int32) (M : Nat → Int32) : Int32 × ((Nat → Int32)) :=
  (if (fX7_isGuest f (M 6)) = 0 then (0, f) else (if (M 5) = 0 then (bd ((if (fX7_isSeat f (M 7) (M 8)) = 0 then 0 else (if (fX7_reason f 0 ((M 6).toNatClampNeg) (M 7) (M 8)) = 0 then 1 else 0)) : Nat) (fun v67_0 => (bd ((if (nI v67_0) = 0 then f else (bd (fX7_sitsDown f 0 ((M 6).toNatClampNeg) (M 7) (M 8)) (fun U114 => U114))) : (Nat → Int32)) (fun U97_0 => ((nI v67_0), U97_0))))) else (bd ((if (fX7_of f 0 ((M 6).toNatClampNeg) 3) = (-1) then 0 else 1) : Nat) (fun v31_0 => (bd ((if (nI v31_0) = 0 then f else (bd (fX7_standsUp f 0 ((M 6).toNatClampNeg)) (fun U50 => U50))) : (Nat → Int32)) (fun U41_0 => ((nI v31_0), U41_0)))))))
abbrev rmX7_isDone : Room := { frames := 3, cells := 0, slots := 0, locals := 75 }
set_option maxHeartbeats 4000000 in
set_option maxRecDepth 100000 in
theorem mX7_isDone (l : Launch) (dC : Nat → ClassId) (dI : Nat → Nat → Nat) (cI : ClassId) (o q0 q1 : Nat) (f x M : Nat → Int32) (h : Int64) (hR : RW f 0) (G9 : Nat) (L9 : List Nat) (hL : RO f 0 G9 L9) : Met l yX7_isDone (ws_ yX7_isDone cX7_isDone 2 (some .boolean)) rmX7_isDone (pcM (dC, dI) [(cI, .int)] (mW cI o q0 q1 f x M h) [.ref o]) (va_Qi (fun (r9 : Int32) (u9 : (Nat → Int32)) => (r9, u9) = fX7_isDone f M ∧ (r9 = 0 ∨ r9 = 1)) (fun u9 t => va_P (dC, dI) vwCl ((fun (v9 : (Nat → Int32)) => mW cI o q0 q1 v9 x M h) u9) t.heap) (adr (mW cI o q0 q1 f x M h))) 0 0 (adr (mW cI o q0 q1 f x M h)) := by
  refine Met.ofW (cc := cX7_isDone) (maxL := 2) (ret := (some .boolean)) (by decide) rfl ?_
  intro p e s m args below meth c s₁ B hml hv
  obtain ⟨ha, hP, hK, hn, hD0⟩ := hv
  have hx := B.exec
  have hb := B.bytes
  have hr := B.returns
  have hts0 := atoms_spec (ws := (ws_ yX7_isDone cX7_isDone 2 (some .boolean))) B.pre
  have hts : ∀ w ∈ lw_all, w.before args s = true := fun w h => hts0 w (List.mem_cons_of_mem _ h)
  have hown : s.vm.findClass RX7 = some m.cls := findClass_of_methodNamed B.named
  have hlocks := B.notSynchronized
  have htX7 : ∀ w ∈ wsX70, w.before args s = true := fun w h => hts w (wX7 w h)
  have hD := adr_self hD0
  obtain ⟨A, hA⟩ : ∃ A, A = adr (mW cI o q0 q1 f x M h) := ⟨_, rfl⟩
  rw [← hA] at hD
  have hS : va_S A s.heap s.heap [] := va_S.rf
  obtain ⟨Q, hQ⟩ : ∃ Q, Q = MQ below (va_Qi (fun (r9 : Int32) (u9 : (Nat → Int32)) => (r9, u9) = fX7_isDone f M ∧ (r9 = 0 ∨ r9 = 1)) (fun u9 t => va_P (dC, dI) vwCl ((fun (v9 : (Nat → Int32)) => mW cI o q0 q1 v9 x M h) u9) t.heap) (adr (mW cI o q0 q1 f x M h))) args s 0 0 (adr (mW cI o q0 q1 f x M h)) := ⟨_, rfl⟩
  rw [← hQ]
  rw [← hA] at hQ
  have hl := lv_entry ([.ref o]) (n := 2) (Nat.le_of_ble_eq_true rfl)
  rw [ha, lg_entry_eq, ← ha]
  generalize (lg_sl ([.ref o]) ++ List.replicate (2 - (lg_sl ([.ref o])).length) Slot.unset).toArray = ls at hl ⊢
  have hl : lv_has ls 2 [(0, .ref o)] := hl
  show W p l e rmX7_isDone s m args below meth c s.heap [] 0 0 Q (F0 m 0 ls [])
  have hF : fX7_isDone f M = fX7_isDone f M := rfl
  refine lv_aload_n hx hb dX7_isDone_0 rfl (lv_at hl 0 rfl) ?_
  refine lv_aload_n hx hb dX7_isDone_1 rfl (lv_at hl 0 rfl) ?_
  refine va_get (D := (dC, dI)) (ci := 5) (v := .int (M 6)) (C := RX7) (T := TX7) (N := 12) hx hb htX7 (fun _ h => h) hown hK hP 0 rfl rfl 8 (by decide) (hts _ u_865) (fun _ h9 => h9) rfl dX7_isDone_2 ?_
  refine k_callb (W.runV (As := [.int (M 6)]) (rest := []) ⟨hx, hb, hml, hown, hts0⟩ (mX7_isGuest l dC dI cI o q0 q1 f x M h (M 6)) (cwV 1 hts0 (gi_V u_928 u_930 us_19 u_7 u_931) rfl rfl rfl (by decide +kernel) ⟨Nat.le_of_ble_eq_true rfl, Nat.le_of_ble_eq_true rfl⟩) (pcR_V (ci := 5) (q0 := 0) hP hK hn rfl rfl) rfl rfl hl.1 rfl (lv_room (Nat.le_of_ble_eq_true rfl)) dX7_isDone_5 ⟨Nat.zero_le _, Nat.zero_le _⟩) (fun br5 => ?_)
  refine lv_if_ne (tgt := 13) hx hb dX7_isDone_8 (by decide) (fun c_8 => ?_) (fun c_8 => ?_)
  · have hF := hF.trans (if_neg c_8)
    obtain ⟨hfn, hfl, hfb⟩ := in_nat (v := M 6) (x := f 0) (n := 16) hR.2.1 (by decide) c_8
    have hfG : (M 6).toNatClampNeg < G9 := by have e := hL.2.1; rw [show f 0 = nI G9 from e, nI_clamp (by have := hL.2.2.1; omega)] at hfl; exact hfl
    refine lv_aload_n hx hb dX7_isDone_13 rfl (lv_at hl 0 rfl) ?_
    refine va_get (D := (dC, dI)) (ci := 5) (v := .int (M 5)) (C := RX7) (T := TX7) (N := 12) hx hb htX7 (fun _ h => h) hown hK hP 0 rfl rfl 7 (by decide) (hts _ u_864) (fun _ h9 => h9) rfl dX7_isDone_14 ?_
    refine lv_if_eq (tgt := 55) hx hb dX7_isDone_17 (by decide) (fun c_17 => ?_) (fun c_17 => ?_)
    · have hF := hF.trans (if_pos c_17)
      refine lv_aload_n hx hb dX7_isDone_55 rfl (lv_at hl 0 rfl) ?_
      refine lv_aload_n hx hb dX7_isDone_56 rfl (lv_at hl 0 rfl) ?_
      refine va_get (D := (dC, dI)) (ci := 5) (v := .int (M 7)) (C := RX7) (T := TX7) (N := 12) hx hb htX7 (fun _ h => h) hown hK hP 0 rfl rfl 9 (by decide) (hts _ u_866) (fun _ h9 => h9) rfl dX7_isDone_57 ?_
      refine lv_aload_n hx hb dX7_isDone_60 rfl (lv_at hl 0 rfl) ?_
      refine va_get (D := (dC, dI)) (ci := 5) (v := .int (M 8)) (C := RX7) (T := TX7) (N := 12) hx hb htX7 (fun _ h => h) hown hK hP 0 rfl rfl 10 (by decide) (hts _ u_867) (fun _ h9 => h9) rfl dX7_isDone_61 ?_
      refine k_callb (W.runV (As := [.int (M 7), .int (M 8)]) (rest := []) ⟨hx, hb, hml, hown, hts0⟩ (mX7_isSeat l dC dI cI o q0 q1 f x M h (M 7) (M 8) hR.2.2.1) (cwV 2 hts0 (gi_V u_981 u_983 us_25 u_7 u_984) rfl rfl rfl (by decide +kernel) ⟨Nat.le_of_ble_eq_true rfl, Nat.le_of_ble_eq_true rfl⟩) (pcR_V (ci := 5) (q0 := 0) hP hK hn rfl rfl) rfl rfl hl.1 rfl (lv_room (Nat.le_of_ble_eq_true rfl)) dX7_isDone_64 ⟨Nat.zero_le _, Nat.zero_le _⟩) (fun br64 => ?_)
      have K67 : ∀ (v67_0 : Nat), v67_0 = (if (fX7_isSeat f (M 7) (M 8)) = 0 then 0 else (if (fX7_reason f 0 ((M 6).toNatClampNeg) (M 7) (M 8)) = 0 then 1 else 0)) → ∀ (H : Heap) (locs : List Loc), va_P (dC, dI) vwCl (mW cI o q0 q1 f x M h) H → va_D A (mW cI o q0 q1 f x M h) → va_S A s.heap H locs → ∀ (ls : Array Slot), lv_has ls 2 [(0, .ref o)] → W p l e rmX7_isDone s m args below meth c H locs 0 0 Q (F0 m 95 ls [.int (nI v67_0)]) := by
        intro v67_0 hz67 H locs hP hD hS ls hl
        have hz := hz67
        have bz67 : (nI v67_0 : Int32) = 0 ∨ nI v67_0 = 1 := by rw [hz]; (repeat' split); all_goals first | exact Or.inl rfl | exact Or.inr rfl
        have hF := bd_at hF hz
        refine lv_istore_n (lv' := [(1, .int (nI v67_0)), (0, .ref o)]) hx hb dX7_isDone_95 rfl hl (by decide) rfl (fun ls hl => ?_)
        refine lv_iload_n hx hb dX7_isDone_96 rfl (lv_at hl 0 rfl) ?_
        obtain ⟨S0, hS0, hSe⟩ := RO_midS hL hfG
        have K97 : ∀ (U97_0 : Nat → Int32), U97_0 = (if (nI v67_0) = 0 then f else (bd (fX7_sitsDown f 0 ((M 6).toNatClampNeg) (M 7) (M 8)) (fun U114 => U114))) → ∀ (H : Heap) (locs : List Loc), va_P (dC, dI) vwCl (mW cI o q0 q1 U97_0 x M h) H → va_D A (mW cI o q0 q1 U97_0 x M h) → va_S A s.heap H locs → ∀ (ls : Array Slot), lv_has ls 2 [(1, .int (nI v67_0)), (0, .ref o)] → W p l e rmX7_isDone s m args below meth c H locs 0 0 Q (F0 m 117 ls []) := by
          intro U97_0 hz97 H locs hP hD hS ls hl
          have hz := hz97
          have hF := bd_at hF hz
          refine lv_iload_n hx hb dX7_isDone_117 rfl (lv_at hl 0 rfl) ?_
          rw [hQ]
          exact W.zret (ty := .boolean) (v := (nI v67_0)) hx hb hr (nb01 (bz67)) (fun t ht hW => ⟨⟨(nI v67_0), U97_0, rfl, ⟨hF.symm, bz67⟩, toH ht hP⟩, hS.F ht⟩) hS.2.2 dX7_isDone_118
        have hF : ((if (nI v67_0) = 0 then f else (bd (fX7_sitsDown f 0 ((M 6).toNatClampNeg) (M 7) (M 8)) (fun U114 => U114))) : (Nat → Int32)) = (if (nI v67_0) = 0 then f else (bd (fX7_sitsDown f 0 ((M 6).toNatClampNeg) (M 7) (M 8)) (fun U114 => U114))) := rfl
        refine lv_if_eq (tgt := 117) hx hb dX7_isDone_97 (by decide) (fun c_97 => ?_) (fun c_97 => ?_)
        · have hF := hF.trans (if_pos c_97)
          exact K97 _ hF.symm _ _ hP hD hS  ls (lv_sub hl [0, 1] rfl)
        have hF := hF.trans (if_neg c_97)
        refine lv_aload_n hx hb dX7_isDone_100 rfl (lv_at hl 1 rfl) ?_
        refine lv_iconst (v := 0) hx hb dX7_isDone_101 (by decide) ?_
        refine lv_aload_n hx hb dX7_isDone_102 rfl (lv_at hl 1 rfl) ?_
        refine va_get (D := (dC, dI)) (ci := 5) (v := .int (M 6)) (C := RX7) (T := TX7) (N := 12) hx hb htX7 (fun _ h => h) hown hK hP 0 rfl rfl 8 (by decide) (hts _ u_865) (fun _ h9 => h9) rfl dX7_isDone_103 ?_
        refine lv_tope (y := (nI (M 6).toNatClampNeg)) hfn ?_
        refine lv_aload_n hx hb dX7_isDone_106 rfl (lv_at hl 1 rfl) ?_
        refine va_get (D := (dC, dI)) (ci := 5) (v := .int (M 7)) (C := RX7) (T := TX7) (N := 12) hx hb htX7 (fun _ h => h) hown hK hP 0 rfl rfl 9 (by decide) (hts _ u_866) (fun _ h9 => h9) rfl dX7_isDone_107 ?_
        refine lv_aload_n hx hb dX7_isDone_110 rfl (lv_at hl 1 rfl) ?_
        refine va_get (D := (dC, dI)) (ci := 5) (v := .int (M 8)) (C := RX7) (T := TX7) (N := 12) hx hb htX7 (fun _ h => h) hown hK hP 0 rfl rfl 10 (by decide) (hts _ u_867) (fun _ h9 => h9) rfl dX7_isDone_111 ?_
        refine k_mutv (Wd := (fun (v9 : (Nat → Int32)) => mW cI o q0 q1 v9 x M h)) (va_runV (As := [.int 0, .int (nI (M 6).toNatClampNeg), .int (M 7), .int (M 8)]) (rest := []) ⟨hx, hb, hml, hown, hts0⟩ (mX7_sitsDown l dC dI cI o q0 q1 f x M h 0 ((M 6).toNatClampNeg) (M 7) (M 8) hR hfb S0 hS0 hSe) (cwV 4 hts0 (gi_V u_1000 u_1002 us_29 u_7 u_1003) rfl rfl rfl (by decide +kernel) ⟨Nat.le_of_ble_eq_true rfl, Nat.le_of_ble_eq_true rfl⟩) (pcM_V (ci := 5) (q0 := 0) hP hK hn hD rfl rfl) rfl rfl hl.1 rfl (lv_room (Nat.le_of_ble_eq_true rfl)) dX7_isDone_114 ⟨Nat.zero_le _, Nat.zero_le _⟩) hP hD hS [0, 1, 2] rfl rfl (fun _ => rfl) (fun U114 H locs hU114 hP hD hS => ?_)
        have hP : va_P (dC, dI) vwCl (mW cI o q0 q1 U114 x M h) H := hP
        have hD : va_D A (mW cI o q0 q1 U114 x M h) := hD
        have hF := bd_at hF hU114
        exact K97 _ hF.symm _ _ hP hD hS  ls (lv_sub hl [0, 1] rfl)
      have hF : ((if (fX7_isSeat f (M 7) (M 8)) = 0 then 0 else (if (fX7_reason f 0 ((M 6).toNatClampNeg) (M 7) (M 8)) = 0 then 1 else 0)) : Nat) = (if (fX7_isSeat f (M 7) (M 8)) = 0 then 0 else (if (fX7_reason f 0 ((M 6).toNatClampNeg) (M 7) (M 8)) = 0 then 1 else 0)) := rfl
      refine lv_if_eq (tgt := 94) hx hb dX7_isDone_67 (by decide) (fun c_67 => ?_) (fun c_67 => ?_)
      · have hF := hF.trans (if_pos c_67)
        refine lv_iconst (v := 0) hx hb dX7_isDone_94 (by decide) ?_
        exact K67 _ hF.symm _ _ hP hD hS  ls (lv_sub hl [0] rfl)
      have hF := hF.trans (if_neg c_67)
      refine lv_aload_n hx hb dX7_isDone_70 rfl (lv_at hl 0 rfl) ?_
      refine lv_iconst (v := 0) hx hb dX7_isDone_71 (by decide) ?_
      refine lv_aload_n hx hb dX7_isDone_72 rfl (lv_at hl 0 rfl) ?_
      refine va_get (D := (dC, dI)) (ci := 5) (v := .int (M 6)) (C := RX7) (T := TX7) (N := 12) hx hb htX7 (fun _ h => h) hown hK hP 0 rfl rfl 8 (by decide) (hts _ u_865) (fun _ h9 => h9) rfl dX7_isDone_73 ?_
      refine lv_tope (y := (nI (M 6).toNatClampNeg)) hfn ?_
      refine lv_aload_n hx hb dX7_isDone_76 rfl (lv_at hl 0 rfl) ?_
      refine va_get (D := (dC, dI)) (ci := 5) (v := .int (M 7)) (C := RX7) (T := TX7) (N := 12) hx hb htX7 (fun _ h => h) hown hK hP 0 rfl rfl 9 (by decide) (hts _ u_866) (fun _ h9 => h9) rfl dX7_isDone_77 ?_
      refine lv_aload_n hx hb dX7_isDone_80 rfl (lv_at hl 0 rfl) ?_
      refine va_get (D := (dC, dI)) (ci := 5) (v := .int (M 8)) (C := RX7) (T := TX7) (N := 12) hx hb htX7 (fun _ h => h) hown hK hP 0 rfl rfl 10 (by decide) (hts _ u_867) (fun _ h9 => h9) rfl dX7_isDone_81 ?_
      refine k_calli (W.runV (As := [.int 0, .int (nI (M 6).toNatClampNeg), .int (M 7), .int (M 8)]) (rest := []) ⟨hx, hb, hml, hown, hts0⟩ (mX7_reason l dC dI cI o q0 q1 f x M h 0 ((M 6).toNatClampNeg) (M 7) (M 8) (by first | omega | assumption) (by first | omega | assumption)) (cwV 4 hts0 (gi_V u_989 u_991 us_27 u_7 u_992) rfl rfl rfl (by decide +kernel) ⟨Nat.le_of_ble_eq_true rfl, Nat.le_of_ble_eq_true rfl⟩) (pcR_V (ci := 5) (q0 := 0) hP hK hn rfl rfl) rfl rfl hl.1 rfl (lv_room (Nat.le_of_ble_eq_true rfl)) dX7_isDone_84 ⟨Nat.zero_le _, Nat.zero_le _⟩) ?_
      refine lv_if_ne (tgt := 94) hx hb dX7_isDone_87 (by decide) (fun c_87 => ?_) (fun c_87 => ?_)
      · have hF := hF.trans (if_neg c_87)
        refine lv_iconst (v := 0) hx hb dX7_isDone_94 (by decide) ?_
        exact K67 _ hF.symm _ _ hP hD hS  ls (lv_sub hl [0] rfl)
      have hF := hF.trans (if_pos c_87)
      refine lv_iconst (v := 1) hx hb dX7_isDone_90 (by decide) ?_
      refine lv_goto (tgt := 95) hx hb dX7_isDone_91 (by decide) ?_
      exact K67 _ hF.symm _ _ hP hD hS  ls (lv_sub hl [0] rfl)
    have hF := hF.trans (if_neg c_17)
    refine lv_aload_n hx hb dX7_isDone_20 rfl (lv_at hl 0 rfl) ?_
    refine lv_iconst (v := 0) hx hb dX7_isDone_21 (by decide) ?_
    refine lv_aload_n hx hb dX7_isDone_22 rfl (lv_at hl 0 rfl) ?_
    refine va_get (D := (dC, dI)) (ci := 5) (v := .int (M 6)) (C := RX7) (T := TX7) (N := 12) hx hb htX7 (fun _ h => h) hown hK hP 0 rfl rfl 8 (by decide) (hts _ u_865) (fun _ h9 => h9) rfl dX7_isDone_23 ?_
    refine lv_tope (y := (nI (M 6).toNatClampNeg)) hfn ?_
    refine lv_iconst (v := 3) hx hb dX7_isDone_26 (by decide) ?_
    refine k_calli (W.runV (As := [.int 0, .int (nI (M 6).toNatClampNeg), .int 3]) (rest := []) ⟨hx, hb, hml, hown, hts0⟩ (mX7_of l dC dI cI o q0 q1 f x M h 0 ((M 6).toNatClampNeg) 3 (by first | omega | assumption)) (cwV 3 hts0 (gi_V u_932 u_934 us_20 u_7 u_935) rfl rfl rfl (by decide +kernel) ⟨Nat.le_of_ble_eq_true rfl, Nat.le_of_ble_eq_true rfl⟩) (pcR_V (ci := 5) (q0 := 0) hP hK hn rfl rfl) rfl rfl hl.1 rfl (lv_room (Nat.le_of_ble_eq_true rfl)) dX7_isDone_27 ⟨Nat.zero_le _, Nat.zero_le _⟩) ?_
    refine lv_iconst (v := (-1)) hx hb dX7_isDone_30 (by decide) ?_
    have K31 : ∀ (v31_0 : Nat), v31_0 = (if (fX7_of f 0 ((M 6).toNatClampNeg) 3) = (-1) then 0 else 1) → ∀ (H : Heap) (locs : List Loc), va_P (dC, dI) vwCl (mW cI o q0 q1 f x M h) H → va_D A (mW cI o q0 q1 f x M h) → va_S A s.heap H locs → ∀ (ls : Array Slot), lv_has ls 2 [(0, .ref o)] → W p l e rmX7_isDone s m args below meth c H locs 0 0 Q (F0 m 39 ls [.int (nI v31_0)]) := by
      intro v31_0 hz31 H locs hP hD hS ls hl
      have hz := hz31
      have bz31 : (nI v31_0 : Int32) = 0 ∨ nI v31_0 = 1 := by rw [hz]; (repeat' split); all_goals first | exact Or.inl rfl | exact Or.inr rfl
      have hF := bd_at hF hz
      refine lv_istore_n (lv' := [(1, .int (nI v31_0)), (0, .ref o)]) hx hb dX7_isDone_39 rfl hl (by decide) rfl (fun ls hl => ?_)
      refine lv_iload_n hx hb dX7_isDone_40 rfl (lv_at hl 0 rfl) ?_
      have K41 : ∀ (U41_0 : Nat → Int32), U41_0 = (if (nI v31_0) = 0 then f else (bd (fX7_standsUp f 0 ((M 6).toNatClampNeg)) (fun U50 => U50))) → ∀ (H : Heap) (locs : List Loc), va_P (dC, dI) vwCl (mW cI o q0 q1 U41_0 x M h) H → va_D A (mW cI o q0 q1 U41_0 x M h) → va_S A s.heap H locs → ∀ (ls : Array Slot), lv_has ls 2 [(1, .int (nI v31_0)), (0, .ref o)] → W p l e rmX7_isDone s m args below meth c H locs 0 0 Q (F0 m 53 ls []) := by
        intro U41_0 hz41 H locs hP hD hS ls hl
        have hz := hz41
        have hF := bd_at hF hz
        refine lv_iload_n hx hb dX7_isDone_53 rfl (lv_at hl 0 rfl) ?_
        rw [hQ]
        exact W.zret (ty := .boolean) (v := (nI v31_0)) hx hb hr (nb01 (bz31)) (fun t ht hW => ⟨⟨(nI v31_0), U41_0, rfl, ⟨hF.symm, bz31⟩, toH ht hP⟩, hS.F ht⟩) hS.2.2 dX7_isDone_54
      have hF : ((if (nI v31_0) = 0 then f else (bd (fX7_standsUp f 0 ((M 6).toNatClampNeg)) (fun U50 => U50))) : (Nat → Int32)) = (if (nI v31_0) = 0 then f else (bd (fX7_standsUp f 0 ((M 6).toNatClampNeg)) (fun U50 => U50))) := rfl
      refine lv_if_eq (tgt := 53) hx hb dX7_isDone_41 (by decide) (fun c_41 => ?_) (fun c_41 => ?_)
      · have hF := hF.trans (if_pos c_41)
        exact K41 _ hF.symm _ _ hP hD hS  ls (lv_sub hl [0, 1] rfl)
      have hF := hF.trans (if_neg c_41)
      refine lv_aload_n hx hb dX7_isDone_44 rfl (lv_at hl 1 rfl) ?_
      refine lv_iconst (v := 0) hx hb dX7_isDone_45 (by decide) ?_
      refine lv_aload_n hx hb dX7_isDone_46 rfl (lv_at hl 1 rfl) ?_
      refine va_get (D := (dC, dI)) (ci := 5) (v := .int (M 6)) (C := RX7) (T := TX7) (N := 12) hx hb htX7 (fun _ h => h) hown hK hP 0 rfl rfl 8 (by decide) (hts _ u_865) (fun _ h9 => h9) rfl dX7_isDone_47 ?_
      refine lv_tope (y := (nI (M 6).toNatClampNeg)) hfn ?_
      refine k_mutv (Wd := (fun (v9 : (Nat → Int32)) => mW cI o q0 q1 v9 x M h)) (va_runV (As := [.int 0, .int (nI (M 6).toNatClampNeg)]) (rest := []) ⟨hx, hb, hml, hown, hts0⟩ (mX7_standsUp l dC dI cI o q0 q1 f x M h 0 ((M 6).toNatClampNeg) (by first | omega | assumption) (by first | omega | assumption)) (cwV 2 hts0 (gi_V u_962 u_964 us_24 u_7 u_965) rfl rfl rfl (by decide +kernel) ⟨Nat.le_of_ble_eq_true rfl, Nat.le_of_ble_eq_true rfl⟩) (pcM_V (ci := 5) (q0 := 0) hP hK hn hD rfl rfl) rfl rfl hl.1 rfl (lv_room (Nat.le_of_ble_eq_true rfl)) dX7_isDone_50 ⟨Nat.zero_le _, Nat.zero_le _⟩) hP hD hS [0, 1, 2] rfl rfl (fun _ => rfl) (fun U50 H locs hU50 hP hD hS => ?_)
      have hP : va_P (dC, dI) vwCl (mW cI o q0 q1 U50 x M h) H := hP
      have hD : va_D A (mW cI o q0 q1 U50 x M h) := hD
      have hF := bd_at hF hU50
      exact K41 _ hF.symm _ _ hP hD hS  ls (lv_sub hl [0, 1] rfl)
    have hF : ((if (fX7_of f 0 ((M 6).toNatClampNeg) 3) = (-1) then 0 else 1) : Nat) = (if (fX7_of f 0 ((M 6).toNatClampNeg) 3) = (-1) then 0 else 1) := rfl
    refine lv_icmp_eq (tgt := 38) hx hb dX7_isDone_31 (by decide) (fun c_31 => ?_) (fun c_31 => ?_)
    · have hF := hF.trans (if_pos c_31)
      refine lv_iconst (v := 0) hx hb dX7_isDone_38 (by decide) ?_
      exact K31 _ hF.symm _ _ hP hD hS  ls (lv_sub hl [0] rfl)
    have hF := hF.trans (if_neg c_31)
    refine lv_iconst (v := 1) hx hb dX7_isDone_34 (by decide) ?_
    refine lv_goto (tgt := 39) hx hb dX7_isDone_35 (by decide) ?_
    exact K31 _ hF.symm _ _ hP hD hS  ls (lv_sub hl [0] rfl)
  have hF := hF.trans (if_pos c_8)
  refine lv_iconst (v := 0) hx hb dX7_isDone_11 (by decide) ?_
  rw [hQ]
  exact W.zret (ty := .boolean) (v := 0) hx hb hr rfl (fun t ht hW => ⟨⟨0, f, rfl, ⟨hF.symm, Or.inl rfl⟩, toH ht hP⟩, hS.F ht⟩) hS.2.2 dX7_isDone_12
