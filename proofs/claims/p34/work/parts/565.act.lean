/-! a deed of the law's. Mine (rows laid by program). -/
def fL_act (PN : PV) (PS : PV) (xa : Int32) (ya : Int32) : Int32 × (PV) :=
  (bd ((if (PN 10 0) = 0 then 0 else (fL_up ya (PN 10 0))) : Int32) (fun v5_0 => (bd ((if (PN 10 1) = 0 then 0 else (fL_up (ya >>> (4 &&& 31)) (PN 10 1))) : Int32) (fun v27_0 => (if (PN 10 0) = 0 then (if (PN 10 1) = 0 then (((1000 : Int32) + (fX2_addTable PN ((3 : Int32) + (fL_up ya 6))).1), ((fX2_addTable PN ((3 : Int32) + (fL_up ya 6))).2)) else (((1000 : Int32) + (fX2_addGuest PN (fL_up ya 6) ((1 : Int32) + (fL_up (ya >>> (3 &&& 31)) 3))).1), ((fX2_addGuest PN (fL_up ya 6) ((1 : Int32) + (fL_up (ya >>> (3 &&& 31)) 3))).2))) else (if (PN 10 1) = 0 then (if (PN 10 1) = 0 then (((1000 : Int32) + (fX2_addTable PN ((3 : Int32) + (fL_up ya 6))).1), ((fX2_addTable PN ((3 : Int32) + (fL_up ya 6))).2)) else (((1000 : Int32) + (fX2_addGuest PN (fL_up ya 6) ((1 : Int32) + (fL_up (ya >>> (3 &&& 31)) 3))).1), ((fX2_addGuest PN (fL_up ya 6) ((1 : Int32) + (fL_up (ya >>> (3 &&& 31)) 3))).2))) else (if (fL_up xa 16) = 0 then (if 16 ≤ (PN 10 0) then (((1000 : Int32) + (fX2_seatStanding PN).1), ((fX2_seatStanding PN).2)) else (((1000 : Int32) + (fX2_addGuest PN (fL_up ya 6) ((1 : Int32) + (fL_up (ya >>> (3 &&& 31)) 3))).1), ((fX2_addGuest PN (fL_up ya 6) ((1 : Int32) + (fL_up (ya >>> (3 &&& 31)) 3))).2))) else (if (fL_up xa 16) = 1 then (if 16 ≤ (PN 10 0) then (((1000 : Int32) + (fX2_seatStanding PN).1), ((fX2_seatStanding PN).2)) else (((1000 : Int32) + (fX2_addGuest PN (fL_up ya 6) ((1 : Int32) + (fL_up (ya >>> (3 &&& 31)) 3))).1), ((fX2_addGuest PN (fL_up ya 6) ((1 : Int32) + (fL_up (ya >>> (3 &&& 31)) 3))).2))) else (if (fL_up xa 16) = 2 then (if 16 ≤ (PN 10 0) then (((1000 : Int32) + (fX2_seatStanding PN).1), ((fX2_seatStanding PN).2)) else (((1000 : Int32) + (fX2_addGuest PN (fL_up ya 6) ((1 : Int32) + (fL_up (ya >>> (3 &&& 31)) 3))).1), ((fX2_addGuest PN (fL_up ya 6) ((1 : Int32) + (fL_up (ya >>> (3 &&& 31)) 3))).2))) else (if (fL_up xa 16) = 3 then (if 4 ≤ (PN 10 1) then (((1000 : Int32) + (dSet PN 0 ((1 : Int32) + (fL_up ya 8))).1), ((dSet PN 0 ((1 : Int32) + (fL_up ya 8))).2)) else (((1000 : Int32) + (fX2_addTable PN ((3 : Int32) + (fL_up ya 6))).1), ((fX2_addTable PN ((3 : Int32) + (fL_up ya 6))).2))) else (if (fL_up xa 16) = 4 then (if (fL_isFeud PN (fL_up ya 6) ((((fL_up ya 6) + (1 : Int32)) + (fL_up (ya >>> (3 &&& 31)) 5)) - (((fL_up ya 6) + (1 : Int32)) + (fL_up (ya >>> (3 &&& 31)) 5)) / 6 * 6)) = 0 then (if 8 ≤ (PN 10 4) then (((1000 : Int32) + (fX2_seatStanding PN).1), ((fX2_seatStanding PN).2)) else (((1000 : Int32) + (fX2_beginFeud PN (fL_up ya 6) ((((fL_up ya 6) + (1 : Int32)) + (fL_up (ya >>> (3 &&& 31)) 5)) - (((fL_up ya 6) + (1 : Int32)) + (fL_up (ya >>> (3 &&& 31)) 5)) / 6 * 6)).1), ((fX2_beginFeud PN (fL_up ya 6) ((((fL_up ya 6) + (1 : Int32)) + (fL_up (ya >>> (3 &&& 31)) 5)) - (((fL_up ya 6) + (1 : Int32)) + (fL_up (ya >>> (3 &&& 31)) 5)) / 6 * 6)).2))) else (((1000 : Int32) + (dPeace PN (fL_up ya 6) ((((fL_up ya 6) + (1 : Int32)) + (fL_up (ya >>> (3 &&& 31)) 5)) - (((fL_up ya 6) + (1 : Int32)) + (fL_up (ya >>> (3 &&& 31)) 5)) / 6 * 6)).1), ((dPeace PN (fL_up ya 6) ((((fL_up ya 6) + (1 : Int32)) + (fL_up (ya >>> (3 &&& 31)) 5)) - (((fL_up ya 6) + (1 : Int32)) + (fL_up (ya >>> (3 &&& 31)) 5)) / 6 * 6)).2))) else (if (fL_up xa 16) = 5 then (bd ((if (fL_up (ya >>> (8 &&& 31)) (PN 10 0)) = v5_0 then (-1) else (fL_up (ya >>> (8 &&& 31)) (PN 10 0))) : Int32) (fun v367_0 => (((1001 : Int32) + (dWish PN v5_0 v367_0).1), ((dWish PN v5_0 v367_0).2)))) else (if (fL_up xa 16) = 6 then (bd ((if (fL_up (ya >>> (8 &&& 31)) (PN 10 0)) = v5_0 then (-1) else (fL_up (ya >>> (8 &&& 31)) (PN 10 0))) : Int32) (fun v367_0 => (((1001 : Int32) + (dWish PN v5_0 v367_0).1), ((dWish PN v5_0 v367_0).2)))) else (if (fL_up xa 16) = 7 then (bd ((if (fL_up ya 4) = 0 then ((1 : Int32) + (fL_up (ya >>> (2 &&& 31)) 8)) else (bd ((if (fL_up ya 4) = 3 then 10 else 21) : Int32) (fun v418_0 => (fL_up (ya >>> (2 &&& 31)) v418_0)))) : Int32) (fun v396_0 => (((1000 : Int32) + (dSet PN (fL_up ya 4) v396_0).1), ((dSet PN (fL_up ya 4) v396_0).2)))) else (if (fL_up xa 16) = 8 then (if (fX6_guestNumber PN v5_0 3) = (-1) then (((1000 : Int32) + (fX2_seatStanding PN).1), ((fX2_seatStanding PN).2)) else (((1000 : Int32) + (dRise PN v5_0).1), ((dRise PN v5_0).2))) else (if (fL_up xa 16) = 9 then (if (ya &&& 7) = 0 then (((1000 : Int32) + (dRestore PN PS).1), ((dRestore PN PS).2)) else (((1000 : Int32) + (fX2_seatStanding PN).1), ((fX2_seatStanding PN).2))) else (if (fX2_reasonAgainst PN v5_0 v27_0 (fL_up (ya >>> (6 &&& 31)) (fX6_tableNumber PN v27_0 0))) = 0 then (((1000 : Int32) + (dSit PN v5_0 v27_0 (fL_up (ya >>> (6 &&& 31)) (fX6_tableNumber PN v27_0 0))).1), ((dSit PN v5_0 v27_0 (fL_up (ya >>> (6 &&& 31)) (fX6_tableNumber PN v27_0 0))).2)) else (((1000 : Int32) + (dSet PN 1 (fL_up ya 21)).1), ((dSet PN 1 (fL_up ya 21)).2)))))))))))))))))))
abbrev rmL_act : Room := { frames := 8, cells := 0, slots := 0, locals := 196 }
set_option maxHeartbeats 4000000 in
set_option maxRecDepth 100000 in
theorem mL_act (l : Launch) (dC : Nat → ClassId) (dI : Nat → Nat → Nat) (cI cP : ClassId) (a0 : Nat) (aN aT aS : Nat → Nat) (t0 t1 t2 h0 h1 : Nat) (pa : Nat → Nat → Nat) (PN PT PS : PV) (f : Nat → Int32) (u : Int32) (Ps : Nat → PV) (oh vh : Nat) (k : Int32) (xa : Int32) (ya : Int32) (qL qG : Nat) (f9 : Nat → Int32) (G T : Nat) (L : List Nat) (hR : REL PN f9 0 G T L) (hX : XI f9 G L) (hS9 : NW PS) (hk1 : k = 1) (ho6 : oh < 6) (hv6 : vh ≤ 6) : Met l yL_act (ws_ yL_act cL_act 10 (some .int)) rmL_act (pcZ (dC, dI) [(cI, .int), (cP, .object "SupperSeats$Plan")] (fW cI cP a0 aN aT aS t0 t1 t2 h0 h1 pa PN PT PS f u Ps oh vh k) [.ref a0, .int xa, .int ya] cI qL qG) (va_Qi (fun (r9 : Int32) (u9 : PV × (Nat → PV) × Nat × Nat) => (r9, u9) = SV PN Ps oh vh (fL_act PN PS xa ya) ∧ 0 ≤ r9 ∧ NW u9.1) (fun u9 t => va_P (dC, dI) vwCl ((fun (v9 : PV × (Nat → PV) × Nat × Nat) => fW cI cP a0 aN aT aS t0 t1 t2 h0 h1 pa v9.1 PT PS f u v9.2.1 v9.2.2.1 v9.2.2.2 k) u9) t.heap) (adr (fW cI cP a0 aN aT aS t0 t1 t2 h0 h1 pa PN PT PS f u Ps oh vh k))) 0 0 (adr (fW cI cP a0 aN aT aS t0 t1 t2 h0 h1 pa PN PT PS f u Ps oh vh k)) := by
  refine Met.ofW (cc := cL_act) (maxL := 10) (ret := (some .int)) (by decide) rfl ?_
  intro p e s m args below meth c s₁ B hml hv
  obtain ⟨ha, hP, hK, hn, hD0, hT⟩ := hv
  have hx := B.exec
  have hb := B.bytes
  have hr := B.returns
  have hts0 := atoms_spec (ws := (ws_ yL_act cL_act 10 (some .int))) B.pre
  have hts : ∀ w ∈ lw_all, w.before args s = true := fun w h => hts0 w (List.mem_cons_of_mem _ h)
  have hown : s.vm.findClass RL = some m.cls := findClass_of_methodNamed B.named
  have hlocks := B.notSynchronized
  have hD := adr_self hD0
  obtain ⟨A, hA⟩ : ∃ A, A = adr (fW cI cP a0 aN aT aS t0 t1 t2 h0 h1 pa PN PT PS f u Ps oh vh k) := ⟨_, rfl⟩
  rw [← hA] at hD hT
  have hS : va_S A s.heap s.heap [] := va_S.rf
  obtain ⟨Q, hQ⟩ : ∃ Q, Q = MQ below (va_Qi (fun (r9 : Int32) (u9 : PV × (Nat → PV) × Nat × Nat) => (r9, u9) = SV PN Ps oh vh (fL_act PN PS xa ya) ∧ 0 ≤ r9 ∧ NW u9.1) (fun u9 t => va_P (dC, dI) vwCl ((fun (v9 : PV × (Nat → PV) × Nat × Nat) => fW cI cP a0 aN aT aS t0 t1 t2 h0 h1 pa v9.1 PT PS f u v9.2.1 v9.2.2.1 v9.2.2.2 k) u9) t.heap) (adr (fW cI cP a0 aN aT aS t0 t1 t2 h0 h1 pa PN PT PS f u Ps oh vh k))) args s 0 0 (adr (fW cI cP a0 aN aT aS t0 t1 t2 h0 h1 pa PN PT PS f u Ps oh vh k)) := ⟨_, rfl⟩
  rw [← hQ]
  rw [← hA] at hQ
  have hl := lv_entry ([.ref a0, .int xa, .int ya]) (n := 10) (Nat.le_of_ble_eq_true rfl)
  rw [ha, lg_entry_eq, ← ha]
  generalize (lg_sl ([.ref a0, .int xa, .int ya]) ++ List.replicate (10 - (lg_sl ([.ref a0, .int xa, .int ya])).length) Slot.unset).toArray = ls at hl ⊢
  have hl : lv_has ls 10 [(0, .ref a0), (1, .int xa), (2, .int ya)] := hl
  show W p l e rmL_act s m args below meth c s.heap [] 0 0 Q (F0 m 0 ls [])
  have hF : fL_act PN PS xa ya = fL_act PN PS xa ya := rfl
  refine lv_aload_n hx hb dL_act_0 rfl (lv_at hl 0 rfl) ?_
  refine lv_iconst (v := 0) hx hb dL_act_1 (by decide) ?_
  have e_2 : (fX6_count PN Ps oh vh 0) = Sum.inr ((PN 10 0), ()) := count_0
  refine k_calli (W.runV (As := [.int 0]) (rest := []) ⟨hx, hb, hml, hown, hts0⟩ (mX6_count l dC dI cI cP a0 aN aT aS t0 t1 t2 h0 h1 pa PN PT PS f u Ps oh vh k 0 (ok_inr e_2)) (cwV 1 hts0 (gi_V u_268 u_269 u_270 u_1 u_271) rfl rfl rfl (by decide +kernel) ⟨Nat.le_of_ble_eq_true rfl, Nat.le_of_ble_eq_true rfl⟩) (pcR_V (ci := 4) (q0 := 0) hP hK hn rfl rfl) rfl rfl hl.1 rfl (lv_room (Nat.le_of_ble_eq_true rfl)) dL_act_2 ⟨Nat.zero_le _, Nat.zero_le _⟩) ?_
  refine lv_tope (y := (PN 10 0)) (ok1_inr e_2) ?_
  have K5 : ∀ (v5_0 : Int32), v5_0 = (if (PN 10 0) = 0 then 0 else (fL_up ya (PN 10 0))) → ∀ (H : Heap) (locs : List Loc), va_P (dC, dI) vwCl (fW cI cP a0 aN aT aS t0 t1 t2 h0 h1 pa PN PT PS f u Ps oh vh k) H → va_D A (fW cI cP a0 aN aT aS t0 t1 t2 h0 h1 pa PN PT PS f u Ps oh vh k) → va_S A s.heap H locs → ∀ (ls : Array Slot), lv_has ls 10 [(0, .ref a0), (1, .int xa), (2, .int ya)] → W p l e rmL_act s m args below meth c H locs 0 0 Q (F0 m 21 ls [.int v5_0]) := by
    intro v5_0 hz5 H locs hP hD hS ls hl
    have hz := hz5
    have hF := bd_at hF hz
    refine lv_istore_n (lv' := [(3, .int v5_0), (0, .ref a0), (1, .int xa), (2, .int ya)]) hx hb dL_act_21 rfl hl (by decide) rfl (fun ls hl => ?_)
    refine lv_aload_n hx hb dL_act_22 rfl (lv_at hl 1 rfl) ?_
    refine lv_iconst (v := 1) hx hb dL_act_23 (by decide) ?_
    have e_24 : (fX6_count PN Ps oh vh 1) = Sum.inr ((PN 10 1), ()) := count_1
    refine k_calli (W.runV (As := [.int 1]) (rest := []) ⟨hx, hb, hml, hown, hts0⟩ (mX6_count l dC dI cI cP a0 aN aT aS t0 t1 t2 h0 h1 pa PN PT PS f u Ps oh vh k 1 (ok_inr e_24)) (cwV 1 hts0 (gi_V u_268 u_269 u_270 u_1 u_271) rfl rfl rfl (by decide +kernel) ⟨Nat.le_of_ble_eq_true rfl, Nat.le_of_ble_eq_true rfl⟩) (pcR_V (ci := 4) (q0 := 0) hP hK hn rfl rfl) rfl rfl hl.1 rfl (lv_room (Nat.le_of_ble_eq_true rfl)) dL_act_24 ⟨Nat.zero_le _, Nat.zero_le _⟩) ?_
    refine lv_tope (y := (PN 10 1)) (ok1_inr e_24) ?_
    have K27 : ∀ (v27_0 : Int32), v27_0 = (if (PN 10 1) = 0 then 0 else (fL_up (ya >>> (4 &&& 31)) (PN 10 1))) → ∀ (H : Heap) (locs : List Loc), va_P (dC, dI) vwCl (fW cI cP a0 aN aT aS t0 t1 t2 h0 h1 pa PN PT PS f u Ps oh vh k) H → va_D A (fW cI cP a0 aN aT aS t0 t1 t2 h0 h1 pa PN PT PS f u Ps oh vh k) → va_S A s.heap H locs → ∀ (ls : Array Slot), lv_has ls 10 [(3, .int v5_0), (0, .ref a0), (1, .int xa), (2, .int ya)] → W p l e rmL_act s m args below meth c H locs 0 0 Q (F0 m 45 ls [.int v27_0]) := by
      intro v27_0 hz27 H locs hP hD hS ls hl
      have hz := hz27
      have hF := bd_at hF hz
      refine lv_istore (lv' := [(4, .int v27_0), (3, .int v5_0), (0, .ref a0), (1, .int xa), (2, .int ya)]) hx hb dL_act_45 hl (by decide) rfl (fun ls hl => ?_)
      refine lv_aload_n hx hb dL_act_47 rfl (lv_at hl 2 rfl) ?_
      refine lv_iconst (v := 0) hx hb dL_act_48 (by decide) ?_
      have e_49 : (fX6_count PN Ps oh vh 0) = Sum.inr ((PN 10 0), ()) := count_0
      refine k_calli (W.runV (As := [.int 0]) (rest := []) ⟨hx, hb, hml, hown, hts0⟩ (mX6_count l dC dI cI cP a0 aN aT aS t0 t1 t2 h0 h1 pa PN PT PS f u Ps oh vh k 0 (ok_inr e_49)) (cwV 1 hts0 (gi_V u_268 u_269 u_270 u_1 u_271) rfl rfl rfl (by decide +kernel) ⟨Nat.le_of_ble_eq_true rfl, Nat.le_of_ble_eq_true rfl⟩) (pcR_V (ci := 4) (q0 := 0) hP hK hn rfl rfl) rfl rfl hl.1 rfl (lv_room (Nat.le_of_ble_eq_true rfl)) dL_act_49 ⟨Nat.zero_le _, Nat.zero_le _⟩) ?_
      refine lv_tope (y := (PN 10 0)) (ok1_inr e_49) ?_
      refine lv_if_eq (tgt := 63) hx hb dL_act_52 (by decide) (fun c_52 => ?_) (fun c_52 => ?_)
      · have hF := hF.trans (if_pos c_52)
        refine lv_sipush (v := 1000) hx hb dL_act_63 (by decide) ?_
        refine lv_aload_n hx hb dL_act_66 rfl (lv_at hl 2 rfl) ?_
        refine lv_iconst (v := 1) hx hb dL_act_67 (by decide) ?_
        have e_68 : (fX6_count PN Ps oh vh 1) = Sum.inr ((PN 10 1), ()) := count_1
        refine k_calli (W.runV (As := [.int 1]) (rest := [.int 1000]) ⟨hx, hb, hml, hown, hts0⟩ (mX6_count l dC dI cI cP a0 aN aT aS t0 t1 t2 h0 h1 pa PN PT PS f u Ps oh vh k 1 (ok_inr e_68)) (cwV 1 hts0 (gi_V u_268 u_269 u_270 u_1 u_271) rfl rfl rfl (by decide +kernel) ⟨Nat.le_of_ble_eq_true rfl, Nat.le_of_ble_eq_true rfl⟩) (pcR_V (ci := 4) (q0 := 0) hP hK hn rfl rfl) rfl rfl hl.1 rfl (lv_room (Nat.le_of_ble_eq_true rfl)) dL_act_68 ⟨Nat.zero_le _, Nat.zero_le _⟩) ?_
        refine lv_tope (y := (PN 10 1)) (ok1_inr e_68) ?_
        refine lv_if_ne (tgt := 89) hx hb dL_act_71 (by decide) (fun c_71 => ?_) (fun c_71 => ?_)
        · have hF := hF.trans (if_neg c_71)
          refine lv_aload_n hx hb dL_act_89 rfl (lv_at hl 2 rfl) ?_
          refine lv_iload_n hx hb dL_act_90 rfl (lv_at hl 4 rfl) ?_
          refine lv_bipush (v := 6) hx hb dL_act_91 (by decide) ?_
          refine k_calli (W.runS (As := [.int ya, .int 6]) (rest := [.ref a0, .int 1000]) ⟨hx, hb, hml, hown, hts0⟩ (mL_up l dC dI  ya 6 (by decide)) (va_cwS 2 hts0 (gi_S u_350 u_351 u_0 u_352) rfl rfl rfl (by decide +kernel) ⟨Nat.le_of_ble_eq_true rfl, Nat.le_of_ble_eq_true rfl⟩) (pcR_S (hP.sub (ws' := []) [] rfl) (hK.sub (tys' := []) [] rfl) hn) rfl rfl hl.1 rfl (lv_room (Nat.le_of_ble_eq_true rfl)) dL_act_93 ⟨Nat.zero_le _, Nat.zero_le _⟩) ?_
          refine lv_iconst (v := 1) hx hb dL_act_96 (by decide) ?_
          refine lv_iload_n hx hb dL_act_97 rfl (lv_at hl 4 rfl) ?_
          refine lv_iconst (v := 3) hx hb dL_act_98 (by decide) ?_
          refine lv_ishr hx hb dL_act_99 ?_
          refine lv_iconst (v := 3) hx hb dL_act_100 (by decide) ?_
          refine k_calli (W.runS (As := [.int (ya >>> (3 &&& 31)), .int 3]) (rest := [.int 1, .int (fL_up ya 6), .ref a0, .int 1000]) ⟨hx, hb, hml, hown, hts0⟩ (mL_up l dC dI  (ya >>> (3 &&& 31)) 3 (by decide)) (va_cwS 2 hts0 (gi_S u_350 u_351 u_0 u_352) rfl rfl rfl (by decide +kernel) ⟨Nat.le_of_ble_eq_true rfl, Nat.le_of_ble_eq_true rfl⟩) (pcR_S (hP.sub (ws' := []) [] rfl) (hK.sub (tys' := []) [] rfl) hn) rfl rfl hl.1 rfl (lv_room (Nat.le_of_ble_eq_true rfl)) dL_act_101 ⟨Nat.zero_le _, Nat.zero_le _⟩) ?_
          refine lv_iadd hx hb dL_act_104 ?_
          have D_105 := D_guest (Ps := Ps) (o := oh) (v := vh) hR hX (by first | exact gl16_0 hR c_52 | exact absurd c_60 c_71) (up_is (v := ya) (n := 6) (by decide) (by decide)) (up1 (ya >>> (3 &&& 31)))
          have e_105 : (fX6_guest PN Ps oh vh (fL_up ya 6) ((1 : Int32) + (fL_up (ya >>> (3 &&& 31)) 3))) = Sum.inr ((fX2_addGuest PN (fL_up ya 6) ((1 : Int32) + (fL_up (ya >>> (3 &&& 31)) 3))).1, ((fX2_addGuest PN (fL_up ya 6) ((1 : Int32) + (fL_up (ya >>> (3 &&& 31)) 3))).2, (fX0_save Ps oh vh PN).1, (fX0_save Ps oh vh PN).2.1, (fX0_save Ps oh vh PN).2.2)) := D_105.1
          refine k_deed (W1 := (fun (v9 : PV × (Nat → PV) × Nat × Nat) => fW cI cP a0 aN aT aS t0 t1 t2 h0 h1 pa v9.1 PT PS f u v9.2.1 v9.2.2.1 v9.2.2.2 k)) (r0 := (fX2_addGuest PN (fL_up ya 6) ((1 : Int32) + (fL_up (ya >>> (3 &&& 31)) 3))).1) (u0 := ((fX2_addGuest PN (fL_up ya 6) ((1 : Int32) + (fL_up (ya >>> (3 &&& 31)) 3))).2, (fX0_save Ps oh vh PN).1, (fX0_save Ps oh vh PN).2.1, (fX0_save Ps oh vh PN).2.2)) e_105 (va_runV (As := [.int (fL_up ya 6), .int ((1 : Int32) + (fL_up (ya >>> (3 &&& 31)) 3))]) (rest := [.int 1000]) ⟨hx, hb, hml, hown, hts0⟩ (mX6_guest l dC dI cI cP a0 aN aT aS t0 t1 t2 h0 h1 pa PN PT PS f u Ps oh vh k (fL_up ya 6) ((1 : Int32) + (fL_up (ya >>> (3 &&& 31)) 3)) ho6 hv6 (ok_inr e_105)) (cwV 2 hts0 (gi_V u_462 u_463 u_464 u_1 u_465) rfl rfl rfl (by decide +kernel) ⟨Nat.le_of_ble_eq_true rfl, Nat.le_of_ble_eq_true rfl⟩) (pcM_V (ci := 4) (q0 := 0) hP hK hn hD rfl rfl) rfl rfl hl.1 rfl (lv_room (Nat.le_of_ble_eq_true rfl)) dL_act_105 ⟨Nat.zero_le _, Nat.zero_le _⟩) hP hD hS rfl (fun H locs hP hD hS => ?_)
          have hP : va_P (dC, dI) vwCl (fW cI cP a0 aN aT aS t0 t1 t2 h0 h1 pa ((fX2_addGuest PN (fL_up ya 6) ((1 : Int32) + (fL_up (ya >>> (3 &&& 31)) 3))).2) PT PS f u ((fX0_save Ps oh vh PN).1) ((fX0_save Ps oh vh PN).2.1) ((fX0_save Ps oh vh PN).2.2) k) H := hP
          have hD : va_D A (fW cI cP a0 aN aT aS t0 t1 t2 h0 h1 pa ((fX2_addGuest PN (fL_up ya 6) ((1 : Int32) + (fL_up (ya >>> (3 &&& 31)) 3))).2) PT PS f u ((fX0_save Ps oh vh PN).1) ((fX0_save Ps oh vh PN).2.1) ((fX0_save Ps oh vh PN).2.2) k) := hD
          refine lv_iadd hx hb dL_act_108 ?_
          rw [hQ]
          exact W.iret (v := ((1000 : Int32) + (fX2_addGuest PN (fL_up ya 6) ((1 : Int32) + (fL_up (ya >>> (3 &&& 31)) 3))).1)) hx hb hr (fun t ht hW => ⟨⟨((1000 : Int32) + (fX2_addGuest PN (fL_up ya 6) ((1 : Int32) + (fL_up (ya >>> (3 &&& 31)) 3))).1), (((fX2_addGuest PN (fL_up ya 6) ((1 : Int32) + (fL_up (ya >>> (3 &&& 31)) 3))).2), ((fX0_save Ps oh vh PN).1), ((fX0_save Ps oh vh PN).2.1), ((fX0_save Ps oh vh PN).2.2)), rfl, ⟨sv_ret hF, D_105.2.1, D_105.2.2⟩, toH ht hP⟩, hS.F ht⟩) hS.2.2 dL_act_109
        have hF := hF.trans (if_pos c_71)
        refine lv_aload_n hx hb dL_act_74 rfl (lv_at hl 2 rfl) ?_
        refine lv_iconst (v := 3) hx hb dL_act_75 (by decide) ?_
        refine lv_iload_n hx hb dL_act_76 rfl (lv_at hl 4 rfl) ?_
        refine lv_bipush (v := 6) hx hb dL_act_77 (by decide) ?_
        refine k_calli (W.runS (As := [.int ya, .int 6]) (rest := [.int 3, .ref a0, .int 1000]) ⟨hx, hb, hml, hown, hts0⟩ (mL_up l dC dI  ya 6 (by decide)) (va_cwS 2 hts0 (gi_S u_350 u_351 u_0 u_352) rfl rfl rfl (by decide +kernel) ⟨Nat.le_of_ble_eq_true rfl, Nat.le_of_ble_eq_true rfl⟩) (pcR_S (hP.sub (ws' := []) [] rfl) (hK.sub (tys' := []) [] rfl) hn) rfl rfl hl.1 rfl (lv_room (Nat.le_of_ble_eq_true rfl)) dL_act_79 ⟨Nat.zero_le _, Nat.zero_le _⟩) ?_
        refine lv_iadd hx hb dL_act_82 ?_
        have D_83 := D_table (Ps := Ps) (o := oh) (v := vh) hR hX (tl4_0 hR c_71) (up3 ya)
        have e_83 : (fX6_table PN Ps oh vh ((3 : Int32) + (fL_up ya 6))) = Sum.inr ((fX2_addTable PN ((3 : Int32) + (fL_up ya 6))).1, ((fX2_addTable PN ((3 : Int32) + (fL_up ya 6))).2, (fX0_save Ps oh vh PN).1, (fX0_save Ps oh vh PN).2.1, (fX0_save Ps oh vh PN).2.2)) := D_83.1
        refine k_deed (W1 := (fun (v9 : PV × (Nat → PV) × Nat × Nat) => fW cI cP a0 aN aT aS t0 t1 t2 h0 h1 pa v9.1 PT PS f u v9.2.1 v9.2.2.1 v9.2.2.2 k)) (r0 := (fX2_addTable PN ((3 : Int32) + (fL_up ya 6))).1) (u0 := ((fX2_addTable PN ((3 : Int32) + (fL_up ya 6))).2, (fX0_save Ps oh vh PN).1, (fX0_save Ps oh vh PN).2.1, (fX0_save Ps oh vh PN).2.2)) e_83 (va_runV (As := [.int ((3 : Int32) + (fL_up ya 6))]) (rest := [.int 1000]) ⟨hx, hb, hml, hown, hts0⟩ (mX6_table l dC dI cI cP a0 aN aT aS t0 t1 t2 h0 h1 pa PN PT PS f u Ps oh vh k ((3 : Int32) + (fL_up ya 6)) ho6 hv6 (ok_inr e_83)) (cwV 1 hts0 (gi_V u_445 u_446 u_447 u_1 u_448) rfl rfl rfl (by decide +kernel) ⟨Nat.le_of_ble_eq_true rfl, Nat.le_of_ble_eq_true rfl⟩) (pcM_V (ci := 4) (q0 := 0) hP hK hn hD rfl rfl) rfl rfl hl.1 rfl (lv_room (Nat.le_of_ble_eq_true rfl)) dL_act_83 ⟨Nat.zero_le _, Nat.zero_le _⟩) hP hD hS rfl (fun H locs hP hD hS => ?_)
        have hP : va_P (dC, dI) vwCl (fW cI cP a0 aN aT aS t0 t1 t2 h0 h1 pa ((fX2_addTable PN ((3 : Int32) + (fL_up ya 6))).2) PT PS f u ((fX0_save Ps oh vh PN).1) ((fX0_save Ps oh vh PN).2.1) ((fX0_save Ps oh vh PN).2.2) k) H := hP
        have hD : va_D A (fW cI cP a0 aN aT aS t0 t1 t2 h0 h1 pa ((fX2_addTable PN ((3 : Int32) + (fL_up ya 6))).2) PT PS f u ((fX0_save Ps oh vh PN).1) ((fX0_save Ps oh vh PN).2.1) ((fX0_save Ps oh vh PN).2.2) k) := hD
        refine lv_goto (tgt := 108) hx hb dL_act_86 (by decide) ?_
        refine lv_iadd hx hb dL_act_108 ?_
        rw [hQ]
        exact W.iret (v := ((1000 : Int32) + (fX2_addTable PN ((3 : Int32) + (fL_up ya 6))).1)) hx hb hr (fun t ht hW => ⟨⟨((1000 : Int32) + (fX2_addTable PN ((3 : Int32) + (fL_up ya 6))).1), (((fX2_addTable PN ((3 : Int32) + (fL_up ya 6))).2), ((fX0_save Ps oh vh PN).1), ((fX0_save Ps oh vh PN).2.1), ((fX0_save Ps oh vh PN).2.2)), rfl, ⟨sv_ret hF, D_83.2.1, D_83.2.2⟩, toH ht hP⟩, hS.F ht⟩) hS.2.2 dL_act_109
      have hF := hF.trans (if_neg c_52)
      refine lv_aload_n hx hb dL_act_55 rfl (lv_at hl 2 rfl) ?_
      refine lv_iconst (v := 1) hx hb dL_act_56 (by decide) ?_
      have e_57 : (fX6_count PN Ps oh vh 1) = Sum.inr ((PN 10 1), ()) := count_1
      refine k_calli (W.runV (As := [.int 1]) (rest := []) ⟨hx, hb, hml, hown, hts0⟩ (mX6_count l dC dI cI cP a0 aN aT aS t0 t1 t2 h0 h1 pa PN PT PS f u Ps oh vh k 1 (ok_inr e_57)) (cwV 1 hts0 (gi_V u_268 u_269 u_270 u_1 u_271) rfl rfl rfl (by decide +kernel) ⟨Nat.le_of_ble_eq_true rfl, Nat.le_of_ble_eq_true rfl⟩) (pcR_V (ci := 4) (q0 := 0) hP hK hn rfl rfl) rfl rfl hl.1 rfl (lv_room (Nat.le_of_ble_eq_true rfl)) dL_act_57 ⟨Nat.zero_le _, Nat.zero_le _⟩) ?_
      refine lv_tope (y := (PN 10 1)) (ok1_inr e_57) ?_
      refine lv_if_ne (tgt := 110) hx hb dL_act_60 (by decide) (fun c_60 => ?_) (fun c_60 => ?_)
      · have hF := hF.trans (if_neg c_60)
        obtain ⟨g9, hg9, eg9⟩ := act_g hR hz5 c_52
        obtain ⟨t9, ht9, et9⟩ := act_t hR hz27 c_60
        refine lv_iload_n hx hb dL_act_110 rfl (lv_at hl 4 rfl) ?_
        refine lv_bipush (v := 6) hx hb dL_act_111 (by decide) ?_
        refine lv_ishr hx hb dL_act_113 ?_
        refine lv_aload_n hx hb dL_act_114 rfl (lv_at hl 2 rfl) ?_
        refine lv_iload hx hb dL_act_115 (lv_at hl 0 rfl) ?_
        refine lv_iconst (v := 0) hx hb dL_act_117 (by decide) ?_
        have e_118 : (fX6_tableOf PN v27_0 0) = Sum.inr ((fX6_tableNumber PN v27_0 0), ()) := (by rw [et9]; exact tableOf_in hR ht9 (w := 0) (by decide))
        refine k_calli (W.runV (As := [.int v27_0, .int 0]) (rest := [.int (ya >>> (6 &&& 31))]) ⟨hx, hb, hml, hown, hts0⟩ (mX6_tableOf l dC dI cI cP a0 aN aT aS t0 t1 t2 h0 h1 pa PN PT PS f u Ps oh vh k v27_0 0 (ok_inr e_118)) (cwV 2 hts0 (gi_V u_391 u_392 u_393 u_1 u_394) rfl rfl rfl (by decide +kernel) ⟨Nat.le_of_ble_eq_true rfl, Nat.le_of_ble_eq_true rfl⟩) (pcR_V (ci := 4) (q0 := 0) hP hK hn rfl rfl) rfl rfl hl.1 rfl (lv_room (Nat.le_of_ble_eq_true rfl)) dL_act_118 ⟨Nat.zero_le _, Nat.zero_le _⟩) ?_
        refine lv_tope (y := (fX6_tableNumber PN v27_0 0)) (ok1_inr e_118) ?_
        refine k_calli (W.runS (As := [.int (ya >>> (6 &&& 31)), .int (fX6_tableNumber PN v27_0 0)]) (rest := []) ⟨hx, hb, hml, hown, hts0⟩ (mL_up l dC dI  (ya >>> (6 &&& 31)) (fX6_tableNumber PN v27_0 0) (tab_nz hR ht9 et9)) (va_cwS 2 hts0 (gi_S u_350 u_351 u_0 u_352) rfl rfl rfl (by decide +kernel) ⟨Nat.le_of_ble_eq_true rfl, Nat.le_of_ble_eq_true rfl⟩) (pcR_S (hP.sub (ws' := []) [] rfl) (hK.sub (tys' := []) [] rfl) hn) rfl rfl hl.1 rfl (lv_room (Nat.le_of_ble_eq_true rfl)) dL_act_121 ⟨Nat.zero_le _, Nat.zero_le _⟩) ?_
        refine lv_istore (lv' := [(5, .int (fL_up (ya >>> (6 &&& 31)) (fX6_tableNumber PN v27_0 0))), (4, .int v27_0), (3, .int v5_0), (0, .ref a0), (1, .int xa), (2, .int ya)]) hx hb dL_act_124 hl (by decide) rfl (fun ls hl => ?_)
        obtain ⟨z9, n9, en9, hz9, hn98, es9⟩ := act_s hR ht9 et9 (ya >>> (6 &&& 31))
        refine lv_iload_n hx hb dL_act_126 rfl (lv_at hl 5 rfl) ?_
        refine lv_bipush (v := 6) hx hb dL_act_127 (by decide) ?_
        refine k_calli (W.runS (As := [.int ya, .int 6]) (rest := []) ⟨hx, hb, hml, hown, hts0⟩ (mL_up l dC dI  ya 6 (by decide)) (va_cwS 2 hts0 (gi_S u_350 u_351 u_0 u_352) rfl rfl rfl (by decide +kernel) ⟨Nat.le_of_ble_eq_true rfl, Nat.le_of_ble_eq_true rfl⟩) (pcR_S (hP.sub (ws' := []) [] rfl) (hK.sub (tys' := []) [] rfl) hn) rfl rfl hl.1 rfl (lv_room (Nat.le_of_ble_eq_true rfl)) dL_act_129 ⟨Nat.zero_le _, Nat.zero_le _⟩) ?_
        refine lv_istore (lv' := [(6, .int (fL_up ya 6)), (5, .int (fL_up (ya >>> (6 &&& 31)) (fX6_tableNumber PN v27_0 0))), (4, .int v27_0), (3, .int v5_0), (0, .ref a0), (1, .int xa), (2, .int ya)]) hx hb dL_act_132 hl (by decide) rfl (fun ls hl => ?_)
        refine lv_iload hx hb dL_act_134 (lv_at hl 0 rfl) ?_
        refine lv_iconst (v := 1) hx hb dL_act_136 (by decide) ?_
        refine lv_iadd hx hb dL_act_137 ?_
        refine lv_iload_n hx hb dL_act_138 rfl (lv_at hl 6 rfl) ?_
        refine lv_iconst (v := 3) hx hb dL_act_139 (by decide) ?_
        refine lv_ishr hx hb dL_act_140 ?_
        refine lv_iconst (v := 5) hx hb dL_act_141 (by decide) ?_
        refine k_calli (W.runS (As := [.int (ya >>> (3 &&& 31)), .int 5]) (rest := [.int ((fL_up ya 6) + (1 : Int32))]) ⟨hx, hb, hml, hown, hts0⟩ (mL_up l dC dI  (ya >>> (3 &&& 31)) 5 (by decide)) (va_cwS 2 hts0 (gi_S u_350 u_351 u_0 u_352) rfl rfl rfl (by decide +kernel) ⟨Nat.le_of_ble_eq_true rfl, Nat.le_of_ble_eq_true rfl⟩) (pcR_S (hP.sub (ws' := []) [] rfl) (hK.sub (tys' := []) [] rfl) hn) rfl rfl hl.1 rfl (lv_room (Nat.le_of_ble_eq_true rfl)) dL_act_142 ⟨Nat.zero_le _, Nat.zero_le _⟩) ?_
        refine lv_iadd hx hb dL_act_145 ?_
        refine lv_bipush (v := 6) hx hb dL_act_146 (by decide) ?_
        refine lv_irem hx hb dL_act_148 (by decide) ?_
        refine lv_istore (lv' := [(7, .int ((((fL_up ya 6) + (1 : Int32)) + (fL_up (ya >>> (3 &&& 31)) 5)) - (((fL_up ya 6) + (1 : Int32)) + (fL_up (ya >>> (3 &&& 31)) 5)) / 6 * 6)), (6, .int (fL_up ya 6)), (5, .int (fL_up (ya >>> (6 &&& 31)) (fX6_tableNumber PN v27_0 0))), (4, .int v27_0), (3, .int v5_0), (0, .ref a0), (1, .int xa), (2, .int ya)]) hx hb dL_act_149 hl (by decide) rfl (fun ls hl => ?_)
        have pair9 := act_ab ya (ya >>> (3 &&& 31))
        refine lv_iload_n hx hb dL_act_151 rfl (lv_at hl 7 rfl) ?_
        refine lv_bipush (v := 8) hx hb dL_act_152 (by decide) ?_
        refine lv_ishr hx hb dL_act_154 ?_
        refine lv_aload_n hx hb dL_act_155 rfl (lv_at hl 5 rfl) ?_
        refine lv_iconst (v := 0) hx hb dL_act_156 (by decide) ?_
        have e_157 : (fX6_count PN Ps oh vh 0) = Sum.inr ((PN 10 0), ()) := count_0
        refine k_calli (W.runV (As := [.int 0]) (rest := [.int (ya >>> (8 &&& 31))]) ⟨hx, hb, hml, hown, hts0⟩ (mX6_count l dC dI cI cP a0 aN aT aS t0 t1 t2 h0 h1 pa PN PT PS f u Ps oh vh k 0 (ok_inr e_157)) (cwV 1 hts0 (gi_V u_268 u_269 u_270 u_1 u_271) rfl rfl rfl (by decide +kernel) ⟨Nat.le_of_ble_eq_true rfl, Nat.le_of_ble_eq_true rfl⟩) (pcR_V (ci := 4) (q0 := 0) hP hK hn rfl rfl) rfl rfl hl.1 rfl (lv_room (Nat.le_of_ble_eq_true rfl)) dL_act_157 ⟨Nat.zero_le _, Nat.zero_le _⟩) ?_
        refine lv_tope (y := (PN 10 0)) (ok1_inr e_157) ?_
        refine k_calli (W.runS (As := [.int (ya >>> (8 &&& 31)), .int (PN 10 0)]) (rest := []) ⟨hx, hb, hml, hown, hts0⟩ (mL_up l dC dI  (ya >>> (8 &&& 31)) (PN 10 0) c_52) (va_cwS 2 hts0 (gi_S u_350 u_351 u_0 u_352) rfl rfl rfl (by decide +kernel) ⟨Nat.le_of_ble_eq_true rfl, Nat.le_of_ble_eq_true rfl⟩) (pcR_S (hP.sub (ws' := []) [] rfl) (hK.sub (tys' := []) [] rfl) hn) rfl rfl hl.1 rfl (lv_room (Nat.le_of_ble_eq_true rfl)) dL_act_160 ⟨Nat.zero_le _, Nat.zero_le _⟩) ?_
        refine lv_istore (lv' := [(8, .int (fL_up (ya >>> (8 &&& 31)) (PN 10 0))), (7, .int ((((fL_up ya 6) + (1 : Int32)) + (fL_up (ya >>> (3 &&& 31)) 5)) - (((fL_up ya 6) + (1 : Int32)) + (fL_up (ya >>> (3 &&& 31)) 5)) / 6 * 6)), (6, .int (fL_up ya 6)), (5, .int (fL_up (ya >>> (6 &&& 31)) (fX6_tableNumber PN v27_0 0))), (4, .int v27_0), (3, .int v5_0), (0, .ref a0), (1, .int xa), (2, .int ya)]) hx hb dL_act_163 hl (by decide) rfl (fun ls hl => ?_)
        obtain ⟨o9, ho9, eo9⟩ := act_o hR c_52 (ya >>> (8 &&& 31))
        refine lv_iload_n hx hb dL_act_165 rfl (lv_at hl 7 rfl) ?_
        refine lv_bipush (v := 16) hx hb dL_act_166 (by decide) ?_
        refine k_calli (W.runS (As := [.int xa, .int 16]) (rest := []) ⟨hx, hb, hml, hown, hts0⟩ (mL_up l dC dI  xa 16 (by decide)) (va_cwS 2 hts0 (gi_S u_350 u_351 u_0 u_352) rfl rfl rfl (by decide +kernel) ⟨Nat.le_of_ble_eq_true rfl, Nat.le_of_ble_eq_true rfl⟩) (pcR_S (hP.sub (ws' := []) [] rfl) (hK.sub (tys' := []) [] rfl) hn) rfl rfl hl.1 rfl (lv_room (Nat.le_of_ble_eq_true rfl)) dL_act_168 ⟨Nat.zero_le _, Nat.zero_le _⟩) ?_
        by_cases c_171_0 : (fL_up xa 16) = 0
        · have hF := hF.trans (if_pos c_171_0)
          refine lv_tableIn (off := 53) (tgt := 224) hx hb dL_act_171 (by rw [c_171_0]; decide) (by rw [c_171_0]; decide) (by rw [c_171_0]; rfl) (by decide) ?_
          refine lv_sipush (v := 1000) hx hb dL_act_224 (by decide) ?_
          refine lv_aload_n hx hb dL_act_227 rfl (lv_at hl 6 rfl) ?_
          refine lv_iconst (v := 0) hx hb dL_act_228 (by decide) ?_
          have e_229 : (fX6_count PN Ps oh vh 0) = Sum.inr ((PN 10 0), ()) := count_0
          refine k_calli (W.runV (As := [.int 0]) (rest := [.int 1000]) ⟨hx, hb, hml, hown, hts0⟩ (mX6_count l dC dI cI cP a0 aN aT aS t0 t1 t2 h0 h1 pa PN PT PS f u Ps oh vh k 0 (ok_inr e_229)) (cwV 1 hts0 (gi_V u_268 u_269 u_270 u_1 u_271) rfl rfl rfl (by decide +kernel) ⟨Nat.le_of_ble_eq_true rfl, Nat.le_of_ble_eq_true rfl⟩) (pcR_V (ci := 4) (q0 := 0) hP hK hn rfl rfl) rfl rfl hl.1 rfl (lv_room (Nat.le_of_ble_eq_true rfl)) dL_act_229 ⟨Nat.zero_le _, Nat.zero_le _⟩) ?_
          refine lv_tope (y := (PN 10 0)) (ok1_inr e_229) ?_
          refine lv_bipush (v := 16) hx hb dL_act_232 (by decide) ?_
          refine lv_icmp_ge (tgt := 259) hx hb dL_act_234 (by decide) (fun c_234 => ?_) (fun c_234 => ?_)
          · have hF := hF.trans (if_pos c_234)
            refine lv_aload_n hx hb dL_act_259 rfl (lv_at hl 6 rfl) ?_
            have D_260 := D_all (Ps := Ps) (o := oh) (v := vh) hR hX
            have e_260 : (fX6_seatAll PN Ps oh vh) = ((fX2_seatStanding PN).1, ((fX2_seatStanding PN).2, (fX0_save Ps oh vh PN).1, (fX0_save Ps oh vh PN).2.1, (fX0_save Ps oh vh PN).2.2)) := D_260.1
            refine k_deed2 (W1 := (fun (v9 : PV × (Nat → PV) × Nat × Nat) => fW cI cP a0 aN aT aS t0 t1 t2 h0 h1 pa v9.1 PT PS f u v9.2.1 v9.2.2.1 v9.2.2.2 k)) (r0 := (fX2_seatStanding PN).1) (u0 := ((fX2_seatStanding PN).2, (fX0_save Ps oh vh PN).1, (fX0_save Ps oh vh PN).2.1, (fX0_save Ps oh vh PN).2.2)) e_260 (va_runV (As := []) (rest := [.int 1000]) ⟨hx, hb, hml, hown, hts0⟩ (mX6_seatAll l dC dI cI cP a0 aN aT aS t0 t1 t2 h0 h1 pa PN PT PS f u Ps oh vh k  (by first | omega | assumption) (by first | omega | assumption)) (cwV 0 hts0 (gi_V u_475 u_476 u_477 u_1 u_478) rfl rfl rfl (by decide +kernel) ⟨Nat.le_of_ble_eq_true rfl, Nat.le_of_ble_eq_true rfl⟩) (pcM_V (ci := 4) (q0 := 0) hP hK hn hD rfl rfl) rfl rfl hl.1 rfl (lv_room (Nat.le_of_ble_eq_true rfl)) dL_act_260 ⟨Nat.zero_le _, Nat.zero_le _⟩) hP hD hS rfl (fun H locs hP hD hS => ?_)
            have hP : va_P (dC, dI) vwCl (fW cI cP a0 aN aT aS t0 t1 t2 h0 h1 pa ((fX2_seatStanding PN).2) PT PS f u ((fX0_save Ps oh vh PN).1) ((fX0_save Ps oh vh PN).2.1) ((fX0_save Ps oh vh PN).2.2) k) H := hP
            have hD : va_D A (fW cI cP a0 aN aT aS t0 t1 t2 h0 h1 pa ((fX2_seatStanding PN).2) PT PS f u ((fX0_save Ps oh vh PN).1) ((fX0_save Ps oh vh PN).2.1) ((fX0_save Ps oh vh PN).2.2) k) := hD
            refine lv_iadd hx hb dL_act_263 ?_
            rw [hQ]
            exact W.iret (v := ((1000 : Int32) + (fX2_seatStanding PN).1)) hx hb hr (fun t ht hW => ⟨⟨((1000 : Int32) + (fX2_seatStanding PN).1), (((fX2_seatStanding PN).2), ((fX0_save Ps oh vh PN).1), ((fX0_save Ps oh vh PN).2.1), ((fX0_save Ps oh vh PN).2.2)), rfl, ⟨sv_ret hF, D_260.2.1, D_260.2.2⟩, toH ht hP⟩, hS.F ht⟩) hS.2.2 dL_act_264
          have hF := hF.trans (if_neg c_234)
          refine lv_aload_n hx hb dL_act_237 rfl (lv_at hl 6 rfl) ?_
          refine lv_iload_n hx hb dL_act_238 rfl (lv_at hl 8 rfl) ?_
          refine lv_bipush (v := 6) hx hb dL_act_239 (by decide) ?_
          refine k_calli (W.runS (As := [.int ya, .int 6]) (rest := [.ref a0, .int 1000]) ⟨hx, hb, hml, hown, hts0⟩ (mL_up l dC dI  ya 6 (by decide)) (va_cwS 2 hts0 (gi_S u_350 u_351 u_0 u_352) rfl rfl rfl (by decide +kernel) ⟨Nat.le_of_ble_eq_true rfl, Nat.le_of_ble_eq_true rfl⟩) (pcR_S (hP.sub (ws' := []) [] rfl) (hK.sub (tys' := []) [] rfl) hn) rfl rfl hl.1 rfl (lv_room (Nat.le_of_ble_eq_true rfl)) dL_act_241 ⟨Nat.zero_le _, Nat.zero_le _⟩) ?_
          refine lv_iconst (v := 1) hx hb dL_act_244 (by decide) ?_
          refine lv_iload_n hx hb dL_act_245 rfl (lv_at hl 8 rfl) ?_
          refine lv_iconst (v := 3) hx hb dL_act_246 (by decide) ?_
          refine lv_ishr hx hb dL_act_247 ?_
          refine lv_iconst (v := 3) hx hb dL_act_248 (by decide) ?_
          refine k_calli (W.runS (As := [.int (ya >>> (3 &&& 31)), .int 3]) (rest := [.int 1, .int (fL_up ya 6), .ref a0, .int 1000]) ⟨hx, hb, hml, hown, hts0⟩ (mL_up l dC dI  (ya >>> (3 &&& 31)) 3 (by decide)) (va_cwS 2 hts0 (gi_S u_350 u_351 u_0 u_352) rfl rfl rfl (by decide +kernel) ⟨Nat.le_of_ble_eq_true rfl, Nat.le_of_ble_eq_true rfl⟩) (pcR_S (hP.sub (ws' := []) [] rfl) (hK.sub (tys' := []) [] rfl) hn) rfl rfl hl.1 rfl (lv_room (Nat.le_of_ble_eq_true rfl)) dL_act_249 ⟨Nat.zero_le _, Nat.zero_le _⟩) ?_
          refine lv_iadd hx hb dL_act_252 ?_
          have D_253 := D_guest (Ps := Ps) (o := oh) (v := vh) hR hX (gl16 hR c_234) (up_is (v := ya) (n := 6) (by decide) (by decide)) (up1 (ya >>> (3 &&& 31)))
          have e_253 : (fX6_guest PN Ps oh vh (fL_up ya 6) ((1 : Int32) + (fL_up (ya >>> (3 &&& 31)) 3))) = Sum.inr ((fX2_addGuest PN (fL_up ya 6) ((1 : Int32) + (fL_up (ya >>> (3 &&& 31)) 3))).1, ((fX2_addGuest PN (fL_up ya 6) ((1 : Int32) + (fL_up (ya >>> (3 &&& 31)) 3))).2, (fX0_save Ps oh vh PN).1, (fX0_save Ps oh vh PN).2.1, (fX0_save Ps oh vh PN).2.2)) := D_253.1
          refine k_deed (W1 := (fun (v9 : PV × (Nat → PV) × Nat × Nat) => fW cI cP a0 aN aT aS t0 t1 t2 h0 h1 pa v9.1 PT PS f u v9.2.1 v9.2.2.1 v9.2.2.2 k)) (r0 := (fX2_addGuest PN (fL_up ya 6) ((1 : Int32) + (fL_up (ya >>> (3 &&& 31)) 3))).1) (u0 := ((fX2_addGuest PN (fL_up ya 6) ((1 : Int32) + (fL_up (ya >>> (3 &&& 31)) 3))).2, (fX0_save Ps oh vh PN).1, (fX0_save Ps oh vh PN).2.1, (fX0_save Ps oh vh PN).2.2)) e_253 (va_runV (As := [.int (fL_up ya 6), .int ((1 : Int32) + (fL_up (ya >>> (3 &&& 31)) 3))]) (rest := [.int 1000]) ⟨hx, hb, hml, hown, hts0⟩ (mX6_guest l dC dI cI cP a0 aN aT aS t0 t1 t2 h0 h1 pa PN PT PS f u Ps oh vh k (fL_up ya 6) ((1 : Int32) + (fL_up (ya >>> (3 &&& 31)) 3)) ho6 hv6 (ok_inr e_253)) (cwV 2 hts0 (gi_V u_462 u_463 u_464 u_1 u_465) rfl rfl rfl (by decide +kernel) ⟨Nat.le_of_ble_eq_true rfl, Nat.le_of_ble_eq_true rfl⟩) (pcM_V (ci := 4) (q0 := 0) hP hK hn hD rfl rfl) rfl rfl hl.1 rfl (lv_room (Nat.le_of_ble_eq_true rfl)) dL_act_253 ⟨Nat.zero_le _, Nat.zero_le _⟩) hP hD hS rfl (fun H locs hP hD hS => ?_)
          have hP : va_P (dC, dI) vwCl (fW cI cP a0 aN aT aS t0 t1 t2 h0 h1 pa ((fX2_addGuest PN (fL_up ya 6) ((1 : Int32) + (fL_up (ya >>> (3 &&& 31)) 3))).2) PT PS f u ((fX0_save Ps oh vh PN).1) ((fX0_save Ps oh vh PN).2.1) ((fX0_save Ps oh vh PN).2.2) k) H := hP
          have hD : va_D A (fW cI cP a0 aN aT aS t0 t1 t2 h0 h1 pa ((fX2_addGuest PN (fL_up ya 6) ((1 : Int32) + (fL_up (ya >>> (3 &&& 31)) 3))).2) PT PS f u ((fX0_save Ps oh vh PN).1) ((fX0_save Ps oh vh PN).2.1) ((fX0_save Ps oh vh PN).2.2) k) := hD
          refine lv_goto (tgt := 263) hx hb dL_act_256 (by decide) ?_
          refine lv_iadd hx hb dL_act_263 ?_
          rw [hQ]
          exact W.iret (v := ((1000 : Int32) + (fX2_addGuest PN (fL_up ya 6) ((1 : Int32) + (fL_up (ya >>> (3 &&& 31)) 3))).1)) hx hb hr (fun t ht hW => ⟨⟨((1000 : Int32) + (fX2_addGuest PN (fL_up ya 6) ((1 : Int32) + (fL_up (ya >>> (3 &&& 31)) 3))).1), (((fX2_addGuest PN (fL_up ya 6) ((1 : Int32) + (fL_up (ya >>> (3 &&& 31)) 3))).2), ((fX0_save Ps oh vh PN).1), ((fX0_save Ps oh vh PN).2.1), ((fX0_save Ps oh vh PN).2.2)), rfl, ⟨sv_ret hF, D_253.2.1, D_253.2.2⟩, toH ht hP⟩, hS.F ht⟩) hS.2.2 dL_act_264
        have hF := hF.trans (if_neg c_171_0)
        by_cases c_171_1 : (fL_up xa 16) = 1
        · have hF := hF.trans (if_pos c_171_1)
          refine lv_tableIn (off := 53) (tgt := 224) hx hb dL_act_171 (by rw [c_171_1]; decide) (by rw [c_171_1]; decide) (by rw [c_171_1]; rfl) (by decide) ?_
          refine lv_sipush (v := 1000) hx hb dL_act_224 (by decide) ?_
          refine lv_aload_n hx hb dL_act_227 rfl (lv_at hl 6 rfl) ?_
          refine lv_iconst (v := 0) hx hb dL_act_228 (by decide) ?_
          have e_229 : (fX6_count PN Ps oh vh 0) = Sum.inr ((PN 10 0), ()) := count_0
          refine k_calli (W.runV (As := [.int 0]) (rest := [.int 1000]) ⟨hx, hb, hml, hown, hts0⟩ (mX6_count l dC dI cI cP a0 aN aT aS t0 t1 t2 h0 h1 pa PN PT PS f u Ps oh vh k 0 (ok_inr e_229)) (cwV 1 hts0 (gi_V u_268 u_269 u_270 u_1 u_271) rfl rfl rfl (by decide +kernel) ⟨Nat.le_of_ble_eq_true rfl, Nat.le_of_ble_eq_true rfl⟩) (pcR_V (ci := 4) (q0 := 0) hP hK hn rfl rfl) rfl rfl hl.1 rfl (lv_room (Nat.le_of_ble_eq_true rfl)) dL_act_229 ⟨Nat.zero_le _, Nat.zero_le _⟩) ?_
          refine lv_tope (y := (PN 10 0)) (ok1_inr e_229) ?_
          refine lv_bipush (v := 16) hx hb dL_act_232 (by decide) ?_
          refine lv_icmp_ge (tgt := 259) hx hb dL_act_234 (by decide) (fun c_234 => ?_) (fun c_234 => ?_)
          · have hF := hF.trans (if_pos c_234)
            refine lv_aload_n hx hb dL_act_259 rfl (lv_at hl 6 rfl) ?_
            have D_260 := D_all (Ps := Ps) (o := oh) (v := vh) hR hX
            have e_260 : (fX6_seatAll PN Ps oh vh) = ((fX2_seatStanding PN).1, ((fX2_seatStanding PN).2, (fX0_save Ps oh vh PN).1, (fX0_save Ps oh vh PN).2.1, (fX0_save Ps oh vh PN).2.2)) := D_260.1
            refine k_deed2 (W1 := (fun (v9 : PV × (Nat → PV) × Nat × Nat) => fW cI cP a0 aN aT aS t0 t1 t2 h0 h1 pa v9.1 PT PS f u v9.2.1 v9.2.2.1 v9.2.2.2 k)) (r0 := (fX2_seatStanding PN).1) (u0 := ((fX2_seatStanding PN).2, (fX0_save Ps oh vh PN).1, (fX0_save Ps oh vh PN).2.1, (fX0_save Ps oh vh PN).2.2)) e_260 (va_runV (As := []) (rest := [.int 1000]) ⟨hx, hb, hml, hown, hts0⟩ (mX6_seatAll l dC dI cI cP a0 aN aT aS t0 t1 t2 h0 h1 pa PN PT PS f u Ps oh vh k  (by first | omega | assumption) (by first | omega | assumption)) (cwV 0 hts0 (gi_V u_475 u_476 u_477 u_1 u_478) rfl rfl rfl (by decide +kernel) ⟨Nat.le_of_ble_eq_true rfl, Nat.le_of_ble_eq_true rfl⟩) (pcM_V (ci := 4) (q0 := 0) hP hK hn hD rfl rfl) rfl rfl hl.1 rfl (lv_room (Nat.le_of_ble_eq_true rfl)) dL_act_260 ⟨Nat.zero_le _, Nat.zero_le _⟩) hP hD hS rfl (fun H locs hP hD hS => ?_)
            have hP : va_P (dC, dI) vwCl (fW cI cP a0 aN aT aS t0 t1 t2 h0 h1 pa ((fX2_seatStanding PN).2) PT PS f u ((fX0_save Ps oh vh PN).1) ((fX0_save Ps oh vh PN).2.1) ((fX0_save Ps oh vh PN).2.2) k) H := hP
            have hD : va_D A (fW cI cP a0 aN aT aS t0 t1 t2 h0 h1 pa ((fX2_seatStanding PN).2) PT PS f u ((fX0_save Ps oh vh PN).1) ((fX0_save Ps oh vh PN).2.1) ((fX0_save Ps oh vh PN).2.2) k) := hD
            refine lv_iadd hx hb dL_act_263 ?_
            rw [hQ]
            exact W.iret (v := ((1000 : Int32) + (fX2_seatStanding PN).1)) hx hb hr (fun t ht hW => ⟨⟨((1000 : Int32) + (fX2_seatStanding PN).1), (((fX2_seatStanding PN).2), ((fX0_save Ps oh vh PN).1), ((fX0_save Ps oh vh PN).2.1), ((fX0_save Ps oh vh PN).2.2)), rfl, ⟨sv_ret hF, D_260.2.1, D_260.2.2⟩, toH ht hP⟩, hS.F ht⟩) hS.2.2 dL_act_264
          have hF := hF.trans (if_neg c_234)
          refine lv_aload_n hx hb dL_act_237 rfl (lv_at hl 6 rfl) ?_
          refine lv_iload_n hx hb dL_act_238 rfl (lv_at hl 8 rfl) ?_
          refine lv_bipush (v := 6) hx hb dL_act_239 (by decide) ?_
          refine k_calli (W.runS (As := [.int ya, .int 6]) (rest := [.ref a0, .int 1000]) ⟨hx, hb, hml, hown, hts0⟩ (mL_up l dC dI  ya 6 (by decide)) (va_cwS 2 hts0 (gi_S u_350 u_351 u_0 u_352) rfl rfl rfl (by decide +kernel) ⟨Nat.le_of_ble_eq_true rfl, Nat.le_of_ble_eq_true rfl⟩) (pcR_S (hP.sub (ws' := []) [] rfl) (hK.sub (tys' := []) [] rfl) hn) rfl rfl hl.1 rfl (lv_room (Nat.le_of_ble_eq_true rfl)) dL_act_241 ⟨Nat.zero_le _, Nat.zero_le _⟩) ?_
          refine lv_iconst (v := 1) hx hb dL_act_244 (by decide) ?_
          refine lv_iload_n hx hb dL_act_245 rfl (lv_at hl 8 rfl) ?_
          refine lv_iconst (v := 3) hx hb dL_act_246 (by decide) ?_
          refine lv_ishr hx hb dL_act_247 ?_
          refine lv_iconst (v := 3) hx hb dL_act_248 (by decide) ?_
          refine k_calli (W.runS (As := [.int (ya >>> (3 &&& 31)), .int 3]) (rest := [.int 1, .int (fL_up ya 6), .ref a0, .int 1000]) ⟨hx, hb, hml, hown, hts0⟩ (mL_up l dC dI  (ya >>> (3 &&& 31)) 3 (by decide)) (va_cwS 2 hts0 (gi_S u_350 u_351 u_0 u_352) rfl rfl rfl (by decide +kernel) ⟨Nat.le_of_ble_eq_true rfl, Nat.le_of_ble_eq_true rfl⟩) (pcR_S (hP.sub (ws' := []) [] rfl) (hK.sub (tys' := []) [] rfl) hn) rfl rfl hl.1 rfl (lv_room (Nat.le_of_ble_eq_true rfl)) dL_act_249 ⟨Nat.zero_le _, Nat.zero_le _⟩) ?_
          refine lv_iadd hx hb dL_act_252 ?_
          have D_253 := D_guest (Ps := Ps) (o := oh) (v := vh) hR hX (gl16 hR c_234) (up_is (v := ya) (n := 6) (by decide) (by decide)) (up1 (ya >>> (3 &&& 31)))
          have e_253 : (fX6_guest PN Ps oh vh (fL_up ya 6) ((1 : Int32) + (fL_up (ya >>> (3 &&& 31)) 3))) = Sum.inr ((fX2_addGuest PN (fL_up ya 6) ((1 : Int32) + (fL_up (ya >>> (3 &&& 31)) 3))).1, ((fX2_addGuest PN (fL_up ya 6) ((1 : Int32) + (fL_up (ya >>> (3 &&& 31)) 3))).2, (fX0_save Ps oh vh PN).1, (fX0_save Ps oh vh PN).2.1, (fX0_save Ps oh vh PN).2.2)) := D_253.1
          refine k_deed (W1 := (fun (v9 : PV × (Nat → PV) × Nat × Nat) => fW cI cP a0 aN aT aS t0 t1 t2 h0 h1 pa v9.1 PT PS f u v9.2.1 v9.2.2.1 v9.2.2.2 k)) (r0 := (fX2_addGuest PN (fL_up ya 6) ((1 : Int32) + (fL_up (ya >>> (3 &&& 31)) 3))).1) (u0 := ((fX2_addGuest PN (fL_up ya 6) ((1 : Int32) + (fL_up (ya >>> (3 &&& 31)) 3))).2, (fX0_save Ps oh vh PN).1, (fX0_save Ps oh vh PN).2.1, (fX0_save Ps oh vh PN).2.2)) e_253 (va_runV (As := [.int (fL_up ya 6), .int ((1 : Int32) + (fL_up (ya >>> (3 &&& 31)) 3))]) (rest := [.int 1000]) ⟨hx, hb, hml, hown, hts0⟩ (mX6_guest l dC dI cI cP a0 aN aT aS t0 t1 t2 h0 h1 pa PN PT PS f u Ps oh vh k (fL_up ya 6) ((1 : Int32) + (fL_up (ya >>> (3 &&& 31)) 3)) ho6 hv6 (ok_inr e_253)) (cwV 2 hts0 (gi_V u_462 u_463 u_464 u_1 u_465) rfl rfl rfl (by decide +kernel) ⟨Nat.le_of_ble_eq_true rfl, Nat.le_of_ble_eq_true rfl⟩) (pcM_V (ci := 4) (q0 := 0) hP hK hn hD rfl rfl) rfl rfl hl.1 rfl (lv_room (Nat.le_of_ble_eq_true rfl)) dL_act_253 ⟨Nat.zero_le _, Nat.zero_le _⟩) hP hD hS rfl (fun H locs hP hD hS => ?_)
          have hP : va_P (dC, dI) vwCl (fW cI cP a0 aN aT aS t0 t1 t2 h0 h1 pa ((fX2_addGuest PN (fL_up ya 6) ((1 : Int32) + (fL_up (ya >>> (3 &&& 31)) 3))).2) PT PS f u ((fX0_save Ps oh vh PN).1) ((fX0_save Ps oh vh PN).2.1) ((fX0_save Ps oh vh PN).2.2) k) H := hP
          have hD : va_D A (fW cI cP a0 aN aT aS t0 t1 t2 h0 h1 pa ((fX2_addGuest PN (fL_up ya 6) ((1 : Int32) + (fL_up (ya >>> (3 &&& 31)) 3))).2) PT PS f u ((fX0_save Ps oh vh PN).1) ((fX0_save Ps oh vh PN).2.1) ((fX0_save Ps oh vh PN).2.2) k) := hD
          refine lv_goto (tgt := 263) hx hb dL_act_256 (by decide) ?_
          refine lv_iadd hx hb dL_act_263 ?_
          rw [hQ]
          exact W.iret (v := ((1000 : Int32) + (fX2_addGuest PN (fL_up ya 6) ((1 : Int32) + (fL_up (ya >>> (3 &&& 31)) 3))).1)) hx hb hr (fun t ht hW => ⟨⟨((1000 : Int32) + (fX2_addGuest PN (fL_up ya 6) ((1 : Int32) + (fL_up (ya >>> (3 &&& 31)) 3))).1), (((fX2_addGuest PN (fL_up ya 6) ((1 : Int32) + (fL_up (ya >>> (3 &&& 31)) 3))).2), ((fX0_save Ps oh vh PN).1), ((fX0_save Ps oh vh PN).2.1), ((fX0_save Ps oh vh PN).2.2)), rfl, ⟨sv_ret hF, D_253.2.1, D_253.2.2⟩, toH ht hP⟩, hS.F ht⟩) hS.2.2 dL_act_264
        have hF := hF.trans (if_neg c_171_1)
        by_cases c_171_2 : (fL_up xa 16) = 2
        · have hF := hF.trans (if_pos c_171_2)
          refine lv_tableIn (off := 53) (tgt := 224) hx hb dL_act_171 (by rw [c_171_2]; decide) (by rw [c_171_2]; decide) (by rw [c_171_2]; rfl) (by decide) ?_
          refine lv_sipush (v := 1000) hx hb dL_act_224 (by decide) ?_
          refine lv_aload_n hx hb dL_act_227 rfl (lv_at hl 6 rfl) ?_
          refine lv_iconst (v := 0) hx hb dL_act_228 (by decide) ?_
          have e_229 : (fX6_count PN Ps oh vh 0) = Sum.inr ((PN 10 0), ()) := count_0
          refine k_calli (W.runV (As := [.int 0]) (rest := [.int 1000]) ⟨hx, hb, hml, hown, hts0⟩ (mX6_count l dC dI cI cP a0 aN aT aS t0 t1 t2 h0 h1 pa PN PT PS f u Ps oh vh k 0 (ok_inr e_229)) (cwV 1 hts0 (gi_V u_268 u_269 u_270 u_1 u_271) rfl rfl rfl (by decide +kernel) ⟨Nat.le_of_ble_eq_true rfl, Nat.le_of_ble_eq_true rfl⟩) (pcR_V (ci := 4) (q0 := 0) hP hK hn rfl rfl) rfl rfl hl.1 rfl (lv_room (Nat.le_of_ble_eq_true rfl)) dL_act_229 ⟨Nat.zero_le _, Nat.zero_le _⟩) ?_
          refine lv_tope (y := (PN 10 0)) (ok1_inr e_229) ?_
          refine lv_bipush (v := 16) hx hb dL_act_232 (by decide) ?_
          refine lv_icmp_ge (tgt := 259) hx hb dL_act_234 (by decide) (fun c_234 => ?_) (fun c_234 => ?_)
          · have hF := hF.trans (if_pos c_234)
            refine lv_aload_n hx hb dL_act_259 rfl (lv_at hl 6 rfl) ?_
            have D_260 := D_all (Ps := Ps) (o := oh) (v := vh) hR hX
            have e_260 : (fX6_seatAll PN Ps oh vh) = ((fX2_seatStanding PN).1, ((fX2_seatStanding PN).2, (fX0_save Ps oh vh PN).1, (fX0_save Ps oh vh PN).2.1, (fX0_save Ps oh vh PN).2.2)) := D_260.1
            refine k_deed2 (W1 := (fun (v9 : PV × (Nat → PV) × Nat × Nat) => fW cI cP a0 aN aT aS t0 t1 t2 h0 h1 pa v9.1 PT PS f u v9.2.1 v9.2.2.1 v9.2.2.2 k)) (r0 := (fX2_seatStanding PN).1) (u0 := ((fX2_seatStanding PN).2, (fX0_save Ps oh vh PN).1, (fX0_save Ps oh vh PN).2.1, (fX0_save Ps oh vh PN).2.2)) e_260 (va_runV (As := []) (rest := [.int 1000]) ⟨hx, hb, hml, hown, hts0⟩ (mX6_seatAll l dC dI cI cP a0 aN aT aS t0 t1 t2 h0 h1 pa PN PT PS f u Ps oh vh k  (by first | omega | assumption) (by first | omega | assumption)) (cwV 0 hts0 (gi_V u_475 u_476 u_477 u_1 u_478) rfl rfl rfl (by decide +kernel) ⟨Nat.le_of_ble_eq_true rfl, Nat.le_of_ble_eq_true rfl⟩) (pcM_V (ci := 4) (q0 := 0) hP hK hn hD rfl rfl) rfl rfl hl.1 rfl (lv_room (Nat.le_of_ble_eq_true rfl)) dL_act_260 ⟨Nat.zero_le _, Nat.zero_le _⟩) hP hD hS rfl (fun H locs hP hD hS => ?_)
            have hP : va_P (dC, dI) vwCl (fW cI cP a0 aN aT aS t0 t1 t2 h0 h1 pa ((fX2_seatStanding PN).2) PT PS f u ((fX0_save Ps oh vh PN).1) ((fX0_save Ps oh vh PN).2.1) ((fX0_save Ps oh vh PN).2.2) k) H := hP
            have hD : va_D A (fW cI cP a0 aN aT aS t0 t1 t2 h0 h1 pa ((fX2_seatStanding PN).2) PT PS f u ((fX0_save Ps oh vh PN).1) ((fX0_save Ps oh vh PN).2.1) ((fX0_save Ps oh vh PN).2.2) k) := hD
            refine lv_iadd hx hb dL_act_263 ?_
            rw [hQ]
            exact W.iret (v := ((1000 : Int32) + (fX2_seatStanding PN).1)) hx hb hr (fun t ht hW => ⟨⟨((1000 : Int32) + (fX2_seatStanding PN).1), (((fX2_seatStanding PN).2), ((fX0_save Ps oh vh PN).1), ((fX0_save Ps oh vh PN).2.1), ((fX0_save Ps oh vh PN).2.2)), rfl, ⟨sv_ret hF, D_260.2.1, D_260.2.2⟩, toH ht hP⟩, hS.F ht⟩) hS.2.2 dL_act_264
          have hF := hF.trans (if_neg c_234)
          refine lv_aload_n hx hb dL_act_237 rfl (lv_at hl 6 rfl) ?_
          refine lv_iload_n hx hb dL_act_238 rfl (lv_at hl 8 rfl) ?_
          refine lv_bipush (v := 6) hx hb dL_act_239 (by decide) ?_
          refine k_calli (W.runS (As := [.int ya, .int 6]) (rest := [.ref a0, .int 1000]) ⟨hx, hb, hml, hown, hts0⟩ (mL_up l dC dI  ya 6 (by decide)) (va_cwS 2 hts0 (gi_S u_350 u_351 u_0 u_352) rfl rfl rfl (by decide +kernel) ⟨Nat.le_of_ble_eq_true rfl, Nat.le_of_ble_eq_true rfl⟩) (pcR_S (hP.sub (ws' := []) [] rfl) (hK.sub (tys' := []) [] rfl) hn) rfl rfl hl.1 rfl (lv_room (Nat.le_of_ble_eq_true rfl)) dL_act_241 ⟨Nat.zero_le _, Nat.zero_le _⟩) ?_
          refine lv_iconst (v := 1) hx hb dL_act_244 (by decide) ?_
          refine lv_iload_n hx hb dL_act_245 rfl (lv_at hl 8 rfl) ?_
          refine lv_iconst (v := 3) hx hb dL_act_246 (by decide) ?_
          refine lv_ishr hx hb dL_act_247 ?_
          refine lv_iconst (v := 3) hx hb dL_act_248 (by decide) ?_
          refine k_calli (W.runS (As := [.int (ya >>> (3 &&& 31)), .int 3]) (rest := [.int 1, .int (fL_up ya 6), .ref a0, .int 1000]) ⟨hx, hb, hml, hown, hts0⟩ (mL_up l dC dI  (ya >>> (3 &&& 31)) 3 (by decide)) (va_cwS 2 hts0 (gi_S u_350 u_351 u_0 u_352) rfl rfl rfl (by decide +kernel) ⟨Nat.le_of_ble_eq_true rfl, Nat.le_of_ble_eq_true rfl⟩) (pcR_S (hP.sub (ws' := []) [] rfl) (hK.sub (tys' := []) [] rfl) hn) rfl rfl hl.1 rfl (lv_room (Nat.le_of_ble_eq_true rfl)) dL_act_249 ⟨Nat.zero_le _, Nat.zero_le _⟩) ?_
          refine lv_iadd hx hb dL_act_252 ?_
          have D_253 := D_guest (Ps := Ps) (o := oh) (v := vh) hR hX (gl16 hR c_234) (up_is (v := ya) (n := 6) (by decide) (by decide)) (up1 (ya >>> (3 &&& 31)))
          have e_253 : (fX6_guest PN Ps oh vh (fL_up ya 6) ((1 : Int32) + (fL_up (ya >>> (3 &&& 31)) 3))) = Sum.inr ((fX2_addGuest PN (fL_up ya 6) ((1 : Int32) + (fL_up (ya >>> (3 &&& 31)) 3))).1, ((fX2_addGuest PN (fL_up ya 6) ((1 : Int32) + (fL_up (ya >>> (3 &&& 31)) 3))).2, (fX0_save Ps oh vh PN).1, (fX0_save Ps oh vh PN).2.1, (fX0_save Ps oh vh PN).2.2)) := D_253.1
          refine k_deed (W1 := (fun (v9 : PV × (Nat → PV) × Nat × Nat) => fW cI cP a0 aN aT aS t0 t1 t2 h0 h1 pa v9.1 PT PS f u v9.2.1 v9.2.2.1 v9.2.2.2 k)) (r0 := (fX2_addGuest PN (fL_up ya 6) ((1 : Int32) + (fL_up (ya >>> (3 &&& 31)) 3))).1) (u0 := ((fX2_addGuest PN (fL_up ya 6) ((1 : Int32) + (fL_up (ya >>> (3 &&& 31)) 3))).2, (fX0_save Ps oh vh PN).1, (fX0_save Ps oh vh PN).2.1, (fX0_save Ps oh vh PN).2.2)) e_253 (va_runV (As := [.int (fL_up ya 6), .int ((1 : Int32) + (fL_up (ya >>> (3 &&& 31)) 3))]) (rest := [.int 1000]) ⟨hx, hb, hml, hown, hts0⟩ (mX6_guest l dC dI cI cP a0 aN aT aS t0 t1 t2 h0 h1 pa PN PT PS f u Ps oh vh k (fL_up ya 6) ((1 : Int32) + (fL_up (ya >>> (3 &&& 31)) 3)) ho6 hv6 (ok_inr e_253)) (cwV 2 hts0 (gi_V u_462 u_463 u_464 u_1 u_465) rfl rfl rfl (by decide +kernel) ⟨Nat.le_of_ble_eq_true rfl, Nat.le_of_ble_eq_true rfl⟩) (pcM_V (ci := 4) (q0 := 0) hP hK hn hD rfl rfl) rfl rfl hl.1 rfl (lv_room (Nat.le_of_ble_eq_true rfl)) dL_act_253 ⟨Nat.zero_le _, Nat.zero_le _⟩) hP hD hS rfl (fun H locs hP hD hS => ?_)
          have hP : va_P (dC, dI) vwCl (fW cI cP a0 aN aT aS t0 t1 t2 h0 h1 pa ((fX2_addGuest PN (fL_up ya 6) ((1 : Int32) + (fL_up (ya >>> (3 &&& 31)) 3))).2) PT PS f u ((fX0_save Ps oh vh PN).1) ((fX0_save Ps oh vh PN).2.1) ((fX0_save Ps oh vh PN).2.2) k) H := hP
          have hD : va_D A (fW cI cP a0 aN aT aS t0 t1 t2 h0 h1 pa ((fX2_addGuest PN (fL_up ya 6) ((1 : Int32) + (fL_up (ya >>> (3 &&& 31)) 3))).2) PT PS f u ((fX0_save Ps oh vh PN).1) ((fX0_save Ps oh vh PN).2.1) ((fX0_save Ps oh vh PN).2.2) k) := hD
          refine lv_goto (tgt := 263) hx hb dL_act_256 (by decide) ?_
          refine lv_iadd hx hb dL_act_263 ?_
          rw [hQ]
          exact W.iret (v := ((1000 : Int32) + (fX2_addGuest PN (fL_up ya 6) ((1 : Int32) + (fL_up (ya >>> (3 &&& 31)) 3))).1)) hx hb hr (fun t ht hW => ⟨⟨((1000 : Int32) + (fX2_addGuest PN (fL_up ya 6) ((1 : Int32) + (fL_up (ya >>> (3 &&& 31)) 3))).1), (((fX2_addGuest PN (fL_up ya 6) ((1 : Int32) + (fL_up (ya >>> (3 &&& 31)) 3))).2), ((fX0_save Ps oh vh PN).1), ((fX0_save Ps oh vh PN).2.1), ((fX0_save Ps oh vh PN).2.2)), rfl, ⟨sv_ret hF, D_253.2.1, D_253.2.2⟩, toH ht hP⟩, hS.F ht⟩) hS.2.2 dL_act_264
        have hF := hF.trans (if_neg c_171_2)
        by_cases c_171_3 : (fL_up xa 16) = 3
        · have hF := hF.trans (if_pos c_171_3)
          refine lv_tableIn (off := 94) (tgt := 265) hx hb dL_act_171 (by rw [c_171_3]; decide) (by rw [c_171_3]; decide) (by rw [c_171_3]; rfl) (by decide) ?_
          refine lv_sipush (v := 1000) hx hb dL_act_265 (by decide) ?_
          refine lv_aload_n hx hb dL_act_268 rfl (lv_at hl 6 rfl) ?_
          refine lv_iconst (v := 1) hx hb dL_act_269 (by decide) ?_
          have e_270 : (fX6_count PN Ps oh vh 1) = Sum.inr ((PN 10 1), ()) := count_1
          refine k_calli (W.runV (As := [.int 1]) (rest := [.int 1000]) ⟨hx, hb, hml, hown, hts0⟩ (mX6_count l dC dI cI cP a0 aN aT aS t0 t1 t2 h0 h1 pa PN PT PS f u Ps oh vh k 1 (ok_inr e_270)) (cwV 1 hts0 (gi_V u_268 u_269 u_270 u_1 u_271) rfl rfl rfl (by decide +kernel) ⟨Nat.le_of_ble_eq_true rfl, Nat.le_of_ble_eq_true rfl⟩) (pcR_V (ci := 4) (q0 := 0) hP hK hn rfl rfl) rfl rfl hl.1 rfl (lv_room (Nat.le_of_ble_eq_true rfl)) dL_act_270 ⟨Nat.zero_le _, Nat.zero_le _⟩) ?_
          refine lv_tope (y := (PN 10 1)) (ok1_inr e_270) ?_
          refine lv_iconst (v := 4) hx hb dL_act_273 (by decide) ?_
          refine lv_icmp_ge (tgt := 292) hx hb dL_act_274 (by decide) (fun c_274 => ?_) (fun c_274 => ?_)
          · have hF := hF.trans (if_pos c_274)
            refine lv_aload_n hx hb dL_act_292 rfl (lv_at hl 6 rfl) ?_
            refine lv_iconst (v := 0) hx hb dL_act_293 (by decide) ?_
            refine lv_iconst (v := 1) hx hb dL_act_294 (by decide) ?_
            refine lv_iload_n hx hb dL_act_295 rfl (lv_at hl 8 rfl) ?_
            refine lv_bipush (v := 8) hx hb dL_act_296 (by decide) ?_
            refine k_calli (W.runS (As := [.int ya, .int 8]) (rest := [.int 1, .int 0, .ref a0, .int 1000]) ⟨hx, hb, hml, hown, hts0⟩ (mL_up l dC dI  ya 8 (by decide)) (va_cwS 2 hts0 (gi_S u_350 u_351 u_0 u_352) rfl rfl rfl (by decide +kernel) ⟨Nat.le_of_ble_eq_true rfl, Nat.le_of_ble_eq_true rfl⟩) (pcR_S (hP.sub (ws' := []) [] rfl) (hK.sub (tys' := []) [] rfl) hn) rfl rfl hl.1 rfl (lv_room (Nat.le_of_ble_eq_true rfl)) dL_act_298 ⟨Nat.zero_le _, Nat.zero_le _⟩) ?_
            refine lv_iadd hx hb dL_act_301 ?_
            have D_302 := D_set (Ps := Ps) (o := oh) (v := vh) hR hX (set0 ya)
            have e_302 : (fX6_set PN Ps oh vh 0 ((1 : Int32) + (fL_up ya 8))) = Sum.inr ((dSet PN 0 ((1 : Int32) + (fL_up ya 8))).1, ((dSet PN 0 ((1 : Int32) + (fL_up ya 8))).2, (fX0_save Ps oh vh PN).1, (fX0_save Ps oh vh PN).2.1, (fX0_save Ps oh vh PN).2.2)) := D_302.1
            refine k_deed (W1 := (fun (v9 : PV × (Nat → PV) × Nat × Nat) => fW cI cP a0 aN aT aS t0 t1 t2 h0 h1 pa v9.1 PT PS f u v9.2.1 v9.2.2.1 v9.2.2.2 k)) (r0 := (dSet PN 0 ((1 : Int32) + (fL_up ya 8))).1) (u0 := ((dSet PN 0 ((1 : Int32) + (fL_up ya 8))).2, (fX0_save Ps oh vh PN).1, (fX0_save Ps oh vh PN).2.1, (fX0_save Ps oh vh PN).2.2)) e_302 (va_runV (As := [.int 0, .int ((1 : Int32) + (fL_up ya 8))]) (rest := [.int 1000]) ⟨hx, hb, hml, hown, hts0⟩ (mX6_set l dC dI cI cP a0 aN aT aS t0 t1 t2 h0 h1 pa PN PT PS f u Ps oh vh k 0 ((1 : Int32) + (fL_up ya 8)) qL qG ho6 hv6 (ok_inr e_302)) (cwV 2 hts0 (gi_V u_528 u_529 u_530 u_1 u_531) rfl rfl rfl (by decide +kernel) ⟨Nat.le_of_ble_eq_true rfl, Nat.le_of_ble_eq_true rfl⟩) (pcZ_V (ci := 4) (q0 := 0) hP hK hn hD hT hS rfl rfl) rfl rfl hl.1 rfl (lv_room (Nat.le_of_ble_eq_true rfl)) dL_act_302 ⟨Nat.zero_le _, Nat.zero_le _⟩) hP hD hS rfl (fun H locs hP hD hS => ?_)
            have hP : va_P (dC, dI) vwCl (fW cI cP a0 aN aT aS t0 t1 t2 h0 h1 pa ((dSet PN 0 ((1 : Int32) + (fL_up ya 8))).2) PT PS f u ((fX0_save Ps oh vh PN).1) ((fX0_save Ps oh vh PN).2.1) ((fX0_save Ps oh vh PN).2.2) k) H := hP
            have hD : va_D A (fW cI cP a0 aN aT aS t0 t1 t2 h0 h1 pa ((dSet PN 0 ((1 : Int32) + (fL_up ya 8))).2) PT PS f u ((fX0_save Ps oh vh PN).1) ((fX0_save Ps oh vh PN).2.1) ((fX0_save Ps oh vh PN).2.2) k) := hD
            refine lv_iadd hx hb dL_act_305 ?_
            rw [hQ]
            exact W.iret (v := ((1000 : Int32) + (dSet PN 0 ((1 : Int32) + (fL_up ya 8))).1)) hx hb hr (fun t ht hW => ⟨⟨((1000 : Int32) + (dSet PN 0 ((1 : Int32) + (fL_up ya 8))).1), (((dSet PN 0 ((1 : Int32) + (fL_up ya 8))).2), ((fX0_save Ps oh vh PN).1), ((fX0_save Ps oh vh PN).2.1), ((fX0_save Ps oh vh PN).2.2)), rfl, ⟨sv_ret hF, D_302.2.1, D_302.2.2⟩, toH ht hP⟩, hS.F ht⟩) hS.2.2 dL_act_306
          have hF := hF.trans (if_neg c_274)
          refine lv_aload_n hx hb dL_act_277 rfl (lv_at hl 6 rfl) ?_
          refine lv_iconst (v := 3) hx hb dL_act_278 (by decide) ?_
          refine lv_iload_n hx hb dL_act_279 rfl (lv_at hl 8 rfl) ?_
          refine lv_bipush (v := 6) hx hb dL_act_280 (by decide) ?_
          refine k_calli (W.runS (As := [.int ya, .int 6]) (rest := [.int 3, .ref a0, .int 1000]) ⟨hx, hb, hml, hown, hts0⟩ (mL_up l dC dI  ya 6 (by decide)) (va_cwS 2 hts0 (gi_S u_350 u_351 u_0 u_352) rfl rfl rfl (by decide +kernel) ⟨Nat.le_of_ble_eq_true rfl, Nat.le_of_ble_eq_true rfl⟩) (pcR_S (hP.sub (ws' := []) [] rfl) (hK.sub (tys' := []) [] rfl) hn) rfl rfl hl.1 rfl (lv_room (Nat.le_of_ble_eq_true rfl)) dL_act_282 ⟨Nat.zero_le _, Nat.zero_le _⟩) ?_
          refine lv_iadd hx hb dL_act_285 ?_
          have D_286 := D_table (Ps := Ps) (o := oh) (v := vh) hR hX (tl4 hR c_274) (up3 ya)
          have e_286 : (fX6_table PN Ps oh vh ((3 : Int32) + (fL_up ya 6))) = Sum.inr ((fX2_addTable PN ((3 : Int32) + (fL_up ya 6))).1, ((fX2_addTable PN ((3 : Int32) + (fL_up ya 6))).2, (fX0_save Ps oh vh PN).1, (fX0_save Ps oh vh PN).2.1, (fX0_save Ps oh vh PN).2.2)) := D_286.1
          refine k_deed (W1 := (fun (v9 : PV × (Nat → PV) × Nat × Nat) => fW cI cP a0 aN aT aS t0 t1 t2 h0 h1 pa v9.1 PT PS f u v9.2.1 v9.2.2.1 v9.2.2.2 k)) (r0 := (fX2_addTable PN ((3 : Int32) + (fL_up ya 6))).1) (u0 := ((fX2_addTable PN ((3 : Int32) + (fL_up ya 6))).2, (fX0_save Ps oh vh PN).1, (fX0_save Ps oh vh PN).2.1, (fX0_save Ps oh vh PN).2.2)) e_286 (va_runV (As := [.int ((3 : Int32) + (fL_up ya 6))]) (rest := [.int 1000]) ⟨hx, hb, hml, hown, hts0⟩ (mX6_table l dC dI cI cP a0 aN aT aS t0 t1 t2 h0 h1 pa PN PT PS f u Ps oh vh k ((3 : Int32) + (fL_up ya 6)) ho6 hv6 (ok_inr e_286)) (cwV 1 hts0 (gi_V u_445 u_446 u_447 u_1 u_448) rfl rfl rfl (by decide +kernel) ⟨Nat.le_of_ble_eq_true rfl, Nat.le_of_ble_eq_true rfl⟩) (pcM_V (ci := 4) (q0 := 0) hP hK hn hD rfl rfl) rfl rfl hl.1 rfl (lv_room (Nat.le_of_ble_eq_true rfl)) dL_act_286 ⟨Nat.zero_le _, Nat.zero_le _⟩) hP hD hS rfl (fun H locs hP hD hS => ?_)
          have hP : va_P (dC, dI) vwCl (fW cI cP a0 aN aT aS t0 t1 t2 h0 h1 pa ((fX2_addTable PN ((3 : Int32) + (fL_up ya 6))).2) PT PS f u ((fX0_save Ps oh vh PN).1) ((fX0_save Ps oh vh PN).2.1) ((fX0_save Ps oh vh PN).2.2) k) H := hP
          have hD : va_D A (fW cI cP a0 aN aT aS t0 t1 t2 h0 h1 pa ((fX2_addTable PN ((3 : Int32) + (fL_up ya 6))).2) PT PS f u ((fX0_save Ps oh vh PN).1) ((fX0_save Ps oh vh PN).2.1) ((fX0_save Ps oh vh PN).2.2) k) := hD
          refine lv_goto (tgt := 305) hx hb dL_act_289 (by decide) ?_
          refine lv_iadd hx hb dL_act_305 ?_
          rw [hQ]
          exact W.iret (v := ((1000 : Int32) + (fX2_addTable PN ((3 : Int32) + (fL_up ya 6))).1)) hx hb hr (fun t ht hW => ⟨⟨((1000 : Int32) + (fX2_addTable PN ((3 : Int32) + (fL_up ya 6))).1), (((fX2_addTable PN ((3 : Int32) + (fL_up ya 6))).2), ((fX0_save Ps oh vh PN).1), ((fX0_save Ps oh vh PN).2.1), ((fX0_save Ps oh vh PN).2.2)), rfl, ⟨sv_ret hF, D_286.2.1, D_286.2.2⟩, toH ht hP⟩, hS.F ht⟩) hS.2.2 dL_act_306
        have hF := hF.trans (if_neg c_171_3)
        by_cases c_171_4 : (fL_up xa 16) = 4
        · have hF := hF.trans (if_pos c_171_4)
          refine lv_tableIn (off := 136) (tgt := 307) hx hb dL_act_171 (by rw [c_171_4]; decide) (by rw [c_171_4]; decide) (by rw [c_171_4]; rfl) (by decide) ?_
          refine lv_sipush (v := 1000) hx hb dL_act_307 (by decide) ?_
          refine lv_aload_n hx hb dL_act_310 rfl (lv_at hl 6 rfl) ?_
          refine lv_iload hx hb dL_act_311 (lv_at hl 2 rfl) ?_
          refine lv_iload hx hb dL_act_313 (lv_at hl 1 rfl) ?_
          refine k_callb (W.runS (As := [.ref a0, .int (fL_up ya 6), .int ((((fL_up ya 6) + (1 : Int32)) + (fL_up (ya >>> (3 &&& 31)) 5)) - (((fL_up ya 6) + (1 : Int32)) + (fL_up (ya >>> (3 &&& 31)) 5)) / 6 * 6)]) (rest := [.int 1000]) ⟨hx, hb, hml, hown, hts0⟩ (mL_isFeud l dC dI cI cP a0 aN aT aS t0 t1 t2 h0 h1 pa PN PT PS f u Ps oh vh k (fL_up ya 6) ((((fL_up ya 6) + (1 : Int32)) + (fL_up (ya >>> (3 &&& 31)) 5)) - (((fL_up ya 6) + (1 : Int32)) + (fL_up (ya >>> (3 &&& 31)) 5)) / 6 * 6)) (va_cwS 3 hts0 (gi_S u_539 u_540 u_0 u_541) rfl rfl rfl (by decide +kernel) ⟨Nat.le_of_ble_eq_true rfl, Nat.le_of_ble_eq_true rfl⟩) (pcR_S hP hK hn) rfl rfl hl.1 rfl (lv_room (Nat.le_of_ble_eq_true rfl)) dL_act_315 ⟨Nat.zero_le _, Nat.zero_le _⟩) (fun br315 => ?_)
          refine lv_if_eq (tgt := 332) hx hb dL_act_318 (by decide) (fun c_318 => ?_) (fun c_318 => ?_)
          · have hF := hF.trans (if_pos c_318)
            refine lv_aload_n hx hb dL_act_332 rfl (lv_at hl 6 rfl) ?_
            refine lv_iconst (v := 2) hx hb dL_act_333 (by decide) ?_
            have e_334 : (fX6_count PN Ps oh vh 2) = Sum.inr ((PN 10 4), ()) := count_2
            refine k_calli (W.runV (As := [.int 2]) (rest := [.int 1000]) ⟨hx, hb, hml, hown, hts0⟩ (mX6_count l dC dI cI cP a0 aN aT aS t0 t1 t2 h0 h1 pa PN PT PS f u Ps oh vh k 2 (ok_inr e_334)) (cwV 1 hts0 (gi_V u_268 u_269 u_270 u_1 u_271) rfl rfl rfl (by decide +kernel) ⟨Nat.le_of_ble_eq_true rfl, Nat.le_of_ble_eq_true rfl⟩) (pcR_V (ci := 4) (q0 := 0) hP hK hn rfl rfl) rfl rfl hl.1 rfl (lv_room (Nat.le_of_ble_eq_true rfl)) dL_act_334 ⟨Nat.zero_le _, Nat.zero_le _⟩) ?_
            refine lv_tope (y := (PN 10 4)) (ok1_inr e_334) ?_
            refine lv_bipush (v := 8) hx hb dL_act_337 (by decide) ?_
            refine lv_icmp_ge (tgt := 353) hx hb dL_act_339 (by decide) (fun c_339 => ?_) (fun c_339 => ?_)
            · have hF := hF.trans (if_pos c_339)
              refine lv_aload_n hx hb dL_act_353 rfl (lv_at hl 6 rfl) ?_
              have D_354 := D_all (Ps := Ps) (o := oh) (v := vh) hR hX
              have e_354 : (fX6_seatAll PN Ps oh vh) = ((fX2_seatStanding PN).1, ((fX2_seatStanding PN).2, (fX0_save Ps oh vh PN).1, (fX0_save Ps oh vh PN).2.1, (fX0_save Ps oh vh PN).2.2)) := D_354.1
              refine k_deed2 (W1 := (fun (v9 : PV × (Nat → PV) × Nat × Nat) => fW cI cP a0 aN aT aS t0 t1 t2 h0 h1 pa v9.1 PT PS f u v9.2.1 v9.2.2.1 v9.2.2.2 k)) (r0 := (fX2_seatStanding PN).1) (u0 := ((fX2_seatStanding PN).2, (fX0_save Ps oh vh PN).1, (fX0_save Ps oh vh PN).2.1, (fX0_save Ps oh vh PN).2.2)) e_354 (va_runV (As := []) (rest := [.int 1000]) ⟨hx, hb, hml, hown, hts0⟩ (mX6_seatAll l dC dI cI cP a0 aN aT aS t0 t1 t2 h0 h1 pa PN PT PS f u Ps oh vh k  (by first | omega | assumption) (by first | omega | assumption)) (cwV 0 hts0 (gi_V u_475 u_476 u_477 u_1 u_478) rfl rfl rfl (by decide +kernel) ⟨Nat.le_of_ble_eq_true rfl, Nat.le_of_ble_eq_true rfl⟩) (pcM_V (ci := 4) (q0 := 0) hP hK hn hD rfl rfl) rfl rfl hl.1 rfl (lv_room (Nat.le_of_ble_eq_true rfl)) dL_act_354 ⟨Nat.zero_le _, Nat.zero_le _⟩) hP hD hS rfl (fun H locs hP hD hS => ?_)
              have hP : va_P (dC, dI) vwCl (fW cI cP a0 aN aT aS t0 t1 t2 h0 h1 pa ((fX2_seatStanding PN).2) PT PS f u ((fX0_save Ps oh vh PN).1) ((fX0_save Ps oh vh PN).2.1) ((fX0_save Ps oh vh PN).2.2) k) H := hP
              have hD : va_D A (fW cI cP a0 aN aT aS t0 t1 t2 h0 h1 pa ((fX2_seatStanding PN).2) PT PS f u ((fX0_save Ps oh vh PN).1) ((fX0_save Ps oh vh PN).2.1) ((fX0_save Ps oh vh PN).2.2) k) := hD
              refine lv_iadd hx hb dL_act_357 ?_
              rw [hQ]
              exact W.iret (v := ((1000 : Int32) + (fX2_seatStanding PN).1)) hx hb hr (fun t ht hW => ⟨⟨((1000 : Int32) + (fX2_seatStanding PN).1), (((fX2_seatStanding PN).2), ((fX0_save Ps oh vh PN).1), ((fX0_save Ps oh vh PN).2.1), ((fX0_save Ps oh vh PN).2.2)), rfl, ⟨sv_ret hF, D_354.2.1, D_354.2.2⟩, toH ht hP⟩, hS.F ht⟩) hS.2.2 dL_act_358
            have hF := hF.trans (if_neg c_339)
            refine lv_aload_n hx hb dL_act_342 rfl (lv_at hl 6 rfl) ?_
            refine lv_iload hx hb dL_act_343 (lv_at hl 2 rfl) ?_
            refine lv_iload hx hb dL_act_345 (lv_at hl 1 rfl) ?_
            have D_347 := A_feud (Ps := Ps) (o := oh) (v := vh) hR hX pair9 c_318 c_339
            have e_347 : (fX6_feud PN Ps oh vh (fL_up ya 6) ((((fL_up ya 6) + (1 : Int32)) + (fL_up (ya >>> (3 &&& 31)) 5)) - (((fL_up ya 6) + (1 : Int32)) + (fL_up (ya >>> (3 &&& 31)) 5)) / 6 * 6)) = Sum.inr ((fX2_beginFeud PN (fL_up ya 6) ((((fL_up ya 6) + (1 : Int32)) + (fL_up (ya >>> (3 &&& 31)) 5)) - (((fL_up ya 6) + (1 : Int32)) + (fL_up (ya >>> (3 &&& 31)) 5)) / 6 * 6)).1, ((fX2_beginFeud PN (fL_up ya 6) ((((fL_up ya 6) + (1 : Int32)) + (fL_up (ya >>> (3 &&& 31)) 5)) - (((fL_up ya 6) + (1 : Int32)) + (fL_up (ya >>> (3 &&& 31)) 5)) / 6 * 6)).2, (fX0_save Ps oh vh PN).1, (fX0_save Ps oh vh PN).2.1, (fX0_save Ps oh vh PN).2.2)) := D_347.1
            refine k_deed (W1 := (fun (v9 : PV × (Nat → PV) × Nat × Nat) => fW cI cP a0 aN aT aS t0 t1 t2 h0 h1 pa v9.1 PT PS f u v9.2.1 v9.2.2.1 v9.2.2.2 k)) (r0 := (fX2_beginFeud PN (fL_up ya 6) ((((fL_up ya 6) + (1 : Int32)) + (fL_up (ya >>> (3 &&& 31)) 5)) - (((fL_up ya 6) + (1 : Int32)) + (fL_up (ya >>> (3 &&& 31)) 5)) / 6 * 6)).1) (u0 := ((fX2_beginFeud PN (fL_up ya 6) ((((fL_up ya 6) + (1 : Int32)) + (fL_up (ya >>> (3 &&& 31)) 5)) - (((fL_up ya 6) + (1 : Int32)) + (fL_up (ya >>> (3 &&& 31)) 5)) / 6 * 6)).2, (fX0_save Ps oh vh PN).1, (fX0_save Ps oh vh PN).2.1, (fX0_save Ps oh vh PN).2.2)) e_347 (va_runV (As := [.int (fL_up ya 6), .int ((((fL_up ya 6) + (1 : Int32)) + (fL_up (ya >>> (3 &&& 31)) 5)) - (((fL_up ya 6) + (1 : Int32)) + (fL_up (ya >>> (3 &&& 31)) 5)) / 6 * 6)]) (rest := [.int 1000]) ⟨hx, hb, hml, hown, hts0⟩ (mX6_feud l dC dI cI cP a0 aN aT aS t0 t1 t2 h0 h1 pa PN PT PS f u Ps oh vh k (fL_up ya 6) ((((fL_up ya 6) + (1 : Int32)) + (fL_up (ya >>> (3 &&& 31)) 5)) - (((fL_up ya 6) + (1 : Int32)) + (fL_up (ya >>> (3 &&& 31)) 5)) / 6 * 6) ho6 hv6 (ok_inr e_347)) (cwV 2 hts0 (gi_V u_566 u_567 u_568 u_1 u_569) rfl rfl rfl (by decide +kernel) ⟨Nat.le_of_ble_eq_true rfl, Nat.le_of_ble_eq_true rfl⟩) (pcM_V (ci := 4) (q0 := 0) hP hK hn hD rfl rfl) rfl rfl hl.1 rfl (lv_room (Nat.le_of_ble_eq_true rfl)) dL_act_347 ⟨Nat.zero_le _, Nat.zero_le _⟩) hP hD hS rfl (fun H locs hP hD hS => ?_)
            have hP : va_P (dC, dI) vwCl (fW cI cP a0 aN aT aS t0 t1 t2 h0 h1 pa ((fX2_beginFeud PN (fL_up ya 6) ((((fL_up ya 6) + (1 : Int32)) + (fL_up (ya >>> (3 &&& 31)) 5)) - (((fL_up ya 6) + (1 : Int32)) + (fL_up (ya >>> (3 &&& 31)) 5)) / 6 * 6)).2) PT PS f u ((fX0_save Ps oh vh PN).1) ((fX0_save Ps oh vh PN).2.1) ((fX0_save Ps oh vh PN).2.2) k) H := hP
            have hD : va_D A (fW cI cP a0 aN aT aS t0 t1 t2 h0 h1 pa ((fX2_beginFeud PN (fL_up ya 6) ((((fL_up ya 6) + (1 : Int32)) + (fL_up (ya >>> (3 &&& 31)) 5)) - (((fL_up ya 6) + (1 : Int32)) + (fL_up (ya >>> (3 &&& 31)) 5)) / 6 * 6)).2) PT PS f u ((fX0_save Ps oh vh PN).1) ((fX0_save Ps oh vh PN).2.1) ((fX0_save Ps oh vh PN).2.2) k) := hD
            refine lv_goto (tgt := 357) hx hb dL_act_350 (by decide) ?_
            refine lv_iadd hx hb dL_act_357 ?_
            rw [hQ]
            exact W.iret (v := ((1000 : Int32) + (fX2_beginFeud PN (fL_up ya 6) ((((fL_up ya 6) + (1 : Int32)) + (fL_up (ya >>> (3 &&& 31)) 5)) - (((fL_up ya 6) + (1 : Int32)) + (fL_up (ya >>> (3 &&& 31)) 5)) / 6 * 6)).1)) hx hb hr (fun t ht hW => ⟨⟨((1000 : Int32) + (fX2_beginFeud PN (fL_up ya 6) ((((fL_up ya 6) + (1 : Int32)) + (fL_up (ya >>> (3 &&& 31)) 5)) - (((fL_up ya 6) + (1 : Int32)) + (fL_up (ya >>> (3 &&& 31)) 5)) / 6 * 6)).1), (((fX2_beginFeud PN (fL_up ya 6) ((((fL_up ya 6) + (1 : Int32)) + (fL_up (ya >>> (3 &&& 31)) 5)) - (((fL_up ya 6) + (1 : Int32)) + (fL_up (ya >>> (3 &&& 31)) 5)) / 6 * 6)).2), ((fX0_save Ps oh vh PN).1), ((fX0_save Ps oh vh PN).2.1), ((fX0_save Ps oh vh PN).2.2)), rfl, ⟨sv_ret hF, D_347.2.1, D_347.2.2⟩, toH ht hP⟩, hS.F ht⟩) hS.2.2 dL_act_358
          have hF := hF.trans (if_neg c_318)
          refine lv_aload_n hx hb dL_act_321 rfl (lv_at hl 6 rfl) ?_
          refine lv_iload hx hb dL_act_322 (lv_at hl 2 rfl) ?_
          refine lv_iload hx hb dL_act_324 (lv_at hl 1 rfl) ?_
          have D_326 := A_peace (Ps := Ps) (o := oh) (v := vh) hR hX pair9 c_318
          have e_326 : (fX6_peace PN Ps oh vh (fL_up ya 6) ((((fL_up ya 6) + (1 : Int32)) + (fL_up (ya >>> (3 &&& 31)) 5)) - (((fL_up ya 6) + (1 : Int32)) + (fL_up (ya >>> (3 &&& 31)) 5)) / 6 * 6)) = Sum.inr ((dPeace PN (fL_up ya 6) ((((fL_up ya 6) + (1 : Int32)) + (fL_up (ya >>> (3 &&& 31)) 5)) - (((fL_up ya 6) + (1 : Int32)) + (fL_up (ya >>> (3 &&& 31)) 5)) / 6 * 6)).1, ((dPeace PN (fL_up ya 6) ((((fL_up ya 6) + (1 : Int32)) + (fL_up (ya >>> (3 &&& 31)) 5)) - (((fL_up ya 6) + (1 : Int32)) + (fL_up (ya >>> (3 &&& 31)) 5)) / 6 * 6)).2, (fX0_save Ps oh vh PN).1, (fX0_save Ps oh vh PN).2.1, (fX0_save Ps oh vh PN).2.2)) := D_326.1
          refine k_deed (W1 := (fun (v9 : PV × (Nat → PV) × Nat × Nat) => fW cI cP a0 aN aT aS t0 t1 t2 h0 h1 pa v9.1 PT PS f u v9.2.1 v9.2.2.1 v9.2.2.2 k)) (r0 := (dPeace PN (fL_up ya 6) ((((fL_up ya 6) + (1 : Int32)) + (fL_up (ya >>> (3 &&& 31)) 5)) - (((fL_up ya 6) + (1 : Int32)) + (fL_up (ya >>> (3 &&& 31)) 5)) / 6 * 6)).1) (u0 := ((dPeace PN (fL_up ya 6) ((((fL_up ya 6) + (1 : Int32)) + (fL_up (ya >>> (3 &&& 31)) 5)) - (((fL_up ya 6) + (1 : Int32)) + (fL_up (ya >>> (3 &&& 31)) 5)) / 6 * 6)).2, (fX0_save Ps oh vh PN).1, (fX0_save Ps oh vh PN).2.1, (fX0_save Ps oh vh PN).2.2)) e_326 (va_runV (As := [.int (fL_up ya 6), .int ((((fL_up ya 6) + (1 : Int32)) + (fL_up (ya >>> (3 &&& 31)) 5)) - (((fL_up ya 6) + (1 : Int32)) + (fL_up (ya >>> (3 &&& 31)) 5)) / 6 * 6)]) (rest := [.int 1000]) ⟨hx, hb, hml, hown, hts0⟩ (mX6_peace l dC dI cI cP a0 aN aT aS t0 t1 t2 h0 h1 pa PN PT PS f u Ps oh vh k (fL_up ya 6) ((((fL_up ya 6) + (1 : Int32)) + (fL_up (ya >>> (3 &&& 31)) 5)) - (((fL_up ya 6) + (1 : Int32)) + (fL_up (ya >>> (3 &&& 31)) 5)) / 6 * 6) ho6 hv6 (ok_inr e_326)) (cwV 2 hts0 (gi_V u_542 u_543 u_544 u_1 u_545) rfl rfl rfl (by decide +kernel) ⟨Nat.le_of_ble_eq_true rfl, Nat.le_of_ble_eq_true rfl⟩) (pcM_V (ci := 4) (q0 := 0) hP hK hn hD rfl rfl) rfl rfl hl.1 rfl (lv_room (Nat.le_of_ble_eq_true rfl)) dL_act_326 ⟨Nat.zero_le _, Nat.zero_le _⟩) hP hD hS rfl (fun H locs hP hD hS => ?_)
          have hP : va_P (dC, dI) vwCl (fW cI cP a0 aN aT aS t0 t1 t2 h0 h1 pa ((dPeace PN (fL_up ya 6) ((((fL_up ya 6) + (1 : Int32)) + (fL_up (ya >>> (3 &&& 31)) 5)) - (((fL_up ya 6) + (1 : Int32)) + (fL_up (ya >>> (3 &&& 31)) 5)) / 6 * 6)).2) PT PS f u ((fX0_save Ps oh vh PN).1) ((fX0_save Ps oh vh PN).2.1) ((fX0_save Ps oh vh PN).2.2) k) H := hP
          have hD : va_D A (fW cI cP a0 aN aT aS t0 t1 t2 h0 h1 pa ((dPeace PN (fL_up ya 6) ((((fL_up ya 6) + (1 : Int32)) + (fL_up (ya >>> (3 &&& 31)) 5)) - (((fL_up ya 6) + (1 : Int32)) + (fL_up (ya >>> (3 &&& 31)) 5)) / 6 * 6)).2) PT PS f u ((fX0_save Ps oh vh PN).1) ((fX0_save Ps oh vh PN).2.1) ((fX0_save Ps oh vh PN).2.2) k) := hD
          refine lv_goto (tgt := 357) hx hb dL_act_329 (by decide) ?_
          refine lv_iadd hx hb dL_act_357 ?_
          rw [hQ]
          exact W.iret (v := ((1000 : Int32) + (dPeace PN (fL_up ya 6) ((((fL_up ya 6) + (1 : Int32)) + (fL_up (ya >>> (3 &&& 31)) 5)) - (((fL_up ya 6) + (1 : Int32)) + (fL_up (ya >>> (3 &&& 31)) 5)) / 6 * 6)).1)) hx hb hr (fun t ht hW => ⟨⟨((1000 : Int32) + (dPeace PN (fL_up ya 6) ((((fL_up ya 6) + (1 : Int32)) + (fL_up (ya >>> (3 &&& 31)) 5)) - (((fL_up ya 6) + (1 : Int32)) + (fL_up (ya >>> (3 &&& 31)) 5)) / 6 * 6)).1), (((dPeace PN (fL_up ya 6) ((((fL_up ya 6) + (1 : Int32)) + (fL_up (ya >>> (3 &&& 31)) 5)) - (((fL_up ya 6) + (1 : Int32)) + (fL_up (ya >>> (3 &&& 31)) 5)) / 6 * 6)).2), ((fX0_save Ps oh vh PN).1), ((fX0_save Ps oh vh PN).2.1), ((fX0_save Ps oh vh PN).2.2)), rfl, ⟨sv_ret hF, D_326.2.1, D_326.2.2⟩, toH ht hP⟩, hS.F ht⟩) hS.2.2 dL_act_358
        have hF := hF.trans (if_neg c_171_4)
        by_cases c_171_5 : (fL_up xa 16) = 5
        · have hF := hF.trans (if_pos c_171_5)
          refine lv_tableIn (off := 188) (tgt := 359) hx hb dL_act_171 (by rw [c_171_5]; decide) (by rw [c_171_5]; decide) (by rw [c_171_5]; rfl) (by decide) ?_
          refine lv_sipush (v := 1001) hx hb dL_act_359 (by decide) ?_
          refine lv_aload_n hx hb dL_act_362 rfl (lv_at hl 6 rfl) ?_
          refine lv_iload_n hx hb dL_act_363 rfl (lv_at hl 5 rfl) ?_
          refine lv_iload hx hb dL_act_364 (lv_at hl 0 rfl) ?_
          refine lv_iload_n hx hb dL_act_366 rfl (lv_at hl 5 rfl) ?_
          have K367 : ∀ (v367_0 : Int32), v367_0 = (if (fL_up (ya >>> (8 &&& 31)) (PN 10 0)) = v5_0 then (-1) else (fL_up (ya >>> (8 &&& 31)) (PN 10 0))) → ∀ (H : Heap) (locs : List Loc), va_P (dC, dI) vwCl (fW cI cP a0 aN aT aS t0 t1 t2 h0 h1 pa PN PT PS f u Ps oh vh k) H → va_D A (fW cI cP a0 aN aT aS t0 t1 t2 h0 h1 pa PN PT PS f u Ps oh vh k) → va_S A s.heap H locs → ∀ (ls : Array Slot), lv_has ls 10 [(8, .int (fL_up (ya >>> (8 &&& 31)) (PN 10 0))), (7, .int ((((fL_up ya 6) + (1 : Int32)) + (fL_up (ya >>> (3 &&& 31)) 5)) - (((fL_up ya 6) + (1 : Int32)) + (fL_up (ya >>> (3 &&& 31)) 5)) / 6 * 6)), (6, .int (fL_up ya 6)), (5, .int (fL_up (ya >>> (6 &&& 31)) (fX6_tableNumber PN v27_0 0))), (4, .int v27_0), (3, .int v5_0), (0, .ref a0), (1, .int xa), (2, .int ya)] → W p l e rmL_act s m args below meth c H locs 0 0 Q (F0 m 376 ls [.int v367_0, .int v5_0, .ref a0, .int 1001]) := by
            intro v367_0 hz367 H locs hP hD hS ls hl
            have hz := hz367
            have hF := bd_at hF hz
            have D_376 := A_wish (Ps := Ps) (o := oh) (v := vh) hR hX ⟨g9, hg9, eg9⟩ ⟨o9, ho9, eo9⟩ hz367
            have e_376 : (fX6_wish PN Ps oh vh v5_0 v367_0) = Sum.inr ((dWish PN v5_0 v367_0).1, ((dWish PN v5_0 v367_0).2, (fX0_save Ps oh vh PN).1, (fX0_save Ps oh vh PN).2.1, (fX0_save Ps oh vh PN).2.2)) := D_376.1
            refine k_deed (W1 := (fun (v9 : PV × (Nat → PV) × Nat × Nat) => fW cI cP a0 aN aT aS t0 t1 t2 h0 h1 pa v9.1 PT PS f u v9.2.1 v9.2.2.1 v9.2.2.2 k)) (r0 := (dWish PN v5_0 v367_0).1) (u0 := ((dWish PN v5_0 v367_0).2, (fX0_save Ps oh vh PN).1, (fX0_save Ps oh vh PN).2.1, (fX0_save Ps oh vh PN).2.2)) e_376 (va_runV (As := [.int v5_0, .int v367_0]) (rest := [.int 1001]) ⟨hx, hb, hml, hown, hts0⟩ (mX6_wish l dC dI cI cP a0 aN aT aS t0 t1 t2 h0 h1 pa PN PT PS f u Ps oh vh k v5_0 v367_0 ho6 hv6 (ok_inr e_376)) (cwV 2 hts0 (gi_V u_584 u_585 u_586 u_1 u_587) rfl rfl rfl (by decide +kernel) ⟨Nat.le_of_ble_eq_true rfl, Nat.le_of_ble_eq_true rfl⟩) (pcM_V (ci := 4) (q0 := 0) hP hK hn hD rfl rfl) rfl rfl hl.1 rfl (lv_room (Nat.le_of_ble_eq_true rfl)) dL_act_376 ⟨Nat.zero_le _, Nat.zero_le _⟩) hP hD hS rfl (fun H locs hP hD hS => ?_)
            have hP : va_P (dC, dI) vwCl (fW cI cP a0 aN aT aS t0 t1 t2 h0 h1 pa ((dWish PN v5_0 v367_0).2) PT PS f u ((fX0_save Ps oh vh PN).1) ((fX0_save Ps oh vh PN).2.1) ((fX0_save Ps oh vh PN).2.2) k) H := hP
            have hD : va_D A (fW cI cP a0 aN aT aS t0 t1 t2 h0 h1 pa ((dWish PN v5_0 v367_0).2) PT PS f u ((fX0_save Ps oh vh PN).1) ((fX0_save Ps oh vh PN).2.1) ((fX0_save Ps oh vh PN).2.2) k) := hD
            refine lv_iadd hx hb dL_act_379 ?_
            rw [hQ]
            exact W.iret (v := ((1001 : Int32) + (dWish PN v5_0 v367_0).1)) hx hb hr (fun t ht hW => ⟨⟨((1001 : Int32) + (dWish PN v5_0 v367_0).1), (((dWish PN v5_0 v367_0).2), ((fX0_save Ps oh vh PN).1), ((fX0_save Ps oh vh PN).2.1), ((fX0_save Ps oh vh PN).2.2)), rfl, ⟨sv_ret hF, D_376.2.1, D_376.2.2⟩, toH ht hP⟩, hS.F ht⟩) hS.2.2 dL_act_380
          have hF : ((if (fL_up (ya >>> (8 &&& 31)) (PN 10 0)) = v5_0 then (-1) else (fL_up (ya >>> (8 &&& 31)) (PN 10 0))) : Int32) = (if (fL_up (ya >>> (8 &&& 31)) (PN 10 0)) = v5_0 then (-1) else (fL_up (ya >>> (8 &&& 31)) (PN 10 0))) := rfl
          refine lv_icmp_ne (tgt := 374) hx hb dL_act_367 (by decide) (fun c_367 => ?_) (fun c_367 => ?_)
          · have hF := hF.trans (if_neg c_367)
            refine lv_iload hx hb dL_act_374 (lv_at hl 0 rfl) ?_
            exact K367 _ hF.symm _ _ hP hD hS  ls (lv_sub hl [0, 1, 2, 3, 4, 5, 6, 7, 8] rfl)
          have hF := hF.trans (if_pos c_367)
          refine lv_iconst (v := (-1)) hx hb dL_act_370 (by decide) ?_
          refine lv_goto (tgt := 376) hx hb dL_act_371 (by decide) ?_
          exact K367 _ hF.symm _ _ hP hD hS  ls (lv_sub hl [0, 1, 2, 3, 4, 5, 6, 7, 8] rfl)
        have hF := hF.trans (if_neg c_171_5)
        by_cases c_171_6 : (fL_up xa 16) = 6
        · have hF := hF.trans (if_pos c_171_6)
          refine lv_tableIn (off := 188) (tgt := 359) hx hb dL_act_171 (by rw [c_171_6]; decide) (by rw [c_171_6]; decide) (by rw [c_171_6]; rfl) (by decide) ?_
          refine lv_sipush (v := 1001) hx hb dL_act_359 (by decide) ?_
          refine lv_aload_n hx hb dL_act_362 rfl (lv_at hl 6 rfl) ?_
          refine lv_iload_n hx hb dL_act_363 rfl (lv_at hl 5 rfl) ?_
          refine lv_iload hx hb dL_act_364 (lv_at hl 0 rfl) ?_
          refine lv_iload_n hx hb dL_act_366 rfl (lv_at hl 5 rfl) ?_
          have K367 : ∀ (v367_0 : Int32), v367_0 = (if (fL_up (ya >>> (8 &&& 31)) (PN 10 0)) = v5_0 then (-1) else (fL_up (ya >>> (8 &&& 31)) (PN 10 0))) → ∀ (H : Heap) (locs : List Loc), va_P (dC, dI) vwCl (fW cI cP a0 aN aT aS t0 t1 t2 h0 h1 pa PN PT PS f u Ps oh vh k) H → va_D A (fW cI cP a0 aN aT aS t0 t1 t2 h0 h1 pa PN PT PS f u Ps oh vh k) → va_S A s.heap H locs → ∀ (ls : Array Slot), lv_has ls 10 [(8, .int (fL_up (ya >>> (8 &&& 31)) (PN 10 0))), (7, .int ((((fL_up ya 6) + (1 : Int32)) + (fL_up (ya >>> (3 &&& 31)) 5)) - (((fL_up ya 6) + (1 : Int32)) + (fL_up (ya >>> (3 &&& 31)) 5)) / 6 * 6)), (6, .int (fL_up ya 6)), (5, .int (fL_up (ya >>> (6 &&& 31)) (fX6_tableNumber PN v27_0 0))), (4, .int v27_0), (3, .int v5_0), (0, .ref a0), (1, .int xa), (2, .int ya)] → W p l e rmL_act s m args below meth c H locs 0 0 Q (F0 m 376 ls [.int v367_0, .int v5_0, .ref a0, .int 1001]) := by
            intro v367_0 hz367 H locs hP hD hS ls hl
            have hz := hz367
            have hF := bd_at hF hz
            have D_376 := A_wish (Ps := Ps) (o := oh) (v := vh) hR hX ⟨g9, hg9, eg9⟩ ⟨o9, ho9, eo9⟩ hz367
            have e_376 : (fX6_wish PN Ps oh vh v5_0 v367_0) = Sum.inr ((dWish PN v5_0 v367_0).1, ((dWish PN v5_0 v367_0).2, (fX0_save Ps oh vh PN).1, (fX0_save Ps oh vh PN).2.1, (fX0_save Ps oh vh PN).2.2)) := D_376.1
            refine k_deed (W1 := (fun (v9 : PV × (Nat → PV) × Nat × Nat) => fW cI cP a0 aN aT aS t0 t1 t2 h0 h1 pa v9.1 PT PS f u v9.2.1 v9.2.2.1 v9.2.2.2 k)) (r0 := (dWish PN v5_0 v367_0).1) (u0 := ((dWish PN v5_0 v367_0).2, (fX0_save Ps oh vh PN).1, (fX0_save Ps oh vh PN).2.1, (fX0_save Ps oh vh PN).2.2)) e_376 (va_runV (As := [.int v5_0, .int v367_0]) (rest := [.int 1001]) ⟨hx, hb, hml, hown, hts0⟩ (mX6_wish l dC dI cI cP a0 aN aT aS t0 t1 t2 h0 h1 pa PN PT PS f u Ps oh vh k v5_0 v367_0 ho6 hv6 (ok_inr e_376)) (cwV 2 hts0 (gi_V u_584 u_585 u_586 u_1 u_587) rfl rfl rfl (by decide +kernel) ⟨Nat.le_of_ble_eq_true rfl, Nat.le_of_ble_eq_true rfl⟩) (pcM_V (ci := 4) (q0 := 0) hP hK hn hD rfl rfl) rfl rfl hl.1 rfl (lv_room (Nat.le_of_ble_eq_true rfl)) dL_act_376 ⟨Nat.zero_le _, Nat.zero_le _⟩) hP hD hS rfl (fun H locs hP hD hS => ?_)
            have hP : va_P (dC, dI) vwCl (fW cI cP a0 aN aT aS t0 t1 t2 h0 h1 pa ((dWish PN v5_0 v367_0).2) PT PS f u ((fX0_save Ps oh vh PN).1) ((fX0_save Ps oh vh PN).2.1) ((fX0_save Ps oh vh PN).2.2) k) H := hP
            have hD : va_D A (fW cI cP a0 aN aT aS t0 t1 t2 h0 h1 pa ((dWish PN v5_0 v367_0).2) PT PS f u ((fX0_save Ps oh vh PN).1) ((fX0_save Ps oh vh PN).2.1) ((fX0_save Ps oh vh PN).2.2) k) := hD
            refine lv_iadd hx hb dL_act_379 ?_
            rw [hQ]
            exact W.iret (v := ((1001 : Int32) + (dWish PN v5_0 v367_0).1)) hx hb hr (fun t ht hW => ⟨⟨((1001 : Int32) + (dWish PN v5_0 v367_0).1), (((dWish PN v5_0 v367_0).2), ((fX0_save Ps oh vh PN).1), ((fX0_save Ps oh vh PN).2.1), ((fX0_save Ps oh vh PN).2.2)), rfl, ⟨sv_ret hF, D_376.2.1, D_376.2.2⟩, toH ht hP⟩, hS.F ht⟩) hS.2.2 dL_act_380
          have hF : ((if (fL_up (ya >>> (8 &&& 31)) (PN 10 0)) = v5_0 then (-1) else (fL_up (ya >>> (8 &&& 31)) (PN 10 0))) : Int32) = (if (fL_up (ya >>> (8 &&& 31)) (PN 10 0)) = v5_0 then (-1) else (fL_up (ya >>> (8 &&& 31)) (PN 10 0))) := rfl
          refine lv_icmp_ne (tgt := 374) hx hb dL_act_367 (by decide) (fun c_367 => ?_) (fun c_367 => ?_)
          · have hF := hF.trans (if_neg c_367)
            refine lv_iload hx hb dL_act_374 (lv_at hl 0 rfl) ?_
            exact K367 _ hF.symm _ _ hP hD hS  ls (lv_sub hl [0, 1, 2, 3, 4, 5, 6, 7, 8] rfl)
          have hF := hF.trans (if_pos c_367)
          refine lv_iconst (v := (-1)) hx hb dL_act_370 (by decide) ?_
          refine lv_goto (tgt := 376) hx hb dL_act_371 (by decide) ?_
          exact K367 _ hF.symm _ _ hP hD hS  ls (lv_sub hl [0, 1, 2, 3, 4, 5, 6, 7, 8] rfl)
        have hF := hF.trans (if_neg c_171_6)
        by_cases c_171_7 : (fL_up xa 16) = 7
        · have hF := hF.trans (if_pos c_171_7)
          refine lv_tableIn (off := 210) (tgt := 381) hx hb dL_act_171 (by rw [c_171_7]; decide) (by rw [c_171_7]; decide) (by rw [c_171_7]; rfl) (by decide) ?_
          refine lv_iload_n hx hb dL_act_381 rfl (lv_at hl 8 rfl) ?_
          refine lv_iconst (v := 4) hx hb dL_act_382 (by decide) ?_
          refine k_calli (W.runS (As := [.int ya, .int 4]) (rest := []) ⟨hx, hb, hml, hown, hts0⟩ (mL_up l dC dI  ya 4 (by decide)) (va_cwS 2 hts0 (gi_S u_350 u_351 u_0 u_352) rfl rfl rfl (by decide +kernel) ⟨Nat.le_of_ble_eq_true rfl, Nat.le_of_ble_eq_true rfl⟩) (pcR_S (hP.sub (ws' := []) [] rfl) (hK.sub (tys' := []) [] rfl) hn) rfl rfl hl.1 rfl (lv_room (Nat.le_of_ble_eq_true rfl)) dL_act_383 ⟨Nat.zero_le _, Nat.zero_le _⟩) ?_
          refine lv_istore (lv' := [(9, .int (fL_up ya 4)), (8, .int (fL_up (ya >>> (8 &&& 31)) (PN 10 0))), (7, .int ((((fL_up ya 6) + (1 : Int32)) + (fL_up (ya >>> (3 &&& 31)) 5)) - (((fL_up ya 6) + (1 : Int32)) + (fL_up (ya >>> (3 &&& 31)) 5)) / 6 * 6)), (6, .int (fL_up ya 6)), (5, .int (fL_up (ya >>> (6 &&& 31)) (fX6_tableNumber PN v27_0 0))), (4, .int v27_0), (3, .int v5_0), (0, .ref a0), (1, .int xa), (2, .int ya)]) hx hb dL_act_386 hl (by decide) rfl (fun ls hl => ?_)
          refine lv_sipush (v := 1000) hx hb dL_act_388 (by decide) ?_
          refine lv_aload_n hx hb dL_act_391 rfl (lv_at hl 7 rfl) ?_
          refine lv_iload hx hb dL_act_392 (lv_at hl 0 rfl) ?_
          refine lv_iload hx hb dL_act_394 (lv_at hl 0 rfl) ?_
          have K396 : ∀ (v396_0 : Int32), v396_0 = (if (fL_up ya 4) = 0 then ((1 : Int32) + (fL_up (ya >>> (2 &&& 31)) 8)) else (bd ((if (fL_up ya 4) = 3 then 10 else 21) : Int32) (fun v418_0 => (fL_up (ya >>> (2 &&& 31)) v418_0)))) → ∀ (H : Heap) (locs : List Loc), va_P (dC, dI) vwCl (fW cI cP a0 aN aT aS t0 t1 t2 h0 h1 pa PN PT PS f u Ps oh vh k) H → va_D A (fW cI cP a0 aN aT aS t0 t1 t2 h0 h1 pa PN PT PS f u Ps oh vh k) → va_S A s.heap H locs → ∀ (ls : Array Slot), lv_has ls 10 [(9, .int (fL_up ya 4)), (8, .int (fL_up (ya >>> (8 &&& 31)) (PN 10 0))), (7, .int ((((fL_up ya 6) + (1 : Int32)) + (fL_up (ya >>> (3 &&& 31)) 5)) - (((fL_up ya 6) + (1 : Int32)) + (fL_up (ya >>> (3 &&& 31)) 5)) / 6 * 6)), (6, .int (fL_up ya 6)), (5, .int (fL_up (ya >>> (6 &&& 31)) (fX6_tableNumber PN v27_0 0))), (4, .int v27_0), (3, .int v5_0), (0, .ref a0), (1, .int xa), (2, .int ya)] → W p l e rmL_act s m args below meth c H locs 0 0 Q (F0 m 431 ls [.int v396_0, .int (fL_up ya 4), .ref a0, .int 1000]) := by
            intro v396_0 hz396 H locs hP hD hS ls hl
            have hz := hz396
            have hF := bd_at hF hz
            have D_431 := D_set (Ps := Ps) (o := oh) (v := vh) hR hX (setw (up_is (v := ya) (n := 4) (by decide) (by decide)) hz396)
            have e_431 : (fX6_set PN Ps oh vh (fL_up ya 4) v396_0) = Sum.inr ((dSet PN (fL_up ya 4) v396_0).1, ((dSet PN (fL_up ya 4) v396_0).2, (fX0_save Ps oh vh PN).1, (fX0_save Ps oh vh PN).2.1, (fX0_save Ps oh vh PN).2.2)) := D_431.1
            refine k_deed (W1 := (fun (v9 : PV × (Nat → PV) × Nat × Nat) => fW cI cP a0 aN aT aS t0 t1 t2 h0 h1 pa v9.1 PT PS f u v9.2.1 v9.2.2.1 v9.2.2.2 k)) (r0 := (dSet PN (fL_up ya 4) v396_0).1) (u0 := ((dSet PN (fL_up ya 4) v396_0).2, (fX0_save Ps oh vh PN).1, (fX0_save Ps oh vh PN).2.1, (fX0_save Ps oh vh PN).2.2)) e_431 (va_runV (As := [.int (fL_up ya 4), .int v396_0]) (rest := [.int 1000]) ⟨hx, hb, hml, hown, hts0⟩ (mX6_set l dC dI cI cP a0 aN aT aS t0 t1 t2 h0 h1 pa PN PT PS f u Ps oh vh k (fL_up ya 4) v396_0 qL qG ho6 hv6 (ok_inr e_431)) (cwV 2 hts0 (gi_V u_528 u_529 u_530 u_1 u_531) rfl rfl rfl (by decide +kernel) ⟨Nat.le_of_ble_eq_true rfl, Nat.le_of_ble_eq_true rfl⟩) (pcZ_V (ci := 4) (q0 := 0) hP hK hn hD hT hS rfl rfl) rfl rfl hl.1 rfl (lv_room (Nat.le_of_ble_eq_true rfl)) dL_act_431 ⟨Nat.zero_le _, Nat.zero_le _⟩) hP hD hS rfl (fun H locs hP hD hS => ?_)
            have hP : va_P (dC, dI) vwCl (fW cI cP a0 aN aT aS t0 t1 t2 h0 h1 pa ((dSet PN (fL_up ya 4) v396_0).2) PT PS f u ((fX0_save Ps oh vh PN).1) ((fX0_save Ps oh vh PN).2.1) ((fX0_save Ps oh vh PN).2.2) k) H := hP
            have hD : va_D A (fW cI cP a0 aN aT aS t0 t1 t2 h0 h1 pa ((dSet PN (fL_up ya 4) v396_0).2) PT PS f u ((fX0_save Ps oh vh PN).1) ((fX0_save Ps oh vh PN).2.1) ((fX0_save Ps oh vh PN).2.2) k) := hD
            refine lv_iadd hx hb dL_act_434 ?_
            rw [hQ]
            exact W.iret (v := ((1000 : Int32) + (dSet PN (fL_up ya 4) v396_0).1)) hx hb hr (fun t ht hW => ⟨⟨((1000 : Int32) + (dSet PN (fL_up ya 4) v396_0).1), (((dSet PN (fL_up ya 4) v396_0).2), ((fX0_save Ps oh vh PN).1), ((fX0_save Ps oh vh PN).2.1), ((fX0_save Ps oh vh PN).2.2)), rfl, ⟨sv_ret hF, D_431.2.1, D_431.2.2⟩, toH ht hP⟩, hS.F ht⟩) hS.2.2 dL_act_435
          have hF : ((if (fL_up ya 4) = 0 then ((1 : Int32) + (fL_up (ya >>> (2 &&& 31)) 8)) else (bd ((if (fL_up ya 4) = 3 then 10 else 21) : Int32) (fun v418_0 => (fL_up (ya >>> (2 &&& 31)) v418_0)))) : Int32) = (if (fL_up ya 4) = 0 then ((1 : Int32) + (fL_up (ya >>> (2 &&& 31)) 8)) else (bd ((if (fL_up ya 4) = 3 then 10 else 21) : Int32) (fun v418_0 => (fL_up (ya >>> (2 &&& 31)) v418_0)))) := rfl
          refine lv_if_ne (tgt := 412) hx hb dL_act_396 (by decide) (fun c_396 => ?_) (fun c_396 => ?_)
          · have hF := hF.trans (if_neg c_396)
            refine lv_iload_n hx hb dL_act_412 rfl (lv_at hl 9 rfl) ?_
            refine lv_iconst (v := 2) hx hb dL_act_413 (by decide) ?_
            refine lv_ishr hx hb dL_act_414 ?_
            refine lv_iload hx hb dL_act_415 (lv_at hl 0 rfl) ?_
            refine lv_iconst (v := 3) hx hb dL_act_417 (by decide) ?_
            have K418 : ∀ (v418_0 : Int32), v418_0 = (if (fL_up ya 4) = 3 then 10 else 21) → ∀ (H : Heap) (locs : List Loc), va_P (dC, dI) vwCl (fW cI cP a0 aN aT aS t0 t1 t2 h0 h1 pa PN PT PS f u Ps oh vh k) H → va_D A (fW cI cP a0 aN aT aS t0 t1 t2 h0 h1 pa PN PT PS f u Ps oh vh k) → va_S A s.heap H locs → ∀ (ls : Array Slot), lv_has ls 10 [(9, .int (fL_up ya 4)), (8, .int (fL_up (ya >>> (8 &&& 31)) (PN 10 0))), (7, .int ((((fL_up ya 6) + (1 : Int32)) + (fL_up (ya >>> (3 &&& 31)) 5)) - (((fL_up ya 6) + (1 : Int32)) + (fL_up (ya >>> (3 &&& 31)) 5)) / 6 * 6)), (6, .int (fL_up ya 6)), (5, .int (fL_up (ya >>> (6 &&& 31)) (fX6_tableNumber PN v27_0 0))), (4, .int v27_0), (3, .int v5_0), (0, .ref a0), (1, .int xa), (2, .int ya)] → W p l e rmL_act s m args below meth c H locs 0 0 Q (F0 m 428 ls [.int v418_0, .int (ya >>> (2 &&& 31)), .int (fL_up ya 4), .ref a0, .int 1000]) := by
              intro v418_0 hz418 H locs hP hD hS ls hl
              have hz := hz418
              have hF := bd_at hF hz
              refine k_calli (W.runS (As := [.int (ya >>> (2 &&& 31)), .int v418_0]) (rest := [.int (fL_up ya 4), .ref a0, .int 1000]) ⟨hx, hb, hml, hown, hts0⟩ (mL_up l dC dI  (ya >>> (2 &&& 31)) v418_0 (nz1021 hz418)) (va_cwS 2 hts0 (gi_S u_350 u_351 u_0 u_352) rfl rfl rfl (by decide +kernel) ⟨Nat.le_of_ble_eq_true rfl, Nat.le_of_ble_eq_true rfl⟩) (pcR_S (hP.sub (ws' := []) [] rfl) (hK.sub (tys' := []) [] rfl) hn) rfl rfl hl.1 rfl (lv_room (Nat.le_of_ble_eq_true rfl)) dL_act_428 ⟨Nat.zero_le _, Nat.zero_le _⟩) ?_
              exact K396 _ hF.symm _ _ hP hD hS  ls (lv_sub hl [0, 1, 2, 3, 4, 5, 6, 7, 8, 9] rfl)
            have hF : ((if (fL_up ya 4) = 3 then 10 else 21) : Int32) = (if (fL_up ya 4) = 3 then 10 else 21) := rfl
            refine lv_icmp_ne (tgt := 426) hx hb dL_act_418 (by decide) (fun c_418 => ?_) (fun c_418 => ?_)
            · have hF := hF.trans (if_neg c_418)
              refine lv_bipush (v := 21) hx hb dL_act_426 (by decide) ?_
              exact K418 _ hF.symm _ _ hP hD hS  ls (lv_sub hl [0, 1, 2, 3, 4, 5, 6, 7, 8, 9] rfl)
            have hF := hF.trans (if_pos c_418)
            refine lv_bipush (v := 10) hx hb dL_act_421 (by decide) ?_
            refine lv_goto (tgt := 428) hx hb dL_act_423 (by decide) ?_
            exact K418 _ hF.symm _ _ hP hD hS  ls (lv_sub hl [0, 1, 2, 3, 4, 5, 6, 7, 8, 9] rfl)
          have hF := hF.trans (if_pos c_396)
          refine lv_iconst (v := 1) hx hb dL_act_399 (by decide) ?_
          refine lv_iload_n hx hb dL_act_400 rfl (lv_at hl 9 rfl) ?_
          refine lv_iconst (v := 2) hx hb dL_act_401 (by decide) ?_
          refine lv_ishr hx hb dL_act_402 ?_
          refine lv_bipush (v := 8) hx hb dL_act_403 (by decide) ?_
          refine k_calli (W.runS (As := [.int (ya >>> (2 &&& 31)), .int 8]) (rest := [.int 1, .int (fL_up ya 4), .ref a0, .int 1000]) ⟨hx, hb, hml, hown, hts0⟩ (mL_up l dC dI  (ya >>> (2 &&& 31)) 8 (by decide)) (va_cwS 2 hts0 (gi_S u_350 u_351 u_0 u_352) rfl rfl rfl (by decide +kernel) ⟨Nat.le_of_ble_eq_true rfl, Nat.le_of_ble_eq_true rfl⟩) (pcR_S (hP.sub (ws' := []) [] rfl) (hK.sub (tys' := []) [] rfl) hn) rfl rfl hl.1 rfl (lv_room (Nat.le_of_ble_eq_true rfl)) dL_act_405 ⟨Nat.zero_le _, Nat.zero_le _⟩) ?_
          refine lv_iadd hx hb dL_act_408 ?_
          refine lv_goto (tgt := 431) hx hb dL_act_409 (by decide) ?_
          exact K396 _ hF.symm _ _ hP hD hS  ls (lv_sub hl [0, 1, 2, 3, 4, 5, 6, 7, 8, 9] rfl)
        have hF := hF.trans (if_neg c_171_7)
        by_cases c_171_8 : (fL_up xa 16) = 8
        · have hF := hF.trans (if_pos c_171_8)
          refine lv_tableIn (off := 265) (tgt := 436) hx hb dL_act_171 (by rw [c_171_8]; decide) (by rw [c_171_8]; decide) (by rw [c_171_8]; rfl) (by decide) ?_
          refine lv_sipush (v := 1000) hx hb dL_act_436 (by decide) ?_
          refine lv_aload_n hx hb dL_act_439 rfl (lv_at hl 6 rfl) ?_
          refine lv_iload_n hx hb dL_act_440 rfl (lv_at hl 5 rfl) ?_
          refine lv_iconst (v := 3) hx hb dL_act_441 (by decide) ?_
          have e_442 : (fX6_guestOf PN v5_0 3) = Sum.inr ((fX6_guestNumber PN v5_0 3), ()) := (by rw [eg9]; exact guestOf_in hR hg9 (w := 3) (by decide))
          refine k_calli (W.runV (As := [.int v5_0, .int 3]) (rest := [.int 1000]) ⟨hx, hb, hml, hown, hts0⟩ (mX6_guestOf l dC dI cI cP a0 aN aT aS t0 t1 t2 h0 h1 pa PN PT PS f u Ps oh vh k v5_0 3 (ok_inr e_442)) (cwV 2 hts0 (gi_V u_359 u_360 u_361 u_1 u_362) rfl rfl rfl (by decide +kernel) ⟨Nat.le_of_ble_eq_true rfl, Nat.le_of_ble_eq_true rfl⟩) (pcR_V (ci := 4) (q0 := 0) hP hK hn rfl rfl) rfl rfl hl.1 rfl (lv_room (Nat.le_of_ble_eq_true rfl)) dL_act_442 ⟨Nat.zero_le _, Nat.zero_le _⟩) ?_
          refine lv_tope (y := (fX6_guestNumber PN v5_0 3)) (ok1_inr e_442) ?_
          refine lv_iconst (v := (-1)) hx hb dL_act_445 (by decide) ?_
          refine lv_icmp_ne (tgt := 456) hx hb dL_act_446 (by decide) (fun c_446 => ?_) (fun c_446 => ?_)
          · have hF := hF.trans (if_neg c_446)
            refine lv_aload_n hx hb dL_act_456 rfl (lv_at hl 6 rfl) ?_
            refine lv_iload_n hx hb dL_act_457 rfl (lv_at hl 5 rfl) ?_
            have D_458 := A_rise (Ps := Ps) (o := oh) (v := vh) hR hX ⟨g9, hg9, eg9⟩ c_446
            have e_458 : (fX6_rise PN Ps oh vh v5_0) = Sum.inr ((dRise PN v5_0).1, ((dRise PN v5_0).2, (fX0_save Ps oh vh PN).1, (fX0_save Ps oh vh PN).2.1, (fX0_save Ps oh vh PN).2.2)) := D_458.1
            refine k_deed (W1 := (fun (v9 : PV × (Nat → PV) × Nat × Nat) => fW cI cP a0 aN aT aS t0 t1 t2 h0 h1 pa v9.1 PT PS f u v9.2.1 v9.2.2.1 v9.2.2.2 k)) (r0 := (dRise PN v5_0).1) (u0 := ((dRise PN v5_0).2, (fX0_save Ps oh vh PN).1, (fX0_save Ps oh vh PN).2.1, (fX0_save Ps oh vh PN).2.2)) e_458 (va_runV (As := [.int v5_0]) (rest := [.int 1000]) ⟨hx, hb, hml, hown, hts0⟩ (mX6_rise l dC dI cI cP a0 aN aT aS t0 t1 t2 h0 h1 pa PN PT PS f u Ps oh vh k v5_0 ho6 hv6 (ok_inr e_458)) (cwV 1 hts0 (gi_V u_589 u_590 u_591 u_1 u_592) rfl rfl rfl (by decide +kernel) ⟨Nat.le_of_ble_eq_true rfl, Nat.le_of_ble_eq_true rfl⟩) (pcM_V (ci := 4) (q0 := 0) hP hK hn hD rfl rfl) rfl rfl hl.1 rfl (lv_room (Nat.le_of_ble_eq_true rfl)) dL_act_458 ⟨Nat.zero_le _, Nat.zero_le _⟩) hP hD hS rfl (fun H locs hP hD hS => ?_)
            have hP : va_P (dC, dI) vwCl (fW cI cP a0 aN aT aS t0 t1 t2 h0 h1 pa ((dRise PN v5_0).2) PT PS f u ((fX0_save Ps oh vh PN).1) ((fX0_save Ps oh vh PN).2.1) ((fX0_save Ps oh vh PN).2.2) k) H := hP
            have hD : va_D A (fW cI cP a0 aN aT aS t0 t1 t2 h0 h1 pa ((dRise PN v5_0).2) PT PS f u ((fX0_save Ps oh vh PN).1) ((fX0_save Ps oh vh PN).2.1) ((fX0_save Ps oh vh PN).2.2) k) := hD
            refine lv_iadd hx hb dL_act_461 ?_
            rw [hQ]
            exact W.iret (v := ((1000 : Int32) + (dRise PN v5_0).1)) hx hb hr (fun t ht hW => ⟨⟨((1000 : Int32) + (dRise PN v5_0).1), (((dRise PN v5_0).2), ((fX0_save Ps oh vh PN).1), ((fX0_save Ps oh vh PN).2.1), ((fX0_save Ps oh vh PN).2.2)), rfl, ⟨sv_ret hF, D_458.2.1, D_458.2.2⟩, toH ht hP⟩, hS.F ht⟩) hS.2.2 dL_act_462
          have hF := hF.trans (if_pos c_446)
          refine lv_aload_n hx hb dL_act_449 rfl (lv_at hl 6 rfl) ?_
          have D_450 := D_all (Ps := Ps) (o := oh) (v := vh) hR hX
          have e_450 : (fX6_seatAll PN Ps oh vh) = ((fX2_seatStanding PN).1, ((fX2_seatStanding PN).2, (fX0_save Ps oh vh PN).1, (fX0_save Ps oh vh PN).2.1, (fX0_save Ps oh vh PN).2.2)) := D_450.1
          refine k_deed2 (W1 := (fun (v9 : PV × (Nat → PV) × Nat × Nat) => fW cI cP a0 aN aT aS t0 t1 t2 h0 h1 pa v9.1 PT PS f u v9.2.1 v9.2.2.1 v9.2.2.2 k)) (r0 := (fX2_seatStanding PN).1) (u0 := ((fX2_seatStanding PN).2, (fX0_save Ps oh vh PN).1, (fX0_save Ps oh vh PN).2.1, (fX0_save Ps oh vh PN).2.2)) e_450 (va_runV (As := []) (rest := [.int 1000]) ⟨hx, hb, hml, hown, hts0⟩ (mX6_seatAll l dC dI cI cP a0 aN aT aS t0 t1 t2 h0 h1 pa PN PT PS f u Ps oh vh k  (by first | omega | assumption) (by first | omega | assumption)) (cwV 0 hts0 (gi_V u_475 u_476 u_477 u_1 u_478) rfl rfl rfl (by decide +kernel) ⟨Nat.le_of_ble_eq_true rfl, Nat.le_of_ble_eq_true rfl⟩) (pcM_V (ci := 4) (q0 := 0) hP hK hn hD rfl rfl) rfl rfl hl.1 rfl (lv_room (Nat.le_of_ble_eq_true rfl)) dL_act_450 ⟨Nat.zero_le _, Nat.zero_le _⟩) hP hD hS rfl (fun H locs hP hD hS => ?_)
          have hP : va_P (dC, dI) vwCl (fW cI cP a0 aN aT aS t0 t1 t2 h0 h1 pa ((fX2_seatStanding PN).2) PT PS f u ((fX0_save Ps oh vh PN).1) ((fX0_save Ps oh vh PN).2.1) ((fX0_save Ps oh vh PN).2.2) k) H := hP
          have hD : va_D A (fW cI cP a0 aN aT aS t0 t1 t2 h0 h1 pa ((fX2_seatStanding PN).2) PT PS f u ((fX0_save Ps oh vh PN).1) ((fX0_save Ps oh vh PN).2.1) ((fX0_save Ps oh vh PN).2.2) k) := hD
          refine lv_goto (tgt := 461) hx hb dL_act_453 (by decide) ?_
          refine lv_iadd hx hb dL_act_461 ?_
          rw [hQ]
          exact W.iret (v := ((1000 : Int32) + (fX2_seatStanding PN).1)) hx hb hr (fun t ht hW => ⟨⟨((1000 : Int32) + (fX2_seatStanding PN).1), (((fX2_seatStanding PN).2), ((fX0_save Ps oh vh PN).1), ((fX0_save Ps oh vh PN).2.1), ((fX0_save Ps oh vh PN).2.2)), rfl, ⟨sv_ret hF, D_450.2.1, D_450.2.2⟩, toH ht hP⟩, hS.F ht⟩) hS.2.2 dL_act_462
        have hF := hF.trans (if_neg c_171_8)
        by_cases c_171_9 : (fL_up xa 16) = 9
        · have hF := hF.trans (if_pos c_171_9)
          refine lv_tableIn (off := 292) (tgt := 463) hx hb dL_act_171 (by rw [c_171_9]; decide) (by rw [c_171_9]; decide) (by rw [c_171_9]; rfl) (by decide) ?_
          refine lv_sipush (v := 1000) hx hb dL_act_463 (by decide) ?_
          refine lv_iload_n hx hb dL_act_466 rfl (lv_at hl 8 rfl) ?_
          refine lv_bipush (v := 7) hx hb dL_act_467 (by decide) ?_
          refine lv_iand hx hb dL_act_469 ?_
          refine lv_if_ne (tgt := 480) hx hb dL_act_470 (by decide) (fun c_470 => ?_) (fun c_470 => ?_)
          · have hF := hF.trans (if_neg c_470)
            refine lv_aload_n hx hb dL_act_480 rfl (lv_at hl 6 rfl) ?_
            have D_481 := D_all (Ps := Ps) (o := oh) (v := vh) hR hX
            have e_481 : (fX6_seatAll PN Ps oh vh) = ((fX2_seatStanding PN).1, ((fX2_seatStanding PN).2, (fX0_save Ps oh vh PN).1, (fX0_save Ps oh vh PN).2.1, (fX0_save Ps oh vh PN).2.2)) := D_481.1
            refine k_deed2 (W1 := (fun (v9 : PV × (Nat → PV) × Nat × Nat) => fW cI cP a0 aN aT aS t0 t1 t2 h0 h1 pa v9.1 PT PS f u v9.2.1 v9.2.2.1 v9.2.2.2 k)) (r0 := (fX2_seatStanding PN).1) (u0 := ((fX2_seatStanding PN).2, (fX0_save Ps oh vh PN).1, (fX0_save Ps oh vh PN).2.1, (fX0_save Ps oh vh PN).2.2)) e_481 (va_runV (As := []) (rest := [.int 1000]) ⟨hx, hb, hml, hown, hts0⟩ (mX6_seatAll l dC dI cI cP a0 aN aT aS t0 t1 t2 h0 h1 pa PN PT PS f u Ps oh vh k  (by first | omega | assumption) (by first | omega | assumption)) (cwV 0 hts0 (gi_V u_475 u_476 u_477 u_1 u_478) rfl rfl rfl (by decide +kernel) ⟨Nat.le_of_ble_eq_true rfl, Nat.le_of_ble_eq_true rfl⟩) (pcM_V (ci := 4) (q0 := 0) hP hK hn hD rfl rfl) rfl rfl hl.1 rfl (lv_room (Nat.le_of_ble_eq_true rfl)) dL_act_481 ⟨Nat.zero_le _, Nat.zero_le _⟩) hP hD hS rfl (fun H locs hP hD hS => ?_)
            have hP : va_P (dC, dI) vwCl (fW cI cP a0 aN aT aS t0 t1 t2 h0 h1 pa ((fX2_seatStanding PN).2) PT PS f u ((fX0_save Ps oh vh PN).1) ((fX0_save Ps oh vh PN).2.1) ((fX0_save Ps oh vh PN).2.2) k) H := hP
            have hD : va_D A (fW cI cP a0 aN aT aS t0 t1 t2 h0 h1 pa ((fX2_seatStanding PN).2) PT PS f u ((fX0_save Ps oh vh PN).1) ((fX0_save Ps oh vh PN).2.1) ((fX0_save Ps oh vh PN).2.2) k) := hD
            refine lv_iadd hx hb dL_act_484 ?_
            rw [hQ]
            exact W.iret (v := ((1000 : Int32) + (fX2_seatStanding PN).1)) hx hb hr (fun t ht hW => ⟨⟨((1000 : Int32) + (fX2_seatStanding PN).1), (((fX2_seatStanding PN).2), ((fX0_save Ps oh vh PN).1), ((fX0_save Ps oh vh PN).2.1), ((fX0_save Ps oh vh PN).2.2)), rfl, ⟨sv_ret hF, D_481.2.1, D_481.2.2⟩, toH ht hP⟩, hS.F ht⟩) hS.2.2 dL_act_485
          have hF := hF.trans (if_pos c_470)
          refine lv_aload_n hx hb dL_act_473 rfl (lv_at hl 6 rfl) ?_
          have D_474 := A_restore (Ps := Ps) (o := oh) (v := vh) (PN := PN) hS9 hk1
          have e_474 : (fX6_restore PN PS Ps oh vh k) = Sum.inr ((dRestore PN PS).1, ((dRestore PN PS).2, (fX0_save Ps oh vh PN).1, (fX0_save Ps oh vh PN).2.1, (fX0_save Ps oh vh PN).2.2)) := D_474.1
          refine k_deed (W1 := (fun (v9 : PV × (Nat → PV) × Nat × Nat) => fW cI cP a0 aN aT aS t0 t1 t2 h0 h1 pa v9.1 PT PS f u v9.2.1 v9.2.2.1 v9.2.2.2 k)) (r0 := (dRestore PN PS).1) (u0 := ((dRestore PN PS).2, (fX0_save Ps oh vh PN).1, (fX0_save Ps oh vh PN).2.1, (fX0_save Ps oh vh PN).2.2)) e_474 (va_runV (As := []) (rest := [.int 1000]) ⟨hx, hb, hml, hown, hts0⟩ (mX6_restore l dC dI cI cP a0 aN aT aS t0 t1 t2 h0 h1 pa PN PT PS f u Ps oh vh k  ho6 hv6 (ok_inr e_474)) (cwV 0 hts0 (gi_V u_596 u_597 u_598 u_1 u_599) rfl rfl rfl (by decide +kernel) ⟨Nat.le_of_ble_eq_true rfl, Nat.le_of_ble_eq_true rfl⟩) (pcM_V (ci := 4) (q0 := 0) hP hK hn hD rfl rfl) rfl rfl hl.1 rfl (lv_room (Nat.le_of_ble_eq_true rfl)) dL_act_474 ⟨Nat.zero_le _, Nat.zero_le _⟩) hP hD hS rfl (fun H locs hP hD hS => ?_)
          have hP : va_P (dC, dI) vwCl (fW cI cP a0 aN aT aS t0 t1 t2 h0 h1 pa ((dRestore PN PS).2) PT PS f u ((fX0_save Ps oh vh PN).1) ((fX0_save Ps oh vh PN).2.1) ((fX0_save Ps oh vh PN).2.2) k) H := hP
          have hD : va_D A (fW cI cP a0 aN aT aS t0 t1 t2 h0 h1 pa ((dRestore PN PS).2) PT PS f u ((fX0_save Ps oh vh PN).1) ((fX0_save Ps oh vh PN).2.1) ((fX0_save Ps oh vh PN).2.2) k) := hD
          refine lv_goto (tgt := 484) hx hb dL_act_477 (by decide) ?_
          refine lv_iadd hx hb dL_act_484 ?_
          rw [hQ]
          exact W.iret (v := ((1000 : Int32) + (dRestore PN PS).1)) hx hb hr (fun t ht hW => ⟨⟨((1000 : Int32) + (dRestore PN PS).1), (((dRestore PN PS).2), ((fX0_save Ps oh vh PN).1), ((fX0_save Ps oh vh PN).2.1), ((fX0_save Ps oh vh PN).2.2)), rfl, ⟨sv_ret hF, D_474.2.1, D_474.2.2⟩, toH ht hP⟩, hS.F ht⟩) hS.2.2 dL_act_485
        have hF := hF.trans (if_neg c_171_9)
        refine lv_tableOut (tgt := 486) hx hb dL_act_171 (by have hc_171_0 : ((fL_up xa 16)).toInt ≠ 0 := neI c_171_0; have hc_171_1 : ((fL_up xa 16)).toInt ≠ 1 := neI c_171_1; have hc_171_2 : ((fL_up xa 16)).toInt ≠ 2 := neI c_171_2; have hc_171_3 : ((fL_up xa 16)).toInt ≠ 3 := neI c_171_3; have hc_171_4 : ((fL_up xa 16)).toInt ≠ 4 := neI c_171_4; have hc_171_5 : ((fL_up xa 16)).toInt ≠ 5 := neI c_171_5; have hc_171_6 : ((fL_up xa 16)).toInt ≠ 6 := neI c_171_6; have hc_171_7 : ((fL_up xa 16)).toInt ≠ 7 := neI c_171_7; have hc_171_8 : ((fL_up xa 16)).toInt ≠ 8 := neI c_171_8; have hc_171_9 : ((fL_up xa 16)).toInt ≠ 9 := neI c_171_9; omega) (by decide) ?_
        refine lv_sipush (v := 1000) hx hb dL_act_486 (by decide) ?_
        refine lv_aload_n hx hb dL_act_489 rfl (lv_at hl 6 rfl) ?_
        refine lv_iload_n hx hb dL_act_490 rfl (lv_at hl 5 rfl) ?_
        refine lv_iload hx hb dL_act_491 (lv_at hl 4 rfl) ?_
        refine lv_iload hx hb dL_act_493 (lv_at hl 3 rfl) ?_
        have e_495 : (fX6_whyNot PN v5_0 v27_0 (fL_up (ya >>> (6 &&& 31)) (fX6_tableNumber PN v27_0 0))) = Sum.inr ((fX2_reasonAgainst PN v5_0 v27_0 (fL_up (ya >>> (6 &&& 31)) (fX6_tableNumber PN v27_0 0))), ()) := (A_why hR hg9 ht9 en9 hz9 hn98 eg9 et9 es9)
        refine k_calli (W.runV (As := [.int v5_0, .int v27_0, .int (fL_up (ya >>> (6 &&& 31)) (fX6_tableNumber PN v27_0 0))]) (rest := [.int 1000]) ⟨hx, hb, hml, hown, hts0⟩ (mX6_whyNot l dC dI cI cP a0 aN aT aS t0 t1 t2 h0 h1 pa PN PT PS f u Ps oh vh k v5_0 v27_0 (fL_up (ya >>> (6 &&& 31)) (fX6_tableNumber PN v27_0 0)) (ok_inr e_495)) (cwV 3 hts0 (gi_V u_601 u_602 u_603 u_1 u_604) rfl rfl rfl (by decide +kernel) ⟨Nat.le_of_ble_eq_true rfl, Nat.le_of_ble_eq_true rfl⟩) (pcR_V (ci := 4) (q0 := 0) hP hK hn rfl rfl) rfl rfl hl.1 rfl (lv_room (Nat.le_of_ble_eq_true rfl)) dL_act_495 ⟨Nat.zero_le _, Nat.zero_le _⟩) ?_
        refine lv_tope (y := (fX2_reasonAgainst PN v5_0 v27_0 (fL_up (ya >>> (6 &&& 31)) (fX6_tableNumber PN v27_0 0)))) (ok1_inr e_495) ?_
        refine lv_if_ne (tgt := 513) hx hb dL_act_498 (by decide) (fun c_498 => ?_) (fun c_498 => ?_)
        · have hF := hF.trans (if_neg c_498)
          refine lv_aload_n hx hb dL_act_513 rfl (lv_at hl 6 rfl) ?_
          refine lv_iconst (v := 1) hx hb dL_act_514 (by decide) ?_
          refine lv_iload_n hx hb dL_act_515 rfl (lv_at hl 8 rfl) ?_
          refine lv_bipush (v := 21) hx hb dL_act_516 (by decide) ?_
          refine k_calli (W.runS (As := [.int ya, .int 21]) (rest := [.int 1, .ref a0, .int 1000]) ⟨hx, hb, hml, hown, hts0⟩ (mL_up l dC dI  ya 21 (by decide)) (va_cwS 2 hts0 (gi_S u_350 u_351 u_0 u_352) rfl rfl rfl (by decide +kernel) ⟨Nat.le_of_ble_eq_true rfl, Nat.le_of_ble_eq_true rfl⟩) (pcR_S (hP.sub (ws' := []) [] rfl) (hK.sub (tys' := []) [] rfl) hn) rfl rfl hl.1 rfl (lv_room (Nat.le_of_ble_eq_true rfl)) dL_act_518 ⟨Nat.zero_le _, Nat.zero_le _⟩) ?_
          have D_521 := D_set (Ps := Ps) (o := oh) (v := vh) hR hX (set1 ya)
          have e_521 : (fX6_set PN Ps oh vh 1 (fL_up ya 21)) = Sum.inr ((dSet PN 1 (fL_up ya 21)).1, ((dSet PN 1 (fL_up ya 21)).2, (fX0_save Ps oh vh PN).1, (fX0_save Ps oh vh PN).2.1, (fX0_save Ps oh vh PN).2.2)) := D_521.1
          refine k_deed (W1 := (fun (v9 : PV × (Nat → PV) × Nat × Nat) => fW cI cP a0 aN aT aS t0 t1 t2 h0 h1 pa v9.1 PT PS f u v9.2.1 v9.2.2.1 v9.2.2.2 k)) (r0 := (dSet PN 1 (fL_up ya 21)).1) (u0 := ((dSet PN 1 (fL_up ya 21)).2, (fX0_save Ps oh vh PN).1, (fX0_save Ps oh vh PN).2.1, (fX0_save Ps oh vh PN).2.2)) e_521 (va_runV (As := [.int 1, .int (fL_up ya 21)]) (rest := [.int 1000]) ⟨hx, hb, hml, hown, hts0⟩ (mX6_set l dC dI cI cP a0 aN aT aS t0 t1 t2 h0 h1 pa PN PT PS f u Ps oh vh k 1 (fL_up ya 21) qL qG ho6 hv6 (ok_inr e_521)) (cwV 2 hts0 (gi_V u_528 u_529 u_530 u_1 u_531) rfl rfl rfl (by decide +kernel) ⟨Nat.le_of_ble_eq_true rfl, Nat.le_of_ble_eq_true rfl⟩) (pcZ_V (ci := 4) (q0 := 0) hP hK hn hD hT hS rfl rfl) rfl rfl hl.1 rfl (lv_room (Nat.le_of_ble_eq_true rfl)) dL_act_521 ⟨Nat.zero_le _, Nat.zero_le _⟩) hP hD hS rfl (fun H locs hP hD hS => ?_)
          have hP : va_P (dC, dI) vwCl (fW cI cP a0 aN aT aS t0 t1 t2 h0 h1 pa ((dSet PN 1 (fL_up ya 21)).2) PT PS f u ((fX0_save Ps oh vh PN).1) ((fX0_save Ps oh vh PN).2.1) ((fX0_save Ps oh vh PN).2.2) k) H := hP
          have hD : va_D A (fW cI cP a0 aN aT aS t0 t1 t2 h0 h1 pa ((dSet PN 1 (fL_up ya 21)).2) PT PS f u ((fX0_save Ps oh vh PN).1) ((fX0_save Ps oh vh PN).2.1) ((fX0_save Ps oh vh PN).2.2) k) := hD
          refine lv_iadd hx hb dL_act_524 ?_
          rw [hQ]
          exact W.iret (v := ((1000 : Int32) + (dSet PN 1 (fL_up ya 21)).1)) hx hb hr (fun t ht hW => ⟨⟨((1000 : Int32) + (dSet PN 1 (fL_up ya 21)).1), (((dSet PN 1 (fL_up ya 21)).2), ((fX0_save Ps oh vh PN).1), ((fX0_save Ps oh vh PN).2.1), ((fX0_save Ps oh vh PN).2.2)), rfl, ⟨sv_ret hF, D_521.2.1, D_521.2.2⟩, toH ht hP⟩, hS.F ht⟩) hS.2.2 dL_act_525
        have hF := hF.trans (if_pos c_498)
        refine lv_aload_n hx hb dL_act_501 rfl (lv_at hl 6 rfl) ?_
        refine lv_iload_n hx hb dL_act_502 rfl (lv_at hl 5 rfl) ?_
        refine lv_iload hx hb dL_act_503 (lv_at hl 4 rfl) ?_
        refine lv_iload hx hb dL_act_505 (lv_at hl 3 rfl) ?_
        have D_507 := A_sit (Ps := Ps) (o := oh) (v := vh) hR hX hg9 ht9 en9 hz9 hn98 eg9 et9 es9 c_498
        have e_507 : (fX6_sit PN Ps oh vh v5_0 v27_0 (fL_up (ya >>> (6 &&& 31)) (fX6_tableNumber PN v27_0 0))) = Sum.inr ((dSit PN v5_0 v27_0 (fL_up (ya >>> (6 &&& 31)) (fX6_tableNumber PN v27_0 0))).1, ((dSit PN v5_0 v27_0 (fL_up (ya >>> (6 &&& 31)) (fX6_tableNumber PN v27_0 0))).2, (fX0_save Ps oh vh PN).1, (fX0_save Ps oh vh PN).2.1, (fX0_save Ps oh vh PN).2.2)) := D_507.1
        refine k_deed (W1 := (fun (v9 : PV × (Nat → PV) × Nat × Nat) => fW cI cP a0 aN aT aS t0 t1 t2 h0 h1 pa v9.1 PT PS f u v9.2.1 v9.2.2.1 v9.2.2.2 k)) (r0 := (dSit PN v5_0 v27_0 (fL_up (ya >>> (6 &&& 31)) (fX6_tableNumber PN v27_0 0))).1) (u0 := ((dSit PN v5_0 v27_0 (fL_up (ya >>> (6 &&& 31)) (fX6_tableNumber PN v27_0 0))).2, (fX0_save Ps oh vh PN).1, (fX0_save Ps oh vh PN).2.1, (fX0_save Ps oh vh PN).2.2)) e_507 (va_runV (As := [.int v5_0, .int v27_0, .int (fL_up (ya >>> (6 &&& 31)) (fX6_tableNumber PN v27_0 0))]) (rest := [.int 1000]) ⟨hx, hb, hml, hown, hts0⟩ (mX6_sit l dC dI cI cP a0 aN aT aS t0 t1 t2 h0 h1 pa PN PT PS f u Ps oh vh k v5_0 v27_0 (fL_up (ya >>> (6 &&& 31)) (fX6_tableNumber PN v27_0 0)) ho6 hv6 (ok_inr e_507)) (cwV 3 hts0 (gi_V u_620 u_621 u_622 u_1 u_623) rfl rfl rfl (by decide +kernel) ⟨Nat.le_of_ble_eq_true rfl, Nat.le_of_ble_eq_true rfl⟩) (pcM_V (ci := 4) (q0 := 0) hP hK hn hD rfl rfl) rfl rfl hl.1 rfl (lv_room (Nat.le_of_ble_eq_true rfl)) dL_act_507 ⟨Nat.zero_le _, Nat.zero_le _⟩) hP hD hS rfl (fun H locs hP hD hS => ?_)
        have hP : va_P (dC, dI) vwCl (fW cI cP a0 aN aT aS t0 t1 t2 h0 h1 pa ((dSit PN v5_0 v27_0 (fL_up (ya >>> (6 &&& 31)) (fX6_tableNumber PN v27_0 0))).2) PT PS f u ((fX0_save Ps oh vh PN).1) ((fX0_save Ps oh vh PN).2.1) ((fX0_save Ps oh vh PN).2.2) k) H := hP
        have hD : va_D A (fW cI cP a0 aN aT aS t0 t1 t2 h0 h1 pa ((dSit PN v5_0 v27_0 (fL_up (ya >>> (6 &&& 31)) (fX6_tableNumber PN v27_0 0))).2) PT PS f u ((fX0_save Ps oh vh PN).1) ((fX0_save Ps oh vh PN).2.1) ((fX0_save Ps oh vh PN).2.2) k) := hD
        refine lv_goto (tgt := 524) hx hb dL_act_510 (by decide) ?_
        refine lv_iadd hx hb dL_act_524 ?_
        rw [hQ]
        exact W.iret (v := ((1000 : Int32) + (dSit PN v5_0 v27_0 (fL_up (ya >>> (6 &&& 31)) (fX6_tableNumber PN v27_0 0))).1)) hx hb hr (fun t ht hW => ⟨⟨((1000 : Int32) + (dSit PN v5_0 v27_0 (fL_up (ya >>> (6 &&& 31)) (fX6_tableNumber PN v27_0 0))).1), (((dSit PN v5_0 v27_0 (fL_up (ya >>> (6 &&& 31)) (fX6_tableNumber PN v27_0 0))).2), ((fX0_save Ps oh vh PN).1), ((fX0_save Ps oh vh PN).2.1), ((fX0_save Ps oh vh PN).2.2)), rfl, ⟨sv_ret hF, D_507.2.1, D_507.2.2⟩, toH ht hP⟩, hS.F ht⟩) hS.2.2 dL_act_525
      have hF := hF.trans (if_pos c_60)
      refine lv_sipush (v := 1000) hx hb dL_act_63 (by decide) ?_
      refine lv_aload_n hx hb dL_act_66 rfl (lv_at hl 2 rfl) ?_
      refine lv_iconst (v := 1) hx hb dL_act_67 (by decide) ?_
      have e_68 : (fX6_count PN Ps oh vh 1) = Sum.inr ((PN 10 1), ()) := count_1
      refine k_calli (W.runV (As := [.int 1]) (rest := [.int 1000]) ⟨hx, hb, hml, hown, hts0⟩ (mX6_count l dC dI cI cP a0 aN aT aS t0 t1 t2 h0 h1 pa PN PT PS f u Ps oh vh k 1 (ok_inr e_68)) (cwV 1 hts0 (gi_V u_268 u_269 u_270 u_1 u_271) rfl rfl rfl (by decide +kernel) ⟨Nat.le_of_ble_eq_true rfl, Nat.le_of_ble_eq_true rfl⟩) (pcR_V (ci := 4) (q0 := 0) hP hK hn rfl rfl) rfl rfl hl.1 rfl (lv_room (Nat.le_of_ble_eq_true rfl)) dL_act_68 ⟨Nat.zero_le _, Nat.zero_le _⟩) ?_
      refine lv_tope (y := (PN 10 1)) (ok1_inr e_68) ?_
      refine lv_if_ne (tgt := 89) hx hb dL_act_71 (by decide) (fun c_71 => ?_) (fun c_71 => ?_)
      · have hF := hF.trans (if_neg c_71)
        refine lv_aload_n hx hb dL_act_89 rfl (lv_at hl 2 rfl) ?_
        refine lv_iload_n hx hb dL_act_90 rfl (lv_at hl 4 rfl) ?_
        refine lv_bipush (v := 6) hx hb dL_act_91 (by decide) ?_
        refine k_calli (W.runS (As := [.int ya, .int 6]) (rest := [.ref a0, .int 1000]) ⟨hx, hb, hml, hown, hts0⟩ (mL_up l dC dI  ya 6 (by decide)) (va_cwS 2 hts0 (gi_S u_350 u_351 u_0 u_352) rfl rfl rfl (by decide +kernel) ⟨Nat.le_of_ble_eq_true rfl, Nat.le_of_ble_eq_true rfl⟩) (pcR_S (hP.sub (ws' := []) [] rfl) (hK.sub (tys' := []) [] rfl) hn) rfl rfl hl.1 rfl (lv_room (Nat.le_of_ble_eq_true rfl)) dL_act_93 ⟨Nat.zero_le _, Nat.zero_le _⟩) ?_
        refine lv_iconst (v := 1) hx hb dL_act_96 (by decide) ?_
        refine lv_iload_n hx hb dL_act_97 rfl (lv_at hl 4 rfl) ?_
        refine lv_iconst (v := 3) hx hb dL_act_98 (by decide) ?_
        refine lv_ishr hx hb dL_act_99 ?_
        refine lv_iconst (v := 3) hx hb dL_act_100 (by decide) ?_
        refine k_calli (W.runS (As := [.int (ya >>> (3 &&& 31)), .int 3]) (rest := [.int 1, .int (fL_up ya 6), .ref a0, .int 1000]) ⟨hx, hb, hml, hown, hts0⟩ (mL_up l dC dI  (ya >>> (3 &&& 31)) 3 (by decide)) (va_cwS 2 hts0 (gi_S u_350 u_351 u_0 u_352) rfl rfl rfl (by decide +kernel) ⟨Nat.le_of_ble_eq_true rfl, Nat.le_of_ble_eq_true rfl⟩) (pcR_S (hP.sub (ws' := []) [] rfl) (hK.sub (tys' := []) [] rfl) hn) rfl rfl hl.1 rfl (lv_room (Nat.le_of_ble_eq_true rfl)) dL_act_101 ⟨Nat.zero_le _, Nat.zero_le _⟩) ?_
        refine lv_iadd hx hb dL_act_104 ?_
        have D_105 := D_guest (Ps := Ps) (o := oh) (v := vh) hR hX (by first | exact gl16_0 hR c_52 | exact absurd c_60 c_71) (up_is (v := ya) (n := 6) (by decide) (by decide)) (up1 (ya >>> (3 &&& 31)))
        have e_105 : (fX6_guest PN Ps oh vh (fL_up ya 6) ((1 : Int32) + (fL_up (ya >>> (3 &&& 31)) 3))) = Sum.inr ((fX2_addGuest PN (fL_up ya 6) ((1 : Int32) + (fL_up (ya >>> (3 &&& 31)) 3))).1, ((fX2_addGuest PN (fL_up ya 6) ((1 : Int32) + (fL_up (ya >>> (3 &&& 31)) 3))).2, (fX0_save Ps oh vh PN).1, (fX0_save Ps oh vh PN).2.1, (fX0_save Ps oh vh PN).2.2)) := D_105.1
        refine k_deed (W1 := (fun (v9 : PV × (Nat → PV) × Nat × Nat) => fW cI cP a0 aN aT aS t0 t1 t2 h0 h1 pa v9.1 PT PS f u v9.2.1 v9.2.2.1 v9.2.2.2 k)) (r0 := (fX2_addGuest PN (fL_up ya 6) ((1 : Int32) + (fL_up (ya >>> (3 &&& 31)) 3))).1) (u0 := ((fX2_addGuest PN (fL_up ya 6) ((1 : Int32) + (fL_up (ya >>> (3 &&& 31)) 3))).2, (fX0_save Ps oh vh PN).1, (fX0_save Ps oh vh PN).2.1, (fX0_save Ps oh vh PN).2.2)) e_105 (va_runV (As := [.int (fL_up ya 6), .int ((1 : Int32) + (fL_up (ya >>> (3 &&& 31)) 3))]) (rest := [.int 1000]) ⟨hx, hb, hml, hown, hts0⟩ (mX6_guest l dC dI cI cP a0 aN aT aS t0 t1 t2 h0 h1 pa PN PT PS f u Ps oh vh k (fL_up ya 6) ((1 : Int32) + (fL_up (ya >>> (3 &&& 31)) 3)) ho6 hv6 (ok_inr e_105)) (cwV 2 hts0 (gi_V u_462 u_463 u_464 u_1 u_465) rfl rfl rfl (by decide +kernel) ⟨Nat.le_of_ble_eq_true rfl, Nat.le_of_ble_eq_true rfl⟩) (pcM_V (ci := 4) (q0 := 0) hP hK hn hD rfl rfl) rfl rfl hl.1 rfl (lv_room (Nat.le_of_ble_eq_true rfl)) dL_act_105 ⟨Nat.zero_le _, Nat.zero_le _⟩) hP hD hS rfl (fun H locs hP hD hS => ?_)
        have hP : va_P (dC, dI) vwCl (fW cI cP a0 aN aT aS t0 t1 t2 h0 h1 pa ((fX2_addGuest PN (fL_up ya 6) ((1 : Int32) + (fL_up (ya >>> (3 &&& 31)) 3))).2) PT PS f u ((fX0_save Ps oh vh PN).1) ((fX0_save Ps oh vh PN).2.1) ((fX0_save Ps oh vh PN).2.2) k) H := hP
        have hD : va_D A (fW cI cP a0 aN aT aS t0 t1 t2 h0 h1 pa ((fX2_addGuest PN (fL_up ya 6) ((1 : Int32) + (fL_up (ya >>> (3 &&& 31)) 3))).2) PT PS f u ((fX0_save Ps oh vh PN).1) ((fX0_save Ps oh vh PN).2.1) ((fX0_save Ps oh vh PN).2.2) k) := hD
        refine lv_iadd hx hb dL_act_108 ?_
        rw [hQ]
        exact W.iret (v := ((1000 : Int32) + (fX2_addGuest PN (fL_up ya 6) ((1 : Int32) + (fL_up (ya >>> (3 &&& 31)) 3))).1)) hx hb hr (fun t ht hW => ⟨⟨((1000 : Int32) + (fX2_addGuest PN (fL_up ya 6) ((1 : Int32) + (fL_up (ya >>> (3 &&& 31)) 3))).1), (((fX2_addGuest PN (fL_up ya 6) ((1 : Int32) + (fL_up (ya >>> (3 &&& 31)) 3))).2), ((fX0_save Ps oh vh PN).1), ((fX0_save Ps oh vh PN).2.1), ((fX0_save Ps oh vh PN).2.2)), rfl, ⟨sv_ret hF, D_105.2.1, D_105.2.2⟩, toH ht hP⟩, hS.F ht⟩) hS.2.2 dL_act_109
      have hF := hF.trans (if_pos c_71)
      refine lv_aload_n hx hb dL_act_74 rfl (lv_at hl 2 rfl) ?_
      refine lv_iconst (v := 3) hx hb dL_act_75 (by decide) ?_
      refine lv_iload_n hx hb dL_act_76 rfl (lv_at hl 4 rfl) ?_
      refine lv_bipush (v := 6) hx hb dL_act_77 (by decide) ?_
      refine k_calli (W.runS (As := [.int ya, .int 6]) (rest := [.int 3, .ref a0, .int 1000]) ⟨hx, hb, hml, hown, hts0⟩ (mL_up l dC dI  ya 6 (by decide)) (va_cwS 2 hts0 (gi_S u_350 u_351 u_0 u_352) rfl rfl rfl (by decide +kernel) ⟨Nat.le_of_ble_eq_true rfl, Nat.le_of_ble_eq_true rfl⟩) (pcR_S (hP.sub (ws' := []) [] rfl) (hK.sub (tys' := []) [] rfl) hn) rfl rfl hl.1 rfl (lv_room (Nat.le_of_ble_eq_true rfl)) dL_act_79 ⟨Nat.zero_le _, Nat.zero_le _⟩) ?_
      refine lv_iadd hx hb dL_act_82 ?_
      have D_83 := D_table (Ps := Ps) (o := oh) (v := vh) hR hX (tl4_0 hR c_71) (up3 ya)
      have e_83 : (fX6_table PN Ps oh vh ((3 : Int32) + (fL_up ya 6))) = Sum.inr ((fX2_addTable PN ((3 : Int32) + (fL_up ya 6))).1, ((fX2_addTable PN ((3 : Int32) + (fL_up ya 6))).2, (fX0_save Ps oh vh PN).1, (fX0_save Ps oh vh PN).2.1, (fX0_save Ps oh vh PN).2.2)) := D_83.1
      refine k_deed (W1 := (fun (v9 : PV × (Nat → PV) × Nat × Nat) => fW cI cP a0 aN aT aS t0 t1 t2 h0 h1 pa v9.1 PT PS f u v9.2.1 v9.2.2.1 v9.2.2.2 k)) (r0 := (fX2_addTable PN ((3 : Int32) + (fL_up ya 6))).1) (u0 := ((fX2_addTable PN ((3 : Int32) + (fL_up ya 6))).2, (fX0_save Ps oh vh PN).1, (fX0_save Ps oh vh PN).2.1, (fX0_save Ps oh vh PN).2.2)) e_83 (va_runV (As := [.int ((3 : Int32) + (fL_up ya 6))]) (rest := [.int 1000]) ⟨hx, hb, hml, hown, hts0⟩ (mX6_table l dC dI cI cP a0 aN aT aS t0 t1 t2 h0 h1 pa PN PT PS f u Ps oh vh k ((3 : Int32) + (fL_up ya 6)) ho6 hv6 (ok_inr e_83)) (cwV 1 hts0 (gi_V u_445 u_446 u_447 u_1 u_448) rfl rfl rfl (by decide +kernel) ⟨Nat.le_of_ble_eq_true rfl, Nat.le_of_ble_eq_true rfl⟩) (pcM_V (ci := 4) (q0 := 0) hP hK hn hD rfl rfl) rfl rfl hl.1 rfl (lv_room (Nat.le_of_ble_eq_true rfl)) dL_act_83 ⟨Nat.zero_le _, Nat.zero_le _⟩) hP hD hS rfl (fun H locs hP hD hS => ?_)
      have hP : va_P (dC, dI) vwCl (fW cI cP a0 aN aT aS t0 t1 t2 h0 h1 pa ((fX2_addTable PN ((3 : Int32) + (fL_up ya 6))).2) PT PS f u ((fX0_save Ps oh vh PN).1) ((fX0_save Ps oh vh PN).2.1) ((fX0_save Ps oh vh PN).2.2) k) H := hP
      have hD : va_D A (fW cI cP a0 aN aT aS t0 t1 t2 h0 h1 pa ((fX2_addTable PN ((3 : Int32) + (fL_up ya 6))).2) PT PS f u ((fX0_save Ps oh vh PN).1) ((fX0_save Ps oh vh PN).2.1) ((fX0_save Ps oh vh PN).2.2) k) := hD
      refine lv_goto (tgt := 108) hx hb dL_act_86 (by decide) ?_
      refine lv_iadd hx hb dL_act_108 ?_
      rw [hQ]
      exact W.iret (v := ((1000 : Int32) + (fX2_addTable PN ((3 : Int32) + (fL_up ya 6))).1)) hx hb hr (fun t ht hW => ⟨⟨((1000 : Int32) + (fX2_addTable PN ((3 : Int32) + (fL_up ya 6))).1), (((fX2_addTable PN ((3 : Int32) + (fL_up ya 6))).2), ((fX0_save Ps oh vh PN).1), ((fX0_save Ps oh vh PN).2.1), ((fX0_save Ps oh vh PN).2.2)), rfl, ⟨sv_ret hF, D_83.2.1, D_83.2.2⟩, toH ht hP⟩, hS.F ht⟩) hS.2.2 dL_act_109
    have hF : ((if (PN 10 1) = 0 then 0 else (fL_up (ya >>> (4 &&& 31)) (PN 10 1))) : Int32) = (if (PN 10 1) = 0 then 0 else (fL_up (ya >>> (4 &&& 31)) (PN 10 1))) := rfl
    refine lv_if_ne (tgt := 34) hx hb dL_act_27 (by decide) (fun c_27 => ?_) (fun c_27 => ?_)
    · have hF := hF.trans (if_neg c_27)
      refine lv_iload_n hx hb dL_act_34 rfl (lv_at hl 3 rfl) ?_
      refine lv_iconst (v := 4) hx hb dL_act_35 (by decide) ?_
      refine lv_ishr hx hb dL_act_36 ?_
      refine lv_aload_n hx hb dL_act_37 rfl (lv_at hl 1 rfl) ?_
      refine lv_iconst (v := 1) hx hb dL_act_38 (by decide) ?_
      have e_39 : (fX6_count PN Ps oh vh 1) = Sum.inr ((PN 10 1), ()) := count_1
      refine k_calli (W.runV (As := [.int 1]) (rest := [.int (ya >>> (4 &&& 31))]) ⟨hx, hb, hml, hown, hts0⟩ (mX6_count l dC dI cI cP a0 aN aT aS t0 t1 t2 h0 h1 pa PN PT PS f u Ps oh vh k 1 (ok_inr e_39)) (cwV 1 hts0 (gi_V u_268 u_269 u_270 u_1 u_271) rfl rfl rfl (by decide +kernel) ⟨Nat.le_of_ble_eq_true rfl, Nat.le_of_ble_eq_true rfl⟩) (pcR_V (ci := 4) (q0 := 0) hP hK hn rfl rfl) rfl rfl hl.1 rfl (lv_room (Nat.le_of_ble_eq_true rfl)) dL_act_39 ⟨Nat.zero_le _, Nat.zero_le _⟩) ?_
      refine lv_tope (y := (PN 10 1)) (ok1_inr e_39) ?_
      refine k_calli (W.runS (As := [.int (ya >>> (4 &&& 31)), .int (PN 10 1)]) (rest := []) ⟨hx, hb, hml, hown, hts0⟩ (mL_up l dC dI  (ya >>> (4 &&& 31)) (PN 10 1) c_27) (va_cwS 2 hts0 (gi_S u_350 u_351 u_0 u_352) rfl rfl rfl (by decide +kernel) ⟨Nat.le_of_ble_eq_true rfl, Nat.le_of_ble_eq_true rfl⟩) (pcR_S (hP.sub (ws' := []) [] rfl) (hK.sub (tys' := []) [] rfl) hn) rfl rfl hl.1 rfl (lv_room (Nat.le_of_ble_eq_true rfl)) dL_act_42 ⟨Nat.zero_le _, Nat.zero_le _⟩) ?_
      exact K27 _ hF.symm _ _ hP hD hS  ls (lv_sub hl [0, 1, 2, 3] rfl)
    have hF := hF.trans (if_pos c_27)
    refine lv_iconst (v := 0) hx hb dL_act_30 (by decide) ?_
    refine lv_goto (tgt := 45) hx hb dL_act_31 (by decide) ?_
    exact K27 _ hF.symm _ _ hP hD hS  ls (lv_sub hl [0, 1, 2, 3] rfl)
  have hF : ((if (PN 10 0) = 0 then 0 else (fL_up ya (PN 10 0))) : Int32) = (if (PN 10 0) = 0 then 0 else (fL_up ya (PN 10 0))) := rfl
  refine lv_if_ne (tgt := 12) hx hb dL_act_5 (by decide) (fun c_5 => ?_) (fun c_5 => ?_)
  · have hF := hF.trans (if_neg c_5)
    refine lv_iload_n hx hb dL_act_12 rfl (lv_at hl 2 rfl) ?_
    refine lv_aload_n hx hb dL_act_13 rfl (lv_at hl 0 rfl) ?_
    refine lv_iconst (v := 0) hx hb dL_act_14 (by decide) ?_
    have e_15 : (fX6_count PN Ps oh vh 0) = Sum.inr ((PN 10 0), ()) := count_0
    refine k_calli (W.runV (As := [.int 0]) (rest := [.int ya]) ⟨hx, hb, hml, hown, hts0⟩ (mX6_count l dC dI cI cP a0 aN aT aS t0 t1 t2 h0 h1 pa PN PT PS f u Ps oh vh k 0 (ok_inr e_15)) (cwV 1 hts0 (gi_V u_268 u_269 u_270 u_1 u_271) rfl rfl rfl (by decide +kernel) ⟨Nat.le_of_ble_eq_true rfl, Nat.le_of_ble_eq_true rfl⟩) (pcR_V (ci := 4) (q0 := 0) hP hK hn rfl rfl) rfl rfl hl.1 rfl (lv_room (Nat.le_of_ble_eq_true rfl)) dL_act_15 ⟨Nat.zero_le _, Nat.zero_le _⟩) ?_
    refine lv_tope (y := (PN 10 0)) (ok1_inr e_15) ?_
    refine k_calli (W.runS (As := [.int ya, .int (PN 10 0)]) (rest := []) ⟨hx, hb, hml, hown, hts0⟩ (mL_up l dC dI  ya (PN 10 0) c_5) (va_cwS 2 hts0 (gi_S u_350 u_351 u_0 u_352) rfl rfl rfl (by decide +kernel) ⟨Nat.le_of_ble_eq_true rfl, Nat.le_of_ble_eq_true rfl⟩) (pcR_S (hP.sub (ws' := []) [] rfl) (hK.sub (tys' := []) [] rfl) hn) rfl rfl hl.1 rfl (lv_room (Nat.le_of_ble_eq_true rfl)) dL_act_18 ⟨Nat.zero_le _, Nat.zero_le _⟩) ?_
    exact K5 _ hF.symm _ _ hP hD hS  ls (lv_sub hl [0, 1, 2] rfl)
  have hF := hF.trans (if_pos c_5)
  refine lv_iconst (v := 0) hx hb dL_act_8 (by decide) ?_
  refine lv_goto (tgt := 21) hx hb dL_act_9 (by decide) ?_
  exact K5 _ hF.symm _ _ hP hD hS  ls (lv_sub hl [0, 1, 2] rfl)
