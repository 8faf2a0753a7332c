def fX2_beginFeud_b17 (a : Int32) (b : Int32) (kk17 : Nat) (x17_3 : Int32) (U17_1 : PV) (nextkk17 : Int32 → PV → (Int32 × (PV))) : Int32 × (PV) :=
  (bd2 ((if (fX2_familyThatRises U17_1 (nI kk17) a b) = (-1) then (x17_3, U17_1) else (bd2 (fX2_standFamilyUp U17_1 (nI kk17) (fX2_familyThatRises U17_1 (nI kk17) a b)) (fun r48 U48 => ((x17_3 + r48), U48)))) : Int32 × PV) (fun v39_0 U39_1 => (nextkk17 v39_0 U39_1)))
def fX2_beginFeud_r17 (x17_3 : Int32) (U17_1 : PV) : Int32 × (PV) :=
  (x17_3, U17_1)
def fX2_beginFeud (P : PV) (a : Int32) (b : Int32) : Int32 × (PV) :=
  (bd (fX1_addLast 8 (P 8) (P 10 4) (fX2_feudCode a b)) (fun U9 => (lq2 (fX2_beginFeud_b17 a b) fX2_beginFeud_r17 ((P 10 1).toNatClampNeg) 0 0 (sset (rset P 8 U9.1) 4 U9.2))))
abbrev rmX2_beginFeud : Room := { frames := 4, cells := 0, slots := 0, locals := 94 }
set_option maxHeartbeats 4000000 in
set_option maxRecDepth 100000 in
theorem mX2_beginFeud (l : Launch) (dC : Nat → ClassId) (dI : Nat → Nat → Nat) (cI : ClassId) (ad : Nat → Nat) (P : PV) (a : Int32) (b : Int32) : Met l yX2_beginFeud (ws_ yX2_beginFeud cX2_beginFeud 6 (some .int)) rmX2_beginFeud (pcM (dC, dI) [(cI, .int)] (pW cI ad P) [.ref (ad 0), .int a, .int b]) (va_Qi (fun (r9 : Int32) (u9 : PV) => (r9, u9) = fX2_beginFeud P a b) (fun u9 t => va_P (dC, dI) vwCl ((fun (v : PV) => pW cI ad v) u9) t.heap) (adr (pW cI ad P))) 0 0 (adr (pW cI ad P)) := by
  refine Met.ofW (cc := cX2_beginFeud) (maxL := 6) (ret := (some .int)) (by decide) rfl ?_
  intro p e s m args below meth c s₁ B hml hv
  obtain ⟨ha, hP, hK, hn, hD0⟩ := hv
  have hx := B.exec
  have hb := B.bytes
  have hr := B.returns
  have hts0 := atoms_spec (ws := (ws_ yX2_beginFeud cX2_beginFeud 6 (some .int))) B.pre
  have hts : ∀ w ∈ lw_all, w.before args s = true := fun w h => hts0 w (List.mem_cons_of_mem _ h)
  have hown : s.vm.findClass RX2 = some m.cls := findClass_of_methodNamed B.named
  have hlocks := B.notSynchronized
  have htX2 : ∀ w ∈ wsX20, w.before args s = true := fun w h => hts w (wX2 w h)
  have hD := adr_self hD0
  obtain ⟨A, hA⟩ : ∃ A, A = adr (pW cI ad P) := ⟨_, rfl⟩
  rw [← hA] at hD
  have hS : va_S A s.heap s.heap [] := va_S.rf
  obtain ⟨Q, hQ⟩ : ∃ Q, Q = MQ below (va_Qi (fun (r9 : Int32) (u9 : PV) => (r9, u9) = fX2_beginFeud P a b) (fun u9 t => va_P (dC, dI) vwCl ((fun (v : PV) => pW cI ad v) u9) t.heap) (adr (pW cI ad P))) args s 0 0 (adr (pW cI ad P)) := ⟨_, rfl⟩
  rw [← hQ]
  rw [← hA] at hQ
  have hl := lv_entry ([.ref (ad 0), .int a, .int b]) (n := 6) (Nat.le_of_ble_eq_true rfl)
  rw [ha, lg_entry_eq, ← ha]
  generalize (lg_sl ([.ref (ad 0), .int a, .int b]) ++ List.replicate (6 - (lg_sl ([.ref (ad 0), .int a, .int b])).length) Slot.unset).toArray = ls at hl ⊢
  have hl : lv_has ls 6 [(0, .ref (ad 0)), (1, .int a), (2, .int b)] := hl
  show W p l e rmX2_beginFeud s m args below meth c s.heap [] 0 0 Q (F0 m 0 ls [])
  have hF : fX2_beginFeud P a b = fX2_beginFeud P a b := rfl
  refine lv_aload_n hx hb dX2_beginFeud_0 rfl (lv_at hl 0 rfl) ?_
  refine va_get (D := (dC, dI)) (ci := 2) (v := .ref (ad 9)) (C := RX2) (T := TX2) (N := 14) hx hb htX2 (fun _ h => h) hown hK hP 0 rfl rfl 8 (by decide) (hts _ u_67) (fun _ h9 => h9) rfl dX2_beginFeud_1 ?_
  refine lv_iload_n hx hb dX2_beginFeud_4 rfl (lv_at hl 1 rfl) ?_
  refine lv_iload_n hx hb dX2_beginFeud_5 rfl (lv_at hl 2 rfl) ?_
  refine k_calli (W.runS (As := [.int a, .int b]) (rest := [.ref (ad 9)]) ⟨hx, hb, hml, hown, hts0⟩ (mX2_feudCode l dC dI  a b) (va_cwS 2 hts0 (gi_S u_554 u_555 u_2 u_556) rfl rfl rfl (by decide +kernel) ⟨Nat.le_of_ble_eq_true rfl, Nat.le_of_ble_eq_true rfl⟩) (pcR_S (hP.sub (ws' := []) [] rfl) (hK.sub (tys' := []) [] rfl) hn) rfl rfl hl.1 rfl (lv_room (Nat.le_of_ble_eq_true rfl)) dX2_beginFeud_6 ⟨Nat.zero_le _, Nat.zero_le _⟩) ?_
  refine k_mutv (Wd := (fun (v : (Nat → Int32) × Int32) => lW cI (ad 9) (ad 10) 8 v.1 v.2)) (va_runV (As := [.int (fX2_feudCode a b)]) (rest := []) ⟨hx, hb, hml, hown, hts0⟩ (mX1_addLast l dC dI cI (ad 9) (ad 10) 8 (by decide) (P 8) (P 10 4) (fX2_feudCode a b)) (cwV 1 hts0 (gi_V u_520 u_521 u_522 u_3 u_523) rfl rfl rfl (by decide +kernel) ⟨Nat.le_of_ble_eq_true rfl, Nat.le_of_ble_eq_true rfl⟩) (pcM_V (ci := 1) (q0 := 0) (hP.sub (ws' := lW cI (ad 9) (ad 10) 8 (P 8) (P 10 4)) [9, 10] rfl) hK hn (hD.sub (ws' := lW cI (ad 9) (ad 10) 8 (P 8) (P 10 4)) [9, 10] (by decide) rfl) rfl rfl) rfl rfl hl.1 rfl (lv_room (Nat.le_of_ble_eq_true rfl)) dX2_beginFeud_9 ⟨Nat.zero_le _, Nat.zero_le _⟩) hP hD hS [9, 10] rfl rfl (fun _ => rfl) (fun U9 H locs hU9 hP hD hS => ?_)
  have hP : va_P (dC, dI) vwCl (pW cI ad (sset (rset P 8 U9.1) 4 U9.2)) H := hP
  have hD : va_D A (pW cI ad (sset (rset P 8 U9.1) 4 U9.2)) := hD
  have hF := bd_at hF hU9
  refine lv_iconst (v := 0) hx hb dX2_beginFeud_12 (by decide) ?_
  refine lv_istore_n (lv' := [(3, .int 0), (0, .ref (ad 0)), (1, .int a), (2, .int b)]) hx hb dX2_beginFeud_13 rfl hl (by decide) rfl (fun ls hl => ?_)
  refine lv_iconst (v := 0) hx hb dX2_beginFeud_14 (by decide) ?_
  refine lv_istore (lv' := [(4, .int 0), (3, .int 0), (0, .ref (ad 0)), (1, .int a), (2, .int b)]) hx hb dX2_beginFeud_15 hl (by decide) rfl (fun ls hl => ?_)
  have L17 : ∀ (jj17 kk17 : Nat) (x17_3 : Int32) (U17_1 : PV), kk17 + jj17 = ((P 10 1).toNatClampNeg) → fX2_beginFeud P a b = lq2 (fX2_beginFeud_b17 a b) fX2_beginFeud_r17 jj17 kk17 x17_3 U17_1 → U17_1 10 1 = P 10 1 → ∀ (H : Heap) (locs : List Loc), va_P (dC, dI) vwCl (pW cI ad U17_1) H → va_D A (pW cI ad U17_1) → va_S A s.heap H locs → ∀ (ls : Array Slot), lv_has ls 6 [(4, .int (nI kk17)), (3, .int x17_3), (0, .ref (ad 0)), (1, .int a), (2, .int b)] → W p l e rmX2_beginFeud s m args below meth c H locs 0 0 Q (F0 m 17 ls []) := by
    intro jj17
    induction jj17 using Nat.strongRecOn with
    | _ jj17 ihkk17 =>
      intro kk17 x17_3 U17_1 hkkk17 hF hikk17 H locs hP hD hS ls hl
      refine lv_iload hx hb dX2_beginFeud_17 (lv_at hl 0 rfl) ?_
      refine lv_aload_n hx hb dX2_beginFeud_19 rfl (lv_at hl 2 rfl) ?_
      refine va_get (D := (dC, dI)) (ci := 2) (v := .int (U17_1 10 1)) (C := RX2) (T := TX2) (N := 14) hx hb htX2 (fun _ h => h) hown hK hP 0 rfl rfl 11 (by decide) (hts _ u_74) (fun _ h9 => h9) rfl dX2_beginFeud_20 ?_
      refine lv_icmp_ge (tgt := 59) hx hb dX2_beginFeud_23 (by decide) (fun c_23 => ?_) (fun c_23 => ?_)
      · obtain rfl := cn_exit hkkk17 (by rw [← hikk17]; exact c_23)
        have hF := hF.trans (lq2_z _ _ _ _ _)
        refine lv_iload_n hx hb dX2_beginFeud_59 rfl (lv_at hl 1 rfl) ?_
        rw [hQ]
        exact W.iret (v := x17_3) hx hb hr (fun t ht hW => ⟨⟨x17_3, U17_1, rfl, hF.symm, toH ht hP⟩, hS.F ht⟩) hS.2.2 dX2_beginFeud_60
      obtain ⟨jj17, rfl⟩ := cn_go hkkk17 (by rw [← hikk17]; exact c_23)
      have hF := hF.trans (lq2_s _ _ _ _ _ _)
      obtain ⟨nextkk17, hnextkk17⟩ : ∃ y9, y9 = lq2 (fX2_beginFeud_b17 a b) fX2_beginFeud_r17 jj17 (kk17 + 1) := ⟨_, rfl⟩
      rw [← hnextkk17] at hF
      refine lv_aload_n hx hb dX2_beginFeud_26 rfl (lv_at hl 2 rfl) ?_
      refine lv_iload hx hb dX2_beginFeud_27 (lv_at hl 0 rfl) ?_
      refine lv_iload_n hx hb dX2_beginFeud_29 rfl (lv_at hl 3 rfl) ?_
      refine lv_iload_n hx hb dX2_beginFeud_30 rfl (lv_at hl 4 rfl) ?_
      refine k_calli (W.runV (As := [.int (nI kk17), .int a, .int b]) (rest := []) ⟨hx, hb, hml, hown, hts0⟩ (mX2_familyThatRises l dC dI cI ad U17_1 (nI kk17) a b) (cwV 3 hts0 (gi_V u_576 u_577 u_578 u_2 u_579) rfl rfl rfl (by decide +kernel) ⟨Nat.le_of_ble_eq_true rfl, Nat.le_of_ble_eq_true rfl⟩) (pcR_V (ci := 2) (q0 := 0) hP hK hn rfl rfl) rfl rfl hl.1 rfl (lv_room (Nat.le_of_ble_eq_true rfl)) dX2_beginFeud_31 ⟨Nat.zero_le _, Nat.zero_le _⟩) ?_
      refine lv_istore (lv' := [(5, .int (fX2_familyThatRises U17_1 (nI kk17) a b)), (4, .int (nI kk17)), (3, .int x17_3), (0, .ref (ad 0)), (1, .int a), (2, .int b)]) hx hb dX2_beginFeud_34 hl (by decide) rfl (fun ls hl => ?_)
      refine lv_iload hx hb dX2_beginFeud_36 (lv_at hl 0 rfl) ?_
      refine lv_iconst (v := (-1)) hx hb dX2_beginFeud_38 (by decide) ?_
      have K39 : ∀ (v39_0 : Int32) (U39_1 : PV), (v39_0, U39_1) = (if (fX2_familyThatRises U17_1 (nI kk17) a b) = (-1) then (x17_3, U17_1) else (bd2 (fX2_standFamilyUp U17_1 (nI kk17) (fX2_familyThatRises U17_1 (nI kk17) a b)) (fun r48 U48 => ((x17_3 + r48), U48)))) → ∀ (H : Heap) (locs : List Loc), va_P (dC, dI) vwCl (pW cI ad U39_1) H → va_D A (pW cI ad U39_1) → va_S A s.heap H locs → ∀ (ls : Array Slot), lv_has ls 6 [(5, .int (fX2_familyThatRises U17_1 (nI kk17) a b)), (4, .int (nI kk17)), (3, .int v39_0), (0, .ref (ad 0)), (1, .int a), (2, .int b)] → W p l e rmX2_beginFeud s m args below meth c H locs 0 0 Q (F0 m 53 ls []) := by
        intro v39_0 U39_1 hz39 H locs hP hD hS ls hl
        have hz := hz39
        have hF := bd2_at hF hz
        refine lv_iinc (v := (nI (kk17 + 1))) (lv' := [(4, .int (nI (kk17 + 1))), (5, .int (fX2_familyThatRises U17_1 (nI kk17) a b)), (3, .int v39_0), (0, .ref (ad 0)), (1, .int a), (2, .int b)]) hx hb dX2_beginFeud_53 hl (k := 1) rfl (nI_1 _) (by decide) rfl (fun ls hl => ?_)
        refine lv_goto (tgt := 17) hx hb dX2_beginFeud_56 (by decide) ?_
        have hF : fX2_beginFeud P a b = nextkk17 v39_0 U39_1 := hF
        rw [hnextkk17] at hF
        exact ihkk17 jj17 (Nat.lt_succ_self _) (kk17 + 1) v39_0 U39_1 (cn_next hkkk17) hF (by have e := congrArg Prod.snd hz; dsimp only at e; rw [e]; (repeat' split); all_goals first | with_reducible exact hikk17 | (dsimp only [bd, bd2]; exact (standFamilyUp_10_1 _ _ _).trans hikk17)) _ _ hP hD hS ls (lv_sub hl [0, 2, 3, 4, 5] rfl)
      have hF : ((if (fX2_familyThatRises U17_1 (nI kk17) a b) = (-1) then (x17_3, U17_1) else (bd2 (fX2_standFamilyUp U17_1 (nI kk17) (fX2_familyThatRises U17_1 (nI kk17) a b)) (fun r48 U48 => ((x17_3 + r48), U48)))) : Int32 × PV) = (if (fX2_familyThatRises U17_1 (nI kk17) a b) = (-1) then (x17_3, U17_1) else (bd2 (fX2_standFamilyUp U17_1 (nI kk17) (fX2_familyThatRises U17_1 (nI kk17) a b)) (fun r48 U48 => ((x17_3 + r48), U48)))) := rfl
      refine lv_icmp_eq (tgt := 53) hx hb dX2_beginFeud_39 (by decide) (fun c_39 => ?_) (fun c_39 => ?_)
      · have hF := hF.trans (if_pos c_39)
        exact K39 _ _ hF.symm _ _ hP hD hS  ls (lv_sub hl [0, 1, 2, 3, 4, 5] rfl)
      have hF := hF.trans (if_neg c_39)
      refine lv_iload_n hx hb dX2_beginFeud_42 rfl (lv_at hl 2 rfl) ?_
      refine lv_aload_n hx hb dX2_beginFeud_43 rfl (lv_at hl 3 rfl) ?_
      refine lv_iload hx hb dX2_beginFeud_44 (lv_at hl 1 rfl) ?_
      refine lv_iload hx hb dX2_beginFeud_46 (lv_at hl 0 rfl) ?_
      refine k_muti (Wd := (fun (v : PV) => pW cI ad v)) (va_runV (As := [.int (nI kk17), .int (fX2_familyThatRises U17_1 (nI kk17) a b)]) (rest := [.int x17_3]) ⟨hx, hb, hml, hown, hts0⟩ (mX2_standFamilyUp l dC dI cI ad U17_1 (nI kk17) (fX2_familyThatRises U17_1 (nI kk17) a b)) (cwV 2 hts0 (gi_V u_580 u_581 u_582 u_2 u_583) rfl rfl rfl (by decide +kernel) ⟨Nat.le_of_ble_eq_true rfl, Nat.le_of_ble_eq_true rfl⟩) (pcM_V (ci := 2) (q0 := 0) hP hK hn hD rfl rfl) rfl rfl hl.1 rfl (lv_room (Nat.le_of_ble_eq_true rfl)) dX2_beginFeud_48 ⟨Nat.zero_le _, Nat.zero_le _⟩) hP hD hS [0, 1, 2, 3, 4, 5, 6, 7, 8, 9, 10, 11, 12] rfl rfl (fun _ => rfl) (fun r48 U48 H locs hU48 hP hD hS => ?_)
      have hP : va_P (dC, dI) vwCl (pW cI ad U48) H := hP
      have hD : va_D A (pW cI ad U48) := hD
      have hF := bd2_at hF hU48
      refine lv_iadd hx hb dX2_beginFeud_51 ?_
      refine lv_istore_n (lv' := [(3, .int (x17_3 + r48)), (5, .int (fX2_familyThatRises U17_1 (nI kk17) a b)), (4, .int (nI kk17)), (0, .ref (ad 0)), (1, .int a), (2, .int b)]) hx hb dX2_beginFeud_52 rfl hl (by decide) rfl (fun ls hl => ?_)
      exact K39 _ _ hF.symm _ _ hP hD hS  ls (lv_sub hl [1, 2, 0, 3, 4, 5] rfl)
  exact L17 ((P 10 1).toNatClampNeg) 0 0 (sset (rset P 8 U9.1) 4 U9.2) (Nat.zero_add _) hF rfl _ _ hP hD hS ls (lv_sub hl [0, 1, 2, 3, 4] rfl)

def fX2_seatStanding_b2 (kk2 : Nat) (U2_0 : PV) (nextkk2 : PV → (Int32 × (PV))) : Int32 × (PV) :=
  (bd ((if (fX2_isSitting U2_0 (nI kk2)) = 0 then (if (fX2_bestPlace U2_0 (nI kk2)) = (-1) then U2_0 else (bd (fX2_takeSeat U2_0 (nI kk2) ((fX2_bestPlace U2_0 (nI kk2)) / 8) ((fX2_bestPlace U2_0 (nI kk2)) - (fX2_bestPlace U2_0 (nI kk2)) / 8 * 8)) (fun U39 => U39))) else U2_0) : PV) (fun U15_0 => (nextkk2 U15_0)))
def fX2_seatStanding_r2 (U2_0 : PV) : Int32 × (PV) :=
  (((U2_0 10 0) - (fX1_length 16 (U2_0 9) (U2_0 10 5))), U2_0)
def fX2_seatStanding (P : PV) : Int32 × (PV) :=
  (lq1 fX2_seatStanding_b2 fX2_seatStanding_r2 ((P 10 0).toNatClampNeg) 0 P)
abbrev rmX2_seatStanding : Room := { frames := 4, cells := 0, slots := 0, locals := 116 }
set_option maxHeartbeats 4000000 in
set_option maxRecDepth 100000 in
theorem mX2_seatStanding (l : Launch) (dC : Nat → ClassId) (dI : Nat → Nat → Nat) (cI : ClassId) (ad : Nat → Nat) (P : PV) : Met l yX2_seatStanding (ws_ yX2_seatStanding cX2_seatStanding 3 (some .int)) rmX2_seatStanding (pcM (dC, dI) [(cI, .int)] (pW cI ad P) [.ref (ad 0)]) (va_Qi (fun (r9 : Int32) (u9 : PV) => (r9, u9) = fX2_seatStanding P) (fun u9 t => va_P (dC, dI) vwCl ((fun (v : PV) => pW cI ad v) u9) t.heap) (adr (pW cI ad P))) 0 0 (adr (pW cI ad P)) := by
  refine Met.ofW (cc := cX2_seatStanding) (maxL := 3) (ret := (some .int)) (by decide) rfl ?_
  intro p e s m args below meth c s₁ B hml hv
  obtain ⟨ha, hP, hK, hn, hD0⟩ := hv
  have hx := B.exec
  have hb := B.bytes
  have hr := B.returns
  have hts0 := atoms_spec (ws := (ws_ yX2_seatStanding cX2_seatStanding 3 (some .int))) B.pre
  have hts : ∀ w ∈ lw_all, w.before args s = true := fun w h => hts0 w (List.mem_cons_of_mem _ h)
  have hown : s.vm.findClass RX2 = some m.cls := findClass_of_methodNamed B.named
  have hlocks := B.notSynchronized
  have htX2 : ∀ w ∈ wsX20, w.before args s = true := fun w h => hts w (wX2 w h)
  have hD := adr_self hD0
  obtain ⟨A, hA⟩ : ∃ A, A = adr (pW cI ad P) := ⟨_, rfl⟩
  rw [← hA] at hD
  have hS : va_S A s.heap s.heap [] := va_S.rf
  obtain ⟨Q, hQ⟩ : ∃ Q, Q = MQ below (va_Qi (fun (r9 : Int32) (u9 : PV) => (r9, u9) = fX2_seatStanding P) (fun u9 t => va_P (dC, dI) vwCl ((fun (v : PV) => pW cI ad v) u9) t.heap) (adr (pW cI ad P))) args s 0 0 (adr (pW cI ad P)) := ⟨_, rfl⟩
  rw [← hQ]
  rw [← hA] at hQ
  have hl := lv_entry ([.ref (ad 0)]) (n := 3) (Nat.le_of_ble_eq_true rfl)
  rw [ha, lg_entry_eq, ← ha]
  generalize (lg_sl ([.ref (ad 0)]) ++ List.replicate (3 - (lg_sl ([.ref (ad 0)])).length) Slot.unset).toArray = ls at hl ⊢
  have hl : lv_has ls 3 [(0, .ref (ad 0))] := hl
  show W p l e rmX2_seatStanding s m args below meth c s.heap [] 0 0 Q (F0 m 0 ls [])
  have hF : fX2_seatStanding P = fX2_seatStanding P := rfl
  refine lv_iconst (v := 0) hx hb dX2_seatStanding_0 (by decide) ?_
  refine lv_istore_n (lv' := [(1, .int 0), (0, .ref (ad 0))]) hx hb dX2_seatStanding_1 rfl hl (by decide) rfl (fun ls hl => ?_)
  have L2 : ∀ (jj2 kk2 : Nat) (U2_0 : PV), kk2 + jj2 = ((P 10 0).toNatClampNeg) → fX2_seatStanding P = lq1 fX2_seatStanding_b2 fX2_seatStanding_r2 jj2 kk2 U2_0 → U2_0 10 0 = P 10 0 → ∀ (H : Heap) (locs : List Loc), va_P (dC, dI) vwCl (pW cI ad U2_0) H → va_D A (pW cI ad U2_0) → va_S A s.heap H locs → ∀ (ls : Array Slot), lv_has ls 3 [(1, .int (nI kk2)), (0, .ref (ad 0))] → W p l e rmX2_seatStanding s m args below meth c H locs 0 0 Q (F0 m 2 ls []) := by
    intro jj2
    induction jj2 using Nat.strongRecOn with
    | _ jj2 ihkk2 =>
      intro kk2 U2_0 hkkk2 hF hikk2 H locs hP hD hS ls hl
      refine lv_iload_n hx hb dX2_seatStanding_2 rfl (lv_at hl 0 rfl) ?_
      refine lv_aload_n hx hb dX2_seatStanding_3 rfl (lv_at hl 1 rfl) ?_
      refine va_get (D := (dC, dI)) (ci := 2) (v := .int (U2_0 10 0)) (C := RX2) (T := TX2) (N := 14) hx hb htX2 (fun _ h => h) hown hK hP 0 rfl rfl 10 (by decide) (hts _ u_73) (fun _ h9 => h9) rfl dX2_seatStanding_4 ?_
      refine lv_icmp_ge (tgt := 48) hx hb dX2_seatStanding_7 (by decide) (fun c_7 => ?_) (fun c_7 => ?_)
      · obtain rfl := cn_exit hkkk2 (by rw [← hikk2]; exact c_7)
        have hF := hF.trans (lq1_z _ _ _ _)
        refine lv_aload_n hx hb dX2_seatStanding_48 rfl (lv_at hl 1 rfl) ?_
        refine va_get (D := (dC, dI)) (ci := 2) (v := .int (U2_0 10 0)) (C := RX2) (T := TX2) (N := 14) hx hb htX2 (fun _ h => h) hown hK hP 0 rfl rfl 10 (by decide) (hts _ u_73) (fun _ h9 => h9) rfl dX2_seatStanding_49 ?_
        refine lv_aload_n hx hb dX2_seatStanding_52 rfl (lv_at hl 1 rfl) ?_
        refine va_get (D := (dC, dI)) (ci := 2) (v := .ref (ad 11)) (C := RX2) (T := TX2) (N := 14) hx hb htX2 (fun _ h => h) hown hK hP 0 rfl rfl 9 (by decide) (hts _ u_69) (fun _ h9 => h9) rfl dX2_seatStanding_53 ?_
        refine k_calli (W.runV (As := []) (rest := [.int (U2_0 10 0)]) ⟨hx, hb, hml, hown, hts0⟩ (mX1_length l dC dI cI (ad 11) (ad 12) 16 (by decide) (U2_0 9) (U2_0 10 5) ) (cwV 0 hts0 (gi_V u_496 u_265 u_266 u_3 u_267) rfl rfl rfl (by decide +kernel) ⟨Nat.le_of_ble_eq_true rfl, Nat.le_of_ble_eq_true rfl⟩) (pcR_V (ci := 1) (q0 := 0) (hP.sub (ws' := lW cI (ad 11) (ad 12) 16 (U2_0 9) (U2_0 10 5)) [11, 12] rfl) hK hn rfl rfl) rfl rfl hl.1 rfl (lv_room (Nat.le_of_ble_eq_true rfl)) dX2_seatStanding_56 ⟨Nat.zero_le _, Nat.zero_le _⟩) ?_
        refine lv_isub hx hb dX2_seatStanding_59 ?_
        rw [hQ]
        exact W.iret (v := ((U2_0 10 0) - (fX1_length 16 (U2_0 9) (U2_0 10 5)))) hx hb hr (fun t ht hW => ⟨⟨((U2_0 10 0) - (fX1_length 16 (U2_0 9) (U2_0 10 5))), U2_0, rfl, hF.symm, toH ht hP⟩, hS.F ht⟩) hS.2.2 dX2_seatStanding_60
      obtain ⟨jj2, rfl⟩ := cn_go hkkk2 (by rw [← hikk2]; exact c_7)
      have hF := hF.trans (lq1_s _ _ _ _ _)
      obtain ⟨nextkk2, hnextkk2⟩ : ∃ y9, y9 = lq1 fX2_seatStanding_b2 fX2_seatStanding_r2 jj2 (kk2 + 1) := ⟨_, rfl⟩
      rw [← hnextkk2] at hF
      refine lv_aload_n hx hb dX2_seatStanding_10 rfl (lv_at hl 1 rfl) ?_
      refine lv_iload_n hx hb dX2_seatStanding_11 rfl (lv_at hl 0 rfl) ?_
      refine k_callb (W.runV (As := [.int (nI kk2)]) (rest := []) ⟨hx, hb, hml, hown, hts0⟩ (mX2_isSitting l dC dI cI ad U2_0 (nI kk2)) (cwV 1 hts0 (gi_V u_483 u_299 u_300 u_2 u_301) rfl rfl rfl (by decide +kernel) ⟨Nat.le_of_ble_eq_true rfl, Nat.le_of_ble_eq_true rfl⟩) (pcR_V (ci := 2) (q0 := 0) hP hK hn rfl rfl) rfl rfl hl.1 rfl (lv_room (Nat.le_of_ble_eq_true rfl)) dX2_seatStanding_12 ⟨Nat.zero_le _, Nat.zero_le _⟩) (fun br12 => ?_)
      have K15 : ∀ (U15_0 : PV), U15_0 = (if (fX2_isSitting U2_0 (nI kk2)) = 0 then (if (fX2_bestPlace U2_0 (nI kk2)) = (-1) then U2_0 else (bd (fX2_takeSeat U2_0 (nI kk2) ((fX2_bestPlace U2_0 (nI kk2)) / 8) ((fX2_bestPlace U2_0 (nI kk2)) - (fX2_bestPlace U2_0 (nI kk2)) / 8 * 8)) (fun U39 => U39))) else U2_0) → ∀ (H : Heap) (locs : List Loc), va_P (dC, dI) vwCl (pW cI ad U15_0) H → va_D A (pW cI ad U15_0) → va_S A s.heap H locs → ∀ (ls : Array Slot), lv_has ls 3 [(1, .int (nI kk2)), (0, .ref (ad 0))] → W p l e rmX2_seatStanding s m args below meth c H locs 0 0 Q (F0 m 42 ls []) := by
        intro U15_0 hz15 H locs hP hD hS ls hl
        have hz := hz15
        have hF := bd_at hF hz
        refine lv_iinc (v := (nI (kk2 + 1))) (lv' := [(1, .int (nI (kk2 + 1))), (0, .ref (ad 0))]) hx hb dX2_seatStanding_42 hl (k := 0) rfl (nI_1 _) (by decide) rfl (fun ls hl => ?_)
        refine lv_goto (tgt := 2) hx hb dX2_seatStanding_45 (by decide) ?_
        have hF : fX2_seatStanding P = nextkk2 U15_0 := hF
        rw [hnextkk2] at hF
        exact ihkk2 jj2 (Nat.lt_succ_self _) (kk2 + 1) U15_0 (cn_next hkkk2) hF (by rw [hz]; (repeat' split); all_goals first | with_reducible exact hikk2 | (dsimp only [bd]; exact (takeSeat_10_0 _ _ _ _).trans hikk2)) _ _ hP hD hS ls (lv_sub hl [0, 1] rfl)
      have hF : ((if (fX2_isSitting U2_0 (nI kk2)) = 0 then (if (fX2_bestPlace U2_0 (nI kk2)) = (-1) then U2_0 else (bd (fX2_takeSeat U2_0 (nI kk2) ((fX2_bestPlace U2_0 (nI kk2)) / 8) ((fX2_bestPlace U2_0 (nI kk2)) - (fX2_bestPlace U2_0 (nI kk2)) / 8 * 8)) (fun U39 => U39))) else U2_0) : PV) = (if (fX2_isSitting U2_0 (nI kk2)) = 0 then (if (fX2_bestPlace U2_0 (nI kk2)) = (-1) then U2_0 else (bd (fX2_takeSeat U2_0 (nI kk2) ((fX2_bestPlace U2_0 (nI kk2)) / 8) ((fX2_bestPlace U2_0 (nI kk2)) - (fX2_bestPlace U2_0 (nI kk2)) / 8 * 8)) (fun U39 => U39))) else U2_0) := rfl
      refine lv_if_ne (tgt := 42) hx hb dX2_seatStanding_15 (by decide) (fun c_15 => ?_) (fun c_15 => ?_)
      · have hF := hF.trans (if_neg c_15)
        exact K15 _ hF.symm _ _ hP hD hS  ls (lv_sub hl [0, 1] rfl)
      have hF := hF.trans (if_pos c_15)
      refine lv_aload_n hx hb dX2_seatStanding_18 rfl (lv_at hl 1 rfl) ?_
      refine lv_iload_n hx hb dX2_seatStanding_19 rfl (lv_at hl 0 rfl) ?_
      refine k_calli (W.runV (As := [.int (nI kk2)]) (rest := []) ⟨hx, hb, hml, hown, hts0⟩ (mX2_bestPlace l dC dI cI ad U2_0 (nI kk2)) (cwV 1 hts0 (gi_V u_484 u_485 u_486 u_2 u_487) rfl rfl rfl (by decide +kernel) ⟨Nat.le_of_ble_eq_true rfl, Nat.le_of_ble_eq_true rfl⟩) (pcR_V (ci := 2) (q0 := 0) hP hK hn rfl rfl) rfl rfl hl.1 rfl (lv_room (Nat.le_of_ble_eq_true rfl)) dX2_seatStanding_20 ⟨Nat.zero_le _, Nat.zero_le _⟩) ?_
      refine lv_istore_n (lv' := [(2, .int (fX2_bestPlace U2_0 (nI kk2))), (1, .int (nI kk2)), (0, .ref (ad 0))]) hx hb dX2_seatStanding_23 rfl hl (by decide) rfl (fun ls hl => ?_)
      refine lv_iload_n hx hb dX2_seatStanding_24 rfl (lv_at hl 0 rfl) ?_
      refine lv_iconst (v := (-1)) hx hb dX2_seatStanding_25 (by decide) ?_
      refine lv_icmp_eq (tgt := 42) hx hb dX2_seatStanding_26 (by decide) (fun c_26 => ?_) (fun c_26 => ?_)
      · have hF := hF.trans (if_pos c_26)
        exact K15 _ hF.symm _ _ hP hD hS  ls (lv_sub hl [1, 2] rfl)
      have hF := hF.trans (if_neg c_26)
      refine lv_aload_n hx hb dX2_seatStanding_29 rfl (lv_at hl 2 rfl) ?_
      refine lv_iload_n hx hb dX2_seatStanding_30 rfl (lv_at hl 1 rfl) ?_
      refine lv_iload_n hx hb dX2_seatStanding_31 rfl (lv_at hl 0 rfl) ?_
      refine lv_bipush (v := 8) hx hb dX2_seatStanding_32 (by decide) ?_
      refine lv_idiv hx hb dX2_seatStanding_34 (by decide) ?_
      refine lv_iload_n hx hb dX2_seatStanding_35 rfl (lv_at hl 0 rfl) ?_
      refine lv_bipush (v := 8) hx hb dX2_seatStanding_36 (by decide) ?_
      refine lv_irem hx hb dX2_seatStanding_38 (by decide) ?_
      refine k_mutv (Wd := (fun (v : PV) => pW cI ad v)) (va_runV (As := [.int (nI kk2), .int ((fX2_bestPlace U2_0 (nI kk2)) / 8), .int ((fX2_bestPlace U2_0 (nI kk2)) - (fX2_bestPlace U2_0 (nI kk2)) / 8 * 8)]) (rest := []) ⟨hx, hb, hml, hown, hts0⟩ (mX2_takeSeat l dC dI cI ad U2_0 (nI kk2) ((fX2_bestPlace U2_0 (nI kk2)) / 8) ((fX2_bestPlace U2_0 (nI kk2)) - (fX2_bestPlace U2_0 (nI kk2)) / 8 * 8)) (cwV 3 hts0 (gi_V u_506 u_507 u_508 u_2 u_509) rfl rfl rfl (by decide +kernel) ⟨Nat.le_of_ble_eq_true rfl, Nat.le_of_ble_eq_true rfl⟩) (pcM_V (ci := 2) (q0 := 0) hP hK hn hD rfl rfl) rfl rfl hl.1 rfl (lv_room (Nat.le_of_ble_eq_true rfl)) dX2_seatStanding_39 ⟨Nat.zero_le _, Nat.zero_le _⟩) hP hD hS [0, 1, 2, 3, 4, 5, 6, 7, 8, 9, 10, 11, 12] rfl rfl (fun _ => rfl) (fun U39 H locs hU39 hP hD hS => ?_)
      have hP : va_P (dC, dI) vwCl (pW cI ad U39) H := hP
      have hD : va_D A (pW cI ad U39) := hD
      have hF := bd_at hF hU39
      exact K15 _ hF.symm _ _ hP hD hS  ls (lv_sub hl [1, 2] rfl)
  exact L2 ((P 10 0).toNatClampNeg) 0 P (Nat.zero_add _) hF rfl _ _ hP hD hS ls (lv_sub hl [0, 1] rfl)

