def fX2_standFamilyUp_b5 (tb : Int32) (a : Int32) (kk5 : Nat) (x5_3 : Int32) (U5_1 : PV) (nextkk5 : Int32 → PV → (Int32 × (PV))) : Int32 × (PV) :=
  (bd2 ((if (fX2_holderAt U5_1 tb (nI kk5)) = (-1) then (x5_3, U5_1) else (if (fX3_at 16 (U5_1 0) (fX2_holderAt U5_1 tb (nI kk5))) = a then (bd (fX2_standUp U5_1 (fX2_holderAt U5_1 tb (nI kk5))) (fun U46 => ((x5_3 + 1), U46))) else (x5_3, U5_1))) : Int32 × PV) (fun v27_0 U27_1 => (nextkk5 v27_0 U27_1)))
def fX2_standFamilyUp_r5 (x5_3 : Int32) (U5_1 : PV) : Int32 × (PV) :=
  (x5_3, U5_1)
def fX2_standFamilyUp (P : PV) (tb : Int32) (a : Int32) : Int32 × (PV) :=
  (lq2 (fX2_standFamilyUp_b5 tb a) fX2_standFamilyUp_r5 ((fX2_seatsAt P tb).toNatClampNeg) 0 0 P)
abbrev rmX2_standFamilyUp : Room := { frames := 3, cells := 0, slots := 0, locals := 69 }
set_option maxHeartbeats 4000000 in
set_option maxRecDepth 100000 in
theorem mX2_standFamilyUp (l : Launch) (dC : Nat → ClassId) (dI : Nat → Nat → Nat) (cI : ClassId) (ad : Nat → Nat) (P : PV) (tb : Int32) (a : Int32) : Met l yX2_standFamilyUp (ws_ yX2_standFamilyUp cX2_standFamilyUp 6 (some .int)) rmX2_standFamilyUp (pcM (dC, dI) [(cI, .int)] (pW cI ad P) [.ref (ad 0), .int tb, .int a]) (va_Qi (fun (r9 : Int32) (u9 : PV) => (r9, u9) = fX2_standFamilyUp P tb a) (fun u9 t => va_P (dC, dI) vwCl ((fun (v : PV) => pW cI ad v) u9) t.heap) (adr (pW cI ad P))) 0 0 (adr (pW cI ad P)) := by
  refine Met.ofW (cc := cX2_standFamilyUp) (maxL := 6) (ret := (some .int)) (by decide) rfl ?_
  intro p e s m args below meth c s₁ B hml hv
  obtain ⟨ha, hP, hK, hn, hD0⟩ := hv
  have hx := B.exec
  have hb := B.bytes
  have hr := B.returns
  have hts0 := atoms_spec (ws := (ws_ yX2_standFamilyUp cX2_standFamilyUp 6 (some .int))) B.pre
  have hts : ∀ w ∈ lw_all, w.before args s = true := fun w h => hts0 w (List.mem_cons_of_mem _ h)
  have hown : s.vm.findClass RX2 = some m.cls := findClass_of_methodNamed B.named
  have hlocks := B.notSynchronized
  have htX2 : ∀ w ∈ wsX20, w.before args s = true := fun w h => hts w (wX2 w h)
  have hD := adr_self hD0
  obtain ⟨A, hA⟩ : ∃ A, A = adr (pW cI ad P) := ⟨_, rfl⟩
  rw [← hA] at hD
  have hS : va_S A s.heap s.heap [] := va_S.rf
  obtain ⟨Q, hQ⟩ : ∃ Q, Q = MQ below (va_Qi (fun (r9 : Int32) (u9 : PV) => (r9, u9) = fX2_standFamilyUp P tb a) (fun u9 t => va_P (dC, dI) vwCl ((fun (v : PV) => pW cI ad v) u9) t.heap) (adr (pW cI ad P))) args s 0 0 (adr (pW cI ad P)) := ⟨_, rfl⟩
  rw [← hQ]
  rw [← hA] at hQ
  have hl := lv_entry ([.ref (ad 0), .int tb, .int a]) (n := 6) (Nat.le_of_ble_eq_true rfl)
  rw [ha, lg_entry_eq, ← ha]
  generalize (lg_sl ([.ref (ad 0), .int tb, .int a]) ++ List.replicate (6 - (lg_sl ([.ref (ad 0), .int tb, .int a])).length) Slot.unset).toArray = ls at hl ⊢
  have hl : lv_has ls 6 [(0, .ref (ad 0)), (1, .int tb), (2, .int a)] := hl
  show W p l e rmX2_standFamilyUp s m args below meth c s.heap [] 0 0 Q (F0 m 0 ls [])
  have hF : fX2_standFamilyUp P tb a = fX2_standFamilyUp P tb a := rfl
  refine lv_iconst (v := 0) hx hb dX2_standFamilyUp_0 (by decide) ?_
  refine lv_istore_n (lv' := [(3, .int 0), (0, .ref (ad 0)), (1, .int tb), (2, .int a)]) hx hb dX2_standFamilyUp_1 rfl hl (by decide) rfl (fun ls hl => ?_)
  refine lv_iconst (v := 0) hx hb dX2_standFamilyUp_2 (by decide) ?_
  refine lv_istore (lv' := [(4, .int 0), (3, .int 0), (0, .ref (ad 0)), (1, .int tb), (2, .int a)]) hx hb dX2_standFamilyUp_3 hl (by decide) rfl (fun ls hl => ?_)
  have L5 : ∀ (jj5 kk5 : Nat) (x5_3 : Int32) (U5_1 : PV), kk5 + jj5 = ((fX2_seatsAt P tb).toNatClampNeg) → fX2_standFamilyUp P tb a = lq2 (fX2_standFamilyUp_b5 tb a) fX2_standFamilyUp_r5 jj5 kk5 x5_3 U5_1 → U5_1 5 = P 5 → ∀ (H : Heap) (locs : List Loc), va_P (dC, dI) vwCl (pW cI ad U5_1) H → va_D A (pW cI ad U5_1) → va_S A s.heap H locs → ∀ (ls : Array Slot), lv_has ls 6 [(4, .int (nI kk5)), (3, .int x5_3), (0, .ref (ad 0)), (1, .int tb), (2, .int a)] → W p l e rmX2_standFamilyUp s m args below meth c H locs 0 0 Q (F0 m 5 ls []) := by
    intro jj5
    induction jj5 using Nat.strongRecOn with
    | _ jj5 ihkk5 =>
      intro kk5 x5_3 U5_1 hkkk5 hF hikk5 H locs hP hD hS ls hl
      refine lv_iload hx hb dX2_standFamilyUp_5 (lv_at hl 0 rfl) ?_
      refine lv_aload_n hx hb dX2_standFamilyUp_7 rfl (lv_at hl 2 rfl) ?_
      refine lv_iload_n hx hb dX2_standFamilyUp_8 rfl (lv_at hl 3 rfl) ?_
      refine k_calli (W.runV (As := [.int tb]) (rest := [.int (nI kk5)]) ⟨hx, hb, hml, hown, hts0⟩ (mX2_seatsAt l dC dI cI ad U5_1 tb) (cwV 1 hts0 (gi_V u_414 u_326 u_327 u_2 u_328) rfl rfl rfl (by decide +kernel) ⟨Nat.le_of_ble_eq_true rfl, Nat.le_of_ble_eq_true rfl⟩) (pcR_V (ci := 2) (q0 := 0) hP hK hn rfl rfl) rfl rfl hl.1 rfl (lv_room (Nat.le_of_ble_eq_true rfl)) dX2_standFamilyUp_9 ⟨Nat.zero_le _, Nat.zero_le _⟩) ?_
      refine lv_icmp_ge (tgt := 58) hx hb dX2_standFamilyUp_12 (by decide) (fun c_12 => ?_) (fun c_12 => ?_)
      · obtain rfl := cn_exit hkkk5 (by rw [← seatsAt_5 hikk5 tb]; exact c_12)
        have hF := hF.trans (lq2_z _ _ _ _ _)
        refine lv_iload_n hx hb dX2_standFamilyUp_58 rfl (lv_at hl 1 rfl) ?_
        rw [hQ]
        exact W.iret (v := x5_3) hx hb hr (fun t ht hW => ⟨⟨x5_3, U5_1, rfl, hF.symm, toH ht hP⟩, hS.F ht⟩) hS.2.2 dX2_standFamilyUp_59
      obtain ⟨jj5, rfl⟩ := cn_go hkkk5 (by rw [← seatsAt_5 hikk5 tb]; exact c_12)
      have hF := hF.trans (lq2_s _ _ _ _ _ _)
      obtain ⟨nextkk5, hnextkk5⟩ : ∃ y9, y9 = lq2 (fX2_standFamilyUp_b5 tb a) fX2_standFamilyUp_r5 jj5 (kk5 + 1) := ⟨_, rfl⟩
      rw [← hnextkk5] at hF
      refine lv_aload_n hx hb dX2_standFamilyUp_15 rfl (lv_at hl 2 rfl) ?_
      refine lv_iload_n hx hb dX2_standFamilyUp_16 rfl (lv_at hl 3 rfl) ?_
      refine lv_iload hx hb dX2_standFamilyUp_17 (lv_at hl 0 rfl) ?_
      refine k_calli (W.runV (As := [.int tb, .int (nI kk5)]) (rest := []) ⟨hx, hb, hml, hown, hts0⟩ (mX2_holderAt l dC dI cI ad U5_1 tb (nI kk5)) (cwV 2 hts0 (gi_V u_415 u_339 u_340 u_2 u_341) rfl rfl rfl (by decide +kernel) ⟨Nat.le_of_ble_eq_true rfl, Nat.le_of_ble_eq_true rfl⟩) (pcR_V (ci := 2) (q0 := 0) hP hK hn rfl rfl) rfl rfl hl.1 rfl (lv_room (Nat.le_of_ble_eq_true rfl)) dX2_standFamilyUp_19 ⟨Nat.zero_le _, Nat.zero_le _⟩) ?_
      refine lv_istore (lv' := [(5, .int (fX2_holderAt U5_1 tb (nI kk5))), (4, .int (nI kk5)), (3, .int x5_3), (0, .ref (ad 0)), (1, .int tb), (2, .int a)]) hx hb dX2_standFamilyUp_22 hl (by decide) rfl (fun ls hl => ?_)
      refine lv_iload hx hb dX2_standFamilyUp_24 (lv_at hl 0 rfl) ?_
      refine lv_iconst (v := (-1)) hx hb dX2_standFamilyUp_26 (by decide) ?_
      have K27 : ∀ (v27_0 : Int32) (U27_1 : PV), (v27_0, U27_1) = (if (fX2_holderAt U5_1 tb (nI kk5)) = (-1) then (x5_3, U5_1) else (if (fX3_at 16 (U5_1 0) (fX2_holderAt U5_1 tb (nI kk5))) = a then (bd (fX2_standUp U5_1 (fX2_holderAt U5_1 tb (nI kk5))) (fun U46 => ((x5_3 + 1), U46))) else (x5_3, U5_1))) → ∀ (H : Heap) (locs : List Loc), va_P (dC, dI) vwCl (pW cI ad U27_1) H → va_D A (pW cI ad U27_1) → va_S A s.heap H locs → ∀ (ls : Array Slot), lv_has ls 6 [(5, .int (fX2_holderAt U5_1 tb (nI kk5))), (4, .int (nI kk5)), (3, .int v27_0), (0, .ref (ad 0)), (1, .int tb), (2, .int a)] → W p l e rmX2_standFamilyUp s m args below meth c H locs 0 0 Q (F0 m 52 ls []) := by
        intro v27_0 U27_1 hz27 H locs hP hD hS ls hl
        have hz := hz27
        have hF := bd2_at hF hz
        refine lv_iinc (v := (nI (kk5 + 1))) (lv' := [(4, .int (nI (kk5 + 1))), (5, .int (fX2_holderAt U5_1 tb (nI kk5))), (3, .int v27_0), (0, .ref (ad 0)), (1, .int tb), (2, .int a)]) hx hb dX2_standFamilyUp_52 hl (k := 1) rfl (nI_1 _) (by decide) rfl (fun ls hl => ?_)
        refine lv_goto (tgt := 5) hx hb dX2_standFamilyUp_55 (by decide) ?_
        have hF : fX2_standFamilyUp P tb a = nextkk5 v27_0 U27_1 := hF
        rw [hnextkk5] at hF
        exact ihkk5 jj5 (Nat.lt_succ_self _) (kk5 + 1) v27_0 U27_1 (cn_next hkkk5) hF (by have e := congrArg Prod.snd hz; dsimp only at e; rw [e]; (repeat' split); all_goals exact hikk5) _ _ hP hD hS ls (lv_sub hl [0, 2, 3, 4, 5] rfl)
      have hF : ((if (fX2_holderAt U5_1 tb (nI kk5)) = (-1) then (x5_3, U5_1) else (if (fX3_at 16 (U5_1 0) (fX2_holderAt U5_1 tb (nI kk5))) = a then (bd (fX2_standUp U5_1 (fX2_holderAt U5_1 tb (nI kk5))) (fun U46 => ((x5_3 + 1), U46))) else (x5_3, U5_1))) : Int32 × PV) = (if (fX2_holderAt U5_1 tb (nI kk5)) = (-1) then (x5_3, U5_1) else (if (fX3_at 16 (U5_1 0) (fX2_holderAt U5_1 tb (nI kk5))) = a then (bd (fX2_standUp U5_1 (fX2_holderAt U5_1 tb (nI kk5))) (fun U46 => ((x5_3 + 1), U46))) else (x5_3, U5_1))) := rfl
      refine lv_icmp_eq (tgt := 52) hx hb dX2_standFamilyUp_27 (by decide) (fun c_27 => ?_) (fun c_27 => ?_)
      · have hF := hF.trans (if_pos c_27)
        exact K27 _ _ hF.symm _ _ hP hD hS  ls (lv_sub hl [0, 1, 2, 3, 4, 5] rfl)
      have hF := hF.trans (if_neg c_27)
      refine lv_aload_n hx hb dX2_standFamilyUp_30 rfl (lv_at hl 3 rfl) ?_
      refine va_get (D := (dC, dI)) (ci := 2) (v := .ref (ad 1)) (C := RX2) (T := TX2) (N := 14) hx hb htX2 (fun _ h => h) hown hK hP 0 rfl rfl 0 (by decide) (hts _ u_48) (fun _ h9 => h9) rfl dX2_standFamilyUp_31 ?_
      refine lv_iload hx hb dX2_standFamilyUp_34 (lv_at hl 0 rfl) ?_
      refine k_calli (W.runS (As := [.ref (ad 1), .int (fX2_holderAt U5_1 tb (nI kk5))]) (rest := []) ⟨hx, hb, hml, hown, hts0⟩ (mX3_at l dC dI cI (ad 1) 16 (by decide) (U5_1 0) (fX2_holderAt U5_1 tb (nI kk5))) (va_cwS 2 hts0 (gi_S u_302 u_303 u_7 u_304) rfl rfl rfl (by decide +kernel) ⟨Nat.le_of_ble_eq_true rfl, Nat.le_of_ble_eq_true rfl⟩) (pcR_S (hP.sub (ws' := aW cI (ad 1) 16 (U5_1 0)) [1] rfl) hK hn) rfl rfl hl.1 rfl (lv_room (Nat.le_of_ble_eq_true rfl)) dX2_standFamilyUp_36 ⟨Nat.zero_le _, Nat.zero_le _⟩) ?_
      refine lv_iload_n hx hb dX2_standFamilyUp_39 rfl (lv_at hl 5 rfl) ?_
      refine lv_icmp_ne (tgt := 52) hx hb dX2_standFamilyUp_40 (by decide) (fun c_40 => ?_) (fun c_40 => ?_)
      · have hF := hF.trans (if_neg c_40)
        exact K27 _ _ hF.symm _ _ hP hD hS  ls (lv_sub hl [0, 1, 2, 3, 4, 5] rfl)
      have hF := hF.trans (if_pos c_40)
      refine lv_aload_n hx hb dX2_standFamilyUp_43 rfl (lv_at hl 3 rfl) ?_
      refine lv_iload hx hb dX2_standFamilyUp_44 (lv_at hl 0 rfl) ?_
      refine k_mutv (Wd := (fun (v : PV) => pW cI ad v)) (va_runV (As := [.int (fX2_holderAt U5_1 tb (nI kk5))]) (rest := []) ⟨hx, hb, hml, hown, hts0⟩ (mX2_standUp l dC dI cI ad U5_1 (fX2_holderAt U5_1 tb (nI kk5))) (cwV 1 hts0 (gi_V u_510 u_511 u_512 u_2 u_513) rfl rfl rfl (by decide +kernel) ⟨Nat.le_of_ble_eq_true rfl, Nat.le_of_ble_eq_true rfl⟩) (pcM_V (ci := 2) (q0 := 0) hP hK hn hD rfl rfl) rfl rfl hl.1 rfl (lv_room (Nat.le_of_ble_eq_true rfl)) dX2_standFamilyUp_46 ⟨Nat.zero_le _, Nat.zero_le _⟩) hP hD hS [0, 1, 2, 3, 4, 5, 6, 7, 8, 9, 10, 11, 12] rfl rfl (fun _ => rfl) (fun U46 H locs hU46 hP hD hS => ?_)
      have hP : va_P (dC, dI) vwCl (pW cI ad U46) H := hP
      have hD : va_D A (pW cI ad U46) := hD
      have hF := bd_at hF hU46
      refine lv_iinc (v := (x5_3 + 1)) (lv' := [(3, .int (x5_3 + 1)), (5, .int (fX2_holderAt U5_1 tb (nI kk5))), (4, .int (nI kk5)), (0, .ref (ad 0)), (1, .int tb), (2, .int a)]) hx hb dX2_standFamilyUp_49 hl (k := 2) rfl rfl (by decide) rfl (fun ls hl => ?_)
      exact K27 _ _ hF.symm _ _ hP hD hS  ls (lv_sub hl [1, 2, 0, 3, 4, 5] rfl)
  exact L5 ((fX2_seatsAt P tb).toNatClampNeg) 0 0 P (Nat.zero_add _) hF rfl _ _ hP hD hS ls (lv_sub hl [0, 1, 2, 3, 4] rfl)

