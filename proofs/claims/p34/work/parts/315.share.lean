def fX4_shareMet_b4 (P : PV) (kk4 : Nat) (x4_1 : Int32) (nextkk4 : Int32 → UInt64) : UInt64 :=
  (bd ((if (fX3_at 16 (P 2) (nI kk4)) = (-1) then x4_1 else (x4_1 + 1)) : Int32) (fun v21_0 => (nextkk4 v21_0)))
def fX4_shareMet_r4 (P : PV) (x4_1 : Int32) : UInt64 :=
  (if x4_1 = 0 then FP.dconst1 else (FP.ddiv (FP.i2d (fX4_wishesMet P)) (FP.i2d x4_1)))
def fX4_shareMet (P : PV) : UInt64 :=
  (lq1 (fX4_shareMet_b4 P) (fX4_shareMet_r4 P) ((P 10 0).toNatClampNeg) 0 0)
abbrev rmX4_shareMet : Room := { frames := 4, cells := 0, slots := 0, locals := 108 }
set_option maxHeartbeats 4000000 in
set_option maxRecDepth 100000 in
theorem mX4_shareMet (l : Launch) (dC : Nat → ClassId) (dI : Nat → Nat → Nat) (cI : ClassId) (ad : Nat → Nat) (P : PV) (hG : IN (P 10 0) 16) : Met l yX4_shareMet (ws_ yX4_shareMet cX4_shareMet 3 (some .double)) rmX4_shareMet (pcR (dC, dI) [(cI, .int)] (pW cI ad P) [.ref (ad 0)]) (vp_Sd (fun r => r = fX4_shareMet P)) 0 0 (fun _ => False) := by
  refine Met.ofW (cc := cX4_shareMet) (maxL := 3) (ret := (some .double)) (by decide) rfl ?_
  intro p e s m args below meth c s₁ B hml hv
  obtain ⟨ha, hP, hK, hn⟩ := hv
  have hx := B.exec
  have hb := B.bytes
  have hr := B.returns
  have hts0 := atoms_spec (ws := (ws_ yX4_shareMet cX4_shareMet 3 (some .double))) B.pre
  have hts : ∀ w ∈ lw_all, w.before args s = true := fun w h => hts0 w (List.mem_cons_of_mem _ h)
  have hown : s.vm.findClass RX4 = some m.cls := findClass_of_methodNamed B.named
  have hlocks := B.notSynchronized
  have htX2 : ∀ w ∈ wsX20, w.before args s = true := fun w h => hts w (wX2 w h)
  obtain ⟨Q, hQ⟩ : ∃ Q, Q = MQ below (vp_Sd (fun r => r = fX4_shareMet P)) args s 0 0 (fun _ => False) := ⟨_, rfl⟩
  rw [← hQ]
  have hl := lv_entry ([.ref (ad 0)]) (n := 3) (Nat.le_of_ble_eq_true rfl)
  rw [ha, lg_entry_eq, ← ha]
  generalize (lg_sl ([.ref (ad 0)]) ++ List.replicate (3 - (lg_sl ([.ref (ad 0)])).length) Slot.unset).toArray = ls at hl ⊢
  have hl : lv_has ls 3 [(0, .ref (ad 0))] := hl
  show W p l e rmX4_shareMet s m args below meth c s.heap [] 0 0 Q (F0 m 0 ls [])
  have hF : fX4_shareMet P = fX4_shareMet P := rfl
  refine lv_iconst (v := 0) hx hb dX4_shareMet_0 (by decide) ?_
  refine lv_istore_n (lv' := [(1, .int 0), (0, .ref (ad 0))]) hx hb dX4_shareMet_1 rfl hl (by decide) rfl (fun ls hl => ?_)
  refine lv_iconst (v := 0) hx hb dX4_shareMet_2 (by decide) ?_
  refine lv_istore_n (lv' := [(2, .int 0), (1, .int 0), (0, .ref (ad 0))]) hx hb dX4_shareMet_3 rfl hl (by decide) rfl (fun ls hl => ?_)
  have L4 : ∀ (jj4 kk4 : Nat) (x4_1 : Int32), kk4 + jj4 = ((P 10 0).toNatClampNeg) → fX4_shareMet P = lq1 (fX4_shareMet_b4 P) (fX4_shareMet_r4 P) jj4 kk4 x4_1 → (∃ j : Nat, j ≤ kk4 ∧ x4_1 = nI j) → ∀ (ls : Array Slot), lv_has ls 3 [(2, .int (nI kk4)), (1, .int x4_1), (0, .ref (ad 0))] → W p l e rmX4_shareMet s m args below meth c s.heap [] 0 0 Q (F0 m 4 ls []) := by
    intro jj4
    induction jj4 using Nat.strongRecOn with
    | _ jj4 ihkk4 =>
      intro kk4 x4_1 hkkk4 hF hikk4  ls hl
      refine lv_iload_n hx hb dX4_shareMet_4 rfl (lv_at hl 0 rfl) ?_
      refine lv_aload_n hx hb dX4_shareMet_5 rfl (lv_at hl 2 rfl) ?_
      refine va_getN (D := (dC, dI)) (ci := 2) (v := .int (P 10 0)) (C := RX2) (T := TX2) (N := 14) hx hb htX2 (fun _ h => h) hown hK hP 0 rfl rfl 10 (by decide) (va_Nw.use rfl (hn _ (List.mem_of_getElem? (i := 14) rfl))) (fun _ h9 => h9) rfl dX4_shareMet_6 ?_
      refine lv_icmp_ge (tgt := 33) hx hb dX4_shareMet_9 (by decide) (fun c_9 => ?_) (fun c_9 => ?_)
      · obtain rfl := cn_exit hkkk4 c_9
        have hF := hF.trans (lq1_z _ _ _ _)
        refine lv_iload_n hx hb dX4_shareMet_33 rfl (lv_at hl 1 rfl) ?_
        refine lv_if_ne (tgt := 41) hx hb dX4_shareMet_34 (by decide) (fun c_34 => ?_) (fun c_34 => ?_)
        · have hF := hF.trans (if_neg c_34)
          refine lv_aload_n hx hb dX4_shareMet_41 rfl (lv_at hl 2 rfl) ?_
          refine k_calli (W.runS (As := [.ref (ad 0)]) (rest := []) ⟨hx, hb, hml, hown, hts0⟩ (mX4_wishesMet l dC dI cI ad P ) (va_cwS 1 hts0 (gi_S u_653 u_343 u_12 u_344) rfl rfl rfl (by decide +kernel) ⟨Nat.le_of_ble_eq_true rfl, Nat.le_of_ble_eq_true rfl⟩) (pcR_S hP hK hn) rfl rfl hl.1 rfl (lv_room (Nat.le_of_ble_eq_true rfl)) dX4_shareMet_42 ⟨Nat.zero_le _, Nat.zero_le _⟩) ?_
          refine lv_i2d hx hb dX4_shareMet_45 ?_
          refine lv_iload_n hx hb dX4_shareMet_46 rfl (lv_at hl 1 rfl) ?_
          refine lv_i2d hx hb dX4_shareMet_47 ?_
          refine lv_ddiv hx hb dX4_shareMet_48 (share_fin2 hG hikk4 hkkk4 c_34) ?_
          rw [hQ]
          exact W.dret (v := (FP.ddiv (FP.i2d (fX4_wishesMet P)) (FP.i2d x4_1))) hx hb hr (fun t ht hW => ⟨(FP.ddiv (FP.i2d (fX4_wishesMet P)) (FP.i2d x4_1)), rfl, hF.symm, ht⟩) (fun q hq => absurd hq List.not_mem_nil) dX4_shareMet_49
        have hF := hF.trans (if_pos c_34)
        refine lv_dconst1 hx hb dX4_shareMet_37 ?_
        refine lv_goto (tgt := 49) hx hb dX4_shareMet_38 (by decide) ?_
        rw [hQ]
        exact W.dret (v := FP.dconst1) hx hb hr (fun t ht hW => ⟨FP.dconst1, rfl, hF.symm, ht⟩) (fun q hq => absurd hq List.not_mem_nil) dX4_shareMet_49
      obtain ⟨jj4, rfl⟩ := cn_go hkkk4 c_9
      have hF := hF.trans (lq1_s _ _ _ _ _)
      obtain ⟨nextkk4, hnextkk4⟩ : ∃ y9, y9 = lq1 (fX4_shareMet_b4 P) (fX4_shareMet_r4 P) jj4 (kk4 + 1) := ⟨_, rfl⟩
      rw [← hnextkk4] at hF
      refine lv_aload_n hx hb dX4_shareMet_12 rfl (lv_at hl 2 rfl) ?_
      refine va_getN (D := (dC, dI)) (ci := 2) (v := .ref (ad 3)) (C := RX2) (T := TX2) (N := 14) hx hb htX2 (fun _ h => h) hown hK hP 0 rfl rfl 2 (by decide) (va_Nw.use rfl (hn _ (List.mem_of_getElem? (i := 5) rfl))) (fun _ h9 => h9) rfl dX4_shareMet_13 ?_
      refine lv_iload_n hx hb dX4_shareMet_16 rfl (lv_at hl 0 rfl) ?_
      refine k_calli (W.runS (As := [.ref (ad 3), .int (nI kk4)]) (rest := []) ⟨hx, hb, hml, hown, hts0⟩ (mX3_at l dC dI cI (ad 3) 16 (by decide) (P 2) (nI kk4)) (va_cwS 2 hts0 (gi_S u_305 u_303 u_7 u_304) rfl rfl rfl (by decide +kernel) ⟨Nat.le_of_ble_eq_true rfl, Nat.le_of_ble_eq_true rfl⟩) (pcR_S (hP.sub (ws' := aW cI (ad 3) 16 (P 2)) [3] rfl) hK hn) rfl rfl hl.1 rfl (lv_room (Nat.le_of_ble_eq_true rfl)) dX4_shareMet_17 ⟨Nat.zero_le _, Nat.zero_le _⟩) ?_
      refine lv_iconst (v := (-1)) hx hb dX4_shareMet_20 (by decide) ?_
      have K21 : ∀ (v21_0 : Int32), v21_0 = (if (fX3_at 16 (P 2) (nI kk4)) = (-1) then x4_1 else (x4_1 + 1)) → ∀ (ls : Array Slot), lv_has ls 3 [(2, .int (nI kk4)), (1, .int v21_0), (0, .ref (ad 0))] → W p l e rmX4_shareMet s m args below meth c s.heap [] 0 0 Q (F0 m 27 ls []) := by
        intro v21_0 hz21  ls hl
        have hz := hz21
        have hF := bd_at hF hz
        refine lv_iinc (v := (nI (kk4 + 1))) (lv' := [(2, .int (nI (kk4 + 1))), (1, .int v21_0), (0, .ref (ad 0))]) hx hb dX4_shareMet_27 hl (k := 0) rfl (nI_1 _) (by decide) rfl (fun ls hl => ?_)
        refine lv_goto (tgt := 4) hx hb dX4_shareMet_30 (by decide) ?_
        have hF : fX4_shareMet P = nextkk4 v21_0 := hF
        rw [hnextkk4] at hF
        exact ihkk4 jj4 (Nat.lt_succ_self _) (kk4 + 1) v21_0 (cn_next hkkk4) hF (sm_step hikk4 hz21) ls (lv_sub hl [0, 1, 2] rfl)
      have hF : ((if (fX3_at 16 (P 2) (nI kk4)) = (-1) then x4_1 else (x4_1 + 1)) : Int32) = (if (fX3_at 16 (P 2) (nI kk4)) = (-1) then x4_1 else (x4_1 + 1)) := rfl
      refine lv_icmp_eq (tgt := 27) hx hb dX4_shareMet_21 (by decide) (fun c_21 => ?_) (fun c_21 => ?_)
      · have hF := hF.trans (if_pos c_21)
        exact K21 _ hF.symm  ls (lv_sub hl [0, 1, 2] rfl)
      have hF := hF.trans (if_neg c_21)
      refine lv_iinc (v := (x4_1 + 1)) (lv' := [(1, .int (x4_1 + 1)), (2, .int (nI kk4)), (0, .ref (ad 0))]) hx hb dX4_shareMet_24 hl (k := 1) rfl rfl (by decide) rfl (fun ls hl => ?_)
      exact K21 _ hF.symm  ls (lv_sub hl [1, 0, 2] rfl)
  exact L4 ((P 10 0).toNatClampNeg) 0 0 (Nat.zero_add _) hF ⟨0, Nat.le_refl _, rfl⟩ ls (lv_sub hl [0, 1, 2] rfl)

