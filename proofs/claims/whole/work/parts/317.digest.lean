def fX6_met (PN : PV) : UInt64 :=
  (fX4_shareMet PN)
abbrev rmX6_met : Room := { frames := 5, cells := 0, slots := 0, locals := 130 }
set_option maxHeartbeats 4000000 in
set_option maxRecDepth 100000 in
theorem mX6_met (l : Launch) (dC : Nat → ClassId) (dI : Nat → Nat → Nat) (cI cP : ClassId) (a0 : Nat) (aN aT aS : Nat → Nat) (t0 t1 t2 h0 h1 : Nat) (pa : Nat → Nat → Nat) (PN PT PS : PV) (f : Nat → Int32) (u : Int32) (Ps : Nat → PV) (oh vh : Nat) (k : Int32) (hG : IN (PN 10 0) 16) : Met l yX6_met (ws_ yX6_met cX6_met 1 (some .double)) rmX6_met (pcR (dC, dI) [(cI, .int), (cP, .object "SupperSeats$Plan")] (fW cI cP a0 aN aT aS t0 t1 t2 h0 h1 pa PN PT PS f u Ps oh vh k) [.ref a0]) (vp_Sd (fun r => r = fX6_met PN)) 0 0 (fun _ => False) := by
  refine Met.ofW (cc := cX6_met) (maxL := 1) (ret := (some .double)) (by decide) rfl ?_
  intro p e s m args below meth c s₁ B hml hv
  obtain ⟨ha, hP, hK, hn⟩ := hv
  have hx := B.exec
  have hb := B.bytes
  have hr := B.returns
  have hts0 := atoms_spec (ws := (ws_ yX6_met cX6_met 1 (some .double))) B.pre
  have hts : ∀ w ∈ lw_all, w.before args s = true := fun w h => hts0 w (List.mem_cons_of_mem _ h)
  have hown : s.vm.findClass RX6 = some m.cls := findClass_of_methodNamed B.named
  have hlocks := B.notSynchronized
  have htX6 : ∀ w ∈ wsX60, w.before args s = true := fun w h => hts w (wX6 w h)
  obtain ⟨Q, hQ⟩ : ∃ Q, Q = MQ below (vp_Sd (fun r => r = fX6_met PN)) args s 0 0 (fun _ => False) := ⟨_, rfl⟩
  rw [← hQ]
  have hl := lv_entry ([.ref a0]) (n := 1) (Nat.le_of_ble_eq_true rfl)
  rw [ha, lg_entry_eq, ← ha]
  generalize (lg_sl ([.ref a0]) ++ List.replicate (1 - (lg_sl ([.ref a0])).length) Slot.unset).toArray = ls at hl ⊢
  have hl : lv_has ls 1 [(0, .ref a0)] := hl
  show W p l e rmX6_met s m args below meth c s.heap [] 0 0 Q (F0 m 0 ls [])
  have hF : fX6_met PN = fX6_met PN := rfl
  refine lv_aload_n hx hb dX6_met_0 rfl (lv_at hl 0 rfl) ?_
  refine va_get (D := (dC, dI)) (ci := 4) (v := .ref (aN 0)) (C := RX6) (T := TX6) (N := 6) hx hb htX6 (fun _ h => h) hown hK (fl_at hP 0 rfl) 0 rfl rfl 0 (by decide) (hts _ u_143) (fun _ h9 => h9) rfl dX6_met_1 ?_
  refine k_calld (W.runS (As := [.ref (aN 0)]) (rest := []) ⟨hx, hb, hml, hown, hts0⟩ (mX4_shareMet l dC dI cI aN PN  hG) (va_cwS 1 hts0 (gi_S u_326 u_327 u_15 u_328) rfl rfl rfl (by decide +kernel) ⟨Nat.le_of_ble_eq_true rfl, Nat.le_of_ble_eq_true rfl⟩) (pcR_S (fl_at hP 1 rfl) (hK.sub (tys' := [(cI, .int)]) [0] rfl) hn) rfl rfl hl.1 rfl (lv_room (Nat.le_of_ble_eq_true rfl)) dX6_met_4 ⟨Nat.zero_le _, Nat.zero_le _⟩) ?_
  rw [hQ]
  exact W.dret (v := (fX4_shareMet PN)) hx hb hr (fun t ht hW => ⟨(fX4_shareMet PN), rfl, hF.symm, ht⟩) (fun q hq => absurd hq List.not_mem_nil) dX6_met_7

def fX6_bitsOfShare_b18 (kk18 : Nat) (x18_4 : Int64) (x18_2 : UInt64) (nextkk18 : Int64 → UInt64 → Int64) : Int64 :=
  (if 0 ≤ (Op.cmpValue (FP.dcmp x18_2 FP.dconst1) .g) then ((x18_4 <<< ((52 : Int32).toInt64 &&& 63)) + (FP.d2l (FP.dmul (FP.dsub x18_2 FP.dconst1) 4841369599423283200))) else (nextkk18 (x18_4 - 1) (FP.dmul x18_2 4611686018427387904)))
def fX6_bitsOfShare_r18 (x18_4 : Int64) (x18_2 : UInt64) : Int64 :=
  ((x18_4 <<< ((52 : Int32).toInt64 &&& 63)) + (FP.d2l (FP.dmul (FP.dsub x18_2 FP.dconst1) 4841369599423283200)))
def fX6_bitsOfShare (v : UInt64) : Int64 :=
  (if 0 < (Op.cmpValue (FP.dcmp v FP.dconst0) .g) then (lq2 fX6_bitsOfShare_b18 fX6_bitsOfShare_r18 64 0 1023 v) else 0)
abbrev rmX6_bitsOfShare : Room := { frames := 0, cells := 0, slots := 0, locals := 0 }
set_option maxHeartbeats 4000000 in
set_option maxRecDepth 100000 in
theorem mX6_bitsOfShare (l : Launch) (dC : Nat → ClassId) (dI : Nat → Nat → Nat)  (v : UInt64) (hv : okB v = true) : Met l yX6_bitsOfShare (ws_ yX6_bitsOfShare cX6_bitsOfShare 8 (some .long)) rmX6_bitsOfShare (pcR (dC, dI) [] [] [.double v]) (vp_Sl (fun r => r = fX6_bitsOfShare v)) 0 0 (fun _ => False) := by
  refine Met.ofW (cc := cX6_bitsOfShare) (maxL := 8) (ret := (some .long)) (by decide) rfl ?_
  intro p e s m args below meth c s₁ B hml hv
  obtain ⟨ha, hP, hK, hn⟩ := hv
  have hx := B.exec
  have hb := B.bytes
  have hr := B.returns
  have hts0 := atoms_spec (ws := (ws_ yX6_bitsOfShare cX6_bitsOfShare 8 (some .long))) B.pre
  have hts : ∀ w ∈ lw_all, w.before args s = true := fun w h => hts0 w (List.mem_cons_of_mem _ h)
  have hown : s.vm.findClass RX6 = some m.cls := findClass_of_methodNamed B.named
  have hlocks := B.notSynchronized
  obtain ⟨Q, hQ⟩ : ∃ Q, Q = MQ below (vp_Sl (fun r => r = fX6_bitsOfShare v)) args s 0 0 (fun _ => False) := ⟨_, rfl⟩
  rw [← hQ]
  have hl := lv_entry ([.double v]) (n := 8) (Nat.le_of_ble_eq_true rfl)
  rw [ha, lg_entry_eq, ← ha]
  generalize (lg_sl ([.double v]) ++ List.replicate (8 - (lg_sl ([.double v])).length) Slot.unset).toArray = ls at hl ⊢
  have hl : lv_has ls 8 [(0, .double v)] := hl
  show W p l e rmX6_bitsOfShare s m args below meth c s.heap [] 0 0 Q (F0 m 0 ls [])
  have hF : fX6_bitsOfShare v = fX6_bitsOfShare v := rfl
  refine lv_dload_n hx hb dX6_bitsOfShare_0 rfl (lv_at hl 0 rfl) ?_
  refine lv_dconst0 hx hb dX6_bitsOfShare_1 ?_
  refine lv_dcmp hx hb dX6_bitsOfShare_2 ?_
  refine lv_if_gt (tgt := 8) hx hb dX6_bitsOfShare_3 (by decide) (fun c_3 => ?_) (fun c_3 => ?_)
  · have hF := hF.trans (if_pos c_3)
    obtain ⟨n, hn, hex⟩ := (okB_end hv).resolve_left (fun z => z.2 c_3)
    refine lv_dload_n hx hb dX6_bitsOfShare_8 rfl (lv_at hl 0 rfl) ?_
    refine lv_dstore_n (lv' := [(2, .double v), (0, .double v)]) hx hb dX6_bitsOfShare_9 rfl hl (by decide) rfl (fun ls hl => ?_)
    refine lv_ldc2 (v := 1023) hx hb hown (hts _ u_436) dX6_bitsOfShare_10 ?_
    refine lv_lstore (lv' := [(4, .long 1023), (2, .double v), (0, .double v)]) hx hb dX6_bitsOfShare_13 hl (by decide) rfl (fun ls hl => ?_)
    refine lv_iconst (v := 0) hx hb dX6_bitsOfShare_15 (by decide) ?_
    refine lv_istore (lv' := [(6, .int 0), (4, .long 1023), (2, .double v), (0, .double v)]) hx hb dX6_bitsOfShare_16 hl (by decide) rfl (fun ls hl => ?_)
    have L18 : ∀ (jj18 kk18 : Nat) (x18_4 : Int64) (x18_2 : UInt64), kk18 + jj18 = 64 → fX6_bitsOfShare v = lq2 fX6_bitsOfShare_b18 fX6_bitsOfShare_r18 jj18 kk18 x18_4 x18_2 → (x18_2 = dbl v kk18 ∧ kk18 ≤ n) → ∀ (ls : Array Slot), lv_has ls 8 [(6, .int (nI kk18)), (4, .long x18_4), (2, .double x18_2), (0, .double v)] → W p l e rmX6_bitsOfShare s m args below meth c s.heap [] 0 0 Q (F0 m 18 ls []) := by
      intro jj18
      induction jj18 using Nat.strongRecOn with
      | _ jj18 ihkk18 =>
        intro kk18 x18_4 x18_2 hkkk18 hF hikk18  ls hl
        refine lv_iload hx hb dX6_bitsOfShare_18 (lv_at hl 0 rfl) ?_
        refine lv_bipush (v := 64) hx hb dX6_bitsOfShare_20 (by decide) ?_
        refine lv_icmp_ge (tgt := 49) hx hb dX6_bitsOfShare_22 (by decide) (fun c_22 => ?_) (fun c_22 => ?_)
        · obtain rfl := cn_exitN (N := 64) hkkk18 (by decide) c_22
          have hF := hF.trans (lq2_z _ _ _ _ _)
          refine lv_dload_n hx hb dX6_bitsOfShare_49 rfl (lv_at hl 2 rfl) ?_
          refine lv_dconst1 hx hb dX6_bitsOfShare_50 ?_
          refine lv_dsub hx hb dX6_bitsOfShare_51 (by rw [hikk18.1]; exact (okB_fin hv (k := kk18) (by have := hikk18.2; omega)).2.1) ?_
          refine lv_ldc2d (v := 4841369599423283200) hx hb hown (hts _ u_438) dX6_bitsOfShare_52 ?_
          refine lv_dmul hx hb dX6_bitsOfShare_55 (by rw [hikk18.1]; exact (okB_fin hv (k := kk18) (by have := hikk18.2; omega)).2.2) ?_
          refine lv_dstore (lv' := [(6, .double (FP.dmul (FP.dsub x18_2 FP.dconst1) 4841369599423283200)), (4, .long x18_4), (2, .double x18_2), (0, .double v)]) hx hb dX6_bitsOfShare_56 hl (by decide) rfl (fun ls hl => ?_)
          refine lv_lload hx hb dX6_bitsOfShare_58 (lv_at hl 1 rfl) ?_
          refine lv_bipush (v := 52) hx hb dX6_bitsOfShare_60 (by decide) ?_
          refine lv_lshl (v := (x18_4 <<< ((52 : Int32).toInt64 &&& 63))) hx hb dX6_bitsOfShare_62 rfl ?_
          refine lv_dload hx hb dX6_bitsOfShare_63 (lv_at hl 0 rfl) ?_
          refine lv_d2l hx hb dX6_bitsOfShare_65 ?_
          refine lv_ladd hx hb dX6_bitsOfShare_66 ?_
          rw [hQ]
          exact W.lret (v := ((x18_4 <<< ((52 : Int32).toInt64 &&& 63)) + (FP.d2l (FP.dmul (FP.dsub x18_2 FP.dconst1) 4841369599423283200)))) hx hb hr (fun t ht hW => ⟨((x18_4 <<< ((52 : Int32).toInt64 &&& 63)) + (FP.d2l (FP.dmul (FP.dsub x18_2 FP.dconst1) 4841369599423283200))), rfl, hF.symm, ht⟩) (fun q hq => absurd hq List.not_mem_nil) dX6_bitsOfShare_67
        obtain ⟨jj18, rfl⟩ := cn_goN (N := 64) hkkk18 (by decide) c_22
        have hF := hF.trans (lq2_s _ _ _ _ _ _)
        obtain ⟨nextkk18, hnextkk18⟩ : ∃ y9, y9 = lq2 fX6_bitsOfShare_b18 fX6_bitsOfShare_r18 jj18 (kk18 + 1) := ⟨_, rfl⟩
        rw [← hnextkk18] at hF
        refine lv_dload_n hx hb dX6_bitsOfShare_25 rfl (lv_at hl 2 rfl) ?_
        refine lv_dconst1 hx hb dX6_bitsOfShare_26 ?_
        refine lv_dcmp hx hb dX6_bitsOfShare_27 ?_
        refine lv_if_ge (tgt := 49) hx hb dX6_bitsOfShare_28 (by decide) (fun c_28 => ?_) (fun c_28 => ?_)
        · have hF := hF.trans (if_pos c_28)
          refine lv_dload_n hx hb dX6_bitsOfShare_49 rfl (lv_at hl 2 rfl) ?_
          refine lv_dconst1 hx hb dX6_bitsOfShare_50 ?_
          refine lv_dsub hx hb dX6_bitsOfShare_51 (by rw [hikk18.1]; exact (okB_fin hv (k := kk18) (by have := hikk18.2; omega)).2.1) ?_
          refine lv_ldc2d (v := 4841369599423283200) hx hb hown (hts _ u_438) dX6_bitsOfShare_52 ?_
          refine lv_dmul hx hb dX6_bitsOfShare_55 (by rw [hikk18.1]; exact (okB_fin hv (k := kk18) (by have := hikk18.2; omega)).2.2) ?_
          refine lv_dstore (lv' := [(6, .double (FP.dmul (FP.dsub x18_2 FP.dconst1) 4841369599423283200)), (4, .long x18_4), (2, .double x18_2), (0, .double v)]) hx hb dX6_bitsOfShare_56 hl (by decide) rfl (fun ls hl => ?_)
          refine lv_lload hx hb dX6_bitsOfShare_58 (lv_at hl 1 rfl) ?_
          refine lv_bipush (v := 52) hx hb dX6_bitsOfShare_60 (by decide) ?_
          refine lv_lshl (v := (x18_4 <<< ((52 : Int32).toInt64 &&& 63))) hx hb dX6_bitsOfShare_62 rfl ?_
          refine lv_dload hx hb dX6_bitsOfShare_63 (lv_at hl 0 rfl) ?_
          refine lv_d2l hx hb dX6_bitsOfShare_65 ?_
          refine lv_ladd hx hb dX6_bitsOfShare_66 ?_
          rw [hQ]
          exact W.lret (v := ((x18_4 <<< ((52 : Int32).toInt64 &&& 63)) + (FP.d2l (FP.dmul (FP.dsub x18_2 FP.dconst1) 4841369599423283200)))) hx hb hr (fun t ht hW => ⟨((x18_4 <<< ((52 : Int32).toInt64 &&& 63)) + (FP.d2l (FP.dmul (FP.dsub x18_2 FP.dconst1) 4841369599423283200))), rfl, hF.symm, ht⟩) (fun q hq => absurd hq List.not_mem_nil) dX6_bitsOfShare_67
        have hF := hF.trans (if_neg c_28)
        refine lv_dload_n hx hb dX6_bitsOfShare_31 rfl (lv_at hl 2 rfl) ?_
        refine lv_ldc2d (v := 4611686018427387904) hx hb hown (hts _ u_437) dX6_bitsOfShare_32 ?_
        refine lv_dmul hx hb dX6_bitsOfShare_35 (by rw [hikk18.1]; exact (okB_fin hv (k := kk18 + 1) (by have := hikk18.2; omega)).1) ?_
        refine lv_dstore_n (lv' := [(2, .double (FP.dmul x18_2 4611686018427387904)), (6, .int (nI kk18)), (4, .long x18_4), (0, .double v)]) hx hb dX6_bitsOfShare_36 rfl hl (by decide) rfl (fun ls hl => ?_)
        refine lv_lload hx hb dX6_bitsOfShare_37 (lv_at hl 2 rfl) ?_
        refine lv_lconst (v := 1) hx hb dX6_bitsOfShare_39 (by decide) ?_
        refine lv_lsub hx hb dX6_bitsOfShare_40 ?_
        refine lv_lstore (lv' := [(4, .long (x18_4 - 1)), (2, .double (FP.dmul x18_2 4611686018427387904)), (6, .int (nI kk18)), (0, .double v)]) hx hb dX6_bitsOfShare_41 hl (by decide) rfl (fun ls hl => ?_)
        refine lv_iinc (v := (nI (kk18 + 1))) (lv' := [(6, .int (nI (kk18 + 1))), (4, .long (x18_4 - 1)), (2, .double (FP.dmul x18_2 4611686018427387904)), (0, .double v)]) hx hb dX6_bitsOfShare_43 hl (k := 2) rfl (nI_1 _) (by decide) rfl (fun ls hl => ?_)
        refine lv_goto (tgt := 18) hx hb dX6_bitsOfShare_46 (by decide) ?_
        have hF : fX6_bitsOfShare v = nextkk18 (x18_4 - 1) (FP.dmul x18_2 4611686018427387904) := hF
        rw [hnextkk18] at hF
        exact ihkk18 jj18 (Nat.lt_succ_self _) (kk18 + 1) (x18_4 - 1) (FP.dmul x18_2 4611686018427387904) (cn_next hkkk18) hF (bits_step hikk18.1 hikk18.2 hex c_28) ls (lv_sub hl [0, 1, 2, 3] rfl)
    exact L18 64 0 1023 v (Nat.zero_add _) hF ⟨rfl, Nat.zero_le _⟩ ls (lv_sub hl [0, 1, 2, 3] rfl)
  have hF := hF.trans (if_neg c_3)
  refine lv_lconst (v := 0) hx hb dX6_bitsOfShare_6 (by decide) ?_
  rw [hQ]
  exact W.lret (v := 0) hx hb hr (fun t ht hW => ⟨0, rfl, hF.symm, ht⟩) (fun q hq => absurd hq List.not_mem_nil) dX6_bitsOfShare_7

def fX6_digest_b103 (PN : PV) (kk103 : Nat) (x103_1 : Int64) (U103_1 : PV) (nextkk103 : Int64 → PV → (Int64 × (PV))) : Int64 × (PV) :=
  (bd2 (fX6_seatedNumber PN U103_1 (nI kk103)) (fun r115 U115 => (nextkk103 ((31 * x103_1) + r115.toInt64) U115)))
def fX6_digest_r103 (PN : PV) (f : Nat → Int32) (u : Int32) (x103_1 : Int64) (U103_1 : PV) : Int64 × (PV) :=
  ((fX6_hashLine 60 f u ((31 * ((31 * x103_1) + (fX6_bitsOfShare (fX4_shareMet PN)))) + (fX1_length 60 f u).toInt64)), U103_1)
def fX6_digest_b6 (PN : PV) (Ps : Nat → PV) (oh : Nat) (vh : Nat) (kk6 : Nat) (x6_1 : Int64) (nextkk6 : Int64 → (Int64 × (PV))) : Int64 × (PV) :=
  (nextkk6 ((31 * x6_1) + (fX6_countNumber PN Ps oh vh (nI kk6)).toInt64))
def fX6_digest_r6 (PN : PV) (PT : PV) (f : Nat → Int32) (u : Int32) (x6_1 : Int64) : Int64 × (PV) :=
  (lq2 (fX6_digest_b103 PN) (fX6_digest_r103 PN f u) ((2 : Int32).toNatClampNeg) 0 ((31 * ((31 * (fX6_hashLine 8 (PN 8) (PN 10 4) (fX6_hashLine 16 (PN 9) (PN 10 5) (fX6_hashTables PN (fX6_hashGuests PN x6_1))))) + (fX2_risersOfFeud PN 0 1).toInt64)) + (fX2_risersOfFeud PN 2 3).toInt64) PT)
def fX6_digest (PN : PV) (PT : PV) (f : Nat → Int32) (u : Int32) (Ps : Nat → PV) (oh : Nat) (vh : Nat) : Int64 × (PV) :=
  (lq1 (fX6_digest_b6 PN Ps oh vh) (fX6_digest_r6 PN PT f u) ((14 : Int32).toNatClampNeg) 0 3719)
abbrev rmX6_digest : Room := { frames := 6, cells := 0, slots := 0, locals := 160 }
set_option maxHeartbeats 4000000 in
set_option maxRecDepth 100000 in
theorem mX6_digest (l : Launch) (dC : Nat → ClassId) (dI : Nat → Nat → Nat) (cI cP : ClassId) (a0 : Nat) (aN aT aS : Nat → Nat) (t0 t1 t2 h0 h1 : Nat) (pa : Nat → Nat → Nat) (PN PT PS : PV) (f : Nat → Int32) (u : Int32) (Ps : Nat → PV) (oh vh : Nat) (k : Int32) (hG : IN (PN 10 0) 16) : Met l yX6_digest (ws_ yX6_digest cX6_digest 4 (some .long)) rmX6_digest (pcM (dC, dI) [(cI, .int), (cP, .object "SupperSeats$Plan")] (fW cI cP a0 aN aT aS t0 t1 t2 h0 h1 pa PN PT PS f u Ps oh vh k) [.ref a0]) (va_Ql (fun (r9 : Int64) (u9 : PV) => (r9, u9) = fX6_digest PN PT f u Ps oh vh) (fun u9 t => va_P (dC, dI) vwCl ((fun (v9 : PV) => fW cI cP a0 aN aT aS t0 t1 t2 h0 h1 pa PN v9 PS f u Ps oh vh k) u9) t.heap) (adr (fW cI cP a0 aN aT aS t0 t1 t2 h0 h1 pa PN PT PS f u Ps oh vh k))) 0 0 (adr (fW cI cP a0 aN aT aS t0 t1 t2 h0 h1 pa PN PT PS f u Ps oh vh k)) := by
  refine Met.ofW (cc := cX6_digest) (maxL := 4) (ret := (some .long)) (by decide) rfl ?_
  intro p e s m args below meth c s₁ B hml hv
  obtain ⟨ha, hP, hK, hn, hD0⟩ := hv
  have hx := B.exec
  have hb := B.bytes
  have hr := B.returns
  have hts0 := atoms_spec (ws := (ws_ yX6_digest cX6_digest 4 (some .long))) B.pre
  have hts : ∀ w ∈ lw_all, w.before args s = true := fun w h => hts0 w (List.mem_cons_of_mem _ h)
  have hown : s.vm.findClass RX6 = some m.cls := findClass_of_methodNamed B.named
  have hlocks := B.notSynchronized
  have htX6 : ∀ w ∈ wsX60, w.before args s = true := fun w h => hts w (wX6 w h)
  have htX2 : ∀ w ∈ wsX20, w.before args s = true := fun w h => hts w (wX2 w h)
  have htX5 : ∀ w ∈ wsX50, w.before args s = true := fun w h => hts w (wX5 w h)
  have hD := adr_self hD0
  obtain ⟨A, hA⟩ : ∃ A, A = adr (fW cI cP a0 aN aT aS t0 t1 t2 h0 h1 pa PN PT PS f u Ps oh vh k) := ⟨_, rfl⟩
  rw [← hA] at hD
  have hS : va_S A s.heap s.heap [] := va_S.rf
  obtain ⟨Q, hQ⟩ : ∃ Q, Q = MQ below (va_Ql (fun (r9 : Int64) (u9 : PV) => (r9, u9) = fX6_digest PN PT f u Ps oh vh) (fun u9 t => va_P (dC, dI) vwCl ((fun (v9 : PV) => fW cI cP a0 aN aT aS t0 t1 t2 h0 h1 pa PN v9 PS f u Ps oh vh k) u9) t.heap) (adr (fW cI cP a0 aN aT aS t0 t1 t2 h0 h1 pa PN PT PS f u Ps oh vh k))) args s 0 0 (adr (fW cI cP a0 aN aT aS t0 t1 t2 h0 h1 pa PN PT PS f u Ps oh vh k)) := ⟨_, rfl⟩
  rw [← hQ]
  rw [← hA] at hQ
  have hl := lv_entry ([.ref a0]) (n := 4) (Nat.le_of_ble_eq_true rfl)
  rw [ha, lg_entry_eq, ← ha]
  generalize (lg_sl ([.ref a0]) ++ List.replicate (4 - (lg_sl ([.ref a0])).length) Slot.unset).toArray = ls at hl ⊢
  have hl : lv_has ls 4 [(0, .ref a0)] := hl
  show W p l e rmX6_digest s m args below meth c s.heap [] 0 0 Q (F0 m 0 ls [])
  have hF : fX6_digest PN PT f u Ps oh vh = fX6_digest PN PT f u Ps oh vh := rfl
  refine lv_ldc2 (v := 3719) hx hb hown (hts _ u_340) dX6_digest_0 ?_
  refine lv_lstore_n (lv' := [(1, .long 3719), (0, .ref a0)]) hx hb dX6_digest_3 rfl hl (by decide) rfl (fun ls hl => ?_)
  refine lv_iconst (v := 0) hx hb dX6_digest_4 (by decide) ?_
  refine lv_istore_n (lv' := [(3, .int 0), (1, .long 3719), (0, .ref a0)]) hx hb dX6_digest_5 rfl hl (by decide) rfl (fun ls hl => ?_)
  have L6 : ∀ (jj6 kk6 : Nat) (x6_1 : Int64), kk6 + jj6 = ((14 : Int32).toNatClampNeg) → fX6_digest PN PT f u Ps oh vh = lq1 (fX6_digest_b6 PN Ps oh vh) (fX6_digest_r6 PN PT f u) jj6 kk6 x6_1 → ∀ (H : Heap) (locs : List Loc), va_P (dC, dI) vwCl (fW cI cP a0 aN aT aS t0 t1 t2 h0 h1 pa PN PT PS f u Ps oh vh k) H → va_D A (fW cI cP a0 aN aT aS t0 t1 t2 h0 h1 pa PN PT PS f u Ps oh vh k) → va_S A s.heap H locs → ∀ (ls : Array Slot), lv_has ls 4 [(3, .int (nI kk6)), (1, .long x6_1), (0, .ref a0)] → W p l e rmX6_digest s m args below meth c H locs 0 0 Q (F0 m 6 ls []) := by
    intro jj6
    induction jj6 using Nat.strongRecOn with
    | _ jj6 ihkk6 =>
      intro kk6 x6_1 hkkk6 hF H locs hP hD hS ls hl
      refine lv_iload_n hx hb dX6_digest_6 rfl (lv_at hl 0 rfl) ?_
      refine lv_bipush (v := 14) hx hb dX6_digest_7 (by decide) ?_
      refine lv_icmp_ge (tgt := 31) hx hb dX6_digest_9 (by decide) (fun c_9 => ?_) (fun c_9 => ?_)
      · obtain rfl := cn_exit hkkk6 c_9
        have hF := hF.trans (lq1_z _ _ _ _)
        refine lv_aload_n hx hb dX6_digest_31 rfl (lv_at hl 2 rfl) ?_
        refine lv_lload_n hx hb dX6_digest_32 rfl (lv_at hl 1 rfl) ?_
        refine k_calll (W.runV (As := [.long x6_1]) (rest := []) ⟨hx, hb, hml, hown, hts0⟩ (mX6_hashGuests l dC dI cI cP a0 aN aT aS t0 t1 t2 h0 h1 pa PN PT PS f u Ps oh vh k x6_1) (cwV 1 hts0 (gi_V u_365 u_367 us_2 u_1 u_368) rfl rfl rfl (by decide +kernel) ⟨Nat.le_of_ble_eq_true rfl, Nat.le_of_ble_eq_true rfl⟩) (pcR_V (ci := 4) (q0 := 0) hP hK hn rfl rfl) rfl rfl hl.1 rfl (lv_room (Nat.le_of_ble_eq_true rfl)) dX6_digest_33 ⟨Nat.zero_le _, Nat.zero_le _⟩) ?_
        refine lv_lstore_n (lv' := [(1, .long (fX6_hashGuests PN x6_1)), (3, .int (nI kk6)), (0, .ref a0)]) hx hb dX6_digest_36 rfl hl (by decide) rfl (fun ls hl => ?_)
        refine lv_aload_n hx hb dX6_digest_37 rfl (lv_at hl 2 rfl) ?_
        refine lv_lload_n hx hb dX6_digest_38 rfl (lv_at hl 0 rfl) ?_
        refine k_calll (W.runV (As := [.long (fX6_hashGuests PN x6_1)]) (rest := []) ⟨hx, hb, hml, hown, hts0⟩ (mX6_hashTables l dC dI cI cP a0 aN aT aS t0 t1 t2 h0 h1 pa PN PT PS f u Ps oh vh k (fX6_hashGuests PN x6_1)) (cwV 1 hts0 (gi_V u_376 u_378 us_4 u_1 u_379) rfl rfl rfl (by decide +kernel) ⟨Nat.le_of_ble_eq_true rfl, Nat.le_of_ble_eq_true rfl⟩) (pcR_V (ci := 4) (q0 := 0) hP hK hn rfl rfl) rfl rfl hl.1 rfl (lv_room (Nat.le_of_ble_eq_true rfl)) dX6_digest_39 ⟨Nat.zero_le _, Nat.zero_le _⟩) ?_
        refine lv_lstore_n (lv' := [(1, .long (fX6_hashTables PN (fX6_hashGuests PN x6_1))), (3, .int (nI kk6)), (0, .ref a0)]) hx hb dX6_digest_42 rfl hl (by decide) rfl (fun ls hl => ?_)
        refine lv_lload_n hx hb dX6_digest_43 rfl (lv_at hl 0 rfl) ?_
        refine lv_aload_n hx hb dX6_digest_44 rfl (lv_at hl 2 rfl) ?_
        refine va_get (D := (dC, dI)) (ci := 4) (v := .ref (aN 0)) (C := RX6) (T := TX6) (N := 6) hx hb htX6 (fun _ h => h) hown hK (fl_at hP 0 rfl) 0 rfl rfl 0 (by decide) (hts _ u_143) (fun _ h9 => h9) rfl dX6_digest_45 ?_
        refine va_getN (D := (dC, dI)) (ci := 2) (v := .ref (aN 11)) (C := RX2) (T := TX2) (N := 14) hx hb htX2 (fun _ h => h) hown hK (fl_at hP 1 rfl) 0 rfl rfl 9 (by decide) (va_Nw.use rfl (hn _ (List.mem_of_getElem? (i := 13) rfl))) (fun _ h9 => h9) rfl dX6_digest_48 ?_
        refine k_calll (W.runS (As := [.long (fX6_hashTables PN (fX6_hashGuests PN x6_1)), .ref (aN 11)]) (rest := []) ⟨hx, hb, hml, hown, hts0⟩ (mX6_hashLine l dC dI cI (aN 11) (aN 12) 16 (by decide) (PN 9) (PN 10 5) (fX6_hashTables PN (fX6_hashGuests PN x6_1))) (va_cwS 2 hts0 (gi_S u_404 u_405 u_1 u_406) rfl rfl rfl (by decide +kernel) ⟨Nat.le_of_ble_eq_true rfl, Nat.le_of_ble_eq_true rfl⟩) (pcR_S ((fl_at hP 1 rfl).sub (ws' := lW cI (aN 11) (aN 12) 16 (PN 9) (PN 10 5)) [11, 12] rfl) (hK.sub (tys' := [(cI, .int)]) [0] rfl) hn) rfl rfl hl.1 rfl (lv_room (Nat.le_of_ble_eq_true rfl)) dX6_digest_51 ⟨Nat.zero_le _, Nat.zero_le _⟩) ?_
        refine lv_lstore_n (lv' := [(1, .long (fX6_hashLine 16 (PN 9) (PN 10 5) (fX6_hashTables PN (fX6_hashGuests PN x6_1)))), (3, .int (nI kk6)), (0, .ref a0)]) hx hb dX6_digest_54 rfl hl (by decide) rfl (fun ls hl => ?_)
        refine lv_lload_n hx hb dX6_digest_55 rfl (lv_at hl 0 rfl) ?_
        refine lv_aload_n hx hb dX6_digest_56 rfl (lv_at hl 2 rfl) ?_
        refine va_get (D := (dC, dI)) (ci := 4) (v := .ref (aN 0)) (C := RX6) (T := TX6) (N := 6) hx hb htX6 (fun _ h => h) hown hK (fl_at hP 0 rfl) 0 rfl rfl 0 (by decide) (hts _ u_143) (fun _ h9 => h9) rfl dX6_digest_57 ?_
        refine va_getN (D := (dC, dI)) (ci := 2) (v := .ref (aN 9)) (C := RX2) (T := TX2) (N := 14) hx hb htX2 (fun _ h => h) hown hK (fl_at hP 1 rfl) 0 rfl rfl 8 (by decide) (va_Nw.use rfl (hn _ (List.mem_of_getElem? (i := 12) rfl))) (fun _ h9 => h9) rfl dX6_digest_60 ?_
        refine k_calll (W.runS (As := [.long (fX6_hashLine 16 (PN 9) (PN 10 5) (fX6_hashTables PN (fX6_hashGuests PN x6_1))), .ref (aN 9)]) (rest := []) ⟨hx, hb, hml, hown, hts0⟩ (mX6_hashLine l dC dI cI (aN 9) (aN 10) 8 (by decide) (PN 8) (PN 10 4) (fX6_hashLine 16 (PN 9) (PN 10 5) (fX6_hashTables PN (fX6_hashGuests PN x6_1)))) (va_cwS 2 hts0 (gi_S u_404 u_405 u_1 u_406) rfl rfl rfl (by decide +kernel) ⟨Nat.le_of_ble_eq_true rfl, Nat.le_of_ble_eq_true rfl⟩) (pcR_S ((fl_at hP 1 rfl).sub (ws' := lW cI (aN 9) (aN 10) 8 (PN 8) (PN 10 4)) [9, 10] rfl) (hK.sub (tys' := [(cI, .int)]) [0] rfl) hn) rfl rfl hl.1 rfl (lv_room (Nat.le_of_ble_eq_true rfl)) dX6_digest_63 ⟨Nat.zero_le _, Nat.zero_le _⟩) ?_
        refine lv_lstore_n (lv' := [(1, .long (fX6_hashLine 8 (PN 8) (PN 10 4) (fX6_hashLine 16 (PN 9) (PN 10 5) (fX6_hashTables PN (fX6_hashGuests PN x6_1))))), (3, .int (nI kk6)), (0, .ref a0)]) hx hb dX6_digest_66 rfl hl (by decide) rfl (fun ls hl => ?_)
        refine lv_ldc2 (v := 31) hx hb hown (hts _ u_341) dX6_digest_67 ?_
        refine lv_lload_n hx hb dX6_digest_70 rfl (lv_at hl 0 rfl) ?_
        refine lv_lmul hx hb dX6_digest_71 ?_
        refine lv_aload_n hx hb dX6_digest_72 rfl (lv_at hl 2 rfl) ?_
        refine va_get (D := (dC, dI)) (ci := 4) (v := .ref (aN 0)) (C := RX6) (T := TX6) (N := 6) hx hb htX6 (fun _ h => h) hown hK (fl_at hP 0 rfl) 0 rfl rfl 0 (by decide) (hts _ u_143) (fun _ h9 => h9) rfl dX6_digest_73 ?_
        refine lv_iconst (v := 0) hx hb dX6_digest_76 (by decide) ?_
        refine lv_iconst (v := 1) hx hb dX6_digest_77 (by decide) ?_
        refine k_calli (W.runV (As := [.int 0, .int 1]) (rest := [.long (31 * (fX6_hashLine 8 (PN 8) (PN 10 4) (fX6_hashLine 16 (PN 9) (PN 10 5) (fX6_hashTables PN (fX6_hashGuests PN x6_1)))))]) ⟨hx, hb, hml, hown, hts0⟩ (mX2_risersOfFeud l dC dI cI aN PN 0 1) (cwV 2 hts0 (gi_V u_408 u_409 u_410 u_2 u_411) rfl rfl rfl (by decide +kernel) ⟨Nat.le_of_ble_eq_true rfl, Nat.le_of_ble_eq_true rfl⟩) (pcR_V (ci := 2) (q0 := 0) (fl_at hP 1 rfl) (hK.sub (tys' := [(cI, .int)]) [0] rfl) hn rfl rfl) rfl rfl hl.1 rfl (lv_room (Nat.le_of_ble_eq_true rfl)) dX6_digest_78 ⟨Nat.zero_le _, Nat.zero_le _⟩) ?_
        refine lv_i2l (v := (fX2_risersOfFeud PN 0 1).toInt64) hx hb dX6_digest_81 rfl ?_
        refine lv_ladd hx hb dX6_digest_82 ?_
        refine lv_lstore_n (lv' := [(1, .long ((31 * (fX6_hashLine 8 (PN 8) (PN 10 4) (fX6_hashLine 16 (PN 9) (PN 10 5) (fX6_hashTables PN (fX6_hashGuests PN x6_1))))) + (fX2_risersOfFeud PN 0 1).toInt64)), (3, .int (nI kk6)), (0, .ref a0)]) hx hb dX6_digest_83 rfl hl (by decide) rfl (fun ls hl => ?_)
        refine lv_ldc2 (v := 31) hx hb hown (hts _ u_341) dX6_digest_84 ?_
        refine lv_lload_n hx hb dX6_digest_87 rfl (lv_at hl 0 rfl) ?_
        refine lv_lmul hx hb dX6_digest_88 ?_
        refine lv_aload_n hx hb dX6_digest_89 rfl (lv_at hl 2 rfl) ?_
        refine va_get (D := (dC, dI)) (ci := 4) (v := .ref (aN 0)) (C := RX6) (T := TX6) (N := 6) hx hb htX6 (fun _ h => h) hown hK (fl_at hP 0 rfl) 0 rfl rfl 0 (by decide) (hts _ u_143) (fun _ h9 => h9) rfl dX6_digest_90 ?_
        refine lv_iconst (v := 2) hx hb dX6_digest_93 (by decide) ?_
        refine lv_iconst (v := 3) hx hb dX6_digest_94 (by decide) ?_
        refine k_calli (W.runV (As := [.int 2, .int 3]) (rest := [.long (31 * ((31 * (fX6_hashLine 8 (PN 8) (PN 10 4) (fX6_hashLine 16 (PN 9) (PN 10 5) (fX6_hashTables PN (fX6_hashGuests PN x6_1))))) + (fX2_risersOfFeud PN 0 1).toInt64))]) ⟨hx, hb, hml, hown, hts0⟩ (mX2_risersOfFeud l dC dI cI aN PN 2 3) (cwV 2 hts0 (gi_V u_408 u_409 u_410 u_2 u_411) rfl rfl rfl (by decide +kernel) ⟨Nat.le_of_ble_eq_true rfl, Nat.le_of_ble_eq_true rfl⟩) (pcR_V (ci := 2) (q0 := 0) (fl_at hP 1 rfl) (hK.sub (tys' := [(cI, .int)]) [0] rfl) hn rfl rfl) rfl rfl hl.1 rfl (lv_room (Nat.le_of_ble_eq_true rfl)) dX6_digest_95 ⟨Nat.zero_le _, Nat.zero_le _⟩) ?_
        refine lv_i2l (v := (fX2_risersOfFeud PN 2 3).toInt64) hx hb dX6_digest_98 rfl ?_
        refine lv_ladd hx hb dX6_digest_99 ?_
        refine lv_lstore_n (lv' := [(1, .long ((31 * ((31 * (fX6_hashLine 8 (PN 8) (PN 10 4) (fX6_hashLine 16 (PN 9) (PN 10 5) (fX6_hashTables PN (fX6_hashGuests PN x6_1))))) + (fX2_risersOfFeud PN 0 1).toInt64)) + (fX2_risersOfFeud PN 2 3).toInt64)), (3, .int (nI kk6)), (0, .ref a0)]) hx hb dX6_digest_100 rfl hl (by decide) rfl (fun ls hl => ?_)
        refine lv_iconst (v := 0) hx hb dX6_digest_101 (by decide) ?_
        refine lv_istore_n (lv' := [(3, .int 0), (1, .long ((31 * ((31 * (fX6_hashLine 8 (PN 8) (PN 10 4) (fX6_hashLine 16 (PN 9) (PN 10 5) (fX6_hashTables PN (fX6_hashGuests PN x6_1))))) + (fX2_risersOfFeud PN 0 1).toInt64)) + (fX2_risersOfFeud PN 2 3).toInt64)), (0, .ref a0)]) hx hb dX6_digest_102 rfl hl (by decide) rfl (fun ls hl => ?_)
        have L103 : ∀ (jj103 kk103 : Nat) (x103_1 : Int64) (U103_1 : PV), kk103 + jj103 = ((2 : Int32).toNatClampNeg) → fX6_digest PN PT f u Ps oh vh = lq2 (fX6_digest_b103 PN) (fX6_digest_r103 PN f u) jj103 kk103 x103_1 U103_1 → ∀ (H : Heap) (locs : List Loc), va_P (dC, dI) vwCl (fW cI cP a0 aN aT aS t0 t1 t2 h0 h1 pa PN U103_1 PS f u Ps oh vh k) H → va_D A (fW cI cP a0 aN aT aS t0 t1 t2 h0 h1 pa PN U103_1 PS f u Ps oh vh k) → va_S A s.heap H locs → ∀ (ls : Array Slot), lv_has ls 4 [(3, .int (nI kk103)), (1, .long x103_1), (0, .ref a0)] → W p l e rmX6_digest s m args below meth c H locs 0 0 Q (F0 m 103 ls []) := by
          intro jj103
          induction jj103 using Nat.strongRecOn with
          | _ jj103 ihkk103 =>
            intro kk103 x103_1 U103_1 hkkk103 hF H locs hP hD hS ls hl
            refine lv_iload_n hx hb dX6_digest_103 rfl (lv_at hl 0 rfl) ?_
            refine lv_iconst (v := 2) hx hb dX6_digest_104 (by decide) ?_
            refine lv_icmp_ge (tgt := 127) hx hb dX6_digest_105 (by decide) (fun c_105 => ?_) (fun c_105 => ?_)
            · obtain rfl := cn_exit hkkk103 c_105
              have hF := hF.trans (lq2_z _ _ _ _ _)
              refine lv_ldc2 (v := 31) hx hb hown (hts _ u_341) dX6_digest_127 ?_
              refine lv_lload_n hx hb dX6_digest_130 rfl (lv_at hl 1 rfl) ?_
              refine lv_lmul hx hb dX6_digest_131 ?_
              refine lv_aload_n hx hb dX6_digest_132 rfl (lv_at hl 2 rfl) ?_
              refine va_get (D := (dC, dI)) (ci := 4) (v := .ref (aN 0)) (C := RX6) (T := TX6) (N := 6) hx hb htX6 (fun _ h => h) hown hK (fl_at hP 0 rfl) 0 rfl rfl 0 (by decide) (hts _ u_143) (fun _ h9 => h9) rfl dX6_digest_133 ?_
              refine k_calld (W.runS (As := [.ref (aN 0)]) (rest := [.long (31 * x103_1)]) ⟨hx, hb, hml, hown, hts0⟩ (mX4_shareMet l dC dI cI aN PN  hG) (va_cwS 1 hts0 (gi_S u_326 u_327 u_15 u_328) rfl rfl rfl (by decide +kernel) ⟨Nat.le_of_ble_eq_true rfl, Nat.le_of_ble_eq_true rfl⟩) (pcR_S (fl_at hP 1 rfl) (hK.sub (tys' := [(cI, .int)]) [0] rfl) hn) rfl rfl hl.1 rfl (lv_room (Nat.le_of_ble_eq_true rfl)) dX6_digest_136 ⟨Nat.zero_le _, Nat.zero_le _⟩) ?_
              refine k_calll (W.runS (As := [.double (fX4_shareMet PN)]) (rest := [.long (31 * x103_1)]) ⟨hx, hb, hml, hown, hts0⟩ (mX6_bitsOfShare l dC dI  (fX4_shareMet PN) (share_okB2 hG)) (va_cwS 1 hts0 (gi_S u_433 u_434 u_1 u_435) rfl rfl rfl (by decide +kernel) ⟨Nat.le_of_ble_eq_true rfl, Nat.le_of_ble_eq_true rfl⟩) (pcR_S (hP.sub (ws' := []) [] rfl) (hK.sub (tys' := []) [] rfl) hn) rfl rfl hl.1 rfl (lv_room (Nat.le_of_ble_eq_true rfl)) dX6_digest_139 ⟨Nat.zero_le _, Nat.zero_le _⟩) ?_
              refine lv_ladd hx hb dX6_digest_142 ?_
              refine lv_lstore_n (lv' := [(1, .long ((31 * x103_1) + (fX6_bitsOfShare (fX4_shareMet PN)))), (3, .int (nI kk103)), (0, .ref a0)]) hx hb dX6_digest_143 rfl hl (by decide) rfl (fun ls hl => ?_)
              refine lv_ldc2 (v := 31) hx hb hown (hts _ u_341) dX6_digest_144 ?_
              refine lv_lload_n hx hb dX6_digest_147 rfl (lv_at hl 0 rfl) ?_
              refine lv_lmul hx hb dX6_digest_148 ?_
              refine lv_aload_n hx hb dX6_digest_149 rfl (lv_at hl 2 rfl) ?_
              refine va_get (D := (dC, dI)) (ci := 4) (v := .ref t0) (C := RX6) (T := TX6) (N := 6) hx hb htX6 (fun _ h => h) hown hK (fl_at hP 0 rfl) 0 rfl rfl 4 (by decide) (hts _ u_147) (fun _ h9 => h9) rfl dX6_digest_150 ?_
              refine va_getN (D := (dC, dI)) (ci := 3) (v := .ref t1) (C := RX5) (T := TX5) (N := 1) hx hb htX5 (fun _ h => h) hown hK (fl_at hP 4 rfl) 0 rfl rfl 0 (by decide) (va_Nw.use rfl (hn _ (List.mem_of_getElem? (i := 21) rfl))) (fun _ h9 => h9) rfl dX6_digest_153 ?_
              refine k_calli (W.runV (As := []) (rest := [.long (31 * ((31 * x103_1) + (fX6_bitsOfShare (fX4_shareMet PN))))]) ⟨hx, hb, hml, hown, hts0⟩ (mX1_length l dC dI cI t1 t2 60 (by decide) f u ) (cwV 0 hts0 (gi_V u_290 u_224 u_225 u_3 u_226) rfl rfl rfl (by decide +kernel) ⟨Nat.le_of_ble_eq_true rfl, Nat.le_of_ble_eq_true rfl⟩) (pcR_V (ci := 1) (q0 := 0) ((fl_at hP 4 rfl).sub (ws' := lW cI t1 t2 60 f u) [1, 2] rfl) (hK.sub (tys' := [(cI, .int)]) [0] rfl) hn rfl rfl) rfl rfl hl.1 rfl (lv_room (Nat.le_of_ble_eq_true rfl)) dX6_digest_156 ⟨Nat.zero_le _, Nat.zero_le _⟩) ?_
              refine lv_i2l (v := (fX1_length 60 f u).toInt64) hx hb dX6_digest_159 rfl ?_
              refine lv_ladd hx hb dX6_digest_160 ?_
              refine lv_lstore_n (lv' := [(1, .long ((31 * ((31 * x103_1) + (fX6_bitsOfShare (fX4_shareMet PN)))) + (fX1_length 60 f u).toInt64)), (3, .int (nI kk103)), (0, .ref a0)]) hx hb dX6_digest_161 rfl hl (by decide) rfl (fun ls hl => ?_)
              refine lv_lload_n hx hb dX6_digest_162 rfl (lv_at hl 0 rfl) ?_
              refine lv_aload_n hx hb dX6_digest_163 rfl (lv_at hl 2 rfl) ?_
              refine va_get (D := (dC, dI)) (ci := 4) (v := .ref t0) (C := RX6) (T := TX6) (N := 6) hx hb htX6 (fun _ h => h) hown hK (fl_at hP 0 rfl) 0 rfl rfl 4 (by decide) (hts _ u_147) (fun _ h9 => h9) rfl dX6_digest_164 ?_
              refine va_getN (D := (dC, dI)) (ci := 3) (v := .ref t1) (C := RX5) (T := TX5) (N := 1) hx hb htX5 (fun _ h => h) hown hK (fl_at hP 4 rfl) 0 rfl rfl 0 (by decide) (va_Nw.use rfl (hn _ (List.mem_of_getElem? (i := 21) rfl))) (fun _ h9 => h9) rfl dX6_digest_167 ?_
              refine k_calll (W.runS (As := [.long ((31 * ((31 * x103_1) + (fX6_bitsOfShare (fX4_shareMet PN)))) + (fX1_length 60 f u).toInt64), .ref t1]) (rest := []) ⟨hx, hb, hml, hown, hts0⟩ (mX6_hashLine l dC dI cI t1 t2 60 (by decide) f u ((31 * ((31 * x103_1) + (fX6_bitsOfShare (fX4_shareMet PN)))) + (fX1_length 60 f u).toInt64)) (va_cwS 2 hts0 (gi_S u_404 u_405 u_1 u_406) rfl rfl rfl (by decide +kernel) ⟨Nat.le_of_ble_eq_true rfl, Nat.le_of_ble_eq_true rfl⟩) (pcR_S ((fl_at hP 4 rfl).sub (ws' := lW cI t1 t2 60 f u) [1, 2] rfl) (hK.sub (tys' := [(cI, .int)]) [0] rfl) hn) rfl rfl hl.1 rfl (lv_room (Nat.le_of_ble_eq_true rfl)) dX6_digest_170 ⟨Nat.zero_le _, Nat.zero_le _⟩) ?_
              rw [hQ]
              exact W.lret (v := (fX6_hashLine 60 f u ((31 * ((31 * x103_1) + (fX6_bitsOfShare (fX4_shareMet PN)))) + (fX1_length 60 f u).toInt64))) hx hb hr (fun t ht hW => ⟨⟨(fX6_hashLine 60 f u ((31 * ((31 * x103_1) + (fX6_bitsOfShare (fX4_shareMet PN)))) + (fX1_length 60 f u).toInt64)), U103_1, rfl, hF.symm, toH ht hP⟩, hS.F ht⟩) hS.2.2 dX6_digest_173
            obtain ⟨jj103, rfl⟩ := cn_go hkkk103 c_105
            have hF := hF.trans (lq2_s _ _ _ _ _ _)
            obtain ⟨nextkk103, hnextkk103⟩ : ∃ y9, y9 = lq2 (fX6_digest_b103 PN) (fX6_digest_r103 PN f u) jj103 (kk103 + 1) := ⟨_, rfl⟩
            rw [← hnextkk103] at hF
            refine lv_ldc2 (v := 31) hx hb hown (hts _ u_341) dX6_digest_108 ?_
            refine lv_lload_n hx hb dX6_digest_111 rfl (lv_at hl 1 rfl) ?_
            refine lv_lmul hx hb dX6_digest_112 ?_
            refine lv_aload_n hx hb dX6_digest_113 rfl (lv_at hl 2 rfl) ?_
            refine lv_iload_n hx hb dX6_digest_114 rfl (lv_at hl 0 rfl) ?_
            refine k_bmuti (Bs := [(fW cI cP a0 aN aT aS t0 t1 t2 h0 h1 pa PN U103_1 PS f u Ps oh vh k)]) (wc := [(fW cI cP a0 aN aT aS t0 t1 t2 h0 h1 pa PN U103_1 PS f u Ps oh vh k)]) (W1 := (fun (v9 : PV) => [fW cI cP a0 aN aT aS t0 t1 t2 h0 h1 pa PN v9 PS f u Ps oh vh k])) (va_runV (As := [.int (nI kk103)]) (rest := [.long (31 * x103_1)]) ⟨hx, hb, hml, hown, hts0⟩ (mX6_seatedNumber l dC dI cI cP a0 aN aT aS t0 t1 t2 h0 h1 pa PN U103_1 PS f u Ps oh vh k (nI kk103)) (cwV 1 hts0 (gi_V u_429 u_431 us_6 u_1 u_432) rfl rfl rfl (by decide +kernel) ⟨Nat.le_of_ble_eq_true rfl, Nat.le_of_ble_eq_true rfl⟩) (pcM_V (ci := 4) (q0 := 0) hP hK hn hD rfl rfl) rfl rfl hl.1 rfl (lv_room (Nat.le_of_ble_eq_true rfl)) dX6_digest_115 ⟨Nat.zero_le _, Nat.zero_le _⟩) hP hD hS [0] rfl rfl (fun _ => rfl) (fun r115 U115 H locs hU115 hP hD hS => ?_)
            have hP : va_P (dC, dI) vwCl (fW cI cP a0 aN aT aS t0 t1 t2 h0 h1 pa PN U115 PS f u Ps oh vh k) H := hP
            have hD : va_D A (fW cI cP a0 aN aT aS t0 t1 t2 h0 h1 pa PN U115 PS f u Ps oh vh k) := hD
            have hF := bd2_at hF hU115
            refine lv_i2l (v := r115.toInt64) hx hb dX6_digest_118 rfl ?_
            refine lv_ladd hx hb dX6_digest_119 ?_
            refine lv_lstore_n (lv' := [(1, .long ((31 * x103_1) + r115.toInt64)), (3, .int (nI kk103)), (0, .ref a0)]) hx hb dX6_digest_120 rfl hl (by decide) rfl (fun ls hl => ?_)
            refine lv_iinc (v := (nI (kk103 + 1))) (lv' := [(3, .int (nI (kk103 + 1))), (1, .long ((31 * x103_1) + r115.toInt64)), (0, .ref a0)]) hx hb dX6_digest_121 hl (k := 1) rfl (nI_1 _) (by decide) rfl (fun ls hl => ?_)
            refine lv_goto (tgt := 103) hx hb dX6_digest_124 (by decide) ?_
            have hF : fX6_digest PN PT f u Ps oh vh = nextkk103 ((31 * x103_1) + r115.toInt64) U115 := hF
            rw [hnextkk103] at hF
            exact ihkk103 jj103 (Nat.lt_succ_self _) (kk103 + 1) ((31 * x103_1) + r115.toInt64) U115 (cn_next hkkk103) hF _ _ hP hD hS ls (lv_sub hl [0, 1, 2] rfl)
        exact L103 ((2 : Int32).toNatClampNeg) 0 ((31 * ((31 * (fX6_hashLine 8 (PN 8) (PN 10 4) (fX6_hashLine 16 (PN 9) (PN 10 5) (fX6_hashTables PN (fX6_hashGuests PN x6_1))))) + (fX2_risersOfFeud PN 0 1).toInt64)) + (fX2_risersOfFeud PN 2 3).toInt64) PT (Nat.zero_add _) hF _ _ hP hD hS ls (lv_sub hl [0, 1, 2] rfl)
      obtain ⟨jj6, rfl⟩ := cn_go hkkk6 c_9
      have hF := hF.trans (lq1_s _ _ _ _ _)
      obtain ⟨nextkk6, hnextkk6⟩ : ∃ y9, y9 = lq1 (fX6_digest_b6 PN Ps oh vh) (fX6_digest_r6 PN PT f u) jj6 (kk6 + 1) := ⟨_, rfl⟩
      rw [← hnextkk6] at hF
      refine lv_ldc2 (v := 31) hx hb hown (hts _ u_341) dX6_digest_12 ?_
      refine lv_lload_n hx hb dX6_digest_15 rfl (lv_at hl 1 rfl) ?_
      refine lv_lmul hx hb dX6_digest_16 ?_
      refine lv_aload_n hx hb dX6_digest_17 rfl (lv_at hl 2 rfl) ?_
      refine lv_iload_n hx hb dX6_digest_18 rfl (lv_at hl 0 rfl) ?_
      refine k_calli (W.runV (As := [.int (nI kk6)]) (rest := [.long (31 * x6_1)]) ⟨hx, hb, hml, hown, hts0⟩ (mX6_countNumber l dC dI cI cP a0 aN aT aS t0 t1 t2 h0 h1 pa PN PT PS f u Ps oh vh k (nI kk6)) (cwV 1 hts0 (gi_V u_342 u_344 us_1 u_1 u_345) rfl rfl rfl (by decide +kernel) ⟨Nat.le_of_ble_eq_true rfl, Nat.le_of_ble_eq_true rfl⟩) (pcR_V (ci := 4) (q0 := 0) hP hK hn rfl rfl) rfl rfl hl.1 rfl (lv_room (Nat.le_of_ble_eq_true rfl)) dX6_digest_19 ⟨Nat.zero_le _, Nat.zero_le _⟩) ?_
      refine lv_i2l (v := (fX6_countNumber PN Ps oh vh (nI kk6)).toInt64) hx hb dX6_digest_22 rfl ?_
      refine lv_ladd hx hb dX6_digest_23 ?_
      refine lv_lstore_n (lv' := [(1, .long ((31 * x6_1) + (fX6_countNumber PN Ps oh vh (nI kk6)).toInt64)), (3, .int (nI kk6)), (0, .ref a0)]) hx hb dX6_digest_24 rfl hl (by decide) rfl (fun ls hl => ?_)
      refine lv_iinc (v := (nI (kk6 + 1))) (lv' := [(3, .int (nI (kk6 + 1))), (1, .long ((31 * x6_1) + (fX6_countNumber PN Ps oh vh (nI kk6)).toInt64)), (0, .ref a0)]) hx hb dX6_digest_25 hl (k := 1) rfl (nI_1 _) (by decide) rfl (fun ls hl => ?_)
      refine lv_goto (tgt := 6) hx hb dX6_digest_28 (by decide) ?_
      have hF : fX6_digest PN PT f u Ps oh vh = nextkk6 ((31 * x6_1) + (fX6_countNumber PN Ps oh vh (nI kk6)).toInt64) := hF
      rw [hnextkk6] at hF
      exact ihkk6 jj6 (Nat.lt_succ_self _) (kk6 + 1) ((31 * x6_1) + (fX6_countNumber PN Ps oh vh (nI kk6)).toInt64) (cn_next hkkk6) hF _ _ hP hD hS ls (lv_sub hl [0, 1, 2] rfl)
  exact L6 ((14 : Int32).toNatClampNeg) 0 3719 (Nat.zero_add _) hF _ _ hP hD hS ls (lv_sub hl [0, 1, 2] rfl)
