/-! all that one sees of an object, as one number. Mine (rows laid by program). -/
def fL_looks_b110 (PN : PV) (kk110 : Nat) (x110_1 : Int64) (nextkk110 : Int64 → Int64) : Int64 :=
  (nextkk110 ((31 * ((31 * x110_1) + (fX1_itemAt 16 (PN 9) (PN 10 5) (nI kk110)).toInt64)) + (fX1_itemAt 8 (PN 8) (PN 10 4) (nI (kk110 % 9))).toInt64))
def fL_looks_r110 (x110_1 : Int64) : Int64 :=
  x110_1
def fL_looks_b73 (PN : PV) (kk73 : Nat) (x73_1 : Int64) (nextkk73 : Int64 → Int64) : Int64 :=
  (nextkk73 ((31 * x73_1) + (fX6_tableNumber PN (nI (kk73 / 5)) (nI (kk73 % 5))).toInt64))
def fL_looks_r73 (PN : PV) (x73_1 : Int64) : Int64 :=
  (lq1 (fL_looks_b110 PN) fL_looks_r110 17 0 x73_1)
def fL_looks_b33 (PN : PV) (kk33 : Nat) (x33_1 : Int64) (nextkk33 : Int64 → Int64) : Int64 :=
  (nextkk33 ((31 * x33_1) + (fX6_guestNumber PN (nI (kk33 / 7)) (nI (kk33 % 7))).toInt64))
def fL_looks_r33 (PN : PV) (x33_1 : Int64) : Int64 :=
  (lq1 (fL_looks_b73 PN) (fL_looks_r73 PN) ((5 * (PN 10 1)).toNatClampNeg) 0 x33_1)
def fL_looks_b6 (PN : PV) (kk6 : Nat) (x6_1 : Int64) (nextkk6 : Int64 → Int64) : Int64 :=
  (nextkk6 ((31 * x6_1) + (cnt PN (nI kk6)).toInt64))
def fL_looks_r6 (PN : PV) (x6_1 : Int64) : Int64 :=
  (lq1 (fL_looks_b33 PN) (fL_looks_r33 PN) ((7 * (PN 10 0)).toNatClampNeg) 0 x6_1)
def fL_looks (PN : PV) : Int64 :=
  (lq1 (fL_looks_b6 PN) (fL_looks_r6 PN) 13 0 83)
abbrev rmL_looks : Room := { frames := 7, cells := 0, slots := 0, locals := 172 }
set_option maxHeartbeats 4000000 in
set_option maxRecDepth 100000 in
theorem mL_looks (l : Launch) (dC : Nat → ClassId) (dI : Nat → Nat → Nat) (cI cP : ClassId) (a0 : Nat) (aN aT aS : Nat → Nat) (t0 t1 t2 h0 h1 : Nat) (pa : Nat → Nat → Nat) (PN PT PS : PV) (f : Nat → Int32) (u : Int32) (Ps : Nat → PV) (oh vh : Nat) (k : Int32) (f9 : Nat → Int32) (G T : Nat) (L : List Nat) (hR : REL PN f9 0 G T L) : Met l yL_looks (ws_ yL_looks cL_looks 4 (some .long)) rmL_looks (pcR (dC, dI) [(cI, .int), (cP, .object "SupperSeats$Plan")] (fW cI cP a0 aN aT aS t0 t1 t2 h0 h1 pa PN PT PS f u Ps oh vh k) [.ref a0]) (vp_Sl (fun r => r = fL_looks PN)) 0 0 (fun _ => False) := by
  refine Met.ofW (cc := cL_looks) (maxL := 4) (ret := (some .long)) (by decide) rfl ?_
  intro p e s m args below meth c s₁ B hml hv
  obtain ⟨ha, hP, hK, hn⟩ := hv
  have hx := B.exec
  have hb := B.bytes
  have hr := B.returns
  have hts0 := atoms_spec (ws := (ws_ yL_looks cL_looks 4 (some .long))) B.pre
  have hts : ∀ w ∈ lw_all, w.before args s = true := fun w h => hts0 w (List.mem_cons_of_mem _ h)
  have hown : s.vm.findClass RL = some m.cls := findClass_of_methodNamed B.named
  have hlocks := B.notSynchronized
  obtain ⟨Q, hQ⟩ : ∃ Q, Q = MQ below (vp_Sl (fun r => r = fL_looks PN)) args s 0 0 (fun _ => False) := ⟨_, rfl⟩
  rw [← hQ]
  have hl := lv_entry ([.ref a0]) (n := 4) (Nat.le_of_ble_eq_true rfl)
  rw [ha, lg_entry_eq, ← ha]
  generalize (lg_sl ([.ref a0]) ++ List.replicate (4 - (lg_sl ([.ref a0])).length) Slot.unset).toArray = ls at hl ⊢
  have hl : lv_has ls 4 [(0, .ref a0)] := hl
  show W p l e rmL_looks s m args below meth c s.heap [] 0 0 Q (F0 m 0 ls [])
  have hF : fL_looks PN = fL_looks PN := rfl
  refine lv_ldc2 (v := 83) hx hb hown (hts _ u_357) dL_looks_0 ?_
  refine lv_lstore_n (lv' := [(1, .long 83), (0, .ref a0)]) hx hb dL_looks_3 rfl hl (by decide) rfl (fun ls hl => ?_)
  refine lv_iconst (v := 0) hx hb dL_looks_4 (by decide) ?_
  refine lv_istore_n (lv' := [(3, .int 0), (1, .long 83), (0, .ref a0)]) hx hb dL_looks_5 rfl hl (by decide) rfl (fun ls hl => ?_)
  have L6 : ∀ (jj6 kk6 : Nat) (x6_1 : Int64), kk6 + jj6 = 13 → fL_looks PN = lq1 (fL_looks_b6 PN) (fL_looks_r6 PN) jj6 kk6 x6_1 → ∀ (ls : Array Slot), lv_has ls 4 [(3, .int (nI kk6)), (1, .long x6_1), (0, .ref a0)] → W p l e rmL_looks s m args below meth c s.heap [] 0 0 Q (F0 m 6 ls []) := by
    intro jj6
    induction jj6 using Nat.strongRecOn with
    | _ jj6 ihkk6 =>
      intro kk6 x6_1 hkkk6 hF  ls hl
      refine lv_iload_n hx hb dL_looks_6 rfl (lv_at hl 0 rfl) ?_
      refine lv_bipush (v := 13) hx hb dL_looks_7 (by decide) ?_
      refine lv_icmp_ge (tgt := 31) hx hb dL_looks_9 (by decide) (fun c_9 => ?_) (fun c_9 => ?_)
      · obtain rfl := cn_exitN (N := 13) hkkk6 (by decide) c_9
        have hF := hF.trans (lq1_z _ _ _ _)
        refine lv_iconst (v := 0) hx hb dL_looks_31 (by decide) ?_
        refine lv_istore_n (lv' := [(3, .int 0), (1, .long x6_1), (0, .ref a0)]) hx hb dL_looks_32 rfl hl (by decide) rfl (fun ls hl => ?_)
        have L33 : ∀ (jj33 kk33 : Nat) (x33_1 : Int64), kk33 + jj33 = ((7 * (PN 10 0)).toNatClampNeg) → fL_looks PN = lq1 (fL_looks_b33 PN) (fL_looks_r33 PN) jj33 kk33 x33_1 → ∀ (ls : Array Slot), lv_has ls 4 [(3, .int (nI kk33)), (1, .long x33_1), (0, .ref a0)] → W p l e rmL_looks s m args below meth c s.heap [] 0 0 Q (F0 m 33 ls []) := by
          intro jj33
          induction jj33 using Nat.strongRecOn with
          | _ jj33 ihkk33 =>
            intro kk33 x33_1 hkkk33 hF  ls hl
            refine lv_iload_n hx hb dL_looks_33 rfl (lv_at hl 0 rfl) ?_
            refine lv_bipush (v := 7) hx hb dL_looks_34 (by decide) ?_
            refine lv_aload_n hx hb dL_looks_36 rfl (lv_at hl 2 rfl) ?_
            refine lv_iconst (v := 0) hx hb dL_looks_37 (by decide) ?_
            have e_38 : (fX6_count PN Ps oh vh 0) = Sum.inr ((PN 10 0), ()) := count_0
            refine k_calli (W.runV (As := [.int 0]) (rest := [.int 7, .int (nI kk33)]) ⟨hx, hb, hml, hown, hts0⟩ (mX6_count l dC dI cI cP a0 aN aT aS t0 t1 t2 h0 h1 pa PN PT PS f u Ps oh vh k 0 (ok_inr e_38)) (cwV 1 hts0 (gi_V u_268 u_269 u_270 u_1 u_271) rfl rfl rfl (by decide +kernel) ⟨Nat.le_of_ble_eq_true rfl, Nat.le_of_ble_eq_true rfl⟩) (pcR_V (ci := 4) (q0 := 0) hP hK hn rfl rfl) rfl rfl hl.1 rfl (lv_room (Nat.le_of_ble_eq_true rfl)) dL_looks_38 ⟨Nat.zero_le _, Nat.zero_le _⟩) ?_
            refine lv_tope (y := (PN 10 0)) (ok1_inr e_38) ?_
            refine lv_imul hx hb dL_looks_41 ?_
            refine lv_icmp_ge (tgt := 71) hx hb dL_looks_42 (by decide) (fun c_42 => ?_) (fun c_42 => ?_)
            · obtain rfl := cn_exit hkkk33 c_42
              have hF := hF.trans (lq1_z _ _ _ _)
              refine lv_iconst (v := 0) hx hb dL_looks_71 (by decide) ?_
              refine lv_istore_n (lv' := [(3, .int 0), (1, .long x33_1), (0, .ref a0)]) hx hb dL_looks_72 rfl hl (by decide) rfl (fun ls hl => ?_)
              have L73 : ∀ (jj73 kk73 : Nat) (x73_1 : Int64), kk73 + jj73 = ((5 * (PN 10 1)).toNatClampNeg) → fL_looks PN = lq1 (fL_looks_b73 PN) (fL_looks_r73 PN) jj73 kk73 x73_1 → ∀ (ls : Array Slot), lv_has ls 4 [(3, .int (nI kk73)), (1, .long x73_1), (0, .ref a0)] → W p l e rmL_looks s m args below meth c s.heap [] 0 0 Q (F0 m 73 ls []) := by
                intro jj73
                induction jj73 using Nat.strongRecOn with
                | _ jj73 ihkk73 =>
                  intro kk73 x73_1 hkkk73 hF  ls hl
                  refine lv_iload_n hx hb dL_looks_73 rfl (lv_at hl 0 rfl) ?_
                  refine lv_iconst (v := 5) hx hb dL_looks_74 (by decide) ?_
                  refine lv_aload_n hx hb dL_looks_75 rfl (lv_at hl 2 rfl) ?_
                  refine lv_iconst (v := 1) hx hb dL_looks_76 (by decide) ?_
                  have e_77 : (fX6_count PN Ps oh vh 1) = Sum.inr ((PN 10 1), ()) := count_1
                  refine k_calli (W.runV (As := [.int 1]) (rest := [.int 5, .int (nI kk73)]) ⟨hx, hb, hml, hown, hts0⟩ (mX6_count l dC dI cI cP a0 aN aT aS t0 t1 t2 h0 h1 pa PN PT PS f u Ps oh vh k 1 (ok_inr e_77)) (cwV 1 hts0 (gi_V u_268 u_269 u_270 u_1 u_271) rfl rfl rfl (by decide +kernel) ⟨Nat.le_of_ble_eq_true rfl, Nat.le_of_ble_eq_true rfl⟩) (pcR_V (ci := 4) (q0 := 0) hP hK hn rfl rfl) rfl rfl hl.1 rfl (lv_room (Nat.le_of_ble_eq_true rfl)) dL_looks_77 ⟨Nat.zero_le _, Nat.zero_le _⟩) ?_
                  refine lv_tope (y := (PN 10 1)) (ok1_inr e_77) ?_
                  refine lv_imul hx hb dL_looks_80 ?_
                  refine lv_icmp_ge (tgt := 108) hx hb dL_looks_81 (by decide) (fun c_81 => ?_) (fun c_81 => ?_)
                  · obtain rfl := cn_exit hkkk73 c_81
                    have hF := hF.trans (lq1_z _ _ _ _)
                    refine lv_iconst (v := 0) hx hb dL_looks_108 (by decide) ?_
                    refine lv_istore_n (lv' := [(3, .int 0), (1, .long x73_1), (0, .ref a0)]) hx hb dL_looks_109 rfl hl (by decide) rfl (fun ls hl => ?_)
                    have L110 : ∀ (jj110 kk110 : Nat) (x110_1 : Int64), kk110 + jj110 = 17 → fL_looks PN = lq1 (fL_looks_b110 PN) fL_looks_r110 jj110 kk110 x110_1 → ∀ (ls : Array Slot), lv_has ls 4 [(3, .int (nI kk110)), (1, .long x110_1), (0, .ref a0)] → W p l e rmL_looks s m args below meth c s.heap [] 0 0 Q (F0 m 110 ls []) := by
                      intro jj110
                      induction jj110 using Nat.strongRecOn with
                      | _ jj110 ihkk110 =>
                        intro kk110 x110_1 hkkk110 hF  ls hl
                        refine lv_iload_n hx hb dL_looks_110 rfl (lv_at hl 0 rfl) ?_
                        refine lv_bipush (v := 17) hx hb dL_looks_111 (by decide) ?_
                        refine lv_icmp_ge (tgt := 149) hx hb dL_looks_113 (by decide) (fun c_113 => ?_) (fun c_113 => ?_)
                        · obtain rfl := cn_exitN (N := 17) hkkk110 (by decide) c_113
                          have hF := hF.trans (lq1_z _ _ _ _)
                          refine lv_lload_n hx hb dL_looks_149 rfl (lv_at hl 1 rfl) ?_
                          rw [hQ]
                          exact W.lret (v := x110_1) hx hb hr (fun t ht hW => ⟨x110_1, rfl, hF.symm, ht⟩) (fun q hq => absurd hq List.not_mem_nil) dL_looks_150
                        obtain ⟨jj110, rfl⟩ := cn_goN (N := 17) hkkk110 (by decide) c_113
                        have hF := hF.trans (lq1_s _ _ _ _ _)
                        obtain ⟨nextkk110, hnextkk110⟩ : ∃ y9, y9 = lq1 (fL_looks_b110 PN) fL_looks_r110 jj110 (kk110 + 1) := ⟨_, rfl⟩
                        rw [← hnextkk110] at hF
                        refine lv_ldc2 (v := 31) hx hb hown (hts _ u_358) dL_looks_116 ?_
                        refine lv_ldc2 (v := 31) hx hb hown (hts _ u_358) dL_looks_119 ?_
                        refine lv_lload_n hx hb dL_looks_122 rfl (lv_at hl 1 rfl) ?_
                        refine lv_lmul hx hb dL_looks_123 ?_
                        refine lv_aload_n hx hb dL_looks_124 rfl (lv_at hl 2 rfl) ?_
                        refine lv_iload_n hx hb dL_looks_125 rfl (lv_at hl 0 rfl) ?_
                        have e_126 : (fX6_seated PN (nI kk110)) = Sum.inr ((fX1_itemAt 16 (PN 9) (PN 10 5) (nI kk110)), ()) := (seated_in (k := kk110) (by omega))
                        refine k_calli (W.runV (As := [.int (nI kk110)]) (rest := [.long (31 * x110_1), .long 31]) ⟨hx, hb, hml, hown, hts0⟩ (mX6_seated l dC dI cI cP a0 aN aT aS t0 t1 t2 h0 h1 pa PN PT PS f u Ps oh vh k (nI kk110) (ok_inr e_126)) (cwV 1 hts0 (gi_V u_426 u_427 u_428 u_1 u_429) rfl rfl rfl (by decide +kernel) ⟨Nat.le_of_ble_eq_true rfl, Nat.le_of_ble_eq_true rfl⟩) (pcR_V (ci := 4) (q0 := 0) hP hK hn rfl rfl) rfl rfl hl.1 rfl (lv_room (Nat.le_of_ble_eq_true rfl)) dL_looks_126 ⟨Nat.zero_le _, Nat.zero_le _⟩) ?_
                        refine lv_tope (y := (fX1_itemAt 16 (PN 9) (PN 10 5) (nI kk110))) (ok1_inr e_126) ?_
                        refine lv_i2l (v := (fX1_itemAt 16 (PN 9) (PN 10 5) (nI kk110)).toInt64) hx hb dL_looks_129 rfl ?_
                        refine lv_ladd hx hb dL_looks_130 ?_
                        refine lv_lmul hx hb dL_looks_131 ?_
                        refine lv_aload_n hx hb dL_looks_132 rfl (lv_at hl 2 rfl) ?_
                        refine lv_iload_n hx hb dL_looks_133 rfl (lv_at hl 0 rfl) ?_
                        refine lv_bipush (v := 9) hx hb dL_looks_134 (by decide) ?_
                        refine lv_irem hx hb dL_looks_136 (by decide) ?_
                        refine lv_tope (y := (nI (kk110 % 9))) (pk_rem (a := kk110) (d := 9) (by omega) (by decide) (by decide)) ?_
                        have e_137 : (fX6_feudAt PN (nI (kk110 % 9))) = Sum.inr ((fX1_itemAt 8 (PN 8) (PN 10 4) (nI (kk110 % 9))), ()) := (feudAt_in (k := (kk110 % 9)) (by omega))
                        refine k_calli (W.runV (As := [.int (nI (kk110 % 9))]) (rest := [.long (31 * ((31 * x110_1) + (fX1_itemAt 16 (PN 9) (PN 10 5) (nI kk110)).toInt64))]) ⟨hx, hb, hml, hown, hts0⟩ (mX6_feudAt l dC dI cI cP a0 aN aT aS t0 t1 t2 h0 h1 pa PN PT PS f u Ps oh vh k (nI (kk110 % 9)) (ok_inr e_137)) (cwV 1 hts0 (gi_V u_438 u_439 u_440 u_1 u_441) rfl rfl rfl (by decide +kernel) ⟨Nat.le_of_ble_eq_true rfl, Nat.le_of_ble_eq_true rfl⟩) (pcR_V (ci := 4) (q0 := 0) hP hK hn rfl rfl) rfl rfl hl.1 rfl (lv_room (Nat.le_of_ble_eq_true rfl)) dL_looks_137 ⟨Nat.zero_le _, Nat.zero_le _⟩) ?_
                        refine lv_tope (y := (fX1_itemAt 8 (PN 8) (PN 10 4) (nI (kk110 % 9)))) (ok1_inr e_137) ?_
                        refine lv_i2l (v := (fX1_itemAt 8 (PN 8) (PN 10 4) (nI (kk110 % 9))).toInt64) hx hb dL_looks_140 rfl ?_
                        refine lv_ladd hx hb dL_looks_141 ?_
                        refine lv_lstore_n (lv' := [(1, .long ((31 * ((31 * x110_1) + (fX1_itemAt 16 (PN 9) (PN 10 5) (nI kk110)).toInt64)) + (fX1_itemAt 8 (PN 8) (PN 10 4) (nI (kk110 % 9))).toInt64)), (3, .int (nI kk110)), (0, .ref a0)]) hx hb dL_looks_142 rfl hl (by decide) rfl (fun ls hl => ?_)
                        refine lv_iinc (v := (nI (kk110 + 1))) (lv' := [(3, .int (nI (kk110 + 1))), (1, .long ((31 * ((31 * x110_1) + (fX1_itemAt 16 (PN 9) (PN 10 5) (nI kk110)).toInt64)) + (fX1_itemAt 8 (PN 8) (PN 10 4) (nI (kk110 % 9))).toInt64)), (0, .ref a0)]) hx hb dL_looks_143 hl (k := 1) rfl (nI_1 _) (by decide) rfl (fun ls hl => ?_)
                        refine lv_goto (tgt := 110) hx hb dL_looks_146 (by decide) ?_
                        have hF : fL_looks PN = nextkk110 ((31 * ((31 * x110_1) + (fX1_itemAt 16 (PN 9) (PN 10 5) (nI kk110)).toInt64)) + (fX1_itemAt 8 (PN 8) (PN 10 4) (nI (kk110 % 9))).toInt64) := hF
                        rw [hnextkk110] at hF
                        exact ihkk110 jj110 (Nat.lt_succ_self _) (kk110 + 1) ((31 * ((31 * x110_1) + (fX1_itemAt 16 (PN 9) (PN 10 5) (nI kk110)).toInt64)) + (fX1_itemAt 8 (PN 8) (PN 10 4) (nI (kk110 % 9))).toInt64) (cn_next hkkk110) hF ls (lv_sub hl [0, 1, 2] rfl)
                    exact L110 17 0 x73_1 (Nat.zero_add _) hF ls (lv_sub hl [0, 1, 2] rfl)
                  obtain ⟨jj73, rfl⟩ := cn_go hkkk73 c_81
                  have hF := hF.trans (lq1_s _ _ _ _ _)
                  obtain ⟨nextkk73, hnextkk73⟩ : ∃ y9, y9 = lq1 (fL_looks_b73 PN) (fL_looks_r73 PN) jj73 (kk73 + 1) := ⟨_, rfl⟩
                  rw [← hnextkk73] at hF
                  have hN73 : (5 * (PN 10 1)).toNatClampNeg = 5 * T := mul_pt hR (by decide)
                  have hT4 := hR.wf.hT
                  refine lv_ldc2 (v := 31) hx hb hown (hts _ u_358) dL_looks_84 ?_
                  refine lv_lload_n hx hb dL_looks_87 rfl (lv_at hl 1 rfl) ?_
                  refine lv_lmul hx hb dL_looks_88 ?_
                  refine lv_aload_n hx hb dL_looks_89 rfl (lv_at hl 2 rfl) ?_
                  refine lv_iload_n hx hb dL_looks_90 rfl (lv_at hl 0 rfl) ?_
                  refine lv_iconst (v := 5) hx hb dL_looks_91 (by decide) ?_
                  refine lv_idiv hx hb dL_looks_92 (by decide) ?_
                  refine lv_tope (y := (nI (kk73 / 5))) (pk_div (a := kk73) (d := 5) (by omega) (by decide) (by decide)) ?_
                  refine lv_iload_n hx hb dL_looks_93 rfl (lv_at hl 0 rfl) ?_
                  refine lv_iconst (v := 5) hx hb dL_looks_94 (by decide) ?_
                  refine lv_irem hx hb dL_looks_95 (by decide) ?_
                  refine lv_tope (y := (nI (kk73 % 5))) (pk_rem (a := kk73) (d := 5) (by omega) (by decide) (by decide)) ?_
                  have e_96 : (fX6_tableOf PN (nI (kk73 / 5)) (nI (kk73 % 5))) = Sum.inr ((fX6_tableNumber PN (nI (kk73 / 5)) (nI (kk73 % 5))), ()) := (tableOf_in hR (t := (kk73 / 5)) (w := (kk73 % 5)) (by omega) (by omega))
                  refine k_calli (W.runV (As := [.int (nI (kk73 / 5)), .int (nI (kk73 % 5))]) (rest := [.long (31 * x73_1)]) ⟨hx, hb, hml, hown, hts0⟩ (mX6_tableOf l dC dI cI cP a0 aN aT aS t0 t1 t2 h0 h1 pa PN PT PS f u Ps oh vh k (nI (kk73 / 5)) (nI (kk73 % 5)) (ok_inr e_96)) (cwV 2 hts0 (gi_V u_391 u_392 u_393 u_1 u_394) rfl rfl rfl (by decide +kernel) ⟨Nat.le_of_ble_eq_true rfl, Nat.le_of_ble_eq_true rfl⟩) (pcR_V (ci := 4) (q0 := 0) hP hK hn rfl rfl) rfl rfl hl.1 rfl (lv_room (Nat.le_of_ble_eq_true rfl)) dL_looks_96 ⟨Nat.zero_le _, Nat.zero_le _⟩) ?_
                  refine lv_tope (y := (fX6_tableNumber PN (nI (kk73 / 5)) (nI (kk73 % 5)))) (ok1_inr e_96) ?_
                  refine lv_i2l (v := (fX6_tableNumber PN (nI (kk73 / 5)) (nI (kk73 % 5))).toInt64) hx hb dL_looks_99 rfl ?_
                  refine lv_ladd hx hb dL_looks_100 ?_
                  refine lv_lstore_n (lv' := [(1, .long ((31 * x73_1) + (fX6_tableNumber PN (nI (kk73 / 5)) (nI (kk73 % 5))).toInt64)), (3, .int (nI kk73)), (0, .ref a0)]) hx hb dL_looks_101 rfl hl (by decide) rfl (fun ls hl => ?_)
                  refine lv_iinc (v := (nI (kk73 + 1))) (lv' := [(3, .int (nI (kk73 + 1))), (1, .long ((31 * x73_1) + (fX6_tableNumber PN (nI (kk73 / 5)) (nI (kk73 % 5))).toInt64)), (0, .ref a0)]) hx hb dL_looks_102 hl (k := 1) rfl (nI_1 _) (by decide) rfl (fun ls hl => ?_)
                  refine lv_goto (tgt := 73) hx hb dL_looks_105 (by decide) ?_
                  have hF : fL_looks PN = nextkk73 ((31 * x73_1) + (fX6_tableNumber PN (nI (kk73 / 5)) (nI (kk73 % 5))).toInt64) := hF
                  rw [hnextkk73] at hF
                  exact ihkk73 jj73 (Nat.lt_succ_self _) (kk73 + 1) ((31 * x73_1) + (fX6_tableNumber PN (nI (kk73 / 5)) (nI (kk73 % 5))).toInt64) (cn_next hkkk73) hF ls (lv_sub hl [0, 1, 2] rfl)
              exact L73 ((5 * (PN 10 1)).toNatClampNeg) 0 x33_1 (Nat.zero_add _) hF ls (lv_sub hl [0, 1, 2] rfl)
            obtain ⟨jj33, rfl⟩ := cn_go hkkk33 c_42
            have hF := hF.trans (lq1_s _ _ _ _ _)
            obtain ⟨nextkk33, hnextkk33⟩ : ∃ y9, y9 = lq1 (fL_looks_b33 PN) (fL_looks_r33 PN) jj33 (kk33 + 1) := ⟨_, rfl⟩
            rw [← hnextkk33] at hF
            have hN33 : (7 * (PN 10 0)).toNatClampNeg = 7 * G := mul_pg hR (by decide)
            have hG16 := hR.wf.G16
            refine lv_ldc2 (v := 31) hx hb hown (hts _ u_358) dL_looks_45 ?_
            refine lv_lload_n hx hb dL_looks_48 rfl (lv_at hl 1 rfl) ?_
            refine lv_lmul hx hb dL_looks_49 ?_
            refine lv_aload_n hx hb dL_looks_50 rfl (lv_at hl 2 rfl) ?_
            refine lv_iload_n hx hb dL_looks_51 rfl (lv_at hl 0 rfl) ?_
            refine lv_bipush (v := 7) hx hb dL_looks_52 (by decide) ?_
            refine lv_idiv hx hb dL_looks_54 (by decide) ?_
            refine lv_tope (y := (nI (kk33 / 7))) (pk_div (a := kk33) (d := 7) (by omega) (by decide) (by decide)) ?_
            refine lv_iload_n hx hb dL_looks_55 rfl (lv_at hl 0 rfl) ?_
            refine lv_bipush (v := 7) hx hb dL_looks_56 (by decide) ?_
            refine lv_irem hx hb dL_looks_58 (by decide) ?_
            refine lv_tope (y := (nI (kk33 % 7))) (pk_rem (a := kk33) (d := 7) (by omega) (by decide) (by decide)) ?_
            have e_59 : (fX6_guestOf PN (nI (kk33 / 7)) (nI (kk33 % 7))) = Sum.inr ((fX6_guestNumber PN (nI (kk33 / 7)) (nI (kk33 % 7))), ()) := (guestOf_in hR (g := (kk33 / 7)) (w := (kk33 % 7)) (by omega) (by omega))
            refine k_calli (W.runV (As := [.int (nI (kk33 / 7)), .int (nI (kk33 % 7))]) (rest := [.long (31 * x33_1)]) ⟨hx, hb, hml, hown, hts0⟩ (mX6_guestOf l dC dI cI cP a0 aN aT aS t0 t1 t2 h0 h1 pa PN PT PS f u Ps oh vh k (nI (kk33 / 7)) (nI (kk33 % 7)) (ok_inr e_59)) (cwV 2 hts0 (gi_V u_359 u_360 u_361 u_1 u_362) rfl rfl rfl (by decide +kernel) ⟨Nat.le_of_ble_eq_true rfl, Nat.le_of_ble_eq_true rfl⟩) (pcR_V (ci := 4) (q0 := 0) hP hK hn rfl rfl) rfl rfl hl.1 rfl (lv_room (Nat.le_of_ble_eq_true rfl)) dL_looks_59 ⟨Nat.zero_le _, Nat.zero_le _⟩) ?_
            refine lv_tope (y := (fX6_guestNumber PN (nI (kk33 / 7)) (nI (kk33 % 7)))) (ok1_inr e_59) ?_
            refine lv_i2l (v := (fX6_guestNumber PN (nI (kk33 / 7)) (nI (kk33 % 7))).toInt64) hx hb dL_looks_62 rfl ?_
            refine lv_ladd hx hb dL_looks_63 ?_
            refine lv_lstore_n (lv' := [(1, .long ((31 * x33_1) + (fX6_guestNumber PN (nI (kk33 / 7)) (nI (kk33 % 7))).toInt64)), (3, .int (nI kk33)), (0, .ref a0)]) hx hb dL_looks_64 rfl hl (by decide) rfl (fun ls hl => ?_)
            refine lv_iinc (v := (nI (kk33 + 1))) (lv' := [(3, .int (nI (kk33 + 1))), (1, .long ((31 * x33_1) + (fX6_guestNumber PN (nI (kk33 / 7)) (nI (kk33 % 7))).toInt64)), (0, .ref a0)]) hx hb dL_looks_65 hl (k := 1) rfl (nI_1 _) (by decide) rfl (fun ls hl => ?_)
            refine lv_goto (tgt := 33) hx hb dL_looks_68 (by decide) ?_
            have hF : fL_looks PN = nextkk33 ((31 * x33_1) + (fX6_guestNumber PN (nI (kk33 / 7)) (nI (kk33 % 7))).toInt64) := hF
            rw [hnextkk33] at hF
            exact ihkk33 jj33 (Nat.lt_succ_self _) (kk33 + 1) ((31 * x33_1) + (fX6_guestNumber PN (nI (kk33 / 7)) (nI (kk33 % 7))).toInt64) (cn_next hkkk33) hF ls (lv_sub hl [0, 1, 2] rfl)
        exact L33 ((7 * (PN 10 0)).toNatClampNeg) 0 x6_1 (Nat.zero_add _) hF ls (lv_sub hl [0, 1, 2] rfl)
      obtain ⟨jj6, rfl⟩ := cn_goN (N := 13) hkkk6 (by decide) c_9
      have hF := hF.trans (lq1_s _ _ _ _ _)
      obtain ⟨nextkk6, hnextkk6⟩ : ∃ y9, y9 = lq1 (fL_looks_b6 PN) (fL_looks_r6 PN) jj6 (kk6 + 1) := ⟨_, rfl⟩
      rw [← hnextkk6] at hF
      refine lv_ldc2 (v := 31) hx hb hown (hts _ u_358) dL_looks_12 ?_
      refine lv_lload_n hx hb dL_looks_15 rfl (lv_at hl 1 rfl) ?_
      refine lv_lmul hx hb dL_looks_16 ?_
      refine lv_aload_n hx hb dL_looks_17 rfl (lv_at hl 2 rfl) ?_
      refine lv_iload_n hx hb dL_looks_18 rfl (lv_at hl 0 rfl) ?_
      have e_19 : (fX6_count PN Ps oh vh (nI kk6)) = Sum.inr ((cnt PN (nI kk6)), ()) := (count_lo (w := kk6) (by omega))
      refine k_calli (W.runV (As := [.int (nI kk6)]) (rest := [.long (31 * x6_1)]) ⟨hx, hb, hml, hown, hts0⟩ (mX6_count l dC dI cI cP a0 aN aT aS t0 t1 t2 h0 h1 pa PN PT PS f u Ps oh vh k (nI kk6) (ok_inr e_19)) (cwV 1 hts0 (gi_V u_268 u_269 u_270 u_1 u_271) rfl rfl rfl (by decide +kernel) ⟨Nat.le_of_ble_eq_true rfl, Nat.le_of_ble_eq_true rfl⟩) (pcR_V (ci := 4) (q0 := 0) hP hK hn rfl rfl) rfl rfl hl.1 rfl (lv_room (Nat.le_of_ble_eq_true rfl)) dL_looks_19 ⟨Nat.zero_le _, Nat.zero_le _⟩) ?_
      refine lv_tope (y := (cnt PN (nI kk6))) (ok1_inr e_19) ?_
      refine lv_i2l (v := (cnt PN (nI kk6)).toInt64) hx hb dL_looks_22 rfl ?_
      refine lv_ladd hx hb dL_looks_23 ?_
      refine lv_lstore_n (lv' := [(1, .long ((31 * x6_1) + (cnt PN (nI kk6)).toInt64)), (3, .int (nI kk6)), (0, .ref a0)]) hx hb dL_looks_24 rfl hl (by decide) rfl (fun ls hl => ?_)
      refine lv_iinc (v := (nI (kk6 + 1))) (lv' := [(3, .int (nI (kk6 + 1))), (1, .long ((31 * x6_1) + (cnt PN (nI kk6)).toInt64)), (0, .ref a0)]) hx hb dL_looks_25 hl (k := 1) rfl (nI_1 _) (by decide) rfl (fun ls hl => ?_)
      refine lv_goto (tgt := 6) hx hb dL_looks_28 (by decide) ?_
      have hF : fL_looks PN = nextkk6 ((31 * x6_1) + (cnt PN (nI kk6)).toInt64) := hF
      rw [hnextkk6] at hF
      exact ihkk6 jj6 (Nat.lt_succ_self _) (kk6 + 1) ((31 * x6_1) + (cnt PN (nI kk6)).toInt64) (cn_next hkkk6) hF ls (lv_sub hl [0, 1, 2] rfl)
  exact L6 13 0 83 (Nat.zero_add _) hF ls (lv_sub hl [0, 1, 2] rfl)
