/-! the reference's digest, of tables that there are alone. Mine. -/
set_option maxHeartbeats 4000000 in
set_option maxRecDepth 100000 in
theorem mX7_digest2 (l : Launch) (dC : Nat → ClassId) (dI : Nat → Nat → Nat) (cI : ClassId) (o q0 q1 : Nat) (f x M : Nat → Int32) (h : Int64) (hR : RW f 0) (G9 : Nat) (L9 : List Nat) (hL : RO f 0 G9 L9) (hM3 : IN (M 3) 60) (hS8 : ∀ t : Nat, t < (f 1).toNatClampNeg → (f (18 + t)).toNatClampNeg ≤ 8) : Met l yX7_digest (ws_ yX7_digest cX7_digest 3 (some .long)) rmX7_digest (pcM (dC, dI) [(cI, .int)] (mW cI o q0 q1 f x M h) [.ref o]) (va_Ql (fun (r9 : Int64) (u9 : (Nat → Int32) × (Nat → Int32) × Int64) => (r9, u9) = fX7_digest f x M) (fun u9 t => va_P (dC, dI) vwCl ((fun (v9 : (Nat → Int32) × (Nat → Int32) × Int64) => mW cI o q0 q1 v9.1 x v9.2.1 v9.2.2) u9) t.heap) (adr (mW cI o q0 q1 f x M h))) 0 0 (adr (mW cI o q0 q1 f x M h)) := by
  refine Met.ofW (cc := cX7_digest) (maxL := 3) (ret := (some .long)) (by decide) rfl ?_
  intro p e s m args below meth c s₁ B hml hv
  obtain ⟨ha, hP, hK, hn, hD0⟩ := hv
  have hx := B.exec
  have hb := B.bytes
  have hr := B.returns
  have hts0 := atoms_spec (ws := (ws_ yX7_digest cX7_digest 3 (some .long))) B.pre
  have hts : ∀ w ∈ lw_all, w.before args s = true := fun w h => hts0 w (List.mem_cons_of_mem _ h)
  have hown : s.vm.findClass RX7 = some m.cls := findClass_of_methodNamed B.named
  have hlocks := B.notSynchronized
  have htX7 : ∀ w ∈ wsX70, w.before args s = true := fun w h => hts w (wX7 w h)
  have hD := adr_self hD0
  obtain ⟨A, hA⟩ : ∃ A, A = adr (mW cI o q0 q1 f x M h) := ⟨_, rfl⟩
  rw [← hA] at hD
  have hS : va_S A s.heap s.heap [] := va_S.rf
  obtain ⟨Q, hQ⟩ : ∃ Q, Q = MQ below (va_Ql (fun (r9 : Int64) (u9 : (Nat → Int32) × (Nat → Int32) × Int64) => (r9, u9) = fX7_digest f x M) (fun u9 t => va_P (dC, dI) vwCl ((fun (v9 : (Nat → Int32) × (Nat → Int32) × Int64) => mW cI o q0 q1 v9.1 x v9.2.1 v9.2.2) u9) t.heap) (adr (mW cI o q0 q1 f x M h))) args s 0 0 (adr (mW cI o q0 q1 f x M h)) := ⟨_, rfl⟩
  rw [← hQ]
  rw [← hA] at hQ
  have hl := lv_entry ([.ref o]) (n := 3) (Nat.le_of_ble_eq_true rfl)
  rw [ha, lg_entry_eq, ← ha]
  generalize (lg_sl ([.ref o]) ++ List.replicate (3 - (lg_sl ([.ref o])).length) Slot.unset).toArray = ls at hl ⊢
  have hl : lv_has ls 3 [(0, .ref o)] := hl
  show W p l e rmX7_digest s m args below meth c s.heap [] 0 0 Q (F0 m 0 ls [])
  have hF : fX7_digest f x M = fX7_digest f x M := rfl
  obtain ⟨-, rG0, rT0, -⟩ := id hR
  have rG : (f 0).toNatClampNeg ≤ 16 := rG0.c (by decide)
  have rT : (f 1).toNatClampNeg ≤ 4 := rT0.c (by decide)
  have rF : (f 2).toNatClampNeg ≤ 8 := hR.2.2.2.1.c (by decide)
  have rS : (f 3).toNatClampNeg ≤ 16 := hR.2.2.2.2.1.c (by decide)
  have r3 : (M 3).toNatClampNeg ≤ 60 := hM3.c (by decide)
  refine lv_aload_n hx hb dX7_digest_0 rfl (lv_at hl 0 rfl) ?_
  refine lv_iconst (v := 0) hx hb dX7_digest_1 (by decide) ?_
  refine va_put (D := (dC, dI)) (ci := 5) (v := .int 0) (ty := .int) (C := RX7) (T := TX7) (N := 12) hx hb htX7 (fun _ h => h) tyX7 tyX7_ok nmX7 hown hK hP hD hS 0 rfl rfl 0 (by decide) (hts _ u_857) (fun _ h9 => h9) rfl (by decide +kernel) rfl rfl (Nat.le_of_ble_eq_true rfl) dX7_digest_2 (fun H locs hP hD hS => ?_)
  have hP : va_P (dC, dI) vwCl (mW cI o q0 q1 f x (upd M 0 0) h) H := hP
  have hD : va_D A (mW cI o q0 q1 f x (upd M 0 0) h) := hD
  refine lv_aload_n hx hb dX7_digest_5 rfl (lv_at hl 0 rfl) ?_
  refine lv_ldc2 (v := 3719) hx hb hown (hts _ u_1192) dX7_digest_6 ?_
  refine va_put (D := (dC, dI)) (ci := 5) (v := .long 3719) (ty := .long) (C := RX7) (T := TX7) (N := 12) hx hb htX7 (fun _ h => h) tyX7 tyX7_ok nmX7 hown hK hP hD hS 0 rfl rfl 11 (by decide) (hts _ u_868) (fun _ h9 => h9) rfl (by decide +kernel) rfl rfl (Nat.le_of_ble_eq_true rfl) dX7_digest_9 (fun H locs hP hD hS => ?_)
  have hP : va_P (dC, dI) vwCl (mW cI o q0 q1 f x (upd M 0 0) 3719) H := hP
  have hD : va_D A (mW cI o q0 q1 f x (upd M 0 0) 3719) := hD
  refine lv_iconst (v := 0) hx hb dX7_digest_12 (by decide) ?_
  refine lv_istore_n (lv' := [(1, .int 0), (0, .ref o)]) hx hb dX7_digest_13 rfl hl (by decide) rfl (fun ls hl => ?_)
  have L14 : ∀ (jj14 kk14 : Nat) (U14_0 : Int64), kk14 + jj14 = 14 → fX7_digest f x M = lq1 (fX7_digest_b14 f M) (fX7_digest_r14 f x M) jj14 kk14 U14_0 → ∀ (H : Heap) (locs : List Loc), va_P (dC, dI) vwCl (mW cI o q0 q1 f x (upd M 0 0) U14_0) H → va_D A (mW cI o q0 q1 f x (upd M 0 0) U14_0) → va_S A s.heap H locs → ∀ (ls : Array Slot), lv_has ls 3 [(1, .int (nI kk14)), (0, .ref o)] → W p l e rmX7_digest s m args below meth c H locs 0 0 Q (F0 m 14 ls []) := by
    intro jj14
    induction jj14 using Nat.strongRecOn with
    | _ jj14 ihkk14 =>
      intro kk14 U14_0 hkkk14 hF H locs hP hD hS ls hl
      refine lv_iload_n hx hb dX7_digest_14 rfl (lv_at hl 0 rfl) ?_
      refine lv_bipush (v := 14) hx hb dX7_digest_15 (by decide) ?_
      refine lv_icmp_ge (tgt := 36) hx hb dX7_digest_17 (by decide) (fun c_17 => ?_) (fun c_17 => ?_)
      · obtain rfl := cn_exitN (N := 14) hkkk14 (by decide) c_17
        have hF := hF.trans (lq1_z _ _ _ _)
        refine lv_iconst (v := 0) hx hb dX7_digest_36 (by decide) ?_
        refine lv_istore_n (lv' := [(1, .int 0), (0, .ref o)]) hx hb dX7_digest_37 rfl hl (by decide) rfl (fun ls hl => ?_)
        have L38 : ∀ (jj38 kk38 : Nat) (U38_0 : Int64), kk38 + jj38 = ((f 0).toNatClampNeg) → fX7_digest f x M = lq1 (fX7_digest_b38 f) (fX7_digest_r38 f x M) jj38 kk38 U38_0 → ∀ (H : Heap) (locs : List Loc), va_P (dC, dI) vwCl (mW cI o q0 q1 f x (upd M 0 0) U38_0) H → va_D A (mW cI o q0 q1 f x (upd M 0 0) U38_0) → va_S A s.heap H locs → ∀ (ls : Array Slot), lv_has ls 3 [(1, .int (nI kk38)), (0, .ref o)] → W p l e rmX7_digest s m args below meth c H locs 0 0 Q (F0 m 38 ls []) := by
          intro jj38
          induction jj38 using Nat.strongRecOn with
          | _ jj38 ihkk38 =>
            intro kk38 U38_0 hkkk38 hF H locs hP hD hS ls hl
            refine lv_iload_n hx hb dX7_digest_38 rfl (lv_at hl 0 rfl) ?_
            refine lv_aload_n hx hb dX7_digest_39 rfl (lv_at hl 1 rfl) ?_
            refine va_get (D := (dC, dI)) (ci := 5) (v := .ref q0) (C := RX7) (T := TX7) (N := 12) hx hb htX7 (fun _ h => h) hown hK hP 0 rfl rfl 1 (by decide) (hts _ u_858) (fun _ h9 => h9) rfl dX7_digest_40 ?_
            refine lv_iconst (v := 0) hx hb dX7_digest_43 (by decide) ?_
            refine va_iald hx hb hK hP 1 0 rfl rfl (vp_in_nI (n := 0) (by omega) (by decide)) dX7_digest_44 ?_
            refine lv_tope (y := (f 0)) (at_nI (k := 0) (by omega)) ?_
            refine lv_icmp_ge (tgt := 90) hx hb dX7_digest_45 (by decide) (fun c_45 => ?_) (fun c_45 => ?_)
            · obtain rfl := cn_exit hkkk38 c_45
              have hF := hF.trans (lq1_z _ _ _ _)
              refine lv_iconst (v := 0) hx hb dX7_digest_90 (by decide) ?_
              refine lv_istore_n (lv' := [(1, .int 0), (0, .ref o)]) hx hb dX7_digest_91 rfl hl (by decide) rfl (fun ls hl => ?_)
              have L92 : ∀ (jj92 kk92 : Nat) (U92_0 : Int64), kk92 + jj92 = ((f 1).toNatClampNeg) → fX7_digest f x M = lq1 (fX7_digest_b92 f) (fX7_digest_r92 f x M) jj92 kk92 U92_0 → ∀ (H : Heap) (locs : List Loc), va_P (dC, dI) vwCl (mW cI o q0 q1 f x (upd M 0 0) U92_0) H → va_D A (mW cI o q0 q1 f x (upd M 0 0) U92_0) → va_S A s.heap H locs → ∀ (ls : Array Slot), lv_has ls 3 [(1, .int (nI kk92)), (0, .ref o)] → W p l e rmX7_digest s m args below meth c H locs 0 0 Q (F0 m 92 ls []) := by
                intro jj92
                induction jj92 using Nat.strongRecOn with
                | _ jj92 ihkk92 =>
                  intro kk92 U92_0 hkkk92 hF H locs hP hD hS ls hl
                  refine lv_iload_n hx hb dX7_digest_92 rfl (lv_at hl 0 rfl) ?_
                  refine lv_aload_n hx hb dX7_digest_93 rfl (lv_at hl 1 rfl) ?_
                  refine va_get (D := (dC, dI)) (ci := 5) (v := .ref q0) (C := RX7) (T := TX7) (N := 12) hx hb htX7 (fun _ h => h) hown hK hP 0 rfl rfl 1 (by decide) (hts _ u_858) (fun _ h9 => h9) rfl dX7_digest_94 ?_
                  refine lv_iconst (v := 1) hx hb dX7_digest_97 (by decide) ?_
                  refine va_iald hx hb hK hP 1 0 rfl rfl (vp_in_nI (n := 1) (by omega) (by decide)) dX7_digest_98 ?_
                  refine lv_tope (y := (f 1)) (at_nI (k := 1) (by omega)) ?_
                  refine lv_icmp_ge (tgt := 113) hx hb dX7_digest_99 (by decide) (fun c_99 => ?_) (fun c_99 => ?_)
                  · obtain rfl := cn_exit hkkk92 c_99
                    have hF := hF.trans (lq1_z _ _ _ _)
                    refine lv_iconst (v := 0) hx hb dX7_digest_113 (by decide) ?_
                    refine lv_istore_n (lv' := [(1, .int 0), (0, .ref o)]) hx hb dX7_digest_114 rfl hl (by decide) rfl (fun ls hl => ?_)
                    have L115 : ∀ (jj115 kk115 : Nat) (U115_0 : Int64), kk115 + jj115 = ((f 3).toNatClampNeg) → fX7_digest f x M = lq1 (fX7_digest_b115 f) (fX7_digest_r115 f x M) jj115 kk115 U115_0 → ∀ (H : Heap) (locs : List Loc), va_P (dC, dI) vwCl (mW cI o q0 q1 f x (upd M 0 0) U115_0) H → va_D A (mW cI o q0 q1 f x (upd M 0 0) U115_0) → va_S A s.heap H locs → ∀ (ls : Array Slot), lv_has ls 3 [(1, .int (nI kk115)), (0, .ref o)] → W p l e rmX7_digest s m args below meth c H locs 0 0 Q (F0 m 115 ls []) := by
                      intro jj115
                      induction jj115 using Nat.strongRecOn with
                      | _ jj115 ihkk115 =>
                        intro kk115 U115_0 hkkk115 hF H locs hP hD hS ls hl
                        refine lv_iload_n hx hb dX7_digest_115 rfl (lv_at hl 0 rfl) ?_
                        refine lv_aload_n hx hb dX7_digest_116 rfl (lv_at hl 1 rfl) ?_
                        refine va_get (D := (dC, dI)) (ci := 5) (v := .ref q0) (C := RX7) (T := TX7) (N := 12) hx hb htX7 (fun _ h => h) hown hK hP 0 rfl rfl 1 (by decide) (hts _ u_858) (fun _ h9 => h9) rfl dX7_digest_117 ?_
                        refine lv_iconst (v := 3) hx hb dX7_digest_120 (by decide) ?_
                        refine va_iald hx hb hK hP 1 0 rfl rfl (vp_in_nI (n := 3) (by omega) (by decide)) dX7_digest_121 ?_
                        refine lv_tope (y := (f 3)) (at_nI (k := 3) (by omega)) ?_
                        refine lv_icmp_ge (tgt := 145) hx hb dX7_digest_122 (by decide) (fun c_122 => ?_) (fun c_122 => ?_)
                        · obtain rfl := cn_exit hkkk115 c_122
                          have hF := hF.trans (lq1_z _ _ _ _)
                          refine lv_iconst (v := 0) hx hb dX7_digest_145 (by decide) ?_
                          refine lv_istore_n (lv' := [(1, .int 0), (0, .ref o)]) hx hb dX7_digest_146 rfl hl (by decide) rfl (fun ls hl => ?_)
                          have L147 : ∀ (jj147 kk147 : Nat) (U147_0 : Int64), kk147 + jj147 = ((f 2).toNatClampNeg) → fX7_digest f x M = lq1 (fX7_digest_b147 f) (fX7_digest_r147 f x M) jj147 kk147 U147_0 → ∀ (H : Heap) (locs : List Loc), va_P (dC, dI) vwCl (mW cI o q0 q1 f x (upd M 0 0) U147_0) H → va_D A (mW cI o q0 q1 f x (upd M 0 0) U147_0) → va_S A s.heap H locs → ∀ (ls : Array Slot), lv_has ls 3 [(1, .int (nI kk147)), (0, .ref o)] → W p l e rmX7_digest s m args below meth c H locs 0 0 Q (F0 m 147 ls []) := by
                            intro jj147
                            induction jj147 using Nat.strongRecOn with
                            | _ jj147 ihkk147 =>
                              intro kk147 U147_0 hkkk147 hF H locs hP hD hS ls hl
                              refine lv_iload_n hx hb dX7_digest_147 rfl (lv_at hl 0 rfl) ?_
                              refine lv_aload_n hx hb dX7_digest_148 rfl (lv_at hl 1 rfl) ?_
                              refine va_get (D := (dC, dI)) (ci := 5) (v := .ref q0) (C := RX7) (T := TX7) (N := 12) hx hb htX7 (fun _ h => h) hown hK hP 0 rfl rfl 1 (by decide) (hts _ u_858) (fun _ h9 => h9) rfl dX7_digest_149 ?_
                              refine lv_iconst (v := 2) hx hb dX7_digest_152 (by decide) ?_
                              refine va_iald hx hb hK hP 1 0 rfl rfl (vp_in_nI (n := 2) (by omega) (by decide)) dX7_digest_153 ?_
                              refine lv_tope (y := (f 2)) (at_nI (k := 2) (by omega)) ?_
                              refine lv_icmp_ge (tgt := 177) hx hb dX7_digest_154 (by decide) (fun c_154 => ?_) (fun c_154 => ?_)
                              · obtain rfl := cn_exit hkkk147 c_154
                                have hF := hF.trans (lq1_z _ _ _ _)
                                refine lv_aload_n hx hb dX7_digest_177 rfl (lv_at hl 1 rfl) ?_
                                refine lv_aload_n hx hb dX7_digest_178 rfl (lv_at hl 1 rfl) ?_
                                refine lv_iconst (v := 0) hx hb dX7_digest_179 (by decide) ?_
                                refine lv_iconst (v := 1) hx hb dX7_digest_180 (by decide) ?_
                                refine k_calli (W.runV (As := [.int 0, .int 1]) (rest := [.ref o]) ⟨hx, hb, hml, hown, hts0⟩ (mX7_standing l dC dI cI o q0 q1 f x (upd M 0 0) U147_0 0 1 (by first | omega | assumption)) (cwV 2 hts0 (gi_V u_1164 u_1166 us_49 u_7 u_1167) rfl rfl rfl (by decide +kernel) ⟨Nat.le_of_ble_eq_true rfl, Nat.le_of_ble_eq_true rfl⟩) (pcR_V (ci := 5) (q0 := 0) hP hK hn rfl rfl) rfl rfl hl.1 rfl (lv_room (Nat.le_of_ble_eq_true rfl)) dX7_digest_181 ⟨Nat.zero_le _, Nat.zero_le _⟩) ?_
                                refine lv_i2l (v := (fX7_standing f 0 1).toInt64) hx hb dX7_digest_184 rfl ?_
                                refine k_mutv (Wd := (fun (v9 : Int64) => mW cI o q0 q1 f x (upd M 0 0) v9)) (va_runV (As := [.long ((fX7_standing f 0 1).toInt64)]) (rest := []) ⟨hx, hb, hml, hown, hts0⟩ (mX7_mix l dC dI cI o q0 q1 f x (upd M 0 0) U147_0 ((fX7_standing f 0 1).toInt64)) (cwV 1 hts0 (gi_V u_1193 u_1195 us_53 u_7 u_1196) rfl rfl rfl (by decide +kernel) ⟨Nat.le_of_ble_eq_true rfl, Nat.le_of_ble_eq_true rfl⟩) (pcM_V (ci := 5) (q0 := 0) hP hK hn hD rfl rfl) rfl rfl hl.1 rfl (lv_room (Nat.le_of_ble_eq_true rfl)) dX7_digest_185 ⟨Nat.zero_le _, Nat.zero_le _⟩) hP hD hS [0, 1, 2] rfl rfl (fun _ => rfl) (fun U185 H locs hU185 hP hD hS => ?_)
                                have hP : va_P (dC, dI) vwCl (mW cI o q0 q1 f x (upd M 0 0) U185) H := hP
                                have hD : va_D A (mW cI o q0 q1 f x (upd M 0 0) U185) := hD
                                have hF := bd_at hF hU185
                                refine lv_aload_n hx hb dX7_digest_188 rfl (lv_at hl 1 rfl) ?_
                                refine lv_aload_n hx hb dX7_digest_189 rfl (lv_at hl 1 rfl) ?_
                                refine lv_iconst (v := 2) hx hb dX7_digest_190 (by decide) ?_
                                refine lv_iconst (v := 3) hx hb dX7_digest_191 (by decide) ?_
                                refine k_calli (W.runV (As := [.int 2, .int 3]) (rest := [.ref o]) ⟨hx, hb, hml, hown, hts0⟩ (mX7_standing l dC dI cI o q0 q1 f x (upd M 0 0) U185 2 3 (by first | omega | assumption)) (cwV 2 hts0 (gi_V u_1164 u_1166 us_49 u_7 u_1167) rfl rfl rfl (by decide +kernel) ⟨Nat.le_of_ble_eq_true rfl, Nat.le_of_ble_eq_true rfl⟩) (pcR_V (ci := 5) (q0 := 0) hP hK hn rfl rfl) rfl rfl hl.1 rfl (lv_room (Nat.le_of_ble_eq_true rfl)) dX7_digest_192 ⟨Nat.zero_le _, Nat.zero_le _⟩) ?_
                                refine lv_i2l (v := (fX7_standing f 2 3).toInt64) hx hb dX7_digest_195 rfl ?_
                                refine k_mutv (Wd := (fun (v9 : Int64) => mW cI o q0 q1 f x (upd M 0 0) v9)) (va_runV (As := [.long ((fX7_standing f 2 3).toInt64)]) (rest := []) ⟨hx, hb, hml, hown, hts0⟩ (mX7_mix l dC dI cI o q0 q1 f x (upd M 0 0) U185 ((fX7_standing f 2 3).toInt64)) (cwV 1 hts0 (gi_V u_1193 u_1195 us_53 u_7 u_1196) rfl rfl rfl (by decide +kernel) ⟨Nat.le_of_ble_eq_true rfl, Nat.le_of_ble_eq_true rfl⟩) (pcM_V (ci := 5) (q0 := 0) hP hK hn hD rfl rfl) rfl rfl hl.1 rfl (lv_room (Nat.le_of_ble_eq_true rfl)) dX7_digest_196 ⟨Nat.zero_le _, Nat.zero_le _⟩) hP hD hS [0, 1, 2] rfl rfl (fun _ => rfl) (fun U196 H locs hU196 hP hD hS => ?_)
                                have hP : va_P (dC, dI) vwCl (mW cI o q0 q1 f x (upd M 0 0) U196) H := hP
                                have hD : va_D A (mW cI o q0 q1 f x (upd M 0 0) U196) := hD
                                have hF := bd_at hF hU196
                                refine lv_aload_n hx hb dX7_digest_199 rfl (lv_at hl 1 rfl) ?_
                                refine lv_aload_n hx hb dX7_digest_200 rfl (lv_at hl 1 rfl) ?_
                                refine lv_iconst (v := 0) hx hb dX7_digest_201 (by decide) ?_
                                refine k_muti (Wd := (fun (v9 : (Nat → Int32)) => mW cI o q0 q1 v9 x (upd M 0 0) U196)) (va_runV (As := [.int 0]) (rest := [.ref o]) ⟨hx, hb, hml, hown, hts0⟩ (mX7_seatedIf l dC dI cI o q0 q1 f x (upd M 0 0) U196 0 hR G9 L9 hL) (cwV 1 hts0 (gi_V u_1176 u_1178 us_51 u_7 u_1179) rfl rfl rfl (by decide +kernel) ⟨Nat.le_of_ble_eq_true rfl, Nat.le_of_ble_eq_true rfl⟩) (pcM_V (ci := 5) (q0 := 0) hP hK hn hD rfl rfl) rfl rfl hl.1 rfl (lv_room (Nat.le_of_ble_eq_true rfl)) dX7_digest_202 ⟨Nat.zero_le _, Nat.zero_le _⟩) hP hD hS [0, 1, 2] rfl rfl (fun _ => rfl) (fun r202 U202 H locs hU202 hP hD hS => ?_)
                                have hP : va_P (dC, dI) vwCl (mW cI o q0 q1 U202 x (upd M 0 0) U196) H := hP
                                have hD : va_D A (mW cI o q0 q1 U202 x (upd M 0 0) U196) := hD
                                have hF := bd2_at hF hU202
                                have hLa : RO U202 0 G9 L9 := RO_low (seatedIf_low hL hU202) hL
                                refine lv_i2l (v := r202.toInt64) hx hb dX7_digest_205 rfl ?_
                                refine k_mutv (Wd := (fun (v9 : Int64) => mW cI o q0 q1 U202 x (upd M 0 0) v9)) (va_runV (As := [.long r202.toInt64]) (rest := []) ⟨hx, hb, hml, hown, hts0⟩ (mX7_mix l dC dI cI o q0 q1 U202 x (upd M 0 0) U196 r202.toInt64) (cwV 1 hts0 (gi_V u_1193 u_1195 us_53 u_7 u_1196) rfl rfl rfl (by decide +kernel) ⟨Nat.le_of_ble_eq_true rfl, Nat.le_of_ble_eq_true rfl⟩) (pcM_V (ci := 5) (q0 := 0) hP hK hn hD rfl rfl) rfl rfl hl.1 rfl (lv_room (Nat.le_of_ble_eq_true rfl)) dX7_digest_206 ⟨Nat.zero_le _, Nat.zero_le _⟩) hP hD hS [0, 1, 2] rfl rfl (fun _ => rfl) (fun U206 H locs hU206 hP hD hS => ?_)
                                have hP : va_P (dC, dI) vwCl (mW cI o q0 q1 U202 x (upd M 0 0) U206) H := hP
                                have hD : va_D A (mW cI o q0 q1 U202 x (upd M 0 0) U206) := hD
                                have hF := bd_at hF hU206
                                refine lv_aload_n hx hb dX7_digest_209 rfl (lv_at hl 1 rfl) ?_
                                refine lv_aload_n hx hb dX7_digest_210 rfl (lv_at hl 1 rfl) ?_
                                refine lv_iconst (v := 1) hx hb dX7_digest_211 (by decide) ?_
                                refine k_muti (Wd := (fun (v9 : (Nat → Int32)) => mW cI o q0 q1 v9 x (upd M 0 0) U206)) (va_runV (As := [.int 1]) (rest := [.ref o]) ⟨hx, hb, hml, hown, hts0⟩ (mX7_seatedIf l dC dI cI o q0 q1 U202 x (upd M 0 0) U206 1 hLa.1 G9 L9 hLa) (cwV 1 hts0 (gi_V u_1176 u_1178 us_51 u_7 u_1179) rfl rfl rfl (by decide +kernel) ⟨Nat.le_of_ble_eq_true rfl, Nat.le_of_ble_eq_true rfl⟩) (pcM_V (ci := 5) (q0 := 0) hP hK hn hD rfl rfl) rfl rfl hl.1 rfl (lv_room (Nat.le_of_ble_eq_true rfl)) dX7_digest_212 ⟨Nat.zero_le _, Nat.zero_le _⟩) hP hD hS [0, 1, 2] rfl rfl (fun _ => rfl) (fun r212 U212 H locs hU212 hP hD hS => ?_)
                                have hP : va_P (dC, dI) vwCl (mW cI o q0 q1 U212 x (upd M 0 0) U206) H := hP
                                have hD : va_D A (mW cI o q0 q1 U212 x (upd M 0 0) U206) := hD
                                have hF := bd2_at hF hU212
                                have hLb : RO U212 0 G9 L9 := RO_low (seatedIf_low hLa hU212) hLa
                                refine lv_i2l (v := r212.toInt64) hx hb dX7_digest_215 rfl ?_
                                refine k_mutv (Wd := (fun (v9 : Int64) => mW cI o q0 q1 U212 x (upd M 0 0) v9)) (va_runV (As := [.long r212.toInt64]) (rest := []) ⟨hx, hb, hml, hown, hts0⟩ (mX7_mix l dC dI cI o q0 q1 U212 x (upd M 0 0) U206 r212.toInt64) (cwV 1 hts0 (gi_V u_1193 u_1195 us_53 u_7 u_1196) rfl rfl rfl (by decide +kernel) ⟨Nat.le_of_ble_eq_true rfl, Nat.le_of_ble_eq_true rfl⟩) (pcM_V (ci := 5) (q0 := 0) hP hK hn hD rfl rfl) rfl rfl hl.1 rfl (lv_room (Nat.le_of_ble_eq_true rfl)) dX7_digest_216 ⟨Nat.zero_le _, Nat.zero_le _⟩) hP hD hS [0, 1, 2] rfl rfl (fun _ => rfl) (fun U216 H locs hU216 hP hD hS => ?_)
                                have hP : va_P (dC, dI) vwCl (mW cI o q0 q1 U212 x (upd M 0 0) U216) H := hP
                                have hD : va_D A (mW cI o q0 q1 U212 x (upd M 0 0) U216) := hD
                                have hF := bd_at hF hU216
                                refine lv_aload_n hx hb dX7_digest_219 rfl (lv_at hl 1 rfl) ?_
                                refine lv_aload_n hx hb dX7_digest_220 rfl (lv_at hl 1 rfl) ?_
                                refine k_calld (W.runV (As := []) (rest := [.ref o]) ⟨hx, hb, hml, hown, hts0⟩ (mX7_share l dC dI cI o q0 q1 U212 x (upd M 0 0) U216  hLb.1) (cwV 0 hts0 (gi_V u_1184 u_1186 us_52 u_7 u_1187) rfl rfl rfl (by decide +kernel) ⟨Nat.le_of_ble_eq_true rfl, Nat.le_of_ble_eq_true rfl⟩) (pcR_V (ci := 5) (q0 := 0) hP hK hn rfl rfl) rfl rfl hl.1 rfl (lv_room (Nat.le_of_ble_eq_true rfl)) dX7_digest_221 ⟨Nat.zero_le _, Nat.zero_le _⟩) ?_
                                refine k_calll (W.runS (As := [.double (fX7_share U212)]) (rest := [.ref o]) ⟨hx, hb, hml, hown, hts0⟩ (mX7_bits l dC dI  (fX7_share U212) (share_okB hLb.1)) (va_cwS 1 hts0 (gi_S u_1202 u_1203 u_7 u_1204) rfl rfl rfl (by decide +kernel) ⟨Nat.le_of_ble_eq_true rfl, Nat.le_of_ble_eq_true rfl⟩) (pcR_S (hP.sub (ws' := []) [] rfl) (hK.sub (tys' := []) [] rfl) hn) rfl rfl hl.1 rfl (lv_room (Nat.le_of_ble_eq_true rfl)) dX7_digest_224 ⟨Nat.zero_le _, Nat.zero_le _⟩) ?_
                                refine k_mutv (Wd := (fun (v9 : Int64) => mW cI o q0 q1 U212 x (upd M 0 0) v9)) (va_runV (As := [.long (fX7_bits (fX7_share U212))]) (rest := []) ⟨hx, hb, hml, hown, hts0⟩ (mX7_mix l dC dI cI o q0 q1 U212 x (upd M 0 0) U216 (fX7_bits (fX7_share U212))) (cwV 1 hts0 (gi_V u_1193 u_1195 us_53 u_7 u_1196) rfl rfl rfl (by decide +kernel) ⟨Nat.le_of_ble_eq_true rfl, Nat.le_of_ble_eq_true rfl⟩) (pcM_V (ci := 5) (q0 := 0) hP hK hn hD rfl rfl) rfl rfl hl.1 rfl (lv_room (Nat.le_of_ble_eq_true rfl)) dX7_digest_227 ⟨Nat.zero_le _, Nat.zero_le _⟩) hP hD hS [0, 1, 2] rfl rfl (fun _ => rfl) (fun U227 H locs hU227 hP hD hS => ?_)
                                have hP : va_P (dC, dI) vwCl (mW cI o q0 q1 U212 x (upd M 0 0) U227) H := hP
                                have hD : va_D A (mW cI o q0 q1 U212 x (upd M 0 0) U227) := hD
                                have hF := bd_at hF hU227
                                refine lv_aload_n hx hb dX7_digest_230 rfl (lv_at hl 1 rfl) ?_
                                refine lv_aload_n hx hb dX7_digest_231 rfl (lv_at hl 1 rfl) ?_
                                refine va_get (D := (dC, dI)) (ci := 5) (v := .int (M 3)) (C := RX7) (T := TX7) (N := 12) hx hb htX7 (fun _ h => h) hown hK hP 0 rfl rfl 5 (by decide) (hts _ u_862) (fun _ h9 => h9) rfl dX7_digest_232 ?_
                                refine lv_i2l (v := (M 3).toInt64) hx hb dX7_digest_235 rfl ?_
                                refine k_mutv (Wd := (fun (v9 : Int64) => mW cI o q0 q1 U212 x (upd M 0 0) v9)) (va_runV (As := [.long ((M 3).toInt64)]) (rest := []) ⟨hx, hb, hml, hown, hts0⟩ (mX7_mix l dC dI cI o q0 q1 U212 x (upd M 0 0) U227 ((M 3).toInt64)) (cwV 1 hts0 (gi_V u_1193 u_1195 us_53 u_7 u_1196) rfl rfl rfl (by decide +kernel) ⟨Nat.le_of_ble_eq_true rfl, Nat.le_of_ble_eq_true rfl⟩) (pcM_V (ci := 5) (q0 := 0) hP hK hn hD rfl rfl) rfl rfl hl.1 rfl (lv_room (Nat.le_of_ble_eq_true rfl)) dX7_digest_236 ⟨Nat.zero_le _, Nat.zero_le _⟩) hP hD hS [0, 1, 2] rfl rfl (fun _ => rfl) (fun U236 H locs hU236 hP hD hS => ?_)
                                have hP : va_P (dC, dI) vwCl (mW cI o q0 q1 U212 x (upd M 0 0) U236) H := hP
                                have hD : va_D A (mW cI o q0 q1 U212 x (upd M 0 0) U236) := hD
                                have hF := bd_at hF hU236
                                refine lv_iconst (v := 0) hx hb dX7_digest_239 (by decide) ?_
                                refine lv_istore_n (lv' := [(1, .int 0), (0, .ref o)]) hx hb dX7_digest_240 rfl hl (by decide) rfl (fun ls hl => ?_)
                                have L241 : ∀ (jj241 kk241 : Nat) (U241_0 : Int64), kk241 + jj241 = ((M 3).toNatClampNeg) → fX7_digest f x M = lq1 (fX7_digest_b241 x) (fX7_digest_r241 M U212) jj241 kk241 U241_0 → ∀ (H : Heap) (locs : List Loc), va_P (dC, dI) vwCl (mW cI o q0 q1 U212 x (upd M 0 0) U241_0) H → va_D A (mW cI o q0 q1 U212 x (upd M 0 0) U241_0) → va_S A s.heap H locs → ∀ (ls : Array Slot), lv_has ls 3 [(1, .int (nI kk241)), (0, .ref o)] → W p l e rmX7_digest s m args below meth c H locs 0 0 Q (F0 m 241 ls []) := by
                                  intro jj241
                                  induction jj241 using Nat.strongRecOn with
                                  | _ jj241 ihkk241 =>
                                    intro kk241 U241_0 hkkk241 hF H locs hP hD hS ls hl
                                    refine lv_iload_n hx hb dX7_digest_241 rfl (lv_at hl 0 rfl) ?_
                                    refine lv_aload_n hx hb dX7_digest_242 rfl (lv_at hl 1 rfl) ?_
                                    refine va_get (D := (dC, dI)) (ci := 5) (v := .int (M 3)) (C := RX7) (T := TX7) (N := 12) hx hb htX7 (fun _ h => h) hown hK hP 0 rfl rfl 5 (by decide) (hts _ u_862) (fun _ h9 => h9) rfl dX7_digest_243 ?_
                                    refine lv_icmp_ge (tgt := 266) hx hb dX7_digest_246 (by decide) (fun c_246 => ?_) (fun c_246 => ?_)
                                    · obtain rfl := cn_exit hkkk241 c_246
                                      have hF := hF.trans (lq1_z _ _ _ _)
                                      refine lv_aload_n hx hb dX7_digest_266 rfl (lv_at hl 1 rfl) ?_
                                      refine va_get (D := (dC, dI)) (ci := 5) (v := .long U241_0) (C := RX7) (T := TX7) (N := 12) hx hb htX7 (fun _ h => h) hown hK hP 0 rfl rfl 11 (by decide) (hts _ u_868) (fun _ h9 => h9) rfl dX7_digest_267 ?_
                                      rw [hQ]
                                      exact W.lret (v := U241_0) hx hb hr (fun t ht hW => ⟨⟨U241_0, (U212, (upd M 0 0), U241_0), rfl, hF.symm, toH ht hP⟩, hS.F ht⟩) hS.2.2 dX7_digest_270
                                    obtain ⟨jj241, rfl⟩ := cn_go hkkk241 c_246
                                    have hF := hF.trans (lq1_s _ _ _ _ _)
                                    obtain ⟨nextkk241, hnextkk241⟩ : ∃ y9, y9 = lq1 (fX7_digest_b241 x) (fX7_digest_r241 M U212) jj241 (kk241 + 1) := ⟨_, rfl⟩
                                    rw [← hnextkk241] at hF
                                    refine lv_aload_n hx hb dX7_digest_249 rfl (lv_at hl 1 rfl) ?_
                                    refine lv_aload_n hx hb dX7_digest_250 rfl (lv_at hl 1 rfl) ?_
                                    refine va_get (D := (dC, dI)) (ci := 5) (v := .ref q1) (C := RX7) (T := TX7) (N := 12) hx hb htX7 (fun _ h => h) hown hK hP 0 rfl rfl 4 (by decide) (hts _ u_861) (fun _ h9 => h9) rfl dX7_digest_251 ?_
                                    refine lv_iload_n hx hb dX7_digest_254 rfl (lv_at hl 0 rfl) ?_
                                    refine va_iald hx hb hK hP 2 0 rfl rfl (vp_in_nI (n := kk241) (by omega) (by decide)) dX7_digest_255 ?_
                                    refine lv_tope (y := (x kk241)) (at_nI (k := kk241) (by omega)) ?_
                                    refine lv_i2l (v := (x kk241).toInt64) hx hb dX7_digest_256 rfl ?_
                                    refine k_mutv (Wd := (fun (v9 : Int64) => mW cI o q0 q1 U212 x (upd M 0 0) v9)) (va_runV (As := [.long ((x kk241).toInt64)]) (rest := []) ⟨hx, hb, hml, hown, hts0⟩ (mX7_mix l dC dI cI o q0 q1 U212 x (upd M 0 0) U241_0 ((x kk241).toInt64)) (cwV 1 hts0 (gi_V u_1193 u_1195 us_53 u_7 u_1196) rfl rfl rfl (by decide +kernel) ⟨Nat.le_of_ble_eq_true rfl, Nat.le_of_ble_eq_true rfl⟩) (pcM_V (ci := 5) (q0 := 0) hP hK hn hD rfl rfl) rfl rfl hl.1 rfl (lv_room (Nat.le_of_ble_eq_true rfl)) dX7_digest_257 ⟨Nat.zero_le _, Nat.zero_le _⟩) hP hD hS [0, 1, 2] rfl rfl (fun _ => rfl) (fun U257 H locs hU257 hP hD hS => ?_)
                                    have hP : va_P (dC, dI) vwCl (mW cI o q0 q1 U212 x (upd M 0 0) U257) H := hP
                                    have hD : va_D A (mW cI o q0 q1 U212 x (upd M 0 0) U257) := hD
                                    have hF := bd_at hF hU257
                                    refine lv_iinc (v := (nI (kk241 + 1))) (lv' := [(1, .int (nI (kk241 + 1))), (0, .ref o)]) hx hb dX7_digest_260 hl (k := 0) rfl (nI_1 _) (by decide) rfl (fun ls hl => ?_)
                                    refine lv_goto (tgt := 241) hx hb dX7_digest_263 (by decide) ?_
                                    have hF : fX7_digest f x M = nextkk241 U257 := hF
                                    rw [hnextkk241] at hF
                                    exact ihkk241 jj241 (Nat.lt_succ_self _) (kk241 + 1) U257 (cn_next hkkk241) hF _ _ hP hD hS ls (lv_sub hl [0, 1] rfl)
                                exact L241 ((M 3).toNatClampNeg) 0 U236 (Nat.zero_add _) hF _ _ hP hD hS ls (lv_sub hl [0, 1] rfl)
                              obtain ⟨jj147, rfl⟩ := cn_go hkkk147 c_154
                              have hF := hF.trans (lq1_s _ _ _ _ _)
                              obtain ⟨nextkk147, hnextkk147⟩ : ∃ y9, y9 = lq1 (fX7_digest_b147 f) (fX7_digest_r147 f x M) jj147 (kk147 + 1) := ⟨_, rfl⟩
                              rw [← hnextkk147] at hF
                              refine lv_aload_n hx hb dX7_digest_157 rfl (lv_at hl 1 rfl) ?_
                              refine lv_aload_n hx hb dX7_digest_158 rfl (lv_at hl 1 rfl) ?_
                              refine va_get (D := (dC, dI)) (ci := 5) (v := .ref q0) (C := RX7) (T := TX7) (N := 12) hx hb htX7 (fun _ h => h) hown hK hP 0 rfl rfl 1 (by decide) (hts _ u_858) (fun _ h9 => h9) rfl dX7_digest_159 ?_
                              refine lv_bipush (v := 10) hx hb dX7_digest_162 (by decide) ?_
                              refine lv_iload_n hx hb dX7_digest_164 rfl (lv_at hl 0 rfl) ?_
                              refine lv_iadd hx hb dX7_digest_165 ?_
                              refine lv_tope (y := (nI (10 + kk147))) (nI_add 10 kk147) ?_
                              refine va_iald hx hb hK hP 1 0 rfl rfl (vp_in_nI (n := (10 + kk147)) (by omega) (by decide)) dX7_digest_166 ?_
                              refine lv_tope (y := (f (10 + kk147))) (at_nI (k := (10 + kk147)) (by omega)) ?_
                              refine lv_i2l (v := (f (10 + kk147)).toInt64) hx hb dX7_digest_167 rfl ?_
                              refine k_mutv (Wd := (fun (v9 : Int64) => mW cI o q0 q1 f x (upd M 0 0) v9)) (va_runV (As := [.long ((f (10 + kk147)).toInt64)]) (rest := []) ⟨hx, hb, hml, hown, hts0⟩ (mX7_mix l dC dI cI o q0 q1 f x (upd M 0 0) U147_0 ((f (10 + kk147)).toInt64)) (cwV 1 hts0 (gi_V u_1193 u_1195 us_53 u_7 u_1196) rfl rfl rfl (by decide +kernel) ⟨Nat.le_of_ble_eq_true rfl, Nat.le_of_ble_eq_true rfl⟩) (pcM_V (ci := 5) (q0 := 0) hP hK hn hD rfl rfl) rfl rfl hl.1 rfl (lv_room (Nat.le_of_ble_eq_true rfl)) dX7_digest_168 ⟨Nat.zero_le _, Nat.zero_le _⟩) hP hD hS [0, 1, 2] rfl rfl (fun _ => rfl) (fun U168 H locs hU168 hP hD hS => ?_)
                              have hP : va_P (dC, dI) vwCl (mW cI o q0 q1 f x (upd M 0 0) U168) H := hP
                              have hD : va_D A (mW cI o q0 q1 f x (upd M 0 0) U168) := hD
                              have hF := bd_at hF hU168
                              refine lv_iinc (v := (nI (kk147 + 1))) (lv' := [(1, .int (nI (kk147 + 1))), (0, .ref o)]) hx hb dX7_digest_171 hl (k := 0) rfl (nI_1 _) (by decide) rfl (fun ls hl => ?_)
                              refine lv_goto (tgt := 147) hx hb dX7_digest_174 (by decide) ?_
                              have hF : fX7_digest f x M = nextkk147 U168 := hF
                              rw [hnextkk147] at hF
                              exact ihkk147 jj147 (Nat.lt_succ_self _) (kk147 + 1) U168 (cn_next hkkk147) hF _ _ hP hD hS ls (lv_sub hl [0, 1] rfl)
                          exact L147 ((f 2).toNatClampNeg) 0 U115_0 (Nat.zero_add _) hF _ _ hP hD hS ls (lv_sub hl [0, 1] rfl)
                        obtain ⟨jj115, rfl⟩ := cn_go hkkk115 c_122
                        have hF := hF.trans (lq1_s _ _ _ _ _)
                        obtain ⟨nextkk115, hnextkk115⟩ : ∃ y9, y9 = lq1 (fX7_digest_b115 f) (fX7_digest_r115 f x M) jj115 (kk115 + 1) := ⟨_, rfl⟩
                        rw [← hnextkk115] at hF
                        refine lv_aload_n hx hb dX7_digest_125 rfl (lv_at hl 1 rfl) ?_
                        refine lv_aload_n hx hb dX7_digest_126 rfl (lv_at hl 1 rfl) ?_
                        refine va_get (D := (dC, dI)) (ci := 5) (v := .ref q0) (C := RX7) (T := TX7) (N := 12) hx hb htX7 (fun _ h => h) hown hK hP 0 rfl rfl 1 (by decide) (hts _ u_858) (fun _ h9 => h9) rfl dX7_digest_127 ?_
                        refine lv_bipush (v := 22) hx hb dX7_digest_130 (by decide) ?_
                        refine lv_iload_n hx hb dX7_digest_132 rfl (lv_at hl 0 rfl) ?_
                        refine lv_iadd hx hb dX7_digest_133 ?_
                        refine lv_tope (y := (nI (22 + kk115))) (nI_add 22 kk115) ?_
                        refine va_iald hx hb hK hP 1 0 rfl rfl (vp_in_nI (n := (22 + kk115)) (by omega) (by decide)) dX7_digest_134 ?_
                        refine lv_tope (y := (f (22 + kk115))) (at_nI (k := (22 + kk115)) (by omega)) ?_
                        refine lv_i2l (v := (f (22 + kk115)).toInt64) hx hb dX7_digest_135 rfl ?_
                        refine k_mutv (Wd := (fun (v9 : Int64) => mW cI o q0 q1 f x (upd M 0 0) v9)) (va_runV (As := [.long ((f (22 + kk115)).toInt64)]) (rest := []) ⟨hx, hb, hml, hown, hts0⟩ (mX7_mix l dC dI cI o q0 q1 f x (upd M 0 0) U115_0 ((f (22 + kk115)).toInt64)) (cwV 1 hts0 (gi_V u_1193 u_1195 us_53 u_7 u_1196) rfl rfl rfl (by decide +kernel) ⟨Nat.le_of_ble_eq_true rfl, Nat.le_of_ble_eq_true rfl⟩) (pcM_V (ci := 5) (q0 := 0) hP hK hn hD rfl rfl) rfl rfl hl.1 rfl (lv_room (Nat.le_of_ble_eq_true rfl)) dX7_digest_136 ⟨Nat.zero_le _, Nat.zero_le _⟩) hP hD hS [0, 1, 2] rfl rfl (fun _ => rfl) (fun U136 H locs hU136 hP hD hS => ?_)
                        have hP : va_P (dC, dI) vwCl (mW cI o q0 q1 f x (upd M 0 0) U136) H := hP
                        have hD : va_D A (mW cI o q0 q1 f x (upd M 0 0) U136) := hD
                        have hF := bd_at hF hU136
                        refine lv_iinc (v := (nI (kk115 + 1))) (lv' := [(1, .int (nI (kk115 + 1))), (0, .ref o)]) hx hb dX7_digest_139 hl (k := 0) rfl (nI_1 _) (by decide) rfl (fun ls hl => ?_)
                        refine lv_goto (tgt := 115) hx hb dX7_digest_142 (by decide) ?_
                        have hF : fX7_digest f x M = nextkk115 U136 := hF
                        rw [hnextkk115] at hF
                        exact ihkk115 jj115 (Nat.lt_succ_self _) (kk115 + 1) U136 (cn_next hkkk115) hF _ _ hP hD hS ls (lv_sub hl [0, 1] rfl)
                    exact L115 ((f 3).toNatClampNeg) 0 U92_0 (Nat.zero_add _) hF _ _ hP hD hS ls (lv_sub hl [0, 1] rfl)
                  obtain ⟨jj92, rfl⟩ := cn_go hkkk92 c_99
                  have hF := hF.trans (lq1_s _ _ _ _ _)
                  obtain ⟨nextkk92, hnextkk92⟩ : ∃ y9, y9 = lq1 (fX7_digest_b92 f) (fX7_digest_r92 f x M) jj92 (kk92 + 1) := ⟨_, rfl⟩
                  rw [← hnextkk92] at hF
                  refine lv_aload_n hx hb dX7_digest_102 rfl (lv_at hl 1 rfl) ?_
                  refine lv_iload_n hx hb dX7_digest_103 rfl (lv_at hl 0 rfl) ?_
                  refine k_mutv (Wd := (fun (v9 : Int64) => mW cI o q0 q1 f x (upd M 0 0) v9)) (va_runV (As := [.int (nI kk92)]) (rest := []) ⟨hx, hb, hml, hown, hts0⟩ (mX7_mixTable l dC dI cI o q0 q1 f x (upd M 0 0) U92_0 kk92 hR (by omega) (hS8 _ (by omega))) (cwV 1 hts0 (gi_V u_1198 u_1200 us_54 u_7 u_1201) rfl rfl rfl (by decide +kernel) ⟨Nat.le_of_ble_eq_true rfl, Nat.le_of_ble_eq_true rfl⟩) (pcM_V (ci := 5) (q0 := 0) hP hK hn hD rfl rfl) rfl rfl hl.1 rfl (lv_room (Nat.le_of_ble_eq_true rfl)) dX7_digest_104 ⟨Nat.zero_le _, Nat.zero_le _⟩) hP hD hS [0, 1, 2] rfl rfl (fun _ => rfl) (fun U104 H locs hU104 hP hD hS => ?_)
                  have hP : va_P (dC, dI) vwCl (mW cI o q0 q1 f x (upd M 0 0) U104) H := hP
                  have hD : va_D A (mW cI o q0 q1 f x (upd M 0 0) U104) := hD
                  have hF := bd_at hF hU104
                  refine lv_iinc (v := (nI (kk92 + 1))) (lv' := [(1, .int (nI (kk92 + 1))), (0, .ref o)]) hx hb dX7_digest_107 hl (k := 0) rfl (nI_1 _) (by decide) rfl (fun ls hl => ?_)
                  refine lv_goto (tgt := 92) hx hb dX7_digest_110 (by decide) ?_
                  have hF : fX7_digest f x M = nextkk92 U104 := hF
                  rw [hnextkk92] at hF
                  exact ihkk92 jj92 (Nat.lt_succ_self _) (kk92 + 1) U104 (cn_next hkkk92) hF _ _ hP hD hS ls (lv_sub hl [0, 1] rfl)
              exact L92 ((f 1).toNatClampNeg) 0 U38_0 (Nat.zero_add _) hF _ _ hP hD hS ls (lv_sub hl [0, 1] rfl)
            obtain ⟨jj38, rfl⟩ := cn_go hkkk38 c_45
            have hF := hF.trans (lq1_s _ _ _ _ _)
            obtain ⟨nextkk38, hnextkk38⟩ : ∃ y9, y9 = lq1 (fX7_digest_b38 f) (fX7_digest_r38 f x M) jj38 (kk38 + 1) := ⟨_, rfl⟩
            rw [← hnextkk38] at hF
            refine lv_iconst (v := 0) hx hb dX7_digest_48 (by decide) ?_
            refine lv_istore_n (lv' := [(2, .int 0), (1, .int (nI kk38)), (0, .ref o)]) hx hb dX7_digest_49 rfl hl (by decide) rfl (fun ls hl => ?_)
            have L50 : ∀ (jj50 kk50 : Nat) (U50_0 : Int64), kk50 + jj50 = 7 → fX7_digest f x M = lq1 (fX7_digest_b50 f kk38) (fX7_digest_r50 nextkk38 f kk38) jj50 kk50 U50_0 → ∀ (H : Heap) (locs : List Loc), va_P (dC, dI) vwCl (mW cI o q0 q1 f x (upd M 0 0) U50_0) H → va_D A (mW cI o q0 q1 f x (upd M 0 0) U50_0) → va_S A s.heap H locs → ∀ (ls : Array Slot), lv_has ls 3 [(2, .int (nI kk50)), (1, .int (nI kk38)), (0, .ref o)] → W p l e rmX7_digest s m args below meth c H locs 0 0 Q (F0 m 50 ls []) := by
              intro jj50
              induction jj50 using Nat.strongRecOn with
              | _ jj50 ihkk50 =>
                intro kk50 U50_0 hkkk50 hF H locs hP hD hS ls hl
                refine lv_iload_n hx hb dX7_digest_50 rfl (lv_at hl 0 rfl) ?_
                refine lv_bipush (v := 7) hx hb dX7_digest_51 (by decide) ?_
                refine lv_icmp_ge (tgt := 73) hx hb dX7_digest_53 (by decide) (fun c_53 => ?_) (fun c_53 => ?_)
                · obtain rfl := cn_exitN (N := 7) hkkk50 (by decide) c_53
                  have hF := hF.trans (lq1_z _ _ _ _)
                  refine lv_aload_n hx hb dX7_digest_73 rfl (lv_at hl 2 rfl) ?_
                  refine lv_aload_n hx hb dX7_digest_74 rfl (lv_at hl 2 rfl) ?_
                  refine lv_iconst (v := 0) hx hb dX7_digest_75 (by decide) ?_
                  refine lv_iload_n hx hb dX7_digest_76 rfl (lv_at hl 1 rfl) ?_
                  refine k_same (Wd := (fun (v9 : (Nat → Int32)) => mW cI o q0 q1 v9 x (upd M 0 0) U50_0)) (va_runV (As := [.int 0, .int (nI kk38)]) (rest := [.ref o]) ⟨hx, hb, hml, hown, hts0⟩ (mX7_best l dC dI cI o q0 q1 f x (upd M 0 0) U50_0 0 kk38 (by first | omega | assumption) (by first | omega | assumption)) (cwV 2 hts0 (gi_V u_1036 u_1038 us_35 u_7 u_1039) rfl rfl rfl (by decide +kernel) ⟨Nat.le_of_ble_eq_true rfl, Nat.le_of_ble_eq_true rfl⟩) (pcM_V (ci := 5) (q0 := 0) hP hK hn hD rfl rfl) rfl rfl hl.1 rfl (lv_room (Nat.le_of_ble_eq_true rfl)) dX7_digest_77 ⟨Nat.zero_le _, Nat.zero_le _⟩) hP hD hS [0, 1, 2] rfl rfl (fun _ => rfl) (fun H locs hP hD hS => ?_)
                  have hP : va_P (dC, dI) vwCl (mW cI o q0 q1 f x (upd M 0 0) U50_0) H := hP
                  have hD : va_D A (mW cI o q0 q1 f x (upd M 0 0) U50_0) := hD
                  refine lv_i2l (v := (fX7_best f 0 kk38).toInt64) hx hb dX7_digest_80 rfl ?_
                  refine k_mutv (Wd := (fun (v9 : Int64) => mW cI o q0 q1 f x (upd M 0 0) v9)) (va_runV (As := [.long ((fX7_best f 0 kk38).toInt64)]) (rest := []) ⟨hx, hb, hml, hown, hts0⟩ (mX7_mix l dC dI cI o q0 q1 f x (upd M 0 0) U50_0 ((fX7_best f 0 kk38).toInt64)) (cwV 1 hts0 (gi_V u_1193 u_1195 us_53 u_7 u_1196) rfl rfl rfl (by decide +kernel) ⟨Nat.le_of_ble_eq_true rfl, Nat.le_of_ble_eq_true rfl⟩) (pcM_V (ci := 5) (q0 := 0) hP hK hn hD rfl rfl) rfl rfl hl.1 rfl (lv_room (Nat.le_of_ble_eq_true rfl)) dX7_digest_81 ⟨Nat.zero_le _, Nat.zero_le _⟩) hP hD hS [0, 1, 2] rfl rfl (fun _ => rfl) (fun U81 H locs hU81 hP hD hS => ?_)
                  have hP : va_P (dC, dI) vwCl (mW cI o q0 q1 f x (upd M 0 0) U81) H := hP
                  have hD : va_D A (mW cI o q0 q1 f x (upd M 0 0) U81) := hD
                  have hF := bd_at hF hU81
                  refine lv_iinc (v := (nI (kk38 + 1))) (lv' := [(1, .int (nI (kk38 + 1))), (2, .int (nI kk50)), (0, .ref o)]) hx hb dX7_digest_84 hl (k := 1) rfl (nI_1 _) (by decide) rfl (fun ls hl => ?_)
                  refine lv_goto (tgt := 38) hx hb dX7_digest_87 (by decide) ?_
                  have hF : fX7_digest f x M = nextkk38 U81 := hF
                  rw [hnextkk38] at hF
                  exact ihkk38 jj38 (Nat.lt_succ_self _) (kk38 + 1) U81 (cn_next hkkk38) hF _ _ hP hD hS ls (lv_sub hl [0, 2] rfl)
                obtain ⟨jj50, rfl⟩ := cn_goN (N := 7) hkkk50 (by decide) c_53
                have hF := hF.trans (lq1_s _ _ _ _ _)
                obtain ⟨nextkk50, hnextkk50⟩ : ∃ y9, y9 = lq1 (fX7_digest_b50 f kk38) (fX7_digest_r50 nextkk38 f kk38) jj50 (kk50 + 1) := ⟨_, rfl⟩
                rw [← hnextkk50] at hF
                refine lv_aload_n hx hb dX7_digest_56 rfl (lv_at hl 2 rfl) ?_
                refine lv_aload_n hx hb dX7_digest_57 rfl (lv_at hl 2 rfl) ?_
                refine lv_iload_n hx hb dX7_digest_58 rfl (lv_at hl 1 rfl) ?_
                refine lv_iload_n hx hb dX7_digest_59 rfl (lv_at hl 0 rfl) ?_
                refine k_calli (W.runV (As := [.int (nI kk38), .int (nI kk50)]) (rest := [.ref o]) ⟨hx, hb, hml, hown, hts0⟩ (mX7_ofGuest l dC dI cI o q0 q1 f x (upd M 0 0) U50_0 kk38 kk50 (by first | omega | assumption) (by first | omega | assumption) (by first | omega | assumption)) (cwV 2 hts0 (gi_V u_1112 u_1114 us_45 u_7 u_1115) rfl rfl rfl (by decide +kernel) ⟨Nat.le_of_ble_eq_true rfl, Nat.le_of_ble_eq_true rfl⟩) (pcR_V (ci := 5) (q0 := 0) hP hK hn rfl rfl) rfl rfl hl.1 rfl (lv_room (Nat.le_of_ble_eq_true rfl)) dX7_digest_60 ⟨Nat.zero_le _, Nat.zero_le _⟩) ?_
                refine lv_i2l (v := (fX7_ofGuest f kk38 kk50).toInt64) hx hb dX7_digest_63 rfl ?_
                refine k_mutv (Wd := (fun (v9 : Int64) => mW cI o q0 q1 f x (upd M 0 0) v9)) (va_runV (As := [.long ((fX7_ofGuest f kk38 kk50).toInt64)]) (rest := []) ⟨hx, hb, hml, hown, hts0⟩ (mX7_mix l dC dI cI o q0 q1 f x (upd M 0 0) U50_0 ((fX7_ofGuest f kk38 kk50).toInt64)) (cwV 1 hts0 (gi_V u_1193 u_1195 us_53 u_7 u_1196) rfl rfl rfl (by decide +kernel) ⟨Nat.le_of_ble_eq_true rfl, Nat.le_of_ble_eq_true rfl⟩) (pcM_V (ci := 5) (q0 := 0) hP hK hn hD rfl rfl) rfl rfl hl.1 rfl (lv_room (Nat.le_of_ble_eq_true rfl)) dX7_digest_64 ⟨Nat.zero_le _, Nat.zero_le _⟩) hP hD hS [0, 1, 2] rfl rfl (fun _ => rfl) (fun U64 H locs hU64 hP hD hS => ?_)
                have hP : va_P (dC, dI) vwCl (mW cI o q0 q1 f x (upd M 0 0) U64) H := hP
                have hD : va_D A (mW cI o q0 q1 f x (upd M 0 0) U64) := hD
                have hF := bd_at hF hU64
                refine lv_iinc (v := (nI (kk50 + 1))) (lv' := [(2, .int (nI (kk50 + 1))), (1, .int (nI kk38)), (0, .ref o)]) hx hb dX7_digest_67 hl (k := 0) rfl (nI_1 _) (by decide) rfl (fun ls hl => ?_)
                refine lv_goto (tgt := 50) hx hb dX7_digest_70 (by decide) ?_
                have hF : fX7_digest f x M = nextkk50 U64 := hF
                rw [hnextkk50] at hF
                exact ihkk50 jj50 (Nat.lt_succ_self _) (kk50 + 1) U64 (cn_next hkkk50) hF _ _ hP hD hS ls (lv_sub hl [0, 1, 2] rfl)
            exact L50 7 0 U38_0 (Nat.zero_add _) hF _ _ hP hD hS ls (lv_sub hl [0, 1, 2] rfl)
        exact L38 ((f 0).toNatClampNeg) 0 U14_0 (Nat.zero_add _) hF _ _ hP hD hS ls (lv_sub hl [0, 1] rfl)
      obtain ⟨jj14, rfl⟩ := cn_goN (N := 14) hkkk14 (by decide) c_17
      have hF := hF.trans (lq1_s _ _ _ _ _)
      obtain ⟨nextkk14, hnextkk14⟩ : ∃ y9, y9 = lq1 (fX7_digest_b14 f M) (fX7_digest_r14 f x M) jj14 (kk14 + 1) := ⟨_, rfl⟩
      rw [← hnextkk14] at hF
      refine lv_aload_n hx hb dX7_digest_20 rfl (lv_at hl 1 rfl) ?_
      refine lv_aload_n hx hb dX7_digest_21 rfl (lv_at hl 1 rfl) ?_
      refine lv_iload_n hx hb dX7_digest_22 rfl (lv_at hl 0 rfl) ?_
      refine k_calli (W.runV (As := [.int (nI kk14)]) (rest := [.ref o]) ⟨hx, hb, hml, hown, hts0⟩ (mX7_counted l dC dI cI o q0 q1 f x (upd M 0 0) U14_0 kk14 (by first | omega | assumption) (by first | omega | assumption)) (cwV 1 hts0 (gi_V u_1140 u_1142 us_47 u_7 u_1143) rfl rfl rfl (by decide +kernel) ⟨Nat.le_of_ble_eq_true rfl, Nat.le_of_ble_eq_true rfl⟩) (pcR_V (ci := 5) (q0 := 0) hP hK hn rfl rfl) rfl rfl hl.1 rfl (lv_room (Nat.le_of_ble_eq_true rfl)) dX7_digest_23 ⟨Nat.zero_le _, Nat.zero_le _⟩) ?_
      refine lv_i2l (v := (fX7_counted f (upd M 0 0) kk14).toInt64) hx hb dX7_digest_26 rfl ?_
      refine k_mutv (Wd := (fun (v9 : Int64) => mW cI o q0 q1 f x (upd M 0 0) v9)) (va_runV (As := [.long ((fX7_counted f (upd M 0 0) kk14).toInt64)]) (rest := []) ⟨hx, hb, hml, hown, hts0⟩ (mX7_mix l dC dI cI o q0 q1 f x (upd M 0 0) U14_0 ((fX7_counted f (upd M 0 0) kk14).toInt64)) (cwV 1 hts0 (gi_V u_1193 u_1195 us_53 u_7 u_1196) rfl rfl rfl (by decide +kernel) ⟨Nat.le_of_ble_eq_true rfl, Nat.le_of_ble_eq_true rfl⟩) (pcM_V (ci := 5) (q0 := 0) hP hK hn hD rfl rfl) rfl rfl hl.1 rfl (lv_room (Nat.le_of_ble_eq_true rfl)) dX7_digest_27 ⟨Nat.zero_le _, Nat.zero_le _⟩) hP hD hS [0, 1, 2] rfl rfl (fun _ => rfl) (fun U27 H locs hU27 hP hD hS => ?_)
      have hP : va_P (dC, dI) vwCl (mW cI o q0 q1 f x (upd M 0 0) U27) H := hP
      have hD : va_D A (mW cI o q0 q1 f x (upd M 0 0) U27) := hD
      have hF := bd_at hF hU27
      refine lv_iinc (v := (nI (kk14 + 1))) (lv' := [(1, .int (nI (kk14 + 1))), (0, .ref o)]) hx hb dX7_digest_30 hl (k := 0) rfl (nI_1 _) (by decide) rfl (fun ls hl => ?_)
      refine lv_goto (tgt := 14) hx hb dX7_digest_33 (by decide) ?_
      have hF : fX7_digest f x M = nextkk14 U27 := hF
      rw [hnextkk14] at hF
      exact ihkk14 jj14 (Nat.lt_succ_self _) (kk14 + 1) U27 (cn_next hkkk14) hF _ _ hP hD hS ls (lv_sub hl [0, 1] rfl)
  exact L14 14 0 3719 (Nat.zero_add _) hF _ _ hP hD hS ls (lv_sub hl [0, 1] rfl)
