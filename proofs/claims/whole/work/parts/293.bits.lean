def fX7_bits_b15 (kk15 : Nat) (x15_4 : Int64) (x15_2 : UInt64) (nextkk15 : Int64 → UInt64 → Int64) : Int64 :=
  (if 0 ≤ (Op.cmpValue (FP.dcmp x15_2 FP.dconst1) .g) then ((x15_4 * 4503599627370496) + (FP.d2l (FP.dmul (FP.dsub x15_2 FP.dconst1) 4841369599423283200))) else (nextkk15 (x15_4 - 1) (FP.dmul x15_2 4611686018427387904)))
def fX7_bits_r15 (x15_4 : Int64) (x15_2 : UInt64) : Int64 :=
  0
def fX7_bits (v : UInt64) : Int64 :=
  (if (Op.cmpValue (FP.dcmp v FP.dconst0) .l) = 0 then 0 else (lq2 fX7_bits_b15 fX7_bits_r15 9 0 1023 v))
abbrev rmX7_bits : Room := { frames := 0, cells := 0, slots := 0, locals := 0 }
set_option maxHeartbeats 4000000 in
set_option maxRecDepth 100000 in
theorem mX7_bits (l : Launch) (dC : Nat → ClassId) (dI : Nat → Nat → Nat)  (v : UInt64) (hv : okB v = true) : Met l yX7_bits (ws_ yX7_bits cX7_bits 6 (some .long)) rmX7_bits (pcR (dC, dI) [] [] [.double v]) (vp_Sl (fun r => r = fX7_bits v)) 0 0 (fun _ => False) := by
  refine Met.ofW (cc := cX7_bits) (maxL := 6) (ret := (some .long)) (by decide) rfl ?_
  intro p e s m args below meth c s₁ B hml hv
  obtain ⟨ha, hP, hK, hn⟩ := hv
  have hx := B.exec
  have hb := B.bytes
  have hr := B.returns
  have hts0 := atoms_spec (ws := (ws_ yX7_bits cX7_bits 6 (some .long))) B.pre
  have hts : ∀ w ∈ lw_all, w.before args s = true := fun w h => hts0 w (List.mem_cons_of_mem _ h)
  have hown : s.vm.findClass RX7 = some m.cls := findClass_of_methodNamed B.named
  have hlocks := B.notSynchronized
  obtain ⟨Q, hQ⟩ : ∃ Q, Q = MQ below (vp_Sl (fun r => r = fX7_bits v)) args s 0 0 (fun _ => False) := ⟨_, rfl⟩
  rw [← hQ]
  have hl := lv_entry ([.double v]) (n := 6) (Nat.le_of_ble_eq_true rfl)
  rw [ha, lg_entry_eq, ← ha]
  generalize (lg_sl ([.double v]) ++ List.replicate (6 - (lg_sl ([.double v])).length) Slot.unset).toArray = ls at hl ⊢
  have hl : lv_has ls 6 [(0, .double v)] := hl
  show W p l e rmX7_bits s m args below meth c s.heap [] 0 0 Q (F0 m 0 ls [])
  have hF : fX7_bits v = fX7_bits v := rfl
  refine lv_dload_n hx hb dX7_bits_0 rfl (lv_at hl 0 rfl) ?_
  refine lv_dconst0 hx hb dX7_bits_1 ?_
  refine lv_dcmp hx hb dX7_bits_2 ?_
  refine lv_if_ne (tgt := 8) hx hb dX7_bits_3 (by decide) (fun c_3 => ?_) (fun c_3 => ?_)
  · have hF := hF.trans (if_neg c_3)
    obtain ⟨n, hn, hex⟩ := (okB_end hv).resolve_left (fun z => c_3 z.1)
    refine lv_dload_n hx hb dX7_bits_8 rfl (lv_at hl 0 rfl) ?_
    refine lv_dstore_n (lv' := [(2, .double v), (0, .double v)]) hx hb dX7_bits_9 rfl hl (by decide) rfl (fun ls hl => ?_)
    refine lv_ldc2 (v := 1023) hx hb hown (hts _ u_1205) dX7_bits_10 ?_
    refine lv_lstore (lv' := [(4, .long 1023), (2, .double v), (0, .double v)]) hx hb dX7_bits_13 hl (by decide) rfl (fun ls hl => ?_)
    have L15 : ∀ (jj15 kk15 : Nat) (x15_4 : Int64) (x15_2 : UInt64), kk15 + jj15 = 9 → fX7_bits v = lq2 fX7_bits_b15 fX7_bits_r15 jj15 kk15 x15_4 x15_2 → (x15_2 = dbl v kk15 ∧ kk15 ≤ n) → ∀ (ls : Array Slot), lv_has ls 6 [(4, .long x15_4), (2, .double x15_2), (0, .double v)] → W p l e rmX7_bits s m args below meth c s.heap [] 0 0 Q (F0 m 15 ls []) := by
      intro jj15
      induction jj15 using Nat.strongRecOn with
      | _ jj15 ihkk15 =>
        intro kk15 x15_4 x15_2 hkkk15 hF hikk15  ls hl
        obtain ⟨hd5, hk5⟩ := hikk15
        obtain ⟨jj15, rfl⟩ : ∃ j9, jj15 = j9 + 1 := ⟨jj15 - 1, by omega⟩
        have hF := hF.trans (lq2_s _ _ _ _ _ _)
        obtain ⟨nextkk15, hnextkk15⟩ : ∃ y9, y9 = lq2 fX7_bits_b15 fX7_bits_r15 jj15 (kk15 + 1) := ⟨_, rfl⟩
        rw [← hnextkk15] at hF
        refine lv_dload_n hx hb dX7_bits_15 rfl (lv_at hl 1 rfl) ?_
        refine lv_dconst1 hx hb dX7_bits_16 ?_
        refine lv_dcmp hx hb dX7_bits_17 ?_
        refine lv_if_ge (tgt := 36) hx hb dX7_bits_18 (by decide) (fun c_18 => ?_) (fun c_18 => ?_)
        · have hF := hF.trans (if_pos c_18)
          refine lv_lload hx hb dX7_bits_36 (lv_at hl 0 rfl) ?_
          refine lv_ldc2 (v := 4503599627370496) hx hb hown (hts _ u_1207) dX7_bits_38 ?_
          refine lv_lmul hx hb dX7_bits_41 ?_
          refine lv_dload_n hx hb dX7_bits_42 rfl (lv_at hl 1 rfl) ?_
          refine lv_dconst1 hx hb dX7_bits_43 ?_
          refine lv_dsub hx hb dX7_bits_44 (by rw [hd5]; exact (okB_fin hv (k := kk15) (by omega)).2.1) ?_
          refine lv_ldc2d (v := 4841369599423283200) hx hb hown (hts _ u_1208) dX7_bits_45 ?_
          refine lv_dmul hx hb dX7_bits_48 (by rw [hd5]; exact (okB_fin hv (k := kk15) (by omega)).2.2) ?_
          refine lv_d2l hx hb dX7_bits_49 ?_
          refine lv_ladd hx hb dX7_bits_50 ?_
          rw [hQ]
          exact W.lret (v := ((x15_4 * 4503599627370496) + (FP.d2l (FP.dmul (FP.dsub x15_2 FP.dconst1) 4841369599423283200)))) hx hb hr (fun t ht hW => ⟨((x15_4 * 4503599627370496) + (FP.d2l (FP.dmul (FP.dsub x15_2 FP.dconst1) 4841369599423283200))), rfl, hF.symm, ht⟩) (fun q hq => absurd hq List.not_mem_nil) dX7_bits_51
        have hF := hF.trans (if_neg c_18)
        refine lv_dload_n hx hb dX7_bits_21 rfl (lv_at hl 1 rfl) ?_
        refine lv_ldc2d (v := 4611686018427387904) hx hb hown (hts _ u_1206) dX7_bits_22 ?_
        refine lv_dmul hx hb dX7_bits_25 (by rw [hd5]; exact (okB_fin hv (k := kk15 + 1) (by omega)).1) ?_
        refine lv_dstore_n (lv' := [(2, .double (FP.dmul x15_2 4611686018427387904)), (4, .long x15_4), (0, .double v)]) hx hb dX7_bits_26 rfl hl (by decide) rfl (fun ls hl => ?_)
        refine lv_lload hx hb dX7_bits_27 (lv_at hl 1 rfl) ?_
        refine lv_lconst (v := 1) hx hb dX7_bits_29 (by decide) ?_
        refine lv_lsub hx hb dX7_bits_30 ?_
        refine lv_lstore (lv' := [(4, .long (x15_4 - 1)), (2, .double (FP.dmul x15_2 4611686018427387904)), (0, .double v)]) hx hb dX7_bits_31 hl (by decide) rfl (fun ls hl => ?_)
        refine lv_goto (tgt := 15) hx hb dX7_bits_33 (by decide) ?_
        have hF : fX7_bits v = nextkk15 (x15_4 - 1) (FP.dmul x15_2 4611686018427387904) := hF
        rw [hnextkk15] at hF
        exact ihkk15 jj15 (Nat.lt_succ_self _) (kk15 + 1) (x15_4 - 1) (FP.dmul x15_2 4611686018427387904) (cn_next hkkk15) hF (bits_step hd5 hk5 hex c_18) ls (lv_sub hl [0, 1, 2] rfl)
    exact L15 9 0 1023 v (Nat.zero_add _) hF ⟨rfl, Nat.zero_le _⟩ ls (lv_sub hl [0, 1, 2] rfl)
  have hF := hF.trans (if_pos c_3)
  refine lv_lconst (v := 0) hx hb dX7_bits_6 (by decide) ?_
  rw [hQ]
  exact W.lret (v := 0) hx hb hr (fun t ht hW => ⟨0, rfl, hF.symm, ht⟩) (fun q hq => absurd hq List.not_mem_nil) dX7_bits_7

def fX7_mix (h : Int64) (v : Int64) : Int64 :=
  ((31 * h) + v)
abbrev rmX7_mix : Room := { frames := 0, cells := 0, slots := 0, locals := 0 }
set_option maxHeartbeats 4000000 in
set_option maxRecDepth 100000 in
theorem mX7_mix (l : Launch) (dC : Nat → ClassId) (dI : Nat → Nat → Nat) (cI : ClassId) (o q0 q1 : Nat) (f x M : Nat → Int32) (h : Int64) (v : Int64) : Met l yX7_mix (ws_ yX7_mix cX7_mix 3 none) rmX7_mix (pcM (dC, dI) [(cI, .int)] (mW cI o q0 q1 f x M h) [.ref o, .long v]) (va_Qv (fun (u9 : Int64) => u9 = fX7_mix h v) (fun u9 t => va_P (dC, dI) vwCl ((fun (v9 : Int64) => mW cI o q0 q1 f x M v9) u9) t.heap) (adr (mW cI o q0 q1 f x M h))) 0 0 (adr (mW cI o q0 q1 f x M h)) := by
  refine Met.ofW (cc := cX7_mix) (maxL := 3) (ret := none) (by decide) rfl ?_
  intro p e s m args below meth c s₁ B hml hv
  obtain ⟨ha, hP, hK, hn, hD0⟩ := hv
  have hx := B.exec
  have hb := B.bytes
  have hr := B.returns
  have hts0 := atoms_spec (ws := (ws_ yX7_mix cX7_mix 3 none)) B.pre
  have hts : ∀ w ∈ lw_all, w.before args s = true := fun w h => hts0 w (List.mem_cons_of_mem _ h)
  have hown : s.vm.findClass RX7 = some m.cls := findClass_of_methodNamed B.named
  have hlocks := B.notSynchronized
  have htX7 : ∀ w ∈ wsX70, w.before args s = true := fun w h => hts w (wX7 w h)
  have hD := adr_self hD0
  obtain ⟨A, hA⟩ : ∃ A, A = adr (mW cI o q0 q1 f x M h) := ⟨_, rfl⟩
  rw [← hA] at hD
  have hS : va_S A s.heap s.heap [] := va_S.rf
  obtain ⟨Q, hQ⟩ : ∃ Q, Q = MQ below (va_Qv (fun (u9 : Int64) => u9 = fX7_mix h v) (fun u9 t => va_P (dC, dI) vwCl ((fun (v9 : Int64) => mW cI o q0 q1 f x M v9) u9) t.heap) (adr (mW cI o q0 q1 f x M h))) args s 0 0 (adr (mW cI o q0 q1 f x M h)) := ⟨_, rfl⟩
  rw [← hQ]
  rw [← hA] at hQ
  have hl := lv_entry ([.ref o, .long v]) (n := 3) (Nat.le_of_ble_eq_true rfl)
  rw [ha, lg_entry_eq, ← ha]
  generalize (lg_sl ([.ref o, .long v]) ++ List.replicate (3 - (lg_sl ([.ref o, .long v])).length) Slot.unset).toArray = ls at hl ⊢
  have hl : lv_has ls 3 [(0, .ref o), (1, .long v)] := hl
  show W p l e rmX7_mix s m args below meth c s.heap [] 0 0 Q (F0 m 0 ls [])
  have hF : fX7_mix h v = fX7_mix h v := rfl
  refine lv_aload_n hx hb dX7_mix_0 rfl (lv_at hl 0 rfl) ?_
  refine lv_ldc2 (v := 31) hx hb hown (hts _ u_1197) dX7_mix_1 ?_
  refine lv_aload_n hx hb dX7_mix_4 rfl (lv_at hl 0 rfl) ?_
  refine va_get (D := (dC, dI)) (ci := 5) (v := .long h) (C := RX7) (T := TX7) (N := 12) hx hb htX7 (fun _ h => h) hown hK hP 0 rfl rfl 11 (by decide) (hts _ u_868) (fun _ h9 => h9) rfl dX7_mix_5 ?_
  refine lv_lmul hx hb dX7_mix_8 ?_
  refine lv_lload_n hx hb dX7_mix_9 rfl (lv_at hl 1 rfl) ?_
  refine lv_ladd hx hb dX7_mix_10 ?_
  refine va_put (D := (dC, dI)) (ci := 5) (v := .long ((31 * h) + v)) (ty := .long) (C := RX7) (T := TX7) (N := 12) hx hb htX7 (fun _ h => h) tyX7 tyX7_ok nmX7 hown hK hP hD hS 0 rfl rfl 11 (by decide) (hts _ u_868) (fun _ h9 => h9) rfl (by decide +kernel) rfl rfl (Nat.le_of_ble_eq_true rfl) dX7_mix_11 (fun H locs hP hD hS => ?_)
  have hP : va_P (dC, dI) vwCl (mW cI o q0 q1 f x M ((31 * h) + v)) H := hP
  have hD : va_D A (mW cI o q0 q1 f x M ((31 * h) + v)) := hD
  rw [hQ]
  exact W.vret hx hb hr (fun t ht hW => ⟨⟨((31 * h) + v), rfl, hF.symm, toH ht hP⟩, hS.F ht⟩) hS.2.2 dX7_mix_14

def fX7_mixTable_b59 (f : Nat → Int32) (t5 : Nat) (kk59 : Nat) (x59_2 : Nat) (U59_1 : Int64) (nextkk59 : Nat → Int64 → Int64) : Int64 :=
  (if (fX7_character f t5 (nI x59_2)) = (-1) then U59_1 else (bd (fX7_mix U59_1 ((fX7_character f t5 (nI x59_2)).toInt64)) (fun U77 => (nextkk59 (x59_2 + 1) U77))))
def fX7_mixTable_r59 (x59_2 : Nat) (U59_1 : Int64) : Int64 :=
  U59_1
def fX7_mixTable_b26 (f : Nat → Int32) (t5 : Nat) (kk26 : Nat) (U26_0 : Int64) (nextkk26 : Int64 → Int64) : Int64 :=
  (bd (fX7_mix U26_0 ((fX7_whoSits f 0 (nI t5) (nI kk26)).toInt64)) (fun U48 => (nextkk26 U48)))
def fX7_mixTable_r26 (f : Nat → Int32) (t5 : Nat) (U26_0 : Int64) : Int64 :=
  (lq2 (fX7_mixTable_b59 f t5) fX7_mixTable_r59 12 0 0 U26_0)
def fX7_mixTable_b2 (f : Nat → Int32) (t5 : Nat) (kk2 : Nat) (U2_0 : Int64) (nextkk2 : Int64 → Int64) : Int64 :=
  (bd (fX7_mix U2_0 ((fX7_ofTable f t5 (nI kk2)).toInt64)) (fun U15 => (nextkk2 U15)))
def fX7_mixTable_r2 (f : Nat → Int32) (t5 : Nat) (U2_0 : Int64) : Int64 :=
  (lq1 (fX7_mixTable_b26 f t5) (fX7_mixTable_r26 f t5) ((f (18 + t5)).toNatClampNeg) 0 U2_0)
def fX7_mixTable (f : Nat → Int32) (h : Int64) (t5 : Nat) : Int64 :=
  (lq1 (fX7_mixTable_b2 f t5) (fX7_mixTable_r2 f t5) 5 0 h)
abbrev rmX7_mixTable : Room := { frames := 5, cells := 0, slots := 0, locals := 123 }
set_option maxHeartbeats 4000000 in
set_option maxRecDepth 100000 in
theorem mX7_mixTable (l : Launch) (dC : Nat → ClassId) (dI : Nat → Nat → Nat) (cI : ClassId) (o q0 q1 : Nat) (f x M : Nat → Int32) (h : Int64) (t5 : Nat) (hR : RW f 0) (ht : t5 < 4) (hs8 : (f (18 + t5)).toNatClampNeg ≤ 8) : Met l yX7_mixTable (ws_ yX7_mixTable cX7_mixTable 3 none) rmX7_mixTable (pcM (dC, dI) [(cI, .int)] (mW cI o q0 q1 f x M h) [.ref o, .int (nI t5)]) (va_Qv (fun (u9 : Int64) => u9 = fX7_mixTable f h t5) (fun u9 t => va_P (dC, dI) vwCl ((fun (v9 : Int64) => mW cI o q0 q1 f x M v9) u9) t.heap) (adr (mW cI o q0 q1 f x M h))) 0 0 (adr (mW cI o q0 q1 f x M h)) := by
  refine Met.ofW (cc := cX7_mixTable) (maxL := 3) (ret := none) (by decide) rfl ?_
  intro p e s m args below meth c s₁ B hml hv
  obtain ⟨ha, hP, hK, hn, hD0⟩ := hv
  have hx := B.exec
  have hb := B.bytes
  have hr := B.returns
  have hts0 := atoms_spec (ws := (ws_ yX7_mixTable cX7_mixTable 3 none)) B.pre
  have hts : ∀ w ∈ lw_all, w.before args s = true := fun w h => hts0 w (List.mem_cons_of_mem _ h)
  have hown : s.vm.findClass RX7 = some m.cls := findClass_of_methodNamed B.named
  have hlocks := B.notSynchronized
  have htX7 : ∀ w ∈ wsX70, w.before args s = true := fun w h => hts w (wX7 w h)
  have hD := adr_self hD0
  obtain ⟨A, hA⟩ : ∃ A, A = adr (mW cI o q0 q1 f x M h) := ⟨_, rfl⟩
  rw [← hA] at hD
  have hS : va_S A s.heap s.heap [] := va_S.rf
  obtain ⟨Q, hQ⟩ : ∃ Q, Q = MQ below (va_Qv (fun (u9 : Int64) => u9 = fX7_mixTable f h t5) (fun u9 t => va_P (dC, dI) vwCl ((fun (v9 : Int64) => mW cI o q0 q1 f x M v9) u9) t.heap) (adr (mW cI o q0 q1 f x M h))) args s 0 0 (adr (mW cI o q0 q1 f x M h)) := ⟨_, rfl⟩
  rw [← hQ]
  rw [← hA] at hQ
  have hl := lv_entry ([.ref o, .int (nI t5)]) (n := 3) (Nat.le_of_ble_eq_true rfl)
  rw [ha, lg_entry_eq, ← ha]
  generalize (lg_sl ([.ref o, .int (nI t5)]) ++ List.replicate (3 - (lg_sl ([.ref o, .int (nI t5)])).length) Slot.unset).toArray = ls at hl ⊢
  have hl : lv_has ls 3 [(0, .ref o), (1, .int (nI t5))] := hl
  show W p l e rmX7_mixTable s m args below meth c s.heap [] 0 0 Q (F0 m 0 ls [])
  have hF : fX7_mixTable f h t5 = fX7_mixTable f h t5 := rfl
  refine lv_iconst (v := 0) hx hb dX7_mixTable_0 (by decide) ?_
  refine lv_istore_n (lv' := [(2, .int 0), (0, .ref o), (1, .int (nI t5))]) hx hb dX7_mixTable_1 rfl hl (by decide) rfl (fun ls hl => ?_)
  have L2 : ∀ (jj2 kk2 : Nat) (U2_0 : Int64), kk2 + jj2 = 5 → fX7_mixTable f h t5 = lq1 (fX7_mixTable_b2 f t5) (fX7_mixTable_r2 f t5) jj2 kk2 U2_0 → ∀ (H : Heap) (locs : List Loc), va_P (dC, dI) vwCl (mW cI o q0 q1 f x M U2_0) H → va_D A (mW cI o q0 q1 f x M U2_0) → va_S A s.heap H locs → ∀ (ls : Array Slot), lv_has ls 3 [(2, .int (nI kk2)), (0, .ref o), (1, .int (nI t5))] → W p l e rmX7_mixTable s m args below meth c H locs 0 0 Q (F0 m 2 ls []) := by
    intro jj2
    induction jj2 using Nat.strongRecOn with
    | _ jj2 ihkk2 =>
      intro kk2 U2_0 hkkk2 hF H locs hP hD hS ls hl
      refine lv_iload_n hx hb dX7_mixTable_2 rfl (lv_at hl 0 rfl) ?_
      refine lv_iconst (v := 5) hx hb dX7_mixTable_3 (by decide) ?_
      refine lv_icmp_ge (tgt := 24) hx hb dX7_mixTable_4 (by decide) (fun c_4 => ?_) (fun c_4 => ?_)
      · obtain rfl := cn_exitN (N := 5) hkkk2 (by decide) c_4
        have hF := hF.trans (lq1_z _ _ _ _)
        refine lv_iconst (v := 0) hx hb dX7_mixTable_24 (by decide) ?_
        refine lv_istore_n (lv' := [(2, .int 0), (0, .ref o), (1, .int (nI t5))]) hx hb dX7_mixTable_25 rfl hl (by decide) rfl (fun ls hl => ?_)
        have L26 : ∀ (jj26 kk26 : Nat) (U26_0 : Int64), kk26 + jj26 = ((f (18 + t5)).toNatClampNeg) → fX7_mixTable f h t5 = lq1 (fX7_mixTable_b26 f t5) (fX7_mixTable_r26 f t5) jj26 kk26 U26_0 → ∀ (H : Heap) (locs : List Loc), va_P (dC, dI) vwCl (mW cI o q0 q1 f x M U26_0) H → va_D A (mW cI o q0 q1 f x M U26_0) → va_S A s.heap H locs → ∀ (ls : Array Slot), lv_has ls 3 [(2, .int (nI kk26)), (0, .ref o), (1, .int (nI t5))] → W p l e rmX7_mixTable s m args below meth c H locs 0 0 Q (F0 m 26 ls []) := by
          intro jj26
          induction jj26 using Nat.strongRecOn with
          | _ jj26 ihkk26 =>
            intro kk26 U26_0 hkkk26 hF H locs hP hD hS ls hl
            refine lv_iload_n hx hb dX7_mixTable_26 rfl (lv_at hl 0 rfl) ?_
            refine lv_aload_n hx hb dX7_mixTable_27 rfl (lv_at hl 1 rfl) ?_
            refine va_get (D := (dC, dI)) (ci := 5) (v := .ref q0) (C := RX7) (T := TX7) (N := 12) hx hb htX7 (fun _ h => h) hown hK hP 0 rfl rfl 1 (by decide) (hts _ u_858) (fun _ h9 => h9) rfl dX7_mixTable_28 ?_
            refine lv_bipush (v := 18) hx hb dX7_mixTable_31 (by decide) ?_
            refine lv_iload_n hx hb dX7_mixTable_33 rfl (lv_at hl 2 rfl) ?_
            refine lv_iadd hx hb dX7_mixTable_34 ?_
            refine lv_tope (y := (nI (18 + t5))) (nI_add 18 t5) ?_
            refine va_iald hx hb hK hP 1 0 rfl rfl (vp_in_nI (n := (18 + t5)) (by omega) (by decide)) dX7_mixTable_35 ?_
            refine lv_tope (y := (f (18 + t5))) (at_nI (k := (18 + t5)) (by omega)) ?_
            refine lv_icmp_ge (tgt := 57) hx hb dX7_mixTable_36 (by decide) (fun c_36 => ?_) (fun c_36 => ?_)
            · obtain rfl := cn_exit hkkk26 c_36
              have hF := hF.trans (lq1_z _ _ _ _)
              refine lv_iconst (v := 0) hx hb dX7_mixTable_57 (by decide) ?_
              refine lv_istore_n (lv' := [(2, .int 0), (0, .ref o), (1, .int (nI t5))]) hx hb dX7_mixTable_58 rfl hl (by decide) rfl (fun ls hl => ?_)
              have L59 : ∀ (jj59 kk59 : Nat) (x59_2 : Nat) (U59_1 : Int64), kk59 + jj59 = 12 → fX7_mixTable f h t5 = lq2 (fX7_mixTable_b59 f t5) fX7_mixTable_r59 jj59 kk59 x59_2 U59_1 → (x59_2 = kk59 ∧ kk59 ≤ 11) → ∀ (H : Heap) (locs : List Loc), va_P (dC, dI) vwCl (mW cI o q0 q1 f x M U59_1) H → va_D A (mW cI o q0 q1 f x M U59_1) → va_S A s.heap H locs → ∀ (ls : Array Slot), lv_has ls 3 [(2, .int (nI x59_2)), (0, .ref o), (1, .int (nI t5))] → W p l e rmX7_mixTable s m args below meth c H locs 0 0 Q (F0 m 59 ls []) := by
                intro jj59
                induction jj59 using Nat.strongRecOn with
                | _ jj59 ihkk59 =>
                  intro kk59 x59_2 U59_1 hkkk59 hF hikk59 H locs hP hD hS ls hl
                  obtain ⟨hx5, hk5⟩ := hikk59
                  obtain ⟨jj59, rfl⟩ : ∃ j9, jj59 = j9 + 1 := ⟨jj59 - 1, by omega⟩
                  have hF := hF.trans (lq2_s _ _ _ _ _ _)
                  obtain ⟨nextkk59, hnextkk59⟩ : ∃ y9, y9 = lq2 (fX7_mixTable_b59 f t5) fX7_mixTable_r59 jj59 (kk59 + 1) := ⟨_, rfl⟩
                  rw [← hnextkk59] at hF
                  refine lv_aload_n hx hb dX7_mixTable_59 rfl (lv_at hl 1 rfl) ?_
                  refine lv_iload_n hx hb dX7_mixTable_60 rfl (lv_at hl 2 rfl) ?_
                  refine lv_iload_n hx hb dX7_mixTable_61 rfl (lv_at hl 0 rfl) ?_
                  refine k_calli (W.runV (As := [.int (nI t5), .int (nI x59_2)]) (rest := []) ⟨hx, hb, hml, hown, hts0⟩ (mX7_character l dC dI cI o q0 q1 f x M U59_1 t5 (nI x59_2) (by first | omega | assumption) (by first | omega | assumption)) (cwV 2 hts0 (gi_V u_1092 u_1094 us_44 u_7 u_1095) rfl rfl rfl (by decide +kernel) ⟨Nat.le_of_ble_eq_true rfl, Nat.le_of_ble_eq_true rfl⟩) (pcR_V (ci := 5) (q0 := 0) hP hK hn rfl rfl) rfl rfl hl.1 rfl (lv_room (Nat.le_of_ble_eq_true rfl)) dX7_mixTable_62 ⟨Nat.zero_le _, Nat.zero_le _⟩) ?_
                  refine lv_iconst (v := (-1)) hx hb dX7_mixTable_65 (by decide) ?_
                  refine lv_icmp_eq (tgt := 86) hx hb dX7_mixTable_66 (by decide) (fun c_66 => ?_) (fun c_66 => ?_)
                  · have hF := hF.trans (if_pos c_66)
                    rw [hQ]
                    exact W.vret hx hb hr (fun t ht hW => ⟨⟨U59_1, rfl, hF.symm, toH ht hP⟩, hS.F ht⟩) hS.2.2 dX7_mixTable_86
                  have hF := hF.trans (if_neg c_66)
                  refine lv_aload_n hx hb dX7_mixTable_69 rfl (lv_at hl 1 rfl) ?_
                  refine lv_aload_n hx hb dX7_mixTable_70 rfl (lv_at hl 1 rfl) ?_
                  refine lv_iload_n hx hb dX7_mixTable_71 rfl (lv_at hl 2 rfl) ?_
                  refine lv_iload_n hx hb dX7_mixTable_72 rfl (lv_at hl 0 rfl) ?_
                  refine k_calli (W.runV (As := [.int (nI t5), .int (nI x59_2)]) (rest := [.ref o]) ⟨hx, hb, hml, hown, hts0⟩ (mX7_character l dC dI cI o q0 q1 f x M U59_1 t5 (nI x59_2) (by first | omega | assumption) (by first | omega | assumption)) (cwV 2 hts0 (gi_V u_1092 u_1094 us_44 u_7 u_1095) rfl rfl rfl (by decide +kernel) ⟨Nat.le_of_ble_eq_true rfl, Nat.le_of_ble_eq_true rfl⟩) (pcR_V (ci := 5) (q0 := 0) hP hK hn rfl rfl) rfl rfl hl.1 rfl (lv_room (Nat.le_of_ble_eq_true rfl)) dX7_mixTable_73 ⟨Nat.zero_le _, Nat.zero_le _⟩) ?_
                  refine lv_i2l (v := (fX7_character f t5 (nI x59_2)).toInt64) hx hb dX7_mixTable_76 rfl ?_
                  refine k_mutv (Wd := (fun (v9 : Int64) => mW cI o q0 q1 f x M v9)) (va_runV (As := [.long ((fX7_character f t5 (nI x59_2)).toInt64)]) (rest := []) ⟨hx, hb, hml, hown, hts0⟩ (mX7_mix l dC dI cI o q0 q1 f x M U59_1 ((fX7_character f t5 (nI x59_2)).toInt64)) (cwV 1 hts0 (gi_V u_1193 u_1195 us_53 u_7 u_1196) rfl rfl rfl (by decide +kernel) ⟨Nat.le_of_ble_eq_true rfl, Nat.le_of_ble_eq_true rfl⟩) (pcM_V (ci := 5) (q0 := 0) hP hK hn hD rfl rfl) rfl rfl hl.1 rfl (lv_room (Nat.le_of_ble_eq_true rfl)) dX7_mixTable_77 ⟨Nat.zero_le _, Nat.zero_le _⟩) hP hD hS [0, 1, 2] rfl rfl (fun _ => rfl) (fun U77 H locs hU77 hP hD hS => ?_)
                  have hP : va_P (dC, dI) vwCl (mW cI o q0 q1 f x M U77) H := hP
                  have hD : va_D A (mW cI o q0 q1 f x M U77) := hD
                  have hF := bd_at hF hU77
                  refine lv_iinc (v := (nI (x59_2 + 1))) (lv' := [(2, .int (nI (x59_2 + 1))), (0, .ref o), (1, .int (nI t5))]) hx hb dX7_mixTable_80 hl (k := 0) rfl (nI_1 _) (by decide) rfl (fun ls hl => ?_)
                  refine lv_goto (tgt := 59) hx hb dX7_mixTable_83 (by decide) ?_
                  have hF : fX7_mixTable f h t5 = nextkk59 (x59_2 + 1) U77 := hF
                  rw [hnextkk59] at hF
                  exact ihkk59 jj59 (Nat.lt_succ_self _) (kk59 + 1) (x59_2 + 1) U77 (cn_next hkkk59) hF ⟨by omega, by have := char_lt hs8 (by omega) c_66; omega⟩ _ _ hP hD hS ls (lv_sub hl [0, 1, 2] rfl)
              exact L59 12 0 0 U26_0 (Nat.zero_add _) hF ⟨rfl, Nat.zero_le _⟩ _ _ hP hD hS ls (lv_sub hl [0, 1, 2] rfl)
            obtain ⟨jj26, rfl⟩ := cn_go hkkk26 c_36
            have hF := hF.trans (lq1_s _ _ _ _ _)
            obtain ⟨nextkk26, hnextkk26⟩ : ∃ y9, y9 = lq1 (fX7_mixTable_b26 f t5) (fX7_mixTable_r26 f t5) jj26 (kk26 + 1) := ⟨_, rfl⟩
            rw [← hnextkk26] at hF
            refine lv_aload_n hx hb dX7_mixTable_39 rfl (lv_at hl 1 rfl) ?_
            refine lv_aload_n hx hb dX7_mixTable_40 rfl (lv_at hl 1 rfl) ?_
            refine lv_iconst (v := 0) hx hb dX7_mixTable_41 (by decide) ?_
            refine lv_iload_n hx hb dX7_mixTable_42 rfl (lv_at hl 2 rfl) ?_
            refine lv_iload_n hx hb dX7_mixTable_43 rfl (lv_at hl 0 rfl) ?_
            refine k_calli (W.runV (As := [.int 0, .int (nI t5), .int (nI kk26)]) (rest := [.ref o]) ⟨hx, hb, hml, hown, hts0⟩ (mX7_whoSits l dC dI cI o q0 q1 f x M U26_0 0 (nI t5) (nI kk26) (by first | omega | assumption)) (cwV 3 hts0 (gi_V u_993 u_995 us_28 u_7 u_996) rfl rfl rfl (by decide +kernel) ⟨Nat.le_of_ble_eq_true rfl, Nat.le_of_ble_eq_true rfl⟩) (pcR_V (ci := 5) (q0 := 0) hP hK hn rfl rfl) rfl rfl hl.1 rfl (lv_room (Nat.le_of_ble_eq_true rfl)) dX7_mixTable_44 ⟨Nat.zero_le _, Nat.zero_le _⟩) ?_
            refine lv_i2l (v := (fX7_whoSits f 0 (nI t5) (nI kk26)).toInt64) hx hb dX7_mixTable_47 rfl ?_
            refine k_mutv (Wd := (fun (v9 : Int64) => mW cI o q0 q1 f x M v9)) (va_runV (As := [.long ((fX7_whoSits f 0 (nI t5) (nI kk26)).toInt64)]) (rest := []) ⟨hx, hb, hml, hown, hts0⟩ (mX7_mix l dC dI cI o q0 q1 f x M U26_0 ((fX7_whoSits f 0 (nI t5) (nI kk26)).toInt64)) (cwV 1 hts0 (gi_V u_1193 u_1195 us_53 u_7 u_1196) rfl rfl rfl (by decide +kernel) ⟨Nat.le_of_ble_eq_true rfl, Nat.le_of_ble_eq_true rfl⟩) (pcM_V (ci := 5) (q0 := 0) hP hK hn hD rfl rfl) rfl rfl hl.1 rfl (lv_room (Nat.le_of_ble_eq_true rfl)) dX7_mixTable_48 ⟨Nat.zero_le _, Nat.zero_le _⟩) hP hD hS [0, 1, 2] rfl rfl (fun _ => rfl) (fun U48 H locs hU48 hP hD hS => ?_)
            have hP : va_P (dC, dI) vwCl (mW cI o q0 q1 f x M U48) H := hP
            have hD : va_D A (mW cI o q0 q1 f x M U48) := hD
            have hF := bd_at hF hU48
            refine lv_iinc (v := (nI (kk26 + 1))) (lv' := [(2, .int (nI (kk26 + 1))), (0, .ref o), (1, .int (nI t5))]) hx hb dX7_mixTable_51 hl (k := 0) rfl (nI_1 _) (by decide) rfl (fun ls hl => ?_)
            refine lv_goto (tgt := 26) hx hb dX7_mixTable_54 (by decide) ?_
            have hF : fX7_mixTable f h t5 = nextkk26 U48 := hF
            rw [hnextkk26] at hF
            exact ihkk26 jj26 (Nat.lt_succ_self _) (kk26 + 1) U48 (cn_next hkkk26) hF _ _ hP hD hS ls (lv_sub hl [0, 1, 2] rfl)
        exact L26 ((f (18 + t5)).toNatClampNeg) 0 U2_0 (Nat.zero_add _) hF _ _ hP hD hS ls (lv_sub hl [0, 1, 2] rfl)
      obtain ⟨jj2, rfl⟩ := cn_goN (N := 5) hkkk2 (by decide) c_4
      have hF := hF.trans (lq1_s _ _ _ _ _)
      obtain ⟨nextkk2, hnextkk2⟩ : ∃ y9, y9 = lq1 (fX7_mixTable_b2 f t5) (fX7_mixTable_r2 f t5) jj2 (kk2 + 1) := ⟨_, rfl⟩
      rw [← hnextkk2] at hF
      refine lv_aload_n hx hb dX7_mixTable_7 rfl (lv_at hl 1 rfl) ?_
      refine lv_aload_n hx hb dX7_mixTable_8 rfl (lv_at hl 1 rfl) ?_
      refine lv_iload_n hx hb dX7_mixTable_9 rfl (lv_at hl 2 rfl) ?_
      refine lv_iload_n hx hb dX7_mixTable_10 rfl (lv_at hl 0 rfl) ?_
      refine k_calli (W.runV (As := [.int (nI t5), .int (nI kk2)]) (rest := [.ref o]) ⟨hx, hb, hml, hown, hts0⟩ (mX7_ofTable l dC dI cI o q0 q1 f x M U2_0 t5 (nI kk2) (by first | omega | assumption) (by first | omega | assumption)) (cwV 2 hts0 (gi_V u_1120 u_1122 us_46 u_7 u_1123) rfl rfl rfl (by decide +kernel) ⟨Nat.le_of_ble_eq_true rfl, Nat.le_of_ble_eq_true rfl⟩) (pcR_V (ci := 5) (q0 := 0) hP hK hn rfl rfl) rfl rfl hl.1 rfl (lv_room (Nat.le_of_ble_eq_true rfl)) dX7_mixTable_11 ⟨Nat.zero_le _, Nat.zero_le _⟩) ?_
      refine lv_i2l (v := (fX7_ofTable f t5 (nI kk2)).toInt64) hx hb dX7_mixTable_14 rfl ?_
      refine k_mutv (Wd := (fun (v9 : Int64) => mW cI o q0 q1 f x M v9)) (va_runV (As := [.long ((fX7_ofTable f t5 (nI kk2)).toInt64)]) (rest := []) ⟨hx, hb, hml, hown, hts0⟩ (mX7_mix l dC dI cI o q0 q1 f x M U2_0 ((fX7_ofTable f t5 (nI kk2)).toInt64)) (cwV 1 hts0 (gi_V u_1193 u_1195 us_53 u_7 u_1196) rfl rfl rfl (by decide +kernel) ⟨Nat.le_of_ble_eq_true rfl, Nat.le_of_ble_eq_true rfl⟩) (pcM_V (ci := 5) (q0 := 0) hP hK hn hD rfl rfl) rfl rfl hl.1 rfl (lv_room (Nat.le_of_ble_eq_true rfl)) dX7_mixTable_15 ⟨Nat.zero_le _, Nat.zero_le _⟩) hP hD hS [0, 1, 2] rfl rfl (fun _ => rfl) (fun U15 H locs hU15 hP hD hS => ?_)
      have hP : va_P (dC, dI) vwCl (mW cI o q0 q1 f x M U15) H := hP
      have hD : va_D A (mW cI o q0 q1 f x M U15) := hD
      have hF := bd_at hF hU15
      refine lv_iinc (v := (nI (kk2 + 1))) (lv' := [(2, .int (nI (kk2 + 1))), (0, .ref o), (1, .int (nI t5))]) hx hb dX7_mixTable_18 hl (k := 0) rfl (nI_1 _) (by decide) rfl (fun ls hl => ?_)
      refine lv_goto (tgt := 2) hx hb dX7_mixTable_21 (by decide) ?_
      have hF : fX7_mixTable f h t5 = nextkk2 U15 := hF
      rw [hnextkk2] at hF
      exact ihkk2 jj2 (Nat.lt_succ_self _) (kk2 + 1) U15 (cn_next hkkk2) hF _ _ hP hD hS ls (lv_sub hl [0, 1, 2] rfl)
  exact L2 5 0 h (Nat.zero_add _) hF _ _ hP hD hS ls (lv_sub hl [0, 1, 2] rfl)
