set_option maxHeartbeats 4000000 in
set_option maxRecDepth 100000 in
theorem mX1_init (l : Launch) (dC : Nat → ClassId) (dI : Nat → Nat → Nat) (cI cP : ClassId) (qF b0 : Nat) (n : Nat) (hn : n < 100) (sz : Nat) : Met l yX1_init (ws_ yX1_init cX1_init 2 none) ({ frames := 1, cells := 1, slots := n, locals := 60 } : Room) (pcN (dC, dI) [(cI, .int), (cP, .object "SupperSeats$Plan")] [(b0, .inr (1, [.null, .int 0]))] [.ref b0, .int (nI n)] sz cI qF) (va_Qv (fun (u9 : Nat) => True) (fun u9 t => va_P (dC, dI) vwCl ((fun (z9 : Nat) => lW cI b0 z9 n (fun _ => 0) 0) u9) t.heap ∧ va_D (va_A [(b0, .inr (1, [.null, .int 0]))] sz) ((fun (z9 : Nat) => lW cI b0 z9 n (fun _ => 0) 0) u9)) (va_A [(b0, .inr (1, [.null, .int 0]))] sz)) 1 n (va_A [(b0, .inr (1, [.null, .int 0]))] sz) := by
  refine Met.ofW (cc := cX1_init) (maxL := 2) (ret := none) (by decide) rfl ?_
  intro p e s m args below meth c s₁ B hml hv
  obtain ⟨ha, hsz, hP, hK, hn, hD0, hF, hO⟩ := hv
  have hx := B.exec
  have hb := B.bytes
  have hr := B.returns
  have hts0 := atoms_spec (ws := (ws_ yX1_init cX1_init 2 none)) B.pre
  have hts : ∀ w ∈ lw_all, w.before args s = true := fun w h => hts0 w (List.mem_cons_of_mem _ h)
  have hown : s.vm.findClass RX1 = some m.cls := findClass_of_methodNamed B.named
  have hlocks := B.notSynchronized
  have hin : meth.name = "<init>" := (name_of_methodNamed B.named B.method).1
  have htX1 : ∀ w ∈ wsX10, w.before args s = true := fun w h => hts w (wX1 w h)
  subst hsz
  have hD := hD0.self (sz := s.heap.size)
  obtain ⟨A, hAe⟩ : ∃ A, A = va_A [(b0, .inr (1, [.null, .int 0]))] s.heap.size := ⟨_, rfl⟩
  rw [← hAe] at hD hF
  have hA : ∀ q : Nat, s.heap.size ≤ q → A q := fun q h => by rw [hAe]; exact Or.inr h
  have hS : va_S A s.heap s.heap [] := va_S.rf
  have hP : va_P (dC, dI) vwCl [(b0, .inr (1, [.null, .int 0]))] s.heap := hP
  have hl := lv_entry ([.ref b0, .int (nI n)]) (n := 2) (Nat.le_of_ble_eq_true rfl)
  rw [ha, lg_entry_eq, ← ha]
  generalize (lg_sl ([.ref b0, .int (nI n)]) ++ List.replicate (2 - (lg_sl ([.ref b0, .int (nI n)])).length) Slot.unset).toArray = ls at hl ⊢
  have hl : lv_has ls 2 [(0, .ref b0), (1, .int (nI n))] := hl
  rw [← hAe]
  refine lv_aload_n hx hb dX1_init_0 rfl (lv_at hl 0 rfl) ?_
  refine W.objInit hx hb hown (hts _ u_34) (hts _ u_21) (hts _ u_22) rfl (by rw [hml]; exact hl.1) rfl dX1_init_1 (Nat.le_of_ble_eq_true rfl) (Nat.le_of_ble_eq_true rfl) ?_
  refine W.eq (g2 := F0 m 4 ls []) rfl ?_
  refine lv_aload_n hx hb dX1_init_4 rfl (lv_at hl 0 rfl) ?_
  refine lv_iload_n hx hb dX1_init_5 rfl (lv_at hl 1 rfl) ?_
  refine lv_iconst (v := 0) hx hb dX1_init_6 (by decide) ?_
  refine va_mmax hx hb (hml.trans hl.1.symm) hown (hts _ u_35) (hts _ u_36) (hts _ u_4) (hts _ u_37) (Nat.le_of_ble_eq_true rfl) (Nat.le_of_ble_eq_true rfl) (Nat.zero_le _) (by show 0 ≤ n; omega) dX1_init_7 ?_
  rw [show (if nI n < 0 then 0 else nI n : Int32) = nI n from if_neg (nI_pos (by omega))]
  refine k_newi (cI := cI) (N' := n) hx hb (hts _ u_45) hK hP hD hS hA rfl (nI_pos (by omega)) (nI_clamp (by omega)) (by show n * 4 ≤ 536870912; omega) (Nat.le_of_ble_eq_true rfl) (by show 0 + n ≤ n; omega) dX1_init_10 (fun g0 H hP hD hS => ?_)
  have hP : va_P (dC, dI) vwCl ([(b0, .inr (1, [.null, .int 0]))] ++ [(g0, .inl (cI, n, .inl (fun _ => 0)))]) H := hP
  have hD : va_D A ([(b0, .inr (1, [.null, .int 0]))] ++ [(g0, .inl (cI, n, .inl (fun _ => 0)))]) := hD
  refine va_putF (D := (dC, dI)) (ci := 1) (v := .ref g0) (ty := (.array .int)) (C := RX1) (T := TX1) (N := 2) hx hb htX1 (fun _ h => h) tyX1 tyX1_ok nmX1 hown hK hP hD hS 0 rfl rfl 0 (by decide) (hts _ u_38) (fun _ h9 => h9) rfl hin rfl (by decide +kernel) rfl rfl (Nat.le_of_ble_eq_true rfl) dX1_init_12 (fun H locs hP hD hS => ?_)
  have hP : va_P (dC, dI) vwCl ([(b0, .inr (1, [.ref g0, .int 0]))] ++ [(g0, .inl (cI, n, .inl (fun _ => 0)))]) H := hP
  have hD : va_D A ([(b0, .inr (1, [.ref g0, .int 0]))] ++ [(g0, .inl (cI, n, .inl (fun _ => 0)))]) := hD
  refine lv_aload_n hx hb dX1_init_15 rfl (lv_at hl 0 rfl) ?_
  refine lv_iconst (v := 0) hx hb dX1_init_16 (by decide) ?_
  refine va_put (D := (dC, dI)) (ci := 1) (v := .int 0) (ty := .int) (C := RX1) (T := TX1) (N := 2) hx hb htX1 (fun _ h => h) tyX1 tyX1_ok nmX1 hown hK hP hD hS 0 rfl rfl 1 (by decide) (hts _ u_39) (fun _ h9 => h9) rfl (by decide +kernel) rfl rfl (Nat.le_of_ble_eq_true rfl) dX1_init_17 (fun H locs hP hD hS => ?_)
  have hP : va_P (dC, dI) vwCl ([(b0, .inr (1, [.ref g0, .int 0]))] ++ [(g0, .inl (cI, n, .inl (fun _ => 0)))]) H := hP
  have hD : va_D A ([(b0, .inr (1, [.ref g0, .int 0]))] ++ [(g0, .inl (cI, n, .inl (fun _ => 0)))]) := hD
  refine W.widen (k := 1) (n := n) (Nat.le_of_ble_eq_true rfl) (by show 0 + n ≤ n; omega) ?_
  exact W.vret hx hb hr (fun t ht hW => ⟨⟨g0, rfl, trivial, toH ht hP, hD⟩, hS.F ht⟩) hS.2.2 dX1_init_20

section KFILL
variable {p : Program} {l : Launch} {e : Env} {R : Room} {s : State} {m : MethodId} {args : Array Value} {below : List Frame} {meth : Method} {c : Code} {cells slots : Nat} {Q : State → Prop} {A : Nat → Prop} {D : va_G} {tys : List (ClassId × FieldType)}
set_option maxHeartbeats 4000000 in
set_option maxRecDepth 100000 in
/-- the loop of a new plan: the first values come into the settings' row -/
theorem k_fill {cI : ClassId} {b0 g7 qF : Nat} {fs : List Value} {ws : (Nat → Int32) → va_W} (hx : p.tables.exec = Jvm.exec) (hb : c.code = cX2_init) (hts : ∀ w ∈ lw_all, w.before args s = true) (hown : s.vm.findClass RX2 = some m.cls) (hK : va_K D vwCl tys s) (h0 : tys[0]? = some (cI, .int)) (hn : nst s) (hF9 : xfv A cI qF s)
    (hw0 : ∀ U, (ws U)[0]? = some (b0, .inr (2, fs))) (hfs : fs[7]? = some (.ref g7)) (hw8 : ∀ U, (ws U)[8]? = some (g7, .inl (cI, 4, .inl U))) (hset : ∀ U V, (ws U).set 8 (g7, .inl (cI, 4, .inl V)) = ws V)
    (kx : ∀ (U : Nat → Int32) (H : Heap) (locs : List Loc) (ls : Array Slot), U = fX3_copy 4 fFV 4 (fun _ => 0) → va_P D vwCl (ws U) H → va_D A (ws U) → va_S A s.heap H locs → W p l e R s m args below meth c H locs cells slots Q (F0 m 128 ls [])) :
    ∀ (jj2 kk2 : Nat) (U2_0 : Nat → Int32), kk2 + jj2 = ((nI 4).toNatClampNeg) → fX3_copy 4 fFV 4 (fun _ => 0) = lq1 (fX3_copy_b2 fFV 4) fX3_copy_r2 jj2 kk2 U2_0 → ∀ (H : Heap) (locs : List Loc), va_P D vwCl (ws U2_0) H → va_D A (ws U2_0) → va_S A s.heap H locs → ∀ ls, lv_has ls 2 [(1, .int (nI kk2)), (0, .ref b0)] → W p l e R s m args below meth c H locs cells slots Q (F0 m 94 ls []) := by
  have htX2 : ∀ w ∈ wsX20, w.before args s = true := fun w h => hts w (wX2 w h)
  intro jj2
  induction jj2 using Nat.strongRecOn with
  | _ jj2 ihkk2 =>
    intro kk2 U2_0 hkkk2 hF H locs hP hD hS ls hl
    refine lv_iload_n hx hb dX2_init_94 rfl (lv_at hl 0 rfl) ?_
    refine va_getsN (C := RX6) (n := "FIRST_VALUES") (d := "[I") (v := .ref qF) hx hb hF9.1 hS hown (va_Nw.use rfl (hn _ (List.mem_of_getElem? (i := 0) rfl))) (fun _ h9 => h9) dX2_init_95 ?_
    refine va_tlen (v := (nI 4)) hx hb hF9.2.1 hS rfl dX2_init_98 ?_
    refine lv_icmp_ge (tgt := 128) hx hb dX2_init_99 (by decide) (fun c_5 => ?_) (fun c_5 => ?_)
    · obtain rfl := cn_exit hkkk2 c_5
      have hF := hF.trans (lq1_z _ _ _ _)
      exact kx U2_0 H locs ls hF.symm hP hD hS
    obtain ⟨jj2, rfl⟩ := cn_go hkkk2 c_5
    have hF := hF.trans (lq1_s _ _ _ _ _)
    obtain ⟨nextkk2, hnextkk2⟩ : ∃ y9, y9 = lq1 (fX3_copy_b2 fFV 4) fX3_copy_r2 jj2 (kk2 + 1) := ⟨_, rfl⟩
    rw [← hnextkk2] at hF
    refine lv_iload_n hx hb dX2_init_102 rfl (lv_at hl 0 rfl) ?_
    refine lv_aload_n hx hb dX2_init_103 rfl (lv_at hl 1 rfl) ?_
    refine va_get (D := D) (ci := 2) (v := .ref g7) (C := RX2) (T := TX2) (N := 14) hx hb htX2 (fun _ h => h) hown hK hP 0 (hw0 _) rfl 7 (by decide) (hts _ u_64) (fun _ h9 => h9) hfs dX2_init_104 ?_
    refine va_alen (v := (nI 4)) hx hb hK hP 8 0 (hw8 _) h0 rfl dX2_init_107 ?_
    refine lv_icmp_ge (tgt := 128) hx hb dX2_init_108 (by decide) (fun c_11 => ?_) (fun c_11 => ?_)
    · have hF := hF.trans (if_pos c_11)
      exact kx U2_0 H locs ls hF.symm hP hD hS
    have hF := hF.trans (if_neg c_11)
    refine lv_aload_n hx hb dX2_init_111 rfl (lv_at hl 1 rfl) ?_
    refine va_get (D := D) (ci := 2) (v := .ref g7) (C := RX2) (T := TX2) (N := 14) hx hb htX2 (fun _ h => h) hown hK hP 0 (hw0 _) rfl 7 (by decide) (hts _ u_64) (fun _ h9 => h9) hfs dX2_init_112 ?_
    refine lv_iload_n hx hb dX2_init_115 rfl (lv_at hl 0 rfl) ?_
    refine va_getsN (C := RX6) (n := "FIRST_VALUES") (d := "[I") (v := .ref qF) hx hb hF9.1 hS hown (va_Nw.use rfl (hn _ (List.mem_of_getElem? (i := 0) rfl))) (fun _ h9 => h9) dX2_init_116 ?_
    refine lv_iload_n hx hb dX2_init_119 rfl (lv_at hl 0 rfl) ?_
    refine va_ti hx hb hF9.2.1 hS (vin_k (by decide) hkkk2 c_5) rfl dX2_init_120 ?_
    refine va_iast hx hb hK hP hD hS 8 0 (hw8 _) h0 (vin_k (by decide) hkkk2 c_11) dX2_init_121 (fun H locs hP hD hS => ?_)
    rw [hset] at hP hD
    refine lv_iinc (v := (nI (kk2 + 1))) (lv' := [(1, .int (nI (kk2 + 1))), (0, .ref b0)]) hx hb dX2_init_122 hl (k := 0) rfl (nI_1 _) (by decide) rfl (fun ls hl => ?_)
    refine lv_goto (tgt := 94) hx hb dX2_init_125 (by decide) ?_
    have hF : fX3_copy 4 fFV 4 (fun _ => 0) = nextkk2 (upd U2_0 (nI kk2).toNatClampNeg (fFV (nI kk2).toNatClampNeg)) := hF
    rw [hnextkk2] at hF
    exact ihkk2 jj2 (Nat.lt_succ_self _) (kk2 + 1) (upd U2_0 (nI kk2).toNatClampNeg (fFV (nI kk2).toNatClampNeg)) (cn_next hkkk2) hF _ _ hP hD hS ls (lv_sub hl [0, 1] rfl)
end KFILL

/-- a new plan -/
def P0 : PV := fun a => if a = 7 then fX3_copy 4 fFV 4 (fun _ => 0) else fun _ => 0
set_option maxHeartbeats 4000000 in
set_option maxRecDepth 100000 in
theorem mX2_init (l : Launch) (dC : Nat → ClassId) (dI : Nat → Nat → Nat) (cI cP : ClassId) (qF b0 : Nat) (sz : Nat) : Met l yX2_init (ws_ yX2_init cX2_init 2 none) ({ frames := 2, cells := 12, slots := 148, locals := 81 } : Room) (pcN (dC, dI) [(cI, .int), (cP, .object "SupperSeats$Plan")] [(b0, .inr (2, [.null, .null, .null, .null, .null, .null, .null, .null, .null, .null, .int 0, .int 0, .int 0, .int 0]))] [.ref b0] sz cI qF) (va_Qv (fun (u9 : Nat → Nat) => u9 0 = b0) (fun u9 t => va_P (dC, dI) vwCl ((fun (ad : Nat → Nat) => pW cI ad P0) u9) t.heap ∧ va_D (va_A [(b0, .inr (2, [.null, .null, .null, .null, .null, .null, .null, .null, .null, .null, .int 0, .int 0, .int 0, .int 0]))] sz) ((fun (ad : Nat → Nat) => pW cI ad P0) u9)) (va_A [(b0, .inr (2, [.null, .null, .null, .null, .null, .null, .null, .null, .null, .null, .int 0, .int 0, .int 0, .int 0]))] sz)) 12 148 (va_A [(b0, .inr (2, [.null, .null, .null, .null, .null, .null, .null, .null, .null, .null, .int 0, .int 0, .int 0, .int 0]))] sz) := by
  refine Met.ofW (cc := cX2_init) (maxL := 2) (ret := none) (by decide) rfl ?_
  intro p e s m args below meth c s₁ B hml hv
  obtain ⟨ha, hsz, hP, hK, hn, hD0, hF, hO⟩ := hv
  have hx := B.exec
  have hb := B.bytes
  have hr := B.returns
  have hts0 := atoms_spec (ws := (ws_ yX2_init cX2_init 2 none)) B.pre
  have hts : ∀ w ∈ lw_all, w.before args s = true := fun w h => hts0 w (List.mem_cons_of_mem _ h)
  have hown : s.vm.findClass RX2 = some m.cls := findClass_of_methodNamed B.named
  have hlocks := B.notSynchronized
  have hin : meth.name = "<init>" := (name_of_methodNamed B.named B.method).1
  have htX2 : ∀ w ∈ wsX20, w.before args s = true := fun w h => hts w (wX2 w h)
  subst hsz
  have hD := hD0.self (sz := s.heap.size)
  obtain ⟨A, hAe⟩ : ∃ A, A = va_A [(b0, .inr (2, [.null, .null, .null, .null, .null, .null, .null, .null, .null, .null, .int 0, .int 0, .int 0, .int 0]))] s.heap.size := ⟨_, rfl⟩
  rw [← hAe] at hD hF
  have hA : ∀ q : Nat, s.heap.size ≤ q → A q := fun q h => by rw [hAe]; exact Or.inr h
  have hS : va_S A s.heap s.heap [] := va_S.rf
  have hP : va_P (dC, dI) vwCl [(b0, .inr (2, [.null, .null, .null, .null, .null, .null, .null, .null, .null, .null, .int 0, .int 0, .int 0, .int 0]))] s.heap := hP
  have hl := lv_entry ([.ref b0]) (n := 2) (Nat.le_of_ble_eq_true rfl)
  rw [ha, lg_entry_eq, ← ha]
  generalize (lg_sl ([.ref b0]) ++ List.replicate (2 - (lg_sl ([.ref b0])).length) Slot.unset).toArray = ls at hl ⊢
  have hl : lv_has ls 2 [(0, .ref b0)] := hl
  rw [← hAe]
  refine lv_aload_n hx hb dX2_init_0 rfl (lv_at hl 0 rfl) ?_
  refine W.objInit hx hb hown (hts _ u_28) (hts _ u_21) (hts _ u_22) rfl (by rw [hml]; exact hl.1) rfl dX2_init_1 (Nat.le_of_ble_eq_true rfl) (Nat.le_of_ble_eq_true rfl) ?_
  refine W.eq (g2 := F0 m 4 ls []) rfl ?_
  refine lv_aload_n hx hb dX2_init_4 rfl (lv_at hl 0 rfl) ?_
  refine lv_bipush (v := 16) hx hb dX2_init_5 (by decide) ?_
  refine k_newi (cI := cI) (N' := 16) hx hb (hts _ u_45) hK hP hD hS hA rfl (by decide) (by decide) (Nat.le_of_ble_eq_true rfl) (Nat.le_of_ble_eq_true rfl) (Nat.le_of_ble_eq_true rfl) dX2_init_7 (fun g0 H hP hD hS => ?_)
  have hP : va_P (dC, dI) vwCl ([(b0, .inr (2, [.null, .null, .null, .null, .null, .null, .null, .null, .null, .null, .int 0, .int 0, .int 0, .int 0]))] ++ [(g0, .inl (cI, 16, .inl (fun _ => 0)))]) H := hP
  have hD : va_D A ([(b0, .inr (2, [.null, .null, .null, .null, .null, .null, .null, .null, .null, .null, .int 0, .int 0, .int 0, .int 0]))] ++ [(g0, .inl (cI, 16, .inl (fun _ => 0)))]) := hD
  refine va_putF (D := (dC, dI)) (ci := 2) (v := .ref g0) (ty := (.array .int)) (C := RX2) (T := TX2) (N := 14) hx hb htX2 (fun _ h => h) tyX2 tyX2_ok nmX2 hown hK hP hD hS 0 rfl rfl 0 (by decide) (hts _ u_48) (fun _ h9 => h9) rfl hin rfl (by decide +kernel) rfl rfl (Nat.le_of_ble_eq_true rfl) dX2_init_9 (fun H locs hP hD hS => ?_)
  have hP : va_P (dC, dI) vwCl ([(b0, .inr (2, [.ref g0, .null, .null, .null, .null, .null, .null, .null, .null, .null, .int 0, .int 0, .int 0, .int 0]))] ++ [(g0, .inl (cI, 16, .inl (fun _ => 0)))]) H := hP
  have hD : va_D A ([(b0, .inr (2, [.ref g0, .null, .null, .null, .null, .null, .null, .null, .null, .null, .int 0, .int 0, .int 0, .int 0]))] ++ [(g0, .inl (cI, 16, .inl (fun _ => 0)))]) := hD
  refine lv_aload_n hx hb dX2_init_12 rfl (lv_at hl 0 rfl) ?_
  refine lv_bipush (v := 16) hx hb dX2_init_13 (by decide) ?_
  refine k_newi (cI := cI) (N' := 16) hx hb (hts _ u_45) hK hP hD hS hA rfl (by decide) (by decide) (Nat.le_of_ble_eq_true rfl) (Nat.le_of_ble_eq_true rfl) (Nat.le_of_ble_eq_true rfl) dX2_init_15 (fun g1 H hP hD hS => ?_)
  have hP : va_P (dC, dI) vwCl (([(b0, .inr (2, [.ref g0, .null, .null, .null, .null, .null, .null, .null, .null, .null, .int 0, .int 0, .int 0, .int 0]))] ++ [(g0, .inl (cI, 16, .inl (fun _ => 0)))]) ++ [(g1, .inl (cI, 16, .inl (fun _ => 0)))]) H := hP
  have hD : va_D A (([(b0, .inr (2, [.ref g0, .null, .null, .null, .null, .null, .null, .null, .null, .null, .int 0, .int 0, .int 0, .int 0]))] ++ [(g0, .inl (cI, 16, .inl (fun _ => 0)))]) ++ [(g1, .inl (cI, 16, .inl (fun _ => 0)))]) := hD
  refine va_putF (D := (dC, dI)) (ci := 2) (v := .ref g1) (ty := (.array .int)) (C := RX2) (T := TX2) (N := 14) hx hb htX2 (fun _ h => h) tyX2 tyX2_ok nmX2 hown hK hP hD hS 0 rfl rfl 1 (by decide) (hts _ u_50) (fun _ h9 => h9) rfl hin rfl (by decide +kernel) rfl rfl (Nat.le_of_ble_eq_true rfl) dX2_init_17 (fun H locs hP hD hS => ?_)
  have hP : va_P (dC, dI) vwCl (([(b0, .inr (2, [.ref g0, .ref g1, .null, .null, .null, .null, .null, .null, .null, .null, .int 0, .int 0, .int 0, .int 0]))] ++ [(g0, .inl (cI, 16, .inl (fun _ => 0)))]) ++ [(g1, .inl (cI, 16, .inl (fun _ => 0)))]) H := hP
  have hD : va_D A (([(b0, .inr (2, [.ref g0, .ref g1, .null, .null, .null, .null, .null, .null, .null, .null, .int 0, .int 0, .int 0, .int 0]))] ++ [(g0, .inl (cI, 16, .inl (fun _ => 0)))]) ++ [(g1, .inl (cI, 16, .inl (fun _ => 0)))]) := hD
  refine lv_aload_n hx hb dX2_init_20 rfl (lv_at hl 0 rfl) ?_
  refine lv_bipush (v := 16) hx hb dX2_init_21 (by decide) ?_
  refine k_newi (cI := cI) (N' := 16) hx hb (hts _ u_45) hK hP hD hS hA rfl (by decide) (by decide) (Nat.le_of_ble_eq_true rfl) (Nat.le_of_ble_eq_true rfl) (Nat.le_of_ble_eq_true rfl) dX2_init_23 (fun g2 H hP hD hS => ?_)
  have hP : va_P (dC, dI) vwCl ((([(b0, .inr (2, [.ref g0, .ref g1, .null, .null, .null, .null, .null, .null, .null, .null, .int 0, .int 0, .int 0, .int 0]))] ++ [(g0, .inl (cI, 16, .inl (fun _ => 0)))]) ++ [(g1, .inl (cI, 16, .inl (fun _ => 0)))]) ++ [(g2, .inl (cI, 16, .inl (fun _ => 0)))]) H := hP
  have hD : va_D A ((([(b0, .inr (2, [.ref g0, .ref g1, .null, .null, .null, .null, .null, .null, .null, .null, .int 0, .int 0, .int 0, .int 0]))] ++ [(g0, .inl (cI, 16, .inl (fun _ => 0)))]) ++ [(g1, .inl (cI, 16, .inl (fun _ => 0)))]) ++ [(g2, .inl (cI, 16, .inl (fun _ => 0)))]) := hD
  refine va_putF (D := (dC, dI)) (ci := 2) (v := .ref g2) (ty := (.array .int)) (C := RX2) (T := TX2) (N := 14) hx hb htX2 (fun _ h => h) tyX2 tyX2_ok nmX2 hown hK hP hD hS 0 rfl rfl 2 (by decide) (hts _ u_53) (fun _ h9 => h9) rfl hin rfl (by decide +kernel) rfl rfl (Nat.le_of_ble_eq_true rfl) dX2_init_25 (fun H locs hP hD hS => ?_)
  have hP : va_P (dC, dI) vwCl ((([(b0, .inr (2, [.ref g0, .ref g1, .ref g2, .null, .null, .null, .null, .null, .null, .null, .int 0, .int 0, .int 0, .int 0]))] ++ [(g0, .inl (cI, 16, .inl (fun _ => 0)))]) ++ [(g1, .inl (cI, 16, .inl (fun _ => 0)))]) ++ [(g2, .inl (cI, 16, .inl (fun _ => 0)))]) H := hP
  have hD : va_D A ((([(b0, .inr (2, [.ref g0, .ref g1, .ref g2, .null, .null, .null, .null, .null, .null, .null, .int 0, .int 0, .int 0, .int 0]))] ++ [(g0, .inl (cI, 16, .inl (fun _ => 0)))]) ++ [(g1, .inl (cI, 16, .inl (fun _ => 0)))]) ++ [(g2, .inl (cI, 16, .inl (fun _ => 0)))]) := hD
  refine lv_aload_n hx hb dX2_init_28 rfl (lv_at hl 0 rfl) ?_
  refine lv_bipush (v := 16) hx hb dX2_init_29 (by decide) ?_
  refine k_newi (cI := cI) (N' := 16) hx hb (hts _ u_45) hK hP hD hS hA rfl (by decide) (by decide) (Nat.le_of_ble_eq_true rfl) (Nat.le_of_ble_eq_true rfl) (Nat.le_of_ble_eq_true rfl) dX2_init_31 (fun g3 H hP hD hS => ?_)
  have hP : va_P (dC, dI) vwCl (((([(b0, .inr (2, [.ref g0, .ref g1, .ref g2, .null, .null, .null, .null, .null, .null, .null, .int 0, .int 0, .int 0, .int 0]))] ++ [(g0, .inl (cI, 16, .inl (fun _ => 0)))]) ++ [(g1, .inl (cI, 16, .inl (fun _ => 0)))]) ++ [(g2, .inl (cI, 16, .inl (fun _ => 0)))]) ++ [(g3, .inl (cI, 16, .inl (fun _ => 0)))]) H := hP
  have hD : va_D A (((([(b0, .inr (2, [.ref g0, .ref g1, .ref g2, .null, .null, .null, .null, .null, .null, .null, .int 0, .int 0, .int 0, .int 0]))] ++ [(g0, .inl (cI, 16, .inl (fun _ => 0)))]) ++ [(g1, .inl (cI, 16, .inl (fun _ => 0)))]) ++ [(g2, .inl (cI, 16, .inl (fun _ => 0)))]) ++ [(g3, .inl (cI, 16, .inl (fun _ => 0)))]) := hD
  refine va_putF (D := (dC, dI)) (ci := 2) (v := .ref g3) (ty := (.array .int)) (C := RX2) (T := TX2) (N := 14) hx hb htX2 (fun _ h => h) tyX2 tyX2_ok nmX2 hown hK hP hD hS 0 rfl rfl 3 (by decide) (hts _ u_56) (fun _ h9 => h9) rfl hin rfl (by decide +kernel) rfl rfl (Nat.le_of_ble_eq_true rfl) dX2_init_33 (fun H locs hP hD hS => ?_)
  have hP : va_P (dC, dI) vwCl (((([(b0, .inr (2, [.ref g0, .ref g1, .ref g2, .ref g3, .null, .null, .null, .null, .null, .null, .int 0, .int 0, .int 0, .int 0]))] ++ [(g0, .inl (cI, 16, .inl (fun _ => 0)))]) ++ [(g1, .inl (cI, 16, .inl (fun _ => 0)))]) ++ [(g2, .inl (cI, 16, .inl (fun _ => 0)))]) ++ [(g3, .inl (cI, 16, .inl (fun _ => 0)))]) H := hP
  have hD : va_D A (((([(b0, .inr (2, [.ref g0, .ref g1, .ref g2, .ref g3, .null, .null, .null, .null, .null, .null, .int 0, .int 0, .int 0, .int 0]))] ++ [(g0, .inl (cI, 16, .inl (fun _ => 0)))]) ++ [(g1, .inl (cI, 16, .inl (fun _ => 0)))]) ++ [(g2, .inl (cI, 16, .inl (fun _ => 0)))]) ++ [(g3, .inl (cI, 16, .inl (fun _ => 0)))]) := hD
  refine lv_aload_n hx hb dX2_init_36 rfl (lv_at hl 0 rfl) ?_
  refine lv_bipush (v := 16) hx hb dX2_init_37 (by decide) ?_
  refine k_newi (cI := cI) (N' := 16) hx hb (hts _ u_45) hK hP hD hS hA rfl (by decide) (by decide) (Nat.le_of_ble_eq_true rfl) (Nat.le_of_ble_eq_true rfl) (Nat.le_of_ble_eq_true rfl) dX2_init_39 (fun g4 H hP hD hS => ?_)
  have hP : va_P (dC, dI) vwCl ((((([(b0, .inr (2, [.ref g0, .ref g1, .ref g2, .ref g3, .null, .null, .null, .null, .null, .null, .int 0, .int 0, .int 0, .int 0]))] ++ [(g0, .inl (cI, 16, .inl (fun _ => 0)))]) ++ [(g1, .inl (cI, 16, .inl (fun _ => 0)))]) ++ [(g2, .inl (cI, 16, .inl (fun _ => 0)))]) ++ [(g3, .inl (cI, 16, .inl (fun _ => 0)))]) ++ [(g4, .inl (cI, 16, .inl (fun _ => 0)))]) H := hP
  have hD : va_D A ((((([(b0, .inr (2, [.ref g0, .ref g1, .ref g2, .ref g3, .null, .null, .null, .null, .null, .null, .int 0, .int 0, .int 0, .int 0]))] ++ [(g0, .inl (cI, 16, .inl (fun _ => 0)))]) ++ [(g1, .inl (cI, 16, .inl (fun _ => 0)))]) ++ [(g2, .inl (cI, 16, .inl (fun _ => 0)))]) ++ [(g3, .inl (cI, 16, .inl (fun _ => 0)))]) ++ [(g4, .inl (cI, 16, .inl (fun _ => 0)))]) := hD
  refine va_putF (D := (dC, dI)) (ci := 2) (v := .ref g4) (ty := (.array .int)) (C := RX2) (T := TX2) (N := 14) hx hb htX2 (fun _ h => h) tyX2 tyX2_ok nmX2 hown hK hP hD hS 0 rfl rfl 4 (by decide) (hts _ u_59) (fun _ h9 => h9) rfl hin rfl (by decide +kernel) rfl rfl (Nat.le_of_ble_eq_true rfl) dX2_init_41 (fun H locs hP hD hS => ?_)
  have hP : va_P (dC, dI) vwCl ((((([(b0, .inr (2, [.ref g0, .ref g1, .ref g2, .ref g3, .ref g4, .null, .null, .null, .null, .null, .int 0, .int 0, .int 0, .int 0]))] ++ [(g0, .inl (cI, 16, .inl (fun _ => 0)))]) ++ [(g1, .inl (cI, 16, .inl (fun _ => 0)))]) ++ [(g2, .inl (cI, 16, .inl (fun _ => 0)))]) ++ [(g3, .inl (cI, 16, .inl (fun _ => 0)))]) ++ [(g4, .inl (cI, 16, .inl (fun _ => 0)))]) H := hP
  have hD : va_D A ((((([(b0, .inr (2, [.ref g0, .ref g1, .ref g2, .ref g3, .ref g4, .null, .null, .null, .null, .null, .int 0, .int 0, .int 0, .int 0]))] ++ [(g0, .inl (cI, 16, .inl (fun _ => 0)))]) ++ [(g1, .inl (cI, 16, .inl (fun _ => 0)))]) ++ [(g2, .inl (cI, 16, .inl (fun _ => 0)))]) ++ [(g3, .inl (cI, 16, .inl (fun _ => 0)))]) ++ [(g4, .inl (cI, 16, .inl (fun _ => 0)))]) := hD
  refine lv_aload_n hx hb dX2_init_44 rfl (lv_at hl 0 rfl) ?_
  refine lv_iconst (v := 4) hx hb dX2_init_45 (by decide) ?_
  refine k_newi (cI := cI) (N' := 4) hx hb (hts _ u_45) hK hP hD hS hA rfl (by decide) (by decide) (Nat.le_of_ble_eq_true rfl) (Nat.le_of_ble_eq_true rfl) (Nat.le_of_ble_eq_true rfl) dX2_init_46 (fun g5 H hP hD hS => ?_)
  have hP : va_P (dC, dI) vwCl (((((([(b0, .inr (2, [.ref g0, .ref g1, .ref g2, .ref g3, .ref g4, .null, .null, .null, .null, .null, .int 0, .int 0, .int 0, .int 0]))] ++ [(g0, .inl (cI, 16, .inl (fun _ => 0)))]) ++ [(g1, .inl (cI, 16, .inl (fun _ => 0)))]) ++ [(g2, .inl (cI, 16, .inl (fun _ => 0)))]) ++ [(g3, .inl (cI, 16, .inl (fun _ => 0)))]) ++ [(g4, .inl (cI, 16, .inl (fun _ => 0)))]) ++ [(g5, .inl (cI, 4, .inl (fun _ => 0)))]) H := hP
  have hD : va_D A (((((([(b0, .inr (2, [.ref g0, .ref g1, .ref g2, .ref g3, .ref g4, .null, .null, .null, .null, .null, .int 0, .int 0, .int 0, .int 0]))] ++ [(g0, .inl (cI, 16, .inl (fun _ => 0)))]) ++ [(g1, .inl (cI, 16, .inl (fun _ => 0)))]) ++ [(g2, .inl (cI, 16, .inl (fun _ => 0)))]) ++ [(g3, .inl (cI, 16, .inl (fun _ => 0)))]) ++ [(g4, .inl (cI, 16, .inl (fun _ => 0)))]) ++ [(g5, .inl (cI, 4, .inl (fun _ => 0)))]) := hD
  refine va_putF (D := (dC, dI)) (ci := 2) (v := .ref g5) (ty := (.array .int)) (C := RX2) (T := TX2) (N := 14) hx hb htX2 (fun _ h => h) tyX2 tyX2_ok nmX2 hown hK hP hD hS 0 rfl rfl 5 (by decide) (hts _ u_62) (fun _ h9 => h9) rfl hin rfl (by decide +kernel) rfl rfl (Nat.le_of_ble_eq_true rfl) dX2_init_48 (fun H locs hP hD hS => ?_)
  have hP : va_P (dC, dI) vwCl (((((([(b0, .inr (2, [.ref g0, .ref g1, .ref g2, .ref g3, .ref g4, .ref g5, .null, .null, .null, .null, .int 0, .int 0, .int 0, .int 0]))] ++ [(g0, .inl (cI, 16, .inl (fun _ => 0)))]) ++ [(g1, .inl (cI, 16, .inl (fun _ => 0)))]) ++ [(g2, .inl (cI, 16, .inl (fun _ => 0)))]) ++ [(g3, .inl (cI, 16, .inl (fun _ => 0)))]) ++ [(g4, .inl (cI, 16, .inl (fun _ => 0)))]) ++ [(g5, .inl (cI, 4, .inl (fun _ => 0)))]) H := hP
  have hD : va_D A (((((([(b0, .inr (2, [.ref g0, .ref g1, .ref g2, .ref g3, .ref g4, .ref g5, .null, .null, .null, .null, .int 0, .int 0, .int 0, .int 0]))] ++ [(g0, .inl (cI, 16, .inl (fun _ => 0)))]) ++ [(g1, .inl (cI, 16, .inl (fun _ => 0)))]) ++ [(g2, .inl (cI, 16, .inl (fun _ => 0)))]) ++ [(g3, .inl (cI, 16, .inl (fun _ => 0)))]) ++ [(g4, .inl (cI, 16, .inl (fun _ => 0)))]) ++ [(g5, .inl (cI, 4, .inl (fun _ => 0)))]) := hD
  refine lv_aload_n hx hb dX2_init_51 rfl (lv_at hl 0 rfl) ?_
  refine lv_bipush (v := 32) hx hb dX2_init_52 (by decide) ?_
  refine k_newi (cI := cI) (N' := 32) hx hb (hts _ u_45) hK hP hD hS hA rfl (by decide) (by decide) (Nat.le_of_ble_eq_true rfl) (Nat.le_of_ble_eq_true rfl) (Nat.le_of_ble_eq_true rfl) dX2_init_54 (fun g6 H hP hD hS => ?_)
  have hP : va_P (dC, dI) vwCl ((((((([(b0, .inr (2, [.ref g0, .ref g1, .ref g2, .ref g3, .ref g4, .ref g5, .null, .null, .null, .null, .int 0, .int 0, .int 0, .int 0]))] ++ [(g0, .inl (cI, 16, .inl (fun _ => 0)))]) ++ [(g1, .inl (cI, 16, .inl (fun _ => 0)))]) ++ [(g2, .inl (cI, 16, .inl (fun _ => 0)))]) ++ [(g3, .inl (cI, 16, .inl (fun _ => 0)))]) ++ [(g4, .inl (cI, 16, .inl (fun _ => 0)))]) ++ [(g5, .inl (cI, 4, .inl (fun _ => 0)))]) ++ [(g6, .inl (cI, 32, .inl (fun _ => 0)))]) H := hP
  have hD : va_D A ((((((([(b0, .inr (2, [.ref g0, .ref g1, .ref g2, .ref g3, .ref g4, .ref g5, .null, .null, .null, .null, .int 0, .int 0, .int 0, .int 0]))] ++ [(g0, .inl (cI, 16, .inl (fun _ => 0)))]) ++ [(g1, .inl (cI, 16, .inl (fun _ => 0)))]) ++ [(g2, .inl (cI, 16, .inl (fun _ => 0)))]) ++ [(g3, .inl (cI, 16, .inl (fun _ => 0)))]) ++ [(g4, .inl (cI, 16, .inl (fun _ => 0)))]) ++ [(g5, .inl (cI, 4, .inl (fun _ => 0)))]) ++ [(g6, .inl (cI, 32, .inl (fun _ => 0)))]) := hD
  refine va_putF (D := (dC, dI)) (ci := 2) (v := .ref g6) (ty := (.array .int)) (C := RX2) (T := TX2) (N := 14) hx hb htX2 (fun _ h => h) tyX2 tyX2_ok nmX2 hown hK hP hD hS 0 rfl rfl 6 (by decide) (hts _ u_63) (fun _ h9 => h9) rfl hin rfl (by decide +kernel) rfl rfl (Nat.le_of_ble_eq_true rfl) dX2_init_56 (fun H locs hP hD hS => ?_)
  have hP : va_P (dC, dI) vwCl ((((((([(b0, .inr (2, [.ref g0, .ref g1, .ref g2, .ref g3, .ref g4, .ref g5, .ref g6, .null, .null, .null, .int 0, .int 0, .int 0, .int 0]))] ++ [(g0, .inl (cI, 16, .inl (fun _ => 0)))]) ++ [(g1, .inl (cI, 16, .inl (fun _ => 0)))]) ++ [(g2, .inl (cI, 16, .inl (fun _ => 0)))]) ++ [(g3, .inl (cI, 16, .inl (fun _ => 0)))]) ++ [(g4, .inl (cI, 16, .inl (fun _ => 0)))]) ++ [(g5, .inl (cI, 4, .inl (fun _ => 0)))]) ++ [(g6, .inl (cI, 32, .inl (fun _ => 0)))]) H := hP
  have hD : va_D A ((((((([(b0, .inr (2, [.ref g0, .ref g1, .ref g2, .ref g3, .ref g4, .ref g5, .ref g6, .null, .null, .null, .int 0, .int 0, .int 0, .int 0]))] ++ [(g0, .inl (cI, 16, .inl (fun _ => 0)))]) ++ [(g1, .inl (cI, 16, .inl (fun _ => 0)))]) ++ [(g2, .inl (cI, 16, .inl (fun _ => 0)))]) ++ [(g3, .inl (cI, 16, .inl (fun _ => 0)))]) ++ [(g4, .inl (cI, 16, .inl (fun _ => 0)))]) ++ [(g5, .inl (cI, 4, .inl (fun _ => 0)))]) ++ [(g6, .inl (cI, 32, .inl (fun _ => 0)))]) := hD
  refine lv_aload_n hx hb dX2_init_59 rfl (lv_at hl 0 rfl) ?_
  refine lv_iconst (v := 4) hx hb dX2_init_60 (by decide) ?_
  refine k_newi (cI := cI) (N' := 4) hx hb (hts _ u_45) hK hP hD hS hA rfl (by decide) (by decide) (Nat.le_of_ble_eq_true rfl) (Nat.le_of_ble_eq_true rfl) (Nat.le_of_ble_eq_true rfl) dX2_init_61 (fun g7 H hP hD hS => ?_)
  have hP : va_P (dC, dI) vwCl (((((((([(b0, .inr (2, [.ref g0, .ref g1, .ref g2, .ref g3, .ref g4, .ref g5, .ref g6, .null, .null, .null, .int 0, .int 0, .int 0, .int 0]))] ++ [(g0, .inl (cI, 16, .inl (fun _ => 0)))]) ++ [(g1, .inl (cI, 16, .inl (fun _ => 0)))]) ++ [(g2, .inl (cI, 16, .inl (fun _ => 0)))]) ++ [(g3, .inl (cI, 16, .inl (fun _ => 0)))]) ++ [(g4, .inl (cI, 16, .inl (fun _ => 0)))]) ++ [(g5, .inl (cI, 4, .inl (fun _ => 0)))]) ++ [(g6, .inl (cI, 32, .inl (fun _ => 0)))]) ++ [(g7, .inl (cI, 4, .inl (fun _ => 0)))]) H := hP
  have hD : va_D A (((((((([(b0, .inr (2, [.ref g0, .ref g1, .ref g2, .ref g3, .ref g4, .ref g5, .ref g6, .null, .null, .null, .int 0, .int 0, .int 0, .int 0]))] ++ [(g0, .inl (cI, 16, .inl (fun _ => 0)))]) ++ [(g1, .inl (cI, 16, .inl (fun _ => 0)))]) ++ [(g2, .inl (cI, 16, .inl (fun _ => 0)))]) ++ [(g3, .inl (cI, 16, .inl (fun _ => 0)))]) ++ [(g4, .inl (cI, 16, .inl (fun _ => 0)))]) ++ [(g5, .inl (cI, 4, .inl (fun _ => 0)))]) ++ [(g6, .inl (cI, 32, .inl (fun _ => 0)))]) ++ [(g7, .inl (cI, 4, .inl (fun _ => 0)))]) := hD
  refine va_putF (D := (dC, dI)) (ci := 2) (v := .ref g7) (ty := (.array .int)) (C := RX2) (T := TX2) (N := 14) hx hb htX2 (fun _ h => h) tyX2 tyX2_ok nmX2 hown hK hP hD hS 0 rfl rfl 7 (by decide) (hts _ u_64) (fun _ h9 => h9) rfl hin rfl (by decide +kernel) rfl rfl (Nat.le_of_ble_eq_true rfl) dX2_init_63 (fun H locs hP hD hS => ?_)
  have hP : va_P (dC, dI) vwCl (((((((([(b0, .inr (2, [.ref g0, .ref g1, .ref g2, .ref g3, .ref g4, .ref g5, .ref g6, .ref g7, .null, .null, .int 0, .int 0, .int 0, .int 0]))] ++ [(g0, .inl (cI, 16, .inl (fun _ => 0)))]) ++ [(g1, .inl (cI, 16, .inl (fun _ => 0)))]) ++ [(g2, .inl (cI, 16, .inl (fun _ => 0)))]) ++ [(g3, .inl (cI, 16, .inl (fun _ => 0)))]) ++ [(g4, .inl (cI, 16, .inl (fun _ => 0)))]) ++ [(g5, .inl (cI, 4, .inl (fun _ => 0)))]) ++ [(g6, .inl (cI, 32, .inl (fun _ => 0)))]) ++ [(g7, .inl (cI, 4, .inl (fun _ => 0)))]) H := hP
  have hD : va_D A (((((((([(b0, .inr (2, [.ref g0, .ref g1, .ref g2, .ref g3, .ref g4, .ref g5, .ref g6, .ref g7, .null, .null, .int 0, .int 0, .int 0, .int 0]))] ++ [(g0, .inl (cI, 16, .inl (fun _ => 0)))]) ++ [(g1, .inl (cI, 16, .inl (fun _ => 0)))]) ++ [(g2, .inl (cI, 16, .inl (fun _ => 0)))]) ++ [(g3, .inl (cI, 16, .inl (fun _ => 0)))]) ++ [(g4, .inl (cI, 16, .inl (fun _ => 0)))]) ++ [(g5, .inl (cI, 4, .inl (fun _ => 0)))]) ++ [(g6, .inl (cI, 32, .inl (fun _ => 0)))]) ++ [(g7, .inl (cI, 4, .inl (fun _ => 0)))]) := hD
  refine lv_aload_n hx hb dX2_init_66 rfl (lv_at hl 0 rfl) ?_
  refine va_new (ci := 1) (fs := [.null, .int 0]) (C := RX1) (T := TX1) (N := 2) hx hb (fun w h => hts w (wX1 w h)) (fun _ h => h) tyX1 tyX1_ok hown (hts _ u_29) (hts _ u_30) (hts _ u_3) hK hP hD hS hA rfl (fun j hj => by rcases (show j = 0 ∨ j = 1 by omega) with rfl | rfl <;> rfl) (Nat.le_of_ble_eq_true rfl) (Nat.le_of_ble_eq_true rfl) dX2_init_67 (fun g8 H hP hD hS => ?_)
  have hP : va_P (dC, dI) vwCl ((((((((([(b0, .inr (2, [.ref g0, .ref g1, .ref g2, .ref g3, .ref g4, .ref g5, .ref g6, .ref g7, .null, .null, .int 0, .int 0, .int 0, .int 0]))] ++ [(g0, .inl (cI, 16, .inl (fun _ => 0)))]) ++ [(g1, .inl (cI, 16, .inl (fun _ => 0)))]) ++ [(g2, .inl (cI, 16, .inl (fun _ => 0)))]) ++ [(g3, .inl (cI, 16, .inl (fun _ => 0)))]) ++ [(g4, .inl (cI, 16, .inl (fun _ => 0)))]) ++ [(g5, .inl (cI, 4, .inl (fun _ => 0)))]) ++ [(g6, .inl (cI, 32, .inl (fun _ => 0)))]) ++ [(g7, .inl (cI, 4, .inl (fun _ => 0)))]) ++ [(g8, .inr (1, [.null, .int 0]))]) H := hP
  have hD : va_D A ((((((((([(b0, .inr (2, [.ref g0, .ref g1, .ref g2, .ref g3, .ref g4, .ref g5, .ref g6, .ref g7, .null, .null, .int 0, .int 0, .int 0, .int 0]))] ++ [(g0, .inl (cI, 16, .inl (fun _ => 0)))]) ++ [(g1, .inl (cI, 16, .inl (fun _ => 0)))]) ++ [(g2, .inl (cI, 16, .inl (fun _ => 0)))]) ++ [(g3, .inl (cI, 16, .inl (fun _ => 0)))]) ++ [(g4, .inl (cI, 16, .inl (fun _ => 0)))]) ++ [(g5, .inl (cI, 4, .inl (fun _ => 0)))]) ++ [(g6, .inl (cI, 32, .inl (fun _ => 0)))]) ++ [(g7, .inl (cI, 4, .inl (fun _ => 0)))]) ++ [(g8, .inr (1, [.null, .int 0]))]) := hD
  refine lv_dup hx hb dX2_init_70 rfl ?_
  refine lv_bipush (v := 8) hx hb dX2_init_71 (by decide) ?_
  refine k_ctor (W1 := (fun (z9 : Nat) => lW cI g8 z9 8 (fun _ => 0) 0)) (cell := (g8, .inr (1, [.null, .int 0]))) (va_runI (As := [.int 8]) (rest := [.ref g8, .ref b0]) ⟨hx, hb, hml, hown, hts0⟩ (mX1_init l dC dI cI cP qF g8 8 (by decide) H.size) (cwI 1 hts0 (gi_ws u_33) rfl rfl rfl (hts _ u_3) (hts _ u_31) (hts _ u_32) rfl (by decide +kernel) ⟨(Nat.le_of_ble_eq_true rfl), (Nat.le_of_ble_eq_true rfl)⟩) (pcN_I (last_P hP) hK hn (last_D hD) hF hO hS (last_A hD hS hA)) rfl rfl hl.1 rfl (lv_room (Nat.le_of_ble_eq_true rfl)) dX2_init_73 ⟨(Nat.le_of_ble_eq_true rfl), (Nat.le_of_ble_eq_true rfl)⟩) hP hD hS hA (fun w9 H locs hw9 hP hD hS => ?_)
  have hP : va_P (dC, dI) vwCl ((((((((([(b0, .inr (2, [.ref g0, .ref g1, .ref g2, .ref g3, .ref g4, .ref g5, .ref g6, .ref g7, .null, .null, .int 0, .int 0, .int 0, .int 0]))] ++ [(g0, .inl (cI, 16, .inl (fun _ => 0)))]) ++ [(g1, .inl (cI, 16, .inl (fun _ => 0)))]) ++ [(g2, .inl (cI, 16, .inl (fun _ => 0)))]) ++ [(g3, .inl (cI, 16, .inl (fun _ => 0)))]) ++ [(g4, .inl (cI, 16, .inl (fun _ => 0)))]) ++ [(g5, .inl (cI, 4, .inl (fun _ => 0)))]) ++ [(g6, .inl (cI, 32, .inl (fun _ => 0)))]) ++ [(g7, .inl (cI, 4, .inl (fun _ => 0)))]) ++ lW cI g8 w9 8 (fun _ => 0) 0) H := hP
  have hD : va_D A ((((((((([(b0, .inr (2, [.ref g0, .ref g1, .ref g2, .ref g3, .ref g4, .ref g5, .ref g6, .ref g7, .null, .null, .int 0, .int 0, .int 0, .int 0]))] ++ [(g0, .inl (cI, 16, .inl (fun _ => 0)))]) ++ [(g1, .inl (cI, 16, .inl (fun _ => 0)))]) ++ [(g2, .inl (cI, 16, .inl (fun _ => 0)))]) ++ [(g3, .inl (cI, 16, .inl (fun _ => 0)))]) ++ [(g4, .inl (cI, 16, .inl (fun _ => 0)))]) ++ [(g5, .inl (cI, 4, .inl (fun _ => 0)))]) ++ [(g6, .inl (cI, 32, .inl (fun _ => 0)))]) ++ [(g7, .inl (cI, 4, .inl (fun _ => 0)))]) ++ lW cI g8 w9 8 (fun _ => 0) 0) := hD
  refine va_putF (D := (dC, dI)) (ci := 2) (v := .ref g8) (ty := .object "SupperSeats$Line") (C := RX2) (T := TX2) (N := 14) hx hb htX2 (fun _ h => h) tyX2 tyX2_ok nmX2 hown hK hP hD hS 0 rfl rfl 8 (by decide) (hts _ u_67) (fun _ h9 => h9) rfl hin rfl (by decide +kernel) rfl rfl (Nat.le_of_ble_eq_true rfl) dX2_init_76 (fun H locs hP hD hS => ?_)
  have hP : va_P (dC, dI) vwCl ((((((((([(b0, .inr (2, [.ref g0, .ref g1, .ref g2, .ref g3, .ref g4, .ref g5, .ref g6, .ref g7, .ref g8, .null, .int 0, .int 0, .int 0, .int 0]))] ++ [(g0, .inl (cI, 16, .inl (fun _ => 0)))]) ++ [(g1, .inl (cI, 16, .inl (fun _ => 0)))]) ++ [(g2, .inl (cI, 16, .inl (fun _ => 0)))]) ++ [(g3, .inl (cI, 16, .inl (fun _ => 0)))]) ++ [(g4, .inl (cI, 16, .inl (fun _ => 0)))]) ++ [(g5, .inl (cI, 4, .inl (fun _ => 0)))]) ++ [(g6, .inl (cI, 32, .inl (fun _ => 0)))]) ++ [(g7, .inl (cI, 4, .inl (fun _ => 0)))]) ++ lW cI g8 w9 8 (fun _ => 0) 0) H := hP
  have hD : va_D A ((((((((([(b0, .inr (2, [.ref g0, .ref g1, .ref g2, .ref g3, .ref g4, .ref g5, .ref g6, .ref g7, .ref g8, .null, .int 0, .int 0, .int 0, .int 0]))] ++ [(g0, .inl (cI, 16, .inl (fun _ => 0)))]) ++ [(g1, .inl (cI, 16, .inl (fun _ => 0)))]) ++ [(g2, .inl (cI, 16, .inl (fun _ => 0)))]) ++ [(g3, .inl (cI, 16, .inl (fun _ => 0)))]) ++ [(g4, .inl (cI, 16, .inl (fun _ => 0)))]) ++ [(g5, .inl (cI, 4, .inl (fun _ => 0)))]) ++ [(g6, .inl (cI, 32, .inl (fun _ => 0)))]) ++ [(g7, .inl (cI, 4, .inl (fun _ => 0)))]) ++ lW cI g8 w9 8 (fun _ => 0) 0) := hD
  refine lv_aload_n hx hb dX2_init_79 rfl (lv_at hl 0 rfl) ?_
  refine va_new (ci := 1) (fs := [.null, .int 0]) (C := RX1) (T := TX1) (N := 2) hx hb (fun w h => hts w (wX1 w h)) (fun _ h => h) tyX1 tyX1_ok hown (hts _ u_29) (hts _ u_30) (hts _ u_3) hK hP hD hS hA rfl (fun j hj => by rcases (show j = 0 ∨ j = 1 by omega) with rfl | rfl <;> rfl) (Nat.le_of_ble_eq_true rfl) (Nat.le_of_ble_eq_true rfl) dX2_init_80 (fun g9 H hP hD hS => ?_)
  have hP : va_P (dC, dI) vwCl (((((((((([(b0, .inr (2, [.ref g0, .ref g1, .ref g2, .ref g3, .ref g4, .ref g5, .ref g6, .ref g7, .ref g8, .null, .int 0, .int 0, .int 0, .int 0]))] ++ [(g0, .inl (cI, 16, .inl (fun _ => 0)))]) ++ [(g1, .inl (cI, 16, .inl (fun _ => 0)))]) ++ [(g2, .inl (cI, 16, .inl (fun _ => 0)))]) ++ [(g3, .inl (cI, 16, .inl (fun _ => 0)))]) ++ [(g4, .inl (cI, 16, .inl (fun _ => 0)))]) ++ [(g5, .inl (cI, 4, .inl (fun _ => 0)))]) ++ [(g6, .inl (cI, 32, .inl (fun _ => 0)))]) ++ [(g7, .inl (cI, 4, .inl (fun _ => 0)))]) ++ lW cI g8 w9 8 (fun _ => 0) 0) ++ [(g9, .inr (1, [.null, .int 0]))]) H := hP
  have hD : va_D A (((((((((([(b0, .inr (2, [.ref g0, .ref g1, .ref g2, .ref g3, .ref g4, .ref g5, .ref g6, .ref g7, .ref g8, .null, .int 0, .int 0, .int 0, .int 0]))] ++ [(g0, .inl (cI, 16, .inl (fun _ => 0)))]) ++ [(g1, .inl (cI, 16, .inl (fun _ => 0)))]) ++ [(g2, .inl (cI, 16, .inl (fun _ => 0)))]) ++ [(g3, .inl (cI, 16, .inl (fun _ => 0)))]) ++ [(g4, .inl (cI, 16, .inl (fun _ => 0)))]) ++ [(g5, .inl (cI, 4, .inl (fun _ => 0)))]) ++ [(g6, .inl (cI, 32, .inl (fun _ => 0)))]) ++ [(g7, .inl (cI, 4, .inl (fun _ => 0)))]) ++ lW cI g8 w9 8 (fun _ => 0) 0) ++ [(g9, .inr (1, [.null, .int 0]))]) := hD
  refine lv_dup hx hb dX2_init_83 rfl ?_
  refine lv_bipush (v := 16) hx hb dX2_init_84 (by decide) ?_
  refine k_ctor (W1 := (fun (z9 : Nat) => lW cI g9 z9 16 (fun _ => 0) 0)) (cell := (g9, .inr (1, [.null, .int 0]))) (va_runI (As := [.int 16]) (rest := [.ref g9, .ref b0]) ⟨hx, hb, hml, hown, hts0⟩ (mX1_init l dC dI cI cP qF g9 16 (by decide) H.size) (cwI 1 hts0 (gi_ws u_33) rfl rfl rfl (hts _ u_3) (hts _ u_31) (hts _ u_32) rfl (by decide +kernel) ⟨(Nat.le_of_ble_eq_true rfl), (Nat.le_of_ble_eq_true rfl)⟩) (pcN_I (last_P hP) hK hn (last_D hD) hF hO hS (last_A hD hS hA)) rfl rfl hl.1 rfl (lv_room (Nat.le_of_ble_eq_true rfl)) dX2_init_86 ⟨(Nat.le_of_ble_eq_true rfl), (Nat.le_of_ble_eq_true rfl)⟩) hP hD hS hA (fun w10 H locs hw10 hP hD hS => ?_)
  have hP : va_P (dC, dI) vwCl (((((((((([(b0, .inr (2, [.ref g0, .ref g1, .ref g2, .ref g3, .ref g4, .ref g5, .ref g6, .ref g7, .ref g8, .null, .int 0, .int 0, .int 0, .int 0]))] ++ [(g0, .inl (cI, 16, .inl (fun _ => 0)))]) ++ [(g1, .inl (cI, 16, .inl (fun _ => 0)))]) ++ [(g2, .inl (cI, 16, .inl (fun _ => 0)))]) ++ [(g3, .inl (cI, 16, .inl (fun _ => 0)))]) ++ [(g4, .inl (cI, 16, .inl (fun _ => 0)))]) ++ [(g5, .inl (cI, 4, .inl (fun _ => 0)))]) ++ [(g6, .inl (cI, 32, .inl (fun _ => 0)))]) ++ [(g7, .inl (cI, 4, .inl (fun _ => 0)))]) ++ lW cI g8 w9 8 (fun _ => 0) 0) ++ lW cI g9 w10 16 (fun _ => 0) 0) H := hP
  have hD : va_D A (((((((((([(b0, .inr (2, [.ref g0, .ref g1, .ref g2, .ref g3, .ref g4, .ref g5, .ref g6, .ref g7, .ref g8, .null, .int 0, .int 0, .int 0, .int 0]))] ++ [(g0, .inl (cI, 16, .inl (fun _ => 0)))]) ++ [(g1, .inl (cI, 16, .inl (fun _ => 0)))]) ++ [(g2, .inl (cI, 16, .inl (fun _ => 0)))]) ++ [(g3, .inl (cI, 16, .inl (fun _ => 0)))]) ++ [(g4, .inl (cI, 16, .inl (fun _ => 0)))]) ++ [(g5, .inl (cI, 4, .inl (fun _ => 0)))]) ++ [(g6, .inl (cI, 32, .inl (fun _ => 0)))]) ++ [(g7, .inl (cI, 4, .inl (fun _ => 0)))]) ++ lW cI g8 w9 8 (fun _ => 0) 0) ++ lW cI g9 w10 16 (fun _ => 0) 0) := hD
  refine va_putF (D := (dC, dI)) (ci := 2) (v := .ref g9) (ty := .object "SupperSeats$Line") (C := RX2) (T := TX2) (N := 14) hx hb htX2 (fun _ h => h) tyX2 tyX2_ok nmX2 hown hK hP hD hS 0 rfl rfl 9 (by decide) (hts _ u_69) (fun _ h9 => h9) rfl hin rfl (by decide +kernel) rfl rfl (Nat.le_of_ble_eq_true rfl) dX2_init_89 (fun H locs hP hD hS => ?_)
  have hP : va_P (dC, dI) vwCl (((((((((([(b0, .inr (2, [.ref g0, .ref g1, .ref g2, .ref g3, .ref g4, .ref g5, .ref g6, .ref g7, .ref g8, .ref g9, .int 0, .int 0, .int 0, .int 0]))] ++ [(g0, .inl (cI, 16, .inl (fun _ => 0)))]) ++ [(g1, .inl (cI, 16, .inl (fun _ => 0)))]) ++ [(g2, .inl (cI, 16, .inl (fun _ => 0)))]) ++ [(g3, .inl (cI, 16, .inl (fun _ => 0)))]) ++ [(g4, .inl (cI, 16, .inl (fun _ => 0)))]) ++ [(g5, .inl (cI, 4, .inl (fun _ => 0)))]) ++ [(g6, .inl (cI, 32, .inl (fun _ => 0)))]) ++ [(g7, .inl (cI, 4, .inl (fun _ => 0)))]) ++ lW cI g8 w9 8 (fun _ => 0) 0) ++ lW cI g9 w10 16 (fun _ => 0) 0) H := hP
  have hD : va_D A (((((((((([(b0, .inr (2, [.ref g0, .ref g1, .ref g2, .ref g3, .ref g4, .ref g5, .ref g6, .ref g7, .ref g8, .ref g9, .int 0, .int 0, .int 0, .int 0]))] ++ [(g0, .inl (cI, 16, .inl (fun _ => 0)))]) ++ [(g1, .inl (cI, 16, .inl (fun _ => 0)))]) ++ [(g2, .inl (cI, 16, .inl (fun _ => 0)))]) ++ [(g3, .inl (cI, 16, .inl (fun _ => 0)))]) ++ [(g4, .inl (cI, 16, .inl (fun _ => 0)))]) ++ [(g5, .inl (cI, 4, .inl (fun _ => 0)))]) ++ [(g6, .inl (cI, 32, .inl (fun _ => 0)))]) ++ [(g7, .inl (cI, 4, .inl (fun _ => 0)))]) ++ lW cI g8 w9 8 (fun _ => 0) 0) ++ lW cI g9 w10 16 (fun _ => 0) 0) := hD
  refine W.widen (k := 12) (n := 148) (Nat.le_of_ble_eq_true rfl) (Nat.le_of_ble_eq_true rfl) ?_
  refine lv_iconst (v := 0) hx hb dX2_init_92 (by decide) ?_
  refine lv_istore_n (lv' := [(1, .int 0), (0, .ref b0)]) hx hb dX2_init_93 rfl hl (by decide) rfl (fun ls hl => ?_)
  refine k_fill (cI := cI) (b0 := b0) (g7 := g7) (qF := qF) (fs := [.ref g0, .ref g1, .ref g2, .ref g3, .ref g4, .ref g5, .ref g6, .ref g7, .ref g8, .ref g9, .int 0, .int 0, .int 0, .int 0]) (ws := fun U => (((((((((([(b0, .inr (2, [.ref g0, .ref g1, .ref g2, .ref g3, .ref g4, .ref g5, .ref g6, .ref g7, .ref g8, .ref g9, .int 0, .int 0, .int 0, .int 0]))] ++ [(g0, .inl (cI, 16, .inl (fun _ => 0)))]) ++ [(g1, .inl (cI, 16, .inl (fun _ => 0)))]) ++ [(g2, .inl (cI, 16, .inl (fun _ => 0)))]) ++ [(g3, .inl (cI, 16, .inl (fun _ => 0)))]) ++ [(g4, .inl (cI, 16, .inl (fun _ => 0)))]) ++ [(g5, .inl (cI, 4, .inl (fun _ => 0)))]) ++ [(g6, .inl (cI, 32, .inl (fun _ => 0)))]) ++ [(g7, .inl (cI, 4, .inl U))]) ++ lW cI g8 w9 8 (fun _ => 0) 0) ++ lW cI g9 w10 16 (fun _ => 0) 0)) hx hb hts hown hK rfl hn hF (fun _ => rfl) rfl (fun _ => rfl) (fun _ _ => rfl) (fun U H locs ls hU hP hD hS => ?_) ((nI 4).toNatClampNeg) 0 (fun _ => 0) (Nat.zero_add _) rfl H locs hP hD hS ls (lv_sub hl [0, 1] rfl)
  rw [hU] at hP hD
  have hP : va_P (dC, dI) vwCl (pW cI (fun k => [b0, g0, g1, g2, g3, g4, g5, g6, g7, g8, w9, g9, w10].getD k 0) P0) H := hP
  have hD : va_D A (pW cI (fun k => [b0, g0, g1, g2, g3, g4, g5, g6, g7, g8, w9, g9, w10].getD k 0) P0) := hD
  exact W.vret hx hb hr (fun t ht hW => ⟨⟨(fun k => [b0, g0, g1, g2, g3, g4, g5, g6, g7, g8, w9, g9, w10].getD k 0), rfl, rfl, toH ht hP, hD⟩, hS.F ht⟩) hS.2.2 dX2_init_128

set_option maxHeartbeats 4000000 in
set_option maxRecDepth 100000 in
theorem mX5_init (l : Launch) (dC : Nat → ClassId) (dI : Nat → Nat → Nat) (cI cP : ClassId) (qF b0 : Nat) (sz : Nat) : Met l yX5_init (ws_ yX5_init cX5_init 1 none) ({ frames := 2, cells := 2, slots := 62, locals := 81 } : Room) (pcN (dC, dI) [(cI, .int), (cP, .object "SupperSeats$Plan")] [(b0, .inr (3, [.null]))] [.ref b0] sz cI qF) (va_Qv (fun (u9 : Nat × Nat) => True) (fun u9 t => va_P (dC, dI) vwCl ((fun (z : Nat × Nat) => xW cI b0 z.1 z.2 (fun _ => 0) 0) u9) t.heap ∧ va_D (va_A [(b0, .inr (3, [.null]))] sz) ((fun (z : Nat × Nat) => xW cI b0 z.1 z.2 (fun _ => 0) 0) u9)) (va_A [(b0, .inr (3, [.null]))] sz)) 2 62 (va_A [(b0, .inr (3, [.null]))] sz) := by
  refine Met.ofW (cc := cX5_init) (maxL := 1) (ret := none) (by decide) rfl ?_
  intro p e s m args below meth c s₁ B hml hv
  obtain ⟨ha, hsz, hP, hK, hn, hD0, hF, hO⟩ := hv
  have hx := B.exec
  have hb := B.bytes
  have hr := B.returns
  have hts0 := atoms_spec (ws := (ws_ yX5_init cX5_init 1 none)) B.pre
  have hts : ∀ w ∈ lw_all, w.before args s = true := fun w h => hts0 w (List.mem_cons_of_mem _ h)
  have hown : s.vm.findClass RX5 = some m.cls := findClass_of_methodNamed B.named
  have hlocks := B.notSynchronized
  have hin : meth.name = "<init>" := (name_of_methodNamed B.named B.method).1
  have htX5 : ∀ w ∈ wsX50, w.before args s = true := fun w h => hts w (wX5 w h)
  subst hsz
  have hD := hD0.self (sz := s.heap.size)
  obtain ⟨A, hAe⟩ : ∃ A, A = va_A [(b0, .inr (3, [.null]))] s.heap.size := ⟨_, rfl⟩
  rw [← hAe] at hD hF
  have hA : ∀ q : Nat, s.heap.size ≤ q → A q := fun q h => by rw [hAe]; exact Or.inr h
  have hS : va_S A s.heap s.heap [] := va_S.rf
  have hP : va_P (dC, dI) vwCl [(b0, .inr (3, [.null]))] s.heap := hP
  have hl := lv_entry ([.ref b0]) (n := 1) (Nat.le_of_ble_eq_true rfl)
  rw [ha, lg_entry_eq, ← ha]
  generalize (lg_sl ([.ref b0]) ++ List.replicate (1 - (lg_sl ([.ref b0])).length) Slot.unset).toArray = ls at hl ⊢
  have hl : lv_has ls 1 [(0, .ref b0)] := hl
  rw [← hAe]
  refine lv_aload_n hx hb dX5_init_0 rfl (lv_at hl 0 rfl) ?_
  refine W.objInit hx hb hown (hts _ u_134) (hts _ u_21) (hts _ u_22) rfl (by rw [hml]; exact hl.1) rfl dX5_init_1 (Nat.le_of_ble_eq_true rfl) (Nat.le_of_ble_eq_true rfl) ?_
  refine W.eq (g2 := F0 m 4 ls []) rfl ?_
  refine lv_aload_n hx hb dX5_init_4 rfl (lv_at hl 0 rfl) ?_
  refine va_new (ci := 1) (fs := [.null, .int 0]) (C := RX1) (T := TX1) (N := 2) hx hb (fun w h => hts w (wX1 w h)) (fun _ h => h) tyX1 tyX1_ok hown (hts _ u_135) (hts _ u_30) (hts _ u_3) hK hP hD hS hA rfl (fun j hj => by rcases (show j = 0 ∨ j = 1 by omega) with rfl | rfl <;> rfl) (Nat.le_of_ble_eq_true rfl) (Nat.le_of_ble_eq_true rfl) dX5_init_5 (fun g0 H hP hD hS => ?_)
  have hP : va_P (dC, dI) vwCl ([(b0, .inr (3, [.null]))] ++ [(g0, .inr (1, [.null, .int 0]))]) H := hP
  have hD : va_D A ([(b0, .inr (3, [.null]))] ++ [(g0, .inr (1, [.null, .int 0]))]) := hD
  refine lv_dup hx hb dX5_init_8 rfl ?_
  refine lv_bipush (v := 60) hx hb dX5_init_9 (by decide) ?_
  refine k_ctor (W1 := (fun (z9 : Nat) => lW cI g0 z9 60 (fun _ => 0) 0)) (cell := (g0, .inr (1, [.null, .int 0]))) (va_runI (As := [.int 60]) (rest := [.ref g0, .ref b0]) ⟨hx, hb, hml, hown, hts0⟩ (mX1_init l dC dI cI cP qF g0 60 (by decide) H.size) (cwI 1 hts0 (gi_ws u_33) rfl rfl rfl (hts _ u_3) (hts _ u_136) (hts _ u_32) rfl (by decide +kernel) ⟨(Nat.le_of_ble_eq_true rfl), (Nat.le_of_ble_eq_true rfl)⟩) (pcN_I (last_P hP) hK hn (last_D hD) hF hO hS (last_A hD hS hA)) rfl rfl hl.1 rfl (lv_room (Nat.le_of_ble_eq_true rfl)) dX5_init_11 ⟨(Nat.le_of_ble_eq_true rfl), (Nat.le_of_ble_eq_true rfl)⟩) hP hD hS hA (fun w1 H locs hw1 hP hD hS => ?_)
  have hP : va_P (dC, dI) vwCl ([(b0, .inr (3, [.null]))] ++ lW cI g0 w1 60 (fun _ => 0) 0) H := hP
  have hD : va_D A ([(b0, .inr (3, [.null]))] ++ lW cI g0 w1 60 (fun _ => 0) 0) := hD
  refine va_putF (D := (dC, dI)) (ci := 3) (v := .ref g0) (ty := .object "SupperSeats$Line") (C := RX5) (T := TX5) (N := 1) hx hb htX5 (fun _ h => h) tyX5 tyX5_ok nmX5 hown hK hP hD hS 0 rfl rfl 0 (by decide) (hts _ u_137) (fun _ h9 => h9) rfl hin rfl (by decide +kernel) rfl rfl (Nat.le_of_ble_eq_true rfl) dX5_init_14 (fun H locs hP hD hS => ?_)
  have hP : va_P (dC, dI) vwCl ([(b0, .inr (3, [.ref g0]))] ++ lW cI g0 w1 60 (fun _ => 0) 0) H := hP
  have hD : va_D A ([(b0, .inr (3, [.ref g0]))] ++ lW cI g0 w1 60 (fun _ => 0) 0) := hD
  refine W.widen (k := 2) (n := 62) (Nat.le_of_ble_eq_true rfl) (Nat.le_of_ble_eq_true rfl) ?_
  exact W.vret hx hb hr (fun t ht hW => ⟨⟨(g0, w1), rfl, trivial, toH ht hP, hD⟩, hS.F ht⟩) hS.2.2 dX5_init_17

