/-- the history as its constructor leaves it -/
theorem hist_end {D : va_G} {A : Nat → Prop} {H : Heap} {cI cP : ClassId} {b0 q0 : Nat} {pa : Nat → Nat → Nat} (hP : va_P D vwCl ((((((([(b0, .inr (0, [.ref q0, .int 0, .int 0]))] ++ [(q0, .inl (cP, 6, .inr (.inr (.inr (.inr (va_up (va_up (va_up (va_up (va_up (va_up (fun _ => none) 0 (some (pa 0 0))) 1 (some (pa 1 0))) 2 (some (pa 2 0))) 3 (some (pa 3 0))) 4 (some (pa 4 0))) 5 (some (pa 5 0))))))))]) ++ pW cI (pa 0) P0) ++ pW cI (pa 1) P0) ++ pW cI (pa 2) P0) ++ pW cI (pa 3) P0) ++ pW cI (pa 4) P0) ++ pW cI (pa 5) P0) H)
    (hD : va_D A ((((((([(b0, .inr (0, [.ref q0, .int 0, .int 0]))] ++ [(q0, .inl (cP, 6, .inr (.inr (.inr (.inr (va_up (va_up (va_up (va_up (va_up (va_up (fun _ => none) 0 (some (pa 0 0))) 1 (some (pa 1 0))) 2 (some (pa 2 0))) 3 (some (pa 3 0))) 4 (some (pa 4 0))) 5 (some (pa 5 0))))))))]) ++ pW cI (pa 0) P0) ++ pW cI (pa 1) P0) ++ pW cI (pa 2) P0) ++ pW cI (pa 3) P0) ++ pW cI (pa 4) P0) ++ pW cI (pa 5) P0)) :
    va_P D vwCl (hW cI cP b0 q0 pa (fun _ => P0) (nI 0) (nI 0)) H ∧ va_D A (hW cI cP b0 q0 pa (fun _ => P0) (nI 0) (nI 0)) := by
  constructor
  · refine fl_P.mpr (fun b hb => P_mem.mpr (fun q hq => ?_))
    have hm := P_mem.mp hP
    simp only [List.mem_append] at hm
    simp only [hB, List.mem_cons, List.not_mem_nil, or_false] at hb
    rcases hb with rfl | rfl | rfl | rfl | rfl | rfl | rfl
    · simp only [rW, List.mem_cons, List.not_mem_nil, or_false] at hq
      rcases hq with rfl | rfl
      · exact hm _ (by simp [nI_0])
      · have h9 := hm (q0, .inl (cP, 6, .inr (.inr (.inr (.inr (va_up (va_up (va_up (va_up (va_up (va_up (fun _ => none) 0 (some (pa 0 0))) 1 (some (pa 1 0))) 2 (some (pa 2 0))) 3 (some (pa 3 0))) 4 (some (pa 4 0))) 5 (some (pa 5 0)))))))) (by simp)
        have e : vp_cell cP (6, .inr (.inr (.inr (.inr (va_up (va_up (va_up (va_up (va_up (va_up (fun _ => none) 0 (some (pa 0 0))) 1 (some (pa 1 0))) 2 (some (pa 2 0))) 3 (some (pa 3 0))) 4 (some (pa 4 0))) 5 (some (pa 5 0))))))) = vp_cell cP (6, .inr (.inr (.inr (.inr (fun k => some (pa k 0)))))) := by
          rw [vp_cell_q, vp_cell_q]
          refine arrV_congr (fun k hk => ?_)
          rcases (show k = 0 ∨ k = 1 ∨ k = 2 ∨ k = 3 ∨ k = 4 ∨ k = 5 by omega) with rfl | rfl | rfl | rfl | rfl | rfl <;> rfl
        exact (show H[q0]? = some (vp_cell cP _) from h9).trans (congrArg some e)
    all_goals exact hm q (by simp [hq])
  · have h := D_addr.mp hD
    exact D_addr.mpr h
set_option maxHeartbeats 4000000 in
set_option maxRecDepth 100000 in
theorem mX0_init (l : Launch) (dC : Nat → ClassId) (dI : Nat → Nat → Nat) (cI cP : ClassId) (qF b0 : Nat) (sz : Nat) : Met l yX0_init (ws_ yX0_init cX0_init 2 none) ({ frames := 3, cells := 79, slots := 978, locals := 102 } : Room) (pcN (dC, dI) [(cI, .int), (cP, .object "SupperSeats$Plan")] [(b0, .inr (0, [.null, .int 0, .int 0]))] [.ref b0] sz cI qF) (va_Qv (fun (u9 : Nat × (Nat → Nat → Nat)) => True) (fun u9 t => va_P (dC, dI) vwCl ((fun (z : Nat × (Nat → Nat → Nat)) => hW cI cP b0 z.1 z.2 (fun _ => P0) (nI 0) (nI 0)) u9) t.heap ∧ va_D (va_A [(b0, .inr (0, [.null, .int 0, .int 0]))] sz) ((fun (z : Nat × (Nat → Nat → Nat)) => hW cI cP b0 z.1 z.2 (fun _ => P0) (nI 0) (nI 0)) u9)) (va_A [(b0, .inr (0, [.null, .int 0, .int 0]))] sz)) 79 978 (va_A [(b0, .inr (0, [.null, .int 0, .int 0]))] sz) := by
  refine Met.ofW (cc := cX0_init) (maxL := 2) (ret := none) (by decide) rfl ?_
  intro p e s m args below meth c s₁ B hml hv
  obtain ⟨ha, hsz, hP, hK, hn, hD0, hF, hO⟩ := hv
  have hx := B.exec
  have hb := B.bytes
  have hr := B.returns
  have hts0 := atoms_spec (ws := (ws_ yX0_init cX0_init 2 none)) B.pre
  have hts : ∀ w ∈ lw_all, w.before args s = true := fun w h => hts0 w (List.mem_cons_of_mem _ h)
  have hown : s.vm.findClass RX0 = some m.cls := findClass_of_methodNamed B.named
  have hlocks := B.notSynchronized
  have hin : meth.name = "<init>" := (name_of_methodNamed B.named B.method).1
  have htX0 : ∀ w ∈ wsX00, w.before args s = true := fun w h => hts w (wX0 w h)
  subst hsz
  have hD := hD0.self (sz := s.heap.size)
  obtain ⟨A, hAe⟩ : ∃ A, A = va_A [(b0, .inr (0, [.null, .int 0, .int 0]))] s.heap.size := ⟨_, rfl⟩
  rw [← hAe] at hD hF
  have hA : ∀ q : Nat, s.heap.size ≤ q → A q := fun q h => by rw [hAe]; exact Or.inr h
  have hS : va_S A s.heap s.heap [] := va_S.rf
  have hP : va_P (dC, dI) vwCl [(b0, .inr (0, [.null, .int 0, .int 0]))] s.heap := hP
  have hl := lv_entry ([.ref b0]) (n := 2) (Nat.le_of_ble_eq_true rfl)
  rw [ha, lg_entry_eq, ← ha]
  generalize (lg_sl ([.ref b0]) ++ List.replicate (2 - (lg_sl ([.ref b0])).length) Slot.unset).toArray = ls at hl ⊢
  have hl : lv_has ls 2 [(0, .ref b0)] := hl
  rw [← hAe]
  refine lv_aload_n hx hb dX0_init_0 rfl (lv_at hl 0 rfl) ?_
  refine W.objInit hx hb hown (hts _ u_115) (hts _ u_21) (hts _ u_22) rfl (by rw [hml]; exact hl.1) rfl dX0_init_1 (Nat.le_of_ble_eq_true rfl) (Nat.le_of_ble_eq_true rfl) ?_
  refine W.eq (g2 := F0 m 4 ls []) rfl ?_
  refine lv_aload_n hx hb dX0_init_4 rfl (lv_at hl 0 rfl) ?_
  refine lv_bipush (v := 6) hx hb dX0_init_5 (by decide) ?_
  refine va_newq (C := RX2) (N' := 6) hx hb hown (hts _ u_116) hO hK hP hD hS hA (by decide) (by decide) (Nat.le_of_ble_eq_true rfl) (Nat.le_of_ble_eq_true rfl) (Nat.le_of_ble_eq_true rfl) dX0_init_7 (fun g0 cA9 H hK9 hP hD hS => ?_)
  obtain rfl : cP = cA9 := K_obj (hK.2 1 _ rfl).2 (hK9.2 2 (cA9, .object RX2) rfl).2
  have hP : va_P (dC, dI) vwCl ([(b0, .inr (0, [.null, .int 0, .int 0]))] ++ [(g0, .inl (cP, 6, .inr (.inr (.inr (.inr (fun _ => none))))))]) H := hP
  have hD : va_D A ([(b0, .inr (0, [.null, .int 0, .int 0]))] ++ [(g0, .inl (cP, 6, .inr (.inr (.inr (.inr (fun _ => none))))))]) := hD
  refine va_putF (D := (dC, dI)) (ci := 0) (v := .ref g0) (ty := (.array (.object "SupperSeats$Plan"))) (C := RX0) (T := TX0) (N := 3) hx hb htX0 (fun _ h => h) tyX0 tyX0_ok nmX0 hown hK hP hD hS 0 rfl rfl 0 (by decide) (hts _ u_119) (fun _ h9 => h9) rfl hin rfl (by decide +kernel) rfl rfl (Nat.le_of_ble_eq_true rfl) dX0_init_10 (fun H locs hP hD hS => ?_)
  have hP : va_P (dC, dI) vwCl ([(b0, .inr (0, [.ref g0, .int 0, .int 0]))] ++ [(g0, .inl (cP, 6, .inr (.inr (.inr (.inr (fun _ => none))))))]) H := hP
  have hD : va_D A ([(b0, .inr (0, [.ref g0, .int 0, .int 0]))] ++ [(g0, .inl (cP, 6, .inr (.inr (.inr (.inr (fun _ => none))))))]) := hD
  refine lv_iconst (v := 0) hx hb dX0_init_13 (by decide) ?_
  refine lv_istore_n (lv' := [(1, .int 0), (0, .ref b0)]) hx hb dX0_init_14 rfl hl (by decide) rfl (fun ls hl => ?_)
  refine lv_iload_n hx hb dX0_init_15 rfl (lv_at hl 0 rfl) ?_
  refine lv_aload_n hx hb dX0_init_16 rfl (lv_at hl 1 rfl) ?_
  refine va_get (D := (dC, dI)) (ci := 0) (v := .ref g0) (C := RX0) (T := TX0) (N := 3) hx hb htX0 (fun _ h => h) hown hK hP 0 rfl rfl 0 (by decide) (hts _ u_119) (fun _ h9 => h9) rfl dX0_init_17 ?_
  refine va_alen (v := nI 6) hx hb hK hP 1 1 rfl rfl rfl dX0_init_20 ?_
  refine lv_icmp_ge (tgt := 43) hx hb dX0_init_21 (by decide) (fun c9 => ?_) (fun c9 => ?_)
  · exact absurd c9 (by decide)
  refine lv_aload_n hx hb dX0_init_24 rfl (lv_at hl 1 rfl) ?_
  refine va_get (D := (dC, dI)) (ci := 0) (v := .ref g0) (C := RX0) (T := TX0) (N := 3) hx hb htX0 (fun _ h => h) hown hK hP 0 rfl rfl 0 (by decide) (hts _ u_119) (fun _ h9 => h9) rfl dX0_init_25 ?_
  refine lv_iload_n hx hb dX0_init_28 rfl (lv_at hl 0 rfl) ?_
  refine va_new (ci := 2) (fs := [.null, .null, .null, .null, .null, .null, .null, .null, .null, .null, .int 0, .int 0, .int 0, .int 0]) (C := RX2) (T := TX2) (N := 14) hx hb (fun w h => hts w (wX2 w h)) (fun _ h => h) tyX2 tyX2_ok hown (hts _ u_116) (hts _ u_24) (hts _ u_2) hK hP hD hS hA rfl (fun j hj => by rcases (show j = 0 ∨ j = 1 ∨ j = 2 ∨ j = 3 ∨ j = 4 ∨ j = 5 ∨ j = 6 ∨ j = 7 ∨ j = 8 ∨ j = 9 ∨ j = 10 ∨ j = 11 ∨ j = 12 ∨ j = 13 by omega) with rfl | rfl | rfl | rfl | rfl | rfl | rfl | rfl | rfl | rfl | rfl | rfl | rfl | rfl <;> rfl) (Nat.le_of_ble_eq_true rfl) (Nat.le_of_ble_eq_true rfl) dX0_init_29 (fun g1 H hP hD hS => ?_)
  have hP : va_P (dC, dI) vwCl (([(b0, .inr (0, [.ref g0, .int 0, .int 0]))] ++ [(g0, .inl (cP, 6, .inr (.inr (.inr (.inr (fun _ => none))))))]) ++ [(g1, .inr (2, [.null, .null, .null, .null, .null, .null, .null, .null, .null, .null, .int 0, .int 0, .int 0, .int 0]))]) H := hP
  have hD : va_D A (([(b0, .inr (0, [.ref g0, .int 0, .int 0]))] ++ [(g0, .inl (cP, 6, .inr (.inr (.inr (.inr (fun _ => none))))))]) ++ [(g1, .inr (2, [.null, .null, .null, .null, .null, .null, .null, .null, .null, .null, .int 0, .int 0, .int 0, .int 0]))]) := hD
  refine lv_dup hx hb dX0_init_32 rfl ?_
  refine k_ctor (W1 := (fun (ad : Nat → Nat) => pW cI ad P0)) (cell := (g1, .inr (2, [.null, .null, .null, .null, .null, .null, .null, .null, .null, .null, .int 0, .int 0, .int 0, .int 0]))) (va_runI (As := []) (rest := [.ref g1, .int 0, .ref g0]) ⟨hx, hb, hml, hown, hts0⟩ (mX2_init l dC dI cI cP qF g1 H.size) (cwI 0 hts0 (gi_ws u_27) rfl rfl rfl (hts _ u_2) (hts _ u_118) (hts _ u_26) rfl (by decide +kernel) ⟨(Nat.le_of_ble_eq_true rfl), (Nat.le_of_ble_eq_true rfl)⟩) (pcN_I (last_P hP) hK hn (last_D hD) hF hO hS (last_A hD hS hA)) rfl rfl hl.1 rfl (lv_room (Nat.le_of_ble_eq_true rfl)) dX0_init_33 ⟨(Nat.le_of_ble_eq_true rfl), (Nat.le_of_ble_eq_true rfl)⟩) hP hD hS hA (fun w2 H locs hw2 hP hD hS => ?_)
  have hP : va_P (dC, dI) vwCl (([(b0, .inr (0, [.ref g0, .int 0, .int 0]))] ++ [(g0, .inl (cP, 6, .inr (.inr (.inr (.inr (fun _ => none))))))]) ++ pW cI w2 P0) H := hP
  have hD : va_D A (([(b0, .inr (0, [.ref g0, .int 0, .int 0]))] ++ [(g0, .inl (cP, 6, .inr (.inr (.inr (.inr (fun _ => none))))))]) ++ pW cI w2 P0) := hD
  rw [show g1 = w2 0 from hw2.symm]
  refine va_astq hx hb hK hP hD hS 1 1 2 2 (v := w2 0) rfl rfl rfl rfl (vp_in_nI (n := 0) (by decide) (by decide)) dX0_init_36 (fun H locs hP hD hS => ?_)
  rw [show ((0 : Int32)).toNatClampNeg = 0 from by decide] at hP hD
  have hP : va_P (dC, dI) vwCl (([(b0, .inr (0, [.ref g0, .int 0, .int 0]))] ++ [(g0, .inl (cP, 6, .inr (.inr (.inr (.inr (va_up (fun _ => none) 0 (some (w2 0))))))))]) ++ pW cI w2 P0) H := hP
  have hD : va_D A (([(b0, .inr (0, [.ref g0, .int 0, .int 0]))] ++ [(g0, .inl (cP, 6, .inr (.inr (.inr (.inr (va_up (fun _ => none) 0 (some (w2 0))))))))]) ++ pW cI w2 P0) := hD
  refine lv_iinc (v := 1) (lv' := [(1, .int 1), (0, .ref b0)]) hx hb dX0_init_37 hl (k := 0) rfl (by decide) (by decide) rfl (fun ls hl => ?_)
  refine lv_goto (tgt := 15) hx hb dX0_init_40 (by decide) ?_
  refine lv_iload_n hx hb dX0_init_15 rfl (lv_at hl 0 rfl) ?_
  refine lv_aload_n hx hb dX0_init_16 rfl (lv_at hl 1 rfl) ?_
  refine va_get (D := (dC, dI)) (ci := 0) (v := .ref g0) (C := RX0) (T := TX0) (N := 3) hx hb htX0 (fun _ h => h) hown hK hP 0 rfl rfl 0 (by decide) (hts _ u_119) (fun _ h9 => h9) rfl dX0_init_17 ?_
  refine va_alen (v := nI 6) hx hb hK hP 1 1 rfl rfl rfl dX0_init_20 ?_
  refine lv_icmp_ge (tgt := 43) hx hb dX0_init_21 (by decide) (fun c9 => ?_) (fun c9 => ?_)
  · exact absurd c9 (by decide)
  refine lv_aload_n hx hb dX0_init_24 rfl (lv_at hl 1 rfl) ?_
  refine va_get (D := (dC, dI)) (ci := 0) (v := .ref g0) (C := RX0) (T := TX0) (N := 3) hx hb htX0 (fun _ h => h) hown hK hP 0 rfl rfl 0 (by decide) (hts _ u_119) (fun _ h9 => h9) rfl dX0_init_25 ?_
  refine lv_iload_n hx hb dX0_init_28 rfl (lv_at hl 0 rfl) ?_
  refine va_new (ci := 2) (fs := [.null, .null, .null, .null, .null, .null, .null, .null, .null, .null, .int 0, .int 0, .int 0, .int 0]) (C := RX2) (T := TX2) (N := 14) hx hb (fun w h => hts w (wX2 w h)) (fun _ h => h) tyX2 tyX2_ok hown (hts _ u_116) (hts _ u_24) (hts _ u_2) hK hP hD hS hA rfl (fun j hj => by rcases (show j = 0 ∨ j = 1 ∨ j = 2 ∨ j = 3 ∨ j = 4 ∨ j = 5 ∨ j = 6 ∨ j = 7 ∨ j = 8 ∨ j = 9 ∨ j = 10 ∨ j = 11 ∨ j = 12 ∨ j = 13 by omega) with rfl | rfl | rfl | rfl | rfl | rfl | rfl | rfl | rfl | rfl | rfl | rfl | rfl | rfl <;> rfl) (Nat.le_of_ble_eq_true rfl) (Nat.le_of_ble_eq_true rfl) dX0_init_29 (fun g2 H hP hD hS => ?_)
  have hP : va_P (dC, dI) vwCl ((([(b0, .inr (0, [.ref g0, .int 0, .int 0]))] ++ [(g0, .inl (cP, 6, .inr (.inr (.inr (.inr (va_up (fun _ => none) 0 (some (w2 0))))))))]) ++ pW cI w2 P0) ++ [(g2, .inr (2, [.null, .null, .null, .null, .null, .null, .null, .null, .null, .null, .int 0, .int 0, .int 0, .int 0]))]) H := hP
  have hD : va_D A ((([(b0, .inr (0, [.ref g0, .int 0, .int 0]))] ++ [(g0, .inl (cP, 6, .inr (.inr (.inr (.inr (va_up (fun _ => none) 0 (some (w2 0))))))))]) ++ pW cI w2 P0) ++ [(g2, .inr (2, [.null, .null, .null, .null, .null, .null, .null, .null, .null, .null, .int 0, .int 0, .int 0, .int 0]))]) := hD
  refine lv_dup hx hb dX0_init_32 rfl ?_
  refine k_ctor (W1 := (fun (ad : Nat → Nat) => pW cI ad P0)) (cell := (g2, .inr (2, [.null, .null, .null, .null, .null, .null, .null, .null, .null, .null, .int 0, .int 0, .int 0, .int 0]))) (va_runI (As := []) (rest := [.ref g2, .int 1, .ref g0]) ⟨hx, hb, hml, hown, hts0⟩ (mX2_init l dC dI cI cP qF g2 H.size) (cwI 0 hts0 (gi_ws u_27) rfl rfl rfl (hts _ u_2) (hts _ u_118) (hts _ u_26) rfl (by decide +kernel) ⟨(Nat.le_of_ble_eq_true rfl), (Nat.le_of_ble_eq_true rfl)⟩) (pcN_I (last_P hP) hK hn (last_D hD) hF hO hS (last_A hD hS hA)) rfl rfl hl.1 rfl (lv_room (Nat.le_of_ble_eq_true rfl)) dX0_init_33 ⟨(Nat.le_of_ble_eq_true rfl), (Nat.le_of_ble_eq_true rfl)⟩) hP hD hS hA (fun w3 H locs hw3 hP hD hS => ?_)
  have hP : va_P (dC, dI) vwCl ((([(b0, .inr (0, [.ref g0, .int 0, .int 0]))] ++ [(g0, .inl (cP, 6, .inr (.inr (.inr (.inr (va_up (fun _ => none) 0 (some (w2 0))))))))]) ++ pW cI w2 P0) ++ pW cI w3 P0) H := hP
  have hD : va_D A ((([(b0, .inr (0, [.ref g0, .int 0, .int 0]))] ++ [(g0, .inl (cP, 6, .inr (.inr (.inr (.inr (va_up (fun _ => none) 0 (some (w2 0))))))))]) ++ pW cI w2 P0) ++ pW cI w3 P0) := hD
  rw [show g2 = w3 0 from hw3.symm]
  refine va_astq hx hb hK hP hD hS 1 1 15 2 (v := w3 0) rfl rfl rfl rfl (vp_in_nI (n := 1) (by decide) (by decide)) dX0_init_36 (fun H locs hP hD hS => ?_)
  rw [show ((1 : Int32)).toNatClampNeg = 1 from by decide] at hP hD
  have hP : va_P (dC, dI) vwCl ((([(b0, .inr (0, [.ref g0, .int 0, .int 0]))] ++ [(g0, .inl (cP, 6, .inr (.inr (.inr (.inr (va_up (va_up (fun _ => none) 0 (some (w2 0))) 1 (some (w3 0))))))))]) ++ pW cI w2 P0) ++ pW cI w3 P0) H := hP
  have hD : va_D A ((([(b0, .inr (0, [.ref g0, .int 0, .int 0]))] ++ [(g0, .inl (cP, 6, .inr (.inr (.inr (.inr (va_up (va_up (fun _ => none) 0 (some (w2 0))) 1 (some (w3 0))))))))]) ++ pW cI w2 P0) ++ pW cI w3 P0) := hD
  refine lv_iinc (v := 2) (lv' := [(1, .int 2), (0, .ref b0)]) hx hb dX0_init_37 hl (k := 0) rfl (by decide) (by decide) rfl (fun ls hl => ?_)
  refine lv_goto (tgt := 15) hx hb dX0_init_40 (by decide) ?_
  refine lv_iload_n hx hb dX0_init_15 rfl (lv_at hl 0 rfl) ?_
  refine lv_aload_n hx hb dX0_init_16 rfl (lv_at hl 1 rfl) ?_
  refine va_get (D := (dC, dI)) (ci := 0) (v := .ref g0) (C := RX0) (T := TX0) (N := 3) hx hb htX0 (fun _ h => h) hown hK hP 0 rfl rfl 0 (by decide) (hts _ u_119) (fun _ h9 => h9) rfl dX0_init_17 ?_
  refine va_alen (v := nI 6) hx hb hK hP 1 1 rfl rfl rfl dX0_init_20 ?_
  refine lv_icmp_ge (tgt := 43) hx hb dX0_init_21 (by decide) (fun c9 => ?_) (fun c9 => ?_)
  · exact absurd c9 (by decide)
  refine lv_aload_n hx hb dX0_init_24 rfl (lv_at hl 1 rfl) ?_
  refine va_get (D := (dC, dI)) (ci := 0) (v := .ref g0) (C := RX0) (T := TX0) (N := 3) hx hb htX0 (fun _ h => h) hown hK hP 0 rfl rfl 0 (by decide) (hts _ u_119) (fun _ h9 => h9) rfl dX0_init_25 ?_
  refine lv_iload_n hx hb dX0_init_28 rfl (lv_at hl 0 rfl) ?_
  refine va_new (ci := 2) (fs := [.null, .null, .null, .null, .null, .null, .null, .null, .null, .null, .int 0, .int 0, .int 0, .int 0]) (C := RX2) (T := TX2) (N := 14) hx hb (fun w h => hts w (wX2 w h)) (fun _ h => h) tyX2 tyX2_ok hown (hts _ u_116) (hts _ u_24) (hts _ u_2) hK hP hD hS hA rfl (fun j hj => by rcases (show j = 0 ∨ j = 1 ∨ j = 2 ∨ j = 3 ∨ j = 4 ∨ j = 5 ∨ j = 6 ∨ j = 7 ∨ j = 8 ∨ j = 9 ∨ j = 10 ∨ j = 11 ∨ j = 12 ∨ j = 13 by omega) with rfl | rfl | rfl | rfl | rfl | rfl | rfl | rfl | rfl | rfl | rfl | rfl | rfl | rfl <;> rfl) (Nat.le_of_ble_eq_true rfl) (Nat.le_of_ble_eq_true rfl) dX0_init_29 (fun g3 H hP hD hS => ?_)
  have hP : va_P (dC, dI) vwCl (((([(b0, .inr (0, [.ref g0, .int 0, .int 0]))] ++ [(g0, .inl (cP, 6, .inr (.inr (.inr (.inr (va_up (va_up (fun _ => none) 0 (some (w2 0))) 1 (some (w3 0))))))))]) ++ pW cI w2 P0) ++ pW cI w3 P0) ++ [(g3, .inr (2, [.null, .null, .null, .null, .null, .null, .null, .null, .null, .null, .int 0, .int 0, .int 0, .int 0]))]) H := hP
  have hD : va_D A (((([(b0, .inr (0, [.ref g0, .int 0, .int 0]))] ++ [(g0, .inl (cP, 6, .inr (.inr (.inr (.inr (va_up (va_up (fun _ => none) 0 (some (w2 0))) 1 (some (w3 0))))))))]) ++ pW cI w2 P0) ++ pW cI w3 P0) ++ [(g3, .inr (2, [.null, .null, .null, .null, .null, .null, .null, .null, .null, .null, .int 0, .int 0, .int 0, .int 0]))]) := hD
  refine lv_dup hx hb dX0_init_32 rfl ?_
  refine k_ctor (W1 := (fun (ad : Nat → Nat) => pW cI ad P0)) (cell := (g3, .inr (2, [.null, .null, .null, .null, .null, .null, .null, .null, .null, .null, .int 0, .int 0, .int 0, .int 0]))) (va_runI (As := []) (rest := [.ref g3, .int 2, .ref g0]) ⟨hx, hb, hml, hown, hts0⟩ (mX2_init l dC dI cI cP qF g3 H.size) (cwI 0 hts0 (gi_ws u_27) rfl rfl rfl (hts _ u_2) (hts _ u_118) (hts _ u_26) rfl (by decide +kernel) ⟨(Nat.le_of_ble_eq_true rfl), (Nat.le_of_ble_eq_true rfl)⟩) (pcN_I (last_P hP) hK hn (last_D hD) hF hO hS (last_A hD hS hA)) rfl rfl hl.1 rfl (lv_room (Nat.le_of_ble_eq_true rfl)) dX0_init_33 ⟨(Nat.le_of_ble_eq_true rfl), (Nat.le_of_ble_eq_true rfl)⟩) hP hD hS hA (fun w4 H locs hw4 hP hD hS => ?_)
  have hP : va_P (dC, dI) vwCl (((([(b0, .inr (0, [.ref g0, .int 0, .int 0]))] ++ [(g0, .inl (cP, 6, .inr (.inr (.inr (.inr (va_up (va_up (fun _ => none) 0 (some (w2 0))) 1 (some (w3 0))))))))]) ++ pW cI w2 P0) ++ pW cI w3 P0) ++ pW cI w4 P0) H := hP
  have hD : va_D A (((([(b0, .inr (0, [.ref g0, .int 0, .int 0]))] ++ [(g0, .inl (cP, 6, .inr (.inr (.inr (.inr (va_up (va_up (fun _ => none) 0 (some (w2 0))) 1 (some (w3 0))))))))]) ++ pW cI w2 P0) ++ pW cI w3 P0) ++ pW cI w4 P0) := hD
  rw [show g3 = w4 0 from hw4.symm]
  refine va_astq hx hb hK hP hD hS 1 1 28 2 (v := w4 0) rfl rfl rfl rfl (vp_in_nI (n := 2) (by decide) (by decide)) dX0_init_36 (fun H locs hP hD hS => ?_)
  rw [show ((2 : Int32)).toNatClampNeg = 2 from by decide] at hP hD
  have hP : va_P (dC, dI) vwCl (((([(b0, .inr (0, [.ref g0, .int 0, .int 0]))] ++ [(g0, .inl (cP, 6, .inr (.inr (.inr (.inr (va_up (va_up (va_up (fun _ => none) 0 (some (w2 0))) 1 (some (w3 0))) 2 (some (w4 0))))))))]) ++ pW cI w2 P0) ++ pW cI w3 P0) ++ pW cI w4 P0) H := hP
  have hD : va_D A (((([(b0, .inr (0, [.ref g0, .int 0, .int 0]))] ++ [(g0, .inl (cP, 6, .inr (.inr (.inr (.inr (va_up (va_up (va_up (fun _ => none) 0 (some (w2 0))) 1 (some (w3 0))) 2 (some (w4 0))))))))]) ++ pW cI w2 P0) ++ pW cI w3 P0) ++ pW cI w4 P0) := hD
  refine lv_iinc (v := 3) (lv' := [(1, .int 3), (0, .ref b0)]) hx hb dX0_init_37 hl (k := 0) rfl (by decide) (by decide) rfl (fun ls hl => ?_)
  refine lv_goto (tgt := 15) hx hb dX0_init_40 (by decide) ?_
  refine lv_iload_n hx hb dX0_init_15 rfl (lv_at hl 0 rfl) ?_
  refine lv_aload_n hx hb dX0_init_16 rfl (lv_at hl 1 rfl) ?_
  refine va_get (D := (dC, dI)) (ci := 0) (v := .ref g0) (C := RX0) (T := TX0) (N := 3) hx hb htX0 (fun _ h => h) hown hK hP 0 rfl rfl 0 (by decide) (hts _ u_119) (fun _ h9 => h9) rfl dX0_init_17 ?_
  refine va_alen (v := nI 6) hx hb hK hP 1 1 rfl rfl rfl dX0_init_20 ?_
  refine lv_icmp_ge (tgt := 43) hx hb dX0_init_21 (by decide) (fun c9 => ?_) (fun c9 => ?_)
  · exact absurd c9 (by decide)
  refine lv_aload_n hx hb dX0_init_24 rfl (lv_at hl 1 rfl) ?_
  refine va_get (D := (dC, dI)) (ci := 0) (v := .ref g0) (C := RX0) (T := TX0) (N := 3) hx hb htX0 (fun _ h => h) hown hK hP 0 rfl rfl 0 (by decide) (hts _ u_119) (fun _ h9 => h9) rfl dX0_init_25 ?_
  refine lv_iload_n hx hb dX0_init_28 rfl (lv_at hl 0 rfl) ?_
  refine va_new (ci := 2) (fs := [.null, .null, .null, .null, .null, .null, .null, .null, .null, .null, .int 0, .int 0, .int 0, .int 0]) (C := RX2) (T := TX2) (N := 14) hx hb (fun w h => hts w (wX2 w h)) (fun _ h => h) tyX2 tyX2_ok hown (hts _ u_116) (hts _ u_24) (hts _ u_2) hK hP hD hS hA rfl (fun j hj => by rcases (show j = 0 ∨ j = 1 ∨ j = 2 ∨ j = 3 ∨ j = 4 ∨ j = 5 ∨ j = 6 ∨ j = 7 ∨ j = 8 ∨ j = 9 ∨ j = 10 ∨ j = 11 ∨ j = 12 ∨ j = 13 by omega) with rfl | rfl | rfl | rfl | rfl | rfl | rfl | rfl | rfl | rfl | rfl | rfl | rfl | rfl <;> rfl) (Nat.le_of_ble_eq_true rfl) (Nat.le_of_ble_eq_true rfl) dX0_init_29 (fun g4 H hP hD hS => ?_)
  have hP : va_P (dC, dI) vwCl ((((([(b0, .inr (0, [.ref g0, .int 0, .int 0]))] ++ [(g0, .inl (cP, 6, .inr (.inr (.inr (.inr (va_up (va_up (va_up (fun _ => none) 0 (some (w2 0))) 1 (some (w3 0))) 2 (some (w4 0))))))))]) ++ pW cI w2 P0) ++ pW cI w3 P0) ++ pW cI w4 P0) ++ [(g4, .inr (2, [.null, .null, .null, .null, .null, .null, .null, .null, .null, .null, .int 0, .int 0, .int 0, .int 0]))]) H := hP
  have hD : va_D A ((((([(b0, .inr (0, [.ref g0, .int 0, .int 0]))] ++ [(g0, .inl (cP, 6, .inr (.inr (.inr (.inr (va_up (va_up (va_up (fun _ => none) 0 (some (w2 0))) 1 (some (w3 0))) 2 (some (w4 0))))))))]) ++ pW cI w2 P0) ++ pW cI w3 P0) ++ pW cI w4 P0) ++ [(g4, .inr (2, [.null, .null, .null, .null, .null, .null, .null, .null, .null, .null, .int 0, .int 0, .int 0, .int 0]))]) := hD
  refine lv_dup hx hb dX0_init_32 rfl ?_
  refine k_ctor (W1 := (fun (ad : Nat → Nat) => pW cI ad P0)) (cell := (g4, .inr (2, [.null, .null, .null, .null, .null, .null, .null, .null, .null, .null, .int 0, .int 0, .int 0, .int 0]))) (va_runI (As := []) (rest := [.ref g4, .int 3, .ref g0]) ⟨hx, hb, hml, hown, hts0⟩ (mX2_init l dC dI cI cP qF g4 H.size) (cwI 0 hts0 (gi_ws u_27) rfl rfl rfl (hts _ u_2) (hts _ u_118) (hts _ u_26) rfl (by decide +kernel) ⟨(Nat.le_of_ble_eq_true rfl), (Nat.le_of_ble_eq_true rfl)⟩) (pcN_I (last_P hP) hK hn (last_D hD) hF hO hS (last_A hD hS hA)) rfl rfl hl.1 rfl (lv_room (Nat.le_of_ble_eq_true rfl)) dX0_init_33 ⟨(Nat.le_of_ble_eq_true rfl), (Nat.le_of_ble_eq_true rfl)⟩) hP hD hS hA (fun w5 H locs hw5 hP hD hS => ?_)
  have hP : va_P (dC, dI) vwCl ((((([(b0, .inr (0, [.ref g0, .int 0, .int 0]))] ++ [(g0, .inl (cP, 6, .inr (.inr (.inr (.inr (va_up (va_up (va_up (fun _ => none) 0 (some (w2 0))) 1 (some (w3 0))) 2 (some (w4 0))))))))]) ++ pW cI w2 P0) ++ pW cI w3 P0) ++ pW cI w4 P0) ++ pW cI w5 P0) H := hP
  have hD : va_D A ((((([(b0, .inr (0, [.ref g0, .int 0, .int 0]))] ++ [(g0, .inl (cP, 6, .inr (.inr (.inr (.inr (va_up (va_up (va_up (fun _ => none) 0 (some (w2 0))) 1 (some (w3 0))) 2 (some (w4 0))))))))]) ++ pW cI w2 P0) ++ pW cI w3 P0) ++ pW cI w4 P0) ++ pW cI w5 P0) := hD
  rw [show g4 = w5 0 from hw5.symm]
  refine va_astq hx hb hK hP hD hS 1 1 41 2 (v := w5 0) rfl rfl rfl rfl (vp_in_nI (n := 3) (by decide) (by decide)) dX0_init_36 (fun H locs hP hD hS => ?_)
  rw [show ((3 : Int32)).toNatClampNeg = 3 from by decide] at hP hD
  have hP : va_P (dC, dI) vwCl ((((([(b0, .inr (0, [.ref g0, .int 0, .int 0]))] ++ [(g0, .inl (cP, 6, .inr (.inr (.inr (.inr (va_up (va_up (va_up (va_up (fun _ => none) 0 (some (w2 0))) 1 (some (w3 0))) 2 (some (w4 0))) 3 (some (w5 0))))))))]) ++ pW cI w2 P0) ++ pW cI w3 P0) ++ pW cI w4 P0) ++ pW cI w5 P0) H := hP
  have hD : va_D A ((((([(b0, .inr (0, [.ref g0, .int 0, .int 0]))] ++ [(g0, .inl (cP, 6, .inr (.inr (.inr (.inr (va_up (va_up (va_up (va_up (fun _ => none) 0 (some (w2 0))) 1 (some (w3 0))) 2 (some (w4 0))) 3 (some (w5 0))))))))]) ++ pW cI w2 P0) ++ pW cI w3 P0) ++ pW cI w4 P0) ++ pW cI w5 P0) := hD
  refine lv_iinc (v := 4) (lv' := [(1, .int 4), (0, .ref b0)]) hx hb dX0_init_37 hl (k := 0) rfl (by decide) (by decide) rfl (fun ls hl => ?_)
  refine lv_goto (tgt := 15) hx hb dX0_init_40 (by decide) ?_
  refine lv_iload_n hx hb dX0_init_15 rfl (lv_at hl 0 rfl) ?_
  refine lv_aload_n hx hb dX0_init_16 rfl (lv_at hl 1 rfl) ?_
  refine va_get (D := (dC, dI)) (ci := 0) (v := .ref g0) (C := RX0) (T := TX0) (N := 3) hx hb htX0 (fun _ h => h) hown hK hP 0 rfl rfl 0 (by decide) (hts _ u_119) (fun _ h9 => h9) rfl dX0_init_17 ?_
  refine va_alen (v := nI 6) hx hb hK hP 1 1 rfl rfl rfl dX0_init_20 ?_
  refine lv_icmp_ge (tgt := 43) hx hb dX0_init_21 (by decide) (fun c9 => ?_) (fun c9 => ?_)
  · exact absurd c9 (by decide)
  refine lv_aload_n hx hb dX0_init_24 rfl (lv_at hl 1 rfl) ?_
  refine va_get (D := (dC, dI)) (ci := 0) (v := .ref g0) (C := RX0) (T := TX0) (N := 3) hx hb htX0 (fun _ h => h) hown hK hP 0 rfl rfl 0 (by decide) (hts _ u_119) (fun _ h9 => h9) rfl dX0_init_25 ?_
  refine lv_iload_n hx hb dX0_init_28 rfl (lv_at hl 0 rfl) ?_
  refine va_new (ci := 2) (fs := [.null, .null, .null, .null, .null, .null, .null, .null, .null, .null, .int 0, .int 0, .int 0, .int 0]) (C := RX2) (T := TX2) (N := 14) hx hb (fun w h => hts w (wX2 w h)) (fun _ h => h) tyX2 tyX2_ok hown (hts _ u_116) (hts _ u_24) (hts _ u_2) hK hP hD hS hA rfl (fun j hj => by rcases (show j = 0 ∨ j = 1 ∨ j = 2 ∨ j = 3 ∨ j = 4 ∨ j = 5 ∨ j = 6 ∨ j = 7 ∨ j = 8 ∨ j = 9 ∨ j = 10 ∨ j = 11 ∨ j = 12 ∨ j = 13 by omega) with rfl | rfl | rfl | rfl | rfl | rfl | rfl | rfl | rfl | rfl | rfl | rfl | rfl | rfl <;> rfl) (Nat.le_of_ble_eq_true rfl) (Nat.le_of_ble_eq_true rfl) dX0_init_29 (fun g5 H hP hD hS => ?_)
  have hP : va_P (dC, dI) vwCl (((((([(b0, .inr (0, [.ref g0, .int 0, .int 0]))] ++ [(g0, .inl (cP, 6, .inr (.inr (.inr (.inr (va_up (va_up (va_up (va_up (fun _ => none) 0 (some (w2 0))) 1 (some (w3 0))) 2 (some (w4 0))) 3 (some (w5 0))))))))]) ++ pW cI w2 P0) ++ pW cI w3 P0) ++ pW cI w4 P0) ++ pW cI w5 P0) ++ [(g5, .inr (2, [.null, .null, .null, .null, .null, .null, .null, .null, .null, .null, .int 0, .int 0, .int 0, .int 0]))]) H := hP
  have hD : va_D A (((((([(b0, .inr (0, [.ref g0, .int 0, .int 0]))] ++ [(g0, .inl (cP, 6, .inr (.inr (.inr (.inr (va_up (va_up (va_up (va_up (fun _ => none) 0 (some (w2 0))) 1 (some (w3 0))) 2 (some (w4 0))) 3 (some (w5 0))))))))]) ++ pW cI w2 P0) ++ pW cI w3 P0) ++ pW cI w4 P0) ++ pW cI w5 P0) ++ [(g5, .inr (2, [.null, .null, .null, .null, .null, .null, .null, .null, .null, .null, .int 0, .int 0, .int 0, .int 0]))]) := hD
  refine lv_dup hx hb dX0_init_32 rfl ?_
  refine k_ctor (W1 := (fun (ad : Nat → Nat) => pW cI ad P0)) (cell := (g5, .inr (2, [.null, .null, .null, .null, .null, .null, .null, .null, .null, .null, .int 0, .int 0, .int 0, .int 0]))) (va_runI (As := []) (rest := [.ref g5, .int 4, .ref g0]) ⟨hx, hb, hml, hown, hts0⟩ (mX2_init l dC dI cI cP qF g5 H.size) (cwI 0 hts0 (gi_ws u_27) rfl rfl rfl (hts _ u_2) (hts _ u_118) (hts _ u_26) rfl (by decide +kernel) ⟨(Nat.le_of_ble_eq_true rfl), (Nat.le_of_ble_eq_true rfl)⟩) (pcN_I (last_P hP) hK hn (last_D hD) hF hO hS (last_A hD hS hA)) rfl rfl hl.1 rfl (lv_room (Nat.le_of_ble_eq_true rfl)) dX0_init_33 ⟨(Nat.le_of_ble_eq_true rfl), (Nat.le_of_ble_eq_true rfl)⟩) hP hD hS hA (fun w6 H locs hw6 hP hD hS => ?_)
  have hP : va_P (dC, dI) vwCl (((((([(b0, .inr (0, [.ref g0, .int 0, .int 0]))] ++ [(g0, .inl (cP, 6, .inr (.inr (.inr (.inr (va_up (va_up (va_up (va_up (fun _ => none) 0 (some (w2 0))) 1 (some (w3 0))) 2 (some (w4 0))) 3 (some (w5 0))))))))]) ++ pW cI w2 P0) ++ pW cI w3 P0) ++ pW cI w4 P0) ++ pW cI w5 P0) ++ pW cI w6 P0) H := hP
  have hD : va_D A (((((([(b0, .inr (0, [.ref g0, .int 0, .int 0]))] ++ [(g0, .inl (cP, 6, .inr (.inr (.inr (.inr (va_up (va_up (va_up (va_up (fun _ => none) 0 (some (w2 0))) 1 (some (w3 0))) 2 (some (w4 0))) 3 (some (w5 0))))))))]) ++ pW cI w2 P0) ++ pW cI w3 P0) ++ pW cI w4 P0) ++ pW cI w5 P0) ++ pW cI w6 P0) := hD
  rw [show g5 = w6 0 from hw6.symm]
  refine va_astq hx hb hK hP hD hS 1 1 54 2 (v := w6 0) rfl rfl rfl rfl (vp_in_nI (n := 4) (by decide) (by decide)) dX0_init_36 (fun H locs hP hD hS => ?_)
  rw [show ((4 : Int32)).toNatClampNeg = 4 from by decide] at hP hD
  have hP : va_P (dC, dI) vwCl (((((([(b0, .inr (0, [.ref g0, .int 0, .int 0]))] ++ [(g0, .inl (cP, 6, .inr (.inr (.inr (.inr (va_up (va_up (va_up (va_up (va_up (fun _ => none) 0 (some (w2 0))) 1 (some (w3 0))) 2 (some (w4 0))) 3 (some (w5 0))) 4 (some (w6 0))))))))]) ++ pW cI w2 P0) ++ pW cI w3 P0) ++ pW cI w4 P0) ++ pW cI w5 P0) ++ pW cI w6 P0) H := hP
  have hD : va_D A (((((([(b0, .inr (0, [.ref g0, .int 0, .int 0]))] ++ [(g0, .inl (cP, 6, .inr (.inr (.inr (.inr (va_up (va_up (va_up (va_up (va_up (fun _ => none) 0 (some (w2 0))) 1 (some (w3 0))) 2 (some (w4 0))) 3 (some (w5 0))) 4 (some (w6 0))))))))]) ++ pW cI w2 P0) ++ pW cI w3 P0) ++ pW cI w4 P0) ++ pW cI w5 P0) ++ pW cI w6 P0) := hD
  refine lv_iinc (v := 5) (lv' := [(1, .int 5), (0, .ref b0)]) hx hb dX0_init_37 hl (k := 0) rfl (by decide) (by decide) rfl (fun ls hl => ?_)
  refine lv_goto (tgt := 15) hx hb dX0_init_40 (by decide) ?_
  refine lv_iload_n hx hb dX0_init_15 rfl (lv_at hl 0 rfl) ?_
  refine lv_aload_n hx hb dX0_init_16 rfl (lv_at hl 1 rfl) ?_
  refine va_get (D := (dC, dI)) (ci := 0) (v := .ref g0) (C := RX0) (T := TX0) (N := 3) hx hb htX0 (fun _ h => h) hown hK hP 0 rfl rfl 0 (by decide) (hts _ u_119) (fun _ h9 => h9) rfl dX0_init_17 ?_
  refine va_alen (v := nI 6) hx hb hK hP 1 1 rfl rfl rfl dX0_init_20 ?_
  refine lv_icmp_ge (tgt := 43) hx hb dX0_init_21 (by decide) (fun c9 => ?_) (fun c9 => ?_)
  · exact absurd c9 (by decide)
  refine lv_aload_n hx hb dX0_init_24 rfl (lv_at hl 1 rfl) ?_
  refine va_get (D := (dC, dI)) (ci := 0) (v := .ref g0) (C := RX0) (T := TX0) (N := 3) hx hb htX0 (fun _ h => h) hown hK hP 0 rfl rfl 0 (by decide) (hts _ u_119) (fun _ h9 => h9) rfl dX0_init_25 ?_
  refine lv_iload_n hx hb dX0_init_28 rfl (lv_at hl 0 rfl) ?_
  refine va_new (ci := 2) (fs := [.null, .null, .null, .null, .null, .null, .null, .null, .null, .null, .int 0, .int 0, .int 0, .int 0]) (C := RX2) (T := TX2) (N := 14) hx hb (fun w h => hts w (wX2 w h)) (fun _ h => h) tyX2 tyX2_ok hown (hts _ u_116) (hts _ u_24) (hts _ u_2) hK hP hD hS hA rfl (fun j hj => by rcases (show j = 0 ∨ j = 1 ∨ j = 2 ∨ j = 3 ∨ j = 4 ∨ j = 5 ∨ j = 6 ∨ j = 7 ∨ j = 8 ∨ j = 9 ∨ j = 10 ∨ j = 11 ∨ j = 12 ∨ j = 13 by omega) with rfl | rfl | rfl | rfl | rfl | rfl | rfl | rfl | rfl | rfl | rfl | rfl | rfl | rfl <;> rfl) (Nat.le_of_ble_eq_true rfl) (Nat.le_of_ble_eq_true rfl) dX0_init_29 (fun g6 H hP hD hS => ?_)
  have hP : va_P (dC, dI) vwCl ((((((([(b0, .inr (0, [.ref g0, .int 0, .int 0]))] ++ [(g0, .inl (cP, 6, .inr (.inr (.inr (.inr (va_up (va_up (va_up (va_up (va_up (fun _ => none) 0 (some (w2 0))) 1 (some (w3 0))) 2 (some (w4 0))) 3 (some (w5 0))) 4 (some (w6 0))))))))]) ++ pW cI w2 P0) ++ pW cI w3 P0) ++ pW cI w4 P0) ++ pW cI w5 P0) ++ pW cI w6 P0) ++ [(g6, .inr (2, [.null, .null, .null, .null, .null, .null, .null, .null, .null, .null, .int 0, .int 0, .int 0, .int 0]))]) H := hP
  have hD : va_D A ((((((([(b0, .inr (0, [.ref g0, .int 0, .int 0]))] ++ [(g0, .inl (cP, 6, .inr (.inr (.inr (.inr (va_up (va_up (va_up (va_up (va_up (fun _ => none) 0 (some (w2 0))) 1 (some (w3 0))) 2 (some (w4 0))) 3 (some (w5 0))) 4 (some (w6 0))))))))]) ++ pW cI w2 P0) ++ pW cI w3 P0) ++ pW cI w4 P0) ++ pW cI w5 P0) ++ pW cI w6 P0) ++ [(g6, .inr (2, [.null, .null, .null, .null, .null, .null, .null, .null, .null, .null, .int 0, .int 0, .int 0, .int 0]))]) := hD
  refine lv_dup hx hb dX0_init_32 rfl ?_
  refine k_ctor (W1 := (fun (ad : Nat → Nat) => pW cI ad P0)) (cell := (g6, .inr (2, [.null, .null, .null, .null, .null, .null, .null, .null, .null, .null, .int 0, .int 0, .int 0, .int 0]))) (va_runI (As := []) (rest := [.ref g6, .int 5, .ref g0]) ⟨hx, hb, hml, hown, hts0⟩ (mX2_init l dC dI cI cP qF g6 H.size) (cwI 0 hts0 (gi_ws u_27) rfl rfl rfl (hts _ u_2) (hts _ u_118) (hts _ u_26) rfl (by decide +kernel) ⟨(Nat.le_of_ble_eq_true rfl), (Nat.le_of_ble_eq_true rfl)⟩) (pcN_I (last_P hP) hK hn (last_D hD) hF hO hS (last_A hD hS hA)) rfl rfl hl.1 rfl (lv_room (Nat.le_of_ble_eq_true rfl)) dX0_init_33 ⟨(Nat.le_of_ble_eq_true rfl), (Nat.le_of_ble_eq_true rfl)⟩) hP hD hS hA (fun w7 H locs hw7 hP hD hS => ?_)
  have hP : va_P (dC, dI) vwCl ((((((([(b0, .inr (0, [.ref g0, .int 0, .int 0]))] ++ [(g0, .inl (cP, 6, .inr (.inr (.inr (.inr (va_up (va_up (va_up (va_up (va_up (fun _ => none) 0 (some (w2 0))) 1 (some (w3 0))) 2 (some (w4 0))) 3 (some (w5 0))) 4 (some (w6 0))))))))]) ++ pW cI w2 P0) ++ pW cI w3 P0) ++ pW cI w4 P0) ++ pW cI w5 P0) ++ pW cI w6 P0) ++ pW cI w7 P0) H := hP
  have hD : va_D A ((((((([(b0, .inr (0, [.ref g0, .int 0, .int 0]))] ++ [(g0, .inl (cP, 6, .inr (.inr (.inr (.inr (va_up (va_up (va_up (va_up (va_up (fun _ => none) 0 (some (w2 0))) 1 (some (w3 0))) 2 (some (w4 0))) 3 (some (w5 0))) 4 (some (w6 0))))))))]) ++ pW cI w2 P0) ++ pW cI w3 P0) ++ pW cI w4 P0) ++ pW cI w5 P0) ++ pW cI w6 P0) ++ pW cI w7 P0) := hD
  rw [show g6 = w7 0 from hw7.symm]
  refine va_astq hx hb hK hP hD hS 1 1 67 2 (v := w7 0) rfl rfl rfl rfl (vp_in_nI (n := 5) (by decide) (by decide)) dX0_init_36 (fun H locs hP hD hS => ?_)
  rw [show ((5 : Int32)).toNatClampNeg = 5 from by decide] at hP hD
  have hP : va_P (dC, dI) vwCl ((((((([(b0, .inr (0, [.ref g0, .int 0, .int 0]))] ++ [(g0, .inl (cP, 6, .inr (.inr (.inr (.inr (va_up (va_up (va_up (va_up (va_up (va_up (fun _ => none) 0 (some (w2 0))) 1 (some (w3 0))) 2 (some (w4 0))) 3 (some (w5 0))) 4 (some (w6 0))) 5 (some (w7 0))))))))]) ++ pW cI w2 P0) ++ pW cI w3 P0) ++ pW cI w4 P0) ++ pW cI w5 P0) ++ pW cI w6 P0) ++ pW cI w7 P0) H := hP
  have hD : va_D A ((((((([(b0, .inr (0, [.ref g0, .int 0, .int 0]))] ++ [(g0, .inl (cP, 6, .inr (.inr (.inr (.inr (va_up (va_up (va_up (va_up (va_up (va_up (fun _ => none) 0 (some (w2 0))) 1 (some (w3 0))) 2 (some (w4 0))) 3 (some (w5 0))) 4 (some (w6 0))) 5 (some (w7 0))))))))]) ++ pW cI w2 P0) ++ pW cI w3 P0) ++ pW cI w4 P0) ++ pW cI w5 P0) ++ pW cI w6 P0) ++ pW cI w7 P0) := hD
  refine lv_iinc (v := 6) (lv' := [(1, .int 6), (0, .ref b0)]) hx hb dX0_init_37 hl (k := 0) rfl (by decide) (by decide) rfl (fun ls hl => ?_)
  refine lv_goto (tgt := 15) hx hb dX0_init_40 (by decide) ?_
  refine lv_iload_n hx hb dX0_init_15 rfl (lv_at hl 0 rfl) ?_
  refine lv_aload_n hx hb dX0_init_16 rfl (lv_at hl 1 rfl) ?_
  refine va_get (D := (dC, dI)) (ci := 0) (v := .ref g0) (C := RX0) (T := TX0) (N := 3) hx hb htX0 (fun _ h => h) hown hK hP 0 rfl rfl 0 (by decide) (hts _ u_119) (fun _ h9 => h9) rfl dX0_init_17 ?_
  refine va_alen (v := nI 6) hx hb hK hP 1 1 rfl rfl rfl dX0_init_20 ?_
  refine lv_icmp_ge (tgt := 43) hx hb dX0_init_21 (by decide) (fun c9 => ?_) (fun c9 => ?_)
  rotate_left
  · exact absurd (show nI 6 ≤ 6 by decide) c9
  obtain ⟨hP, hD⟩ := hist_end (pa := (fun i => [w2, w3, w4, w5, w6, w7].getD i (fun _ => 0))) hP hD
  refine W.widen (k := 79) (n := 978) (Nat.le_of_ble_eq_true rfl) (Nat.le_of_ble_eq_true rfl) ?_
  exact W.vret hx hb hr (fun t ht hW => ⟨⟨(g0, (fun i => [w2, w3, w4, w5, w6, w7].getD i (fun _ => 0))), rfl, trivial, toH ht hP, hD⟩, hS.F ht⟩) hS.2.2 dX0_init_43

