theorem reord {D : va_G} {H : Heap} {b0 b1 b2 b3 b4 b5 : va_W} (hP : va_P D vwCl (((((b0 ++ b1) ++ b2) ++ b3) ++ b4) ++ b5) H) : va_P D vwCl (fl [b0, b1, b2, b3, b5, b4]) H := by
  refine fl_P.mpr (fun b hb => P_mem.mpr (fun q hq => ?_))
  have hm := P_mem.mp hP
  simp only [List.mem_append] at hm
  simp only [List.mem_cons, List.not_mem_nil, or_false] at hb
  rcases hb with rfl | rfl | rfl | rfl | rfl | rfl
  all_goals exact hm q (by simp [hq])
theorem reordD {A : Nat → Prop} {b0 b1 b2 b3 b4 b5 : va_W} (hD : va_D A (((((b0 ++ b1) ++ b2) ++ b3) ++ b4) ++ b5)) : va_D A (fl [b0, b1, b2, b3, b5, b4]) := by
  have e : ((((b0 ++ b1) ++ b2) ++ b3) ++ b4) ++ b5 = fl [b0, b1, b2, b3, b4, b5] := by
    rw [fl_eq]
    simp only [List.flatten_cons, List.flatten_nil, List.append_nil, List.append_assoc]
  rw [e] at hD
  exact fl_D (wc := [b0, b1, b2, b3, b5, b4]) hD [0, 1, 2, 3, 5, 4] (by decide) rfl
set_option maxHeartbeats 4000000 in
set_option maxRecDepth 100000 in
theorem mX6_init (l : Launch) (dC : Nat → ClassId) (dI : Nat → Nat → Nat) (cI cP : ClassId) (qF b0 : Nat) (sz : Nat) : Met l yX6_init (ws_ yX6_init cX6_init 1 none) ({ frames := 4, cells := 122, slots := 1530, locals := 123 } : Room) (pcN (dC, dI) [(cI, .int), (cP, .object "SupperSeats$Plan")] [(b0, .inr (4, [.null, .null, .null, .null, .null, .int 0]))] [.ref b0] sz cI qF) (va_Qv (fun (u9 : (Nat → Nat) × (Nat → Nat) × (Nat → Nat) × Nat × Nat × Nat × Nat × Nat × (Nat → Nat → Nat)) => True) (fun u9 t => va_P (dC, dI) vwCl ((fun (z9 : (Nat → Nat) × (Nat → Nat) × (Nat → Nat) × Nat × Nat × Nat × Nat × Nat × (Nat → Nat → Nat)) => fW cI cP b0 z9.1 z9.2.1 z9.2.2.1 z9.2.2.2.1 z9.2.2.2.2.1 z9.2.2.2.2.2.1 z9.2.2.2.2.2.2.1 z9.2.2.2.2.2.2.2.1 z9.2.2.2.2.2.2.2.2 P0 P0 P0 (fun _ => 0) 0 (fun _ => P0) 0 0 0) u9) t.heap ∧ va_D (va_A [(b0, .inr (4, [.null, .null, .null, .null, .null, .int 0]))] sz) ((fun (z9 : (Nat → Nat) × (Nat → Nat) × (Nat → Nat) × Nat × Nat × Nat × Nat × Nat × (Nat → Nat → Nat)) => fW cI cP b0 z9.1 z9.2.1 z9.2.2.1 z9.2.2.2.1 z9.2.2.2.2.1 z9.2.2.2.2.2.1 z9.2.2.2.2.2.2.1 z9.2.2.2.2.2.2.2.1 z9.2.2.2.2.2.2.2.2 P0 P0 P0 (fun _ => 0) 0 (fun _ => P0) 0 0 0) u9)) (va_A [(b0, .inr (4, [.null, .null, .null, .null, .null, .int 0]))] sz)) 122 1530 (va_A [(b0, .inr (4, [.null, .null, .null, .null, .null, .int 0]))] sz) := by
  refine Met.ofW (cc := cX6_init) (maxL := 1) (ret := none) (by decide) rfl ?_
  intro p e s m args below meth c s₁ B hml hv
  obtain ⟨ha, hsz, hP, hK, hn, hD0, hF, hO⟩ := hv
  have hx := B.exec
  have hb := B.bytes
  have hr := B.returns
  have hts0 := atoms_spec (ws := (ws_ yX6_init cX6_init 1 none)) B.pre
  have hts : ∀ w ∈ lw_all, w.before args s = true := fun w h => hts0 w (List.mem_cons_of_mem _ h)
  have hown : s.vm.findClass RX6 = some m.cls := findClass_of_methodNamed B.named
  have hlocks := B.notSynchronized
  have hin : meth.name = "<init>" := (name_of_methodNamed B.named B.method).1
  have htX6 : ∀ w ∈ wsX60, w.before args s = true := fun w h => hts w (wX6 w h)
  subst hsz
  have hD := hD0.self (sz := s.heap.size)
  obtain ⟨A, hAe⟩ : ∃ A, A = va_A [(b0, .inr (4, [.null, .null, .null, .null, .null, .int 0]))] s.heap.size := ⟨_, rfl⟩
  rw [← hAe] at hD hF
  have hA : ∀ q : Nat, s.heap.size ≤ q → A q := fun q h => by rw [hAe]; exact Or.inr h
  have hS : va_S A s.heap s.heap [] := va_S.rf
  have hP : va_P (dC, dI) vwCl [(b0, .inr (4, [.null, .null, .null, .null, .null, .int 0]))] s.heap := hP
  have hl := lv_entry ([.ref b0]) (n := 1) (Nat.le_of_ble_eq_true rfl)
  rw [ha, lg_entry_eq, ← ha]
  generalize (lg_sl ([.ref b0]) ++ List.replicate (1 - (lg_sl ([.ref b0])).length) Slot.unset).toArray = ls at hl ⊢
  have hl : lv_has ls 1 [(0, .ref b0)] := hl
  rw [← hAe]
  refine lv_aload_n hx hb dX6_init_0 rfl (lv_at hl 0 rfl) ?_
  refine W.objInit hx hb hown (hts _ u_20) (hts _ u_21) (hts _ u_22) rfl (by rw [hml]; exact hl.1) rfl dX6_init_1 (Nat.le_of_ble_eq_true rfl) (Nat.le_of_ble_eq_true rfl) ?_
  refine W.eq (g2 := F0 m 4 ls []) rfl ?_
  refine lv_aload_n hx hb dX6_init_4 rfl (lv_at hl 0 rfl) ?_
  refine va_new (ci := 2) (fs := [.null, .null, .null, .null, .null, .null, .null, .null, .null, .null, .int 0, .int 0, .int 0, .int 0]) (C := RX2) (T := TX2) (N := 14) hx hb (fun w h => hts w (wX2 w h)) (fun _ h => h) tyX2 tyX2_ok hown (hts _ u_23) (hts _ u_24) (hts _ u_2) hK hP hD hS hA rfl (fun j hj => by rcases (show j = 0 ∨ j = 1 ∨ j = 2 ∨ j = 3 ∨ j = 4 ∨ j = 5 ∨ j = 6 ∨ j = 7 ∨ j = 8 ∨ j = 9 ∨ j = 10 ∨ j = 11 ∨ j = 12 ∨ j = 13 by omega) with rfl | rfl | rfl | rfl | rfl | rfl | rfl | rfl | rfl | rfl | rfl | rfl | rfl | rfl <;> rfl) (Nat.le_of_ble_eq_true rfl) (Nat.le_of_ble_eq_true rfl) dX6_init_5 (fun g0 H hP hD hS => ?_)
  have hP : va_P (dC, dI) vwCl ([(b0, .inr (4, [.null, .null, .null, .null, .null, .int 0]))] ++ [(g0, .inr (2, [.null, .null, .null, .null, .null, .null, .null, .null, .null, .null, .int 0, .int 0, .int 0, .int 0]))]) H := hP
  have hD : va_D A ([(b0, .inr (4, [.null, .null, .null, .null, .null, .int 0]))] ++ [(g0, .inr (2, [.null, .null, .null, .null, .null, .null, .null, .null, .null, .null, .int 0, .int 0, .int 0, .int 0]))]) := hD
  refine lv_dup hx hb dX6_init_8 rfl ?_
  refine k_ctor (W1 := (fun (ad : Nat → Nat) => pW cI ad P0)) (cell := (g0, .inr (2, [.null, .null, .null, .null, .null, .null, .null, .null, .null, .null, .int 0, .int 0, .int 0, .int 0]))) (va_runI (As := []) (rest := [.ref g0, .ref b0]) ⟨hx, hb, hml, hown, hts0⟩ (mX2_init l dC dI cI cP qF g0 H.size) (cwI 0 hts0 (gi_ws u_27) rfl rfl rfl (hts _ u_2) (hts _ u_25) (hts _ u_26) rfl (by decide +kernel) ⟨(Nat.le_of_ble_eq_true rfl), (Nat.le_of_ble_eq_true rfl)⟩) (pcN_I (last_P hP) hK hn (last_D hD) hF hO hS (last_A hD hS hA)) rfl rfl hl.1 rfl (lv_room (Nat.le_of_ble_eq_true rfl)) dX6_init_9 ⟨(Nat.le_of_ble_eq_true rfl), (Nat.le_of_ble_eq_true rfl)⟩) hP hD hS hA (fun w1 H locs hw1 hP hD hS => ?_)
  have hP : va_P (dC, dI) vwCl ([(b0, .inr (4, [.null, .null, .null, .null, .null, .int 0]))] ++ pW cI w1 P0) H := hP
  have hD : va_D A ([(b0, .inr (4, [.null, .null, .null, .null, .null, .int 0]))] ++ pW cI w1 P0) := hD
  refine va_putF (D := (dC, dI)) (ci := 4) (v := .ref g0) (ty := .object "SupperSeats$Plan") (C := RX6) (T := TX6) (N := 6) hx hb htX6 (fun _ h => h) tyX6 tyX6_ok nmX6 hown hK hP hD hS 0 rfl rfl 0 (by decide) (hts _ u_141) (fun _ h9 => h9) rfl hin rfl (by decide +kernel) rfl rfl (Nat.le_of_ble_eq_true rfl) dX6_init_12 (fun H locs hP hD hS => ?_)
  have hP : va_P (dC, dI) vwCl ([(b0, .inr (4, [.ref g0, .null, .null, .null, .null, .int 0]))] ++ pW cI w1 P0) H := hP
  have hD : va_D A ([(b0, .inr (4, [.ref g0, .null, .null, .null, .null, .int 0]))] ++ pW cI w1 P0) := hD
  refine lv_aload_n hx hb dX6_init_15 rfl (lv_at hl 0 rfl) ?_
  refine va_new (ci := 2) (fs := [.null, .null, .null, .null, .null, .null, .null, .null, .null, .null, .int 0, .int 0, .int 0, .int 0]) (C := RX2) (T := TX2) (N := 14) hx hb (fun w h => hts w (wX2 w h)) (fun _ h => h) tyX2 tyX2_ok hown (hts _ u_23) (hts _ u_24) (hts _ u_2) hK hP hD hS hA rfl (fun j hj => by rcases (show j = 0 ∨ j = 1 ∨ j = 2 ∨ j = 3 ∨ j = 4 ∨ j = 5 ∨ j = 6 ∨ j = 7 ∨ j = 8 ∨ j = 9 ∨ j = 10 ∨ j = 11 ∨ j = 12 ∨ j = 13 by omega) with rfl | rfl | rfl | rfl | rfl | rfl | rfl | rfl | rfl | rfl | rfl | rfl | rfl | rfl <;> rfl) (Nat.le_of_ble_eq_true rfl) (Nat.le_of_ble_eq_true rfl) dX6_init_16 (fun g1 H hP hD hS => ?_)
  have hP : va_P (dC, dI) vwCl (([(b0, .inr (4, [.ref g0, .null, .null, .null, .null, .int 0]))] ++ pW cI w1 P0) ++ [(g1, .inr (2, [.null, .null, .null, .null, .null, .null, .null, .null, .null, .null, .int 0, .int 0, .int 0, .int 0]))]) H := hP
  have hD : va_D A (([(b0, .inr (4, [.ref g0, .null, .null, .null, .null, .int 0]))] ++ pW cI w1 P0) ++ [(g1, .inr (2, [.null, .null, .null, .null, .null, .null, .null, .null, .null, .null, .int 0, .int 0, .int 0, .int 0]))]) := hD
  refine lv_dup hx hb dX6_init_19 rfl ?_
  refine k_ctor (W1 := (fun (ad : Nat → Nat) => pW cI ad P0)) (cell := (g1, .inr (2, [.null, .null, .null, .null, .null, .null, .null, .null, .null, .null, .int 0, .int 0, .int 0, .int 0]))) (va_runI (As := []) (rest := [.ref g1, .ref b0]) ⟨hx, hb, hml, hown, hts0⟩ (mX2_init l dC dI cI cP qF g1 H.size) (cwI 0 hts0 (gi_ws u_27) rfl rfl rfl (hts _ u_2) (hts _ u_25) (hts _ u_26) rfl (by decide +kernel) ⟨(Nat.le_of_ble_eq_true rfl), (Nat.le_of_ble_eq_true rfl)⟩) (pcN_I (last_P hP) hK hn (last_D hD) hF hO hS (last_A hD hS hA)) rfl rfl hl.1 rfl (lv_room (Nat.le_of_ble_eq_true rfl)) dX6_init_20 ⟨(Nat.le_of_ble_eq_true rfl), (Nat.le_of_ble_eq_true rfl)⟩) hP hD hS hA (fun w2 H locs hw2 hP hD hS => ?_)
  have hP : va_P (dC, dI) vwCl (([(b0, .inr (4, [.ref g0, .null, .null, .null, .null, .int 0]))] ++ pW cI w1 P0) ++ pW cI w2 P0) H := hP
  have hD : va_D A (([(b0, .inr (4, [.ref g0, .null, .null, .null, .null, .int 0]))] ++ pW cI w1 P0) ++ pW cI w2 P0) := hD
  refine va_putF (D := (dC, dI)) (ci := 4) (v := .ref g1) (ty := .object "SupperSeats$Plan") (C := RX6) (T := TX6) (N := 6) hx hb htX6 (fun _ h => h) tyX6 tyX6_ok nmX6 hown hK hP hD hS 0 rfl rfl 1 (by decide) (hts _ u_142) (fun _ h9 => h9) rfl hin rfl (by decide +kernel) rfl rfl (Nat.le_of_ble_eq_true rfl) dX6_init_23 (fun H locs hP hD hS => ?_)
  have hP : va_P (dC, dI) vwCl (([(b0, .inr (4, [.ref g0, .ref g1, .null, .null, .null, .int 0]))] ++ pW cI w1 P0) ++ pW cI w2 P0) H := hP
  have hD : va_D A (([(b0, .inr (4, [.ref g0, .ref g1, .null, .null, .null, .int 0]))] ++ pW cI w1 P0) ++ pW cI w2 P0) := hD
  refine lv_aload_n hx hb dX6_init_26 rfl (lv_at hl 0 rfl) ?_
  refine va_new (ci := 2) (fs := [.null, .null, .null, .null, .null, .null, .null, .null, .null, .null, .int 0, .int 0, .int 0, .int 0]) (C := RX2) (T := TX2) (N := 14) hx hb (fun w h => hts w (wX2 w h)) (fun _ h => h) tyX2 tyX2_ok hown (hts _ u_23) (hts _ u_24) (hts _ u_2) hK hP hD hS hA rfl (fun j hj => by rcases (show j = 0 ∨ j = 1 ∨ j = 2 ∨ j = 3 ∨ j = 4 ∨ j = 5 ∨ j = 6 ∨ j = 7 ∨ j = 8 ∨ j = 9 ∨ j = 10 ∨ j = 11 ∨ j = 12 ∨ j = 13 by omega) with rfl | rfl | rfl | rfl | rfl | rfl | rfl | rfl | rfl | rfl | rfl | rfl | rfl | rfl <;> rfl) (Nat.le_of_ble_eq_true rfl) (Nat.le_of_ble_eq_true rfl) dX6_init_27 (fun g2 H hP hD hS => ?_)
  have hP : va_P (dC, dI) vwCl ((([(b0, .inr (4, [.ref g0, .ref g1, .null, .null, .null, .int 0]))] ++ pW cI w1 P0) ++ pW cI w2 P0) ++ [(g2, .inr (2, [.null, .null, .null, .null, .null, .null, .null, .null, .null, .null, .int 0, .int 0, .int 0, .int 0]))]) H := hP
  have hD : va_D A ((([(b0, .inr (4, [.ref g0, .ref g1, .null, .null, .null, .int 0]))] ++ pW cI w1 P0) ++ pW cI w2 P0) ++ [(g2, .inr (2, [.null, .null, .null, .null, .null, .null, .null, .null, .null, .null, .int 0, .int 0, .int 0, .int 0]))]) := hD
  refine lv_dup hx hb dX6_init_30 rfl ?_
  refine k_ctor (W1 := (fun (ad : Nat → Nat) => pW cI ad P0)) (cell := (g2, .inr (2, [.null, .null, .null, .null, .null, .null, .null, .null, .null, .null, .int 0, .int 0, .int 0, .int 0]))) (va_runI (As := []) (rest := [.ref g2, .ref b0]) ⟨hx, hb, hml, hown, hts0⟩ (mX2_init l dC dI cI cP qF g2 H.size) (cwI 0 hts0 (gi_ws u_27) rfl rfl rfl (hts _ u_2) (hts _ u_25) (hts _ u_26) rfl (by decide +kernel) ⟨(Nat.le_of_ble_eq_true rfl), (Nat.le_of_ble_eq_true rfl)⟩) (pcN_I (last_P hP) hK hn (last_D hD) hF hO hS (last_A hD hS hA)) rfl rfl hl.1 rfl (lv_room (Nat.le_of_ble_eq_true rfl)) dX6_init_31 ⟨(Nat.le_of_ble_eq_true rfl), (Nat.le_of_ble_eq_true rfl)⟩) hP hD hS hA (fun w3 H locs hw3 hP hD hS => ?_)
  have hP : va_P (dC, dI) vwCl ((([(b0, .inr (4, [.ref g0, .ref g1, .null, .null, .null, .int 0]))] ++ pW cI w1 P0) ++ pW cI w2 P0) ++ pW cI w3 P0) H := hP
  have hD : va_D A ((([(b0, .inr (4, [.ref g0, .ref g1, .null, .null, .null, .int 0]))] ++ pW cI w1 P0) ++ pW cI w2 P0) ++ pW cI w3 P0) := hD
  refine va_putF (D := (dC, dI)) (ci := 4) (v := .ref g2) (ty := .object "SupperSeats$Plan") (C := RX6) (T := TX6) (N := 6) hx hb htX6 (fun _ h => h) tyX6 tyX6_ok nmX6 hown hK hP hD hS 0 rfl rfl 2 (by decide) (hts _ u_143) (fun _ h9 => h9) rfl hin rfl (by decide +kernel) rfl rfl (Nat.le_of_ble_eq_true rfl) dX6_init_34 (fun H locs hP hD hS => ?_)
  have hP : va_P (dC, dI) vwCl ((([(b0, .inr (4, [.ref g0, .ref g1, .ref g2, .null, .null, .int 0]))] ++ pW cI w1 P0) ++ pW cI w2 P0) ++ pW cI w3 P0) H := hP
  have hD : va_D A ((([(b0, .inr (4, [.ref g0, .ref g1, .ref g2, .null, .null, .int 0]))] ++ pW cI w1 P0) ++ pW cI w2 P0) ++ pW cI w3 P0) := hD
  refine lv_aload_n hx hb dX6_init_37 rfl (lv_at hl 0 rfl) ?_
  refine va_new (ci := 0) (fs := [.null, .int 0, .int 0]) (C := RX0) (T := TX0) (N := 3) hx hb (fun w h => hts w (wX0 w h)) (fun _ h => h) tyX0 tyX0_ok hown (hts _ u_110) (hts _ u_111) (hts _ u_5) hK hP hD hS hA rfl (fun j hj => by rcases (show j = 0 ∨ j = 1 ∨ j = 2 by omega) with rfl | rfl | rfl <;> rfl) (Nat.le_of_ble_eq_true rfl) (Nat.le_of_ble_eq_true rfl) dX6_init_38 (fun g3 H hP hD hS => ?_)
  have hP : va_P (dC, dI) vwCl (((([(b0, .inr (4, [.ref g0, .ref g1, .ref g2, .null, .null, .int 0]))] ++ pW cI w1 P0) ++ pW cI w2 P0) ++ pW cI w3 P0) ++ [(g3, .inr (0, [.null, .int 0, .int 0]))]) H := hP
  have hD : va_D A (((([(b0, .inr (4, [.ref g0, .ref g1, .ref g2, .null, .null, .int 0]))] ++ pW cI w1 P0) ++ pW cI w2 P0) ++ pW cI w3 P0) ++ [(g3, .inr (0, [.null, .int 0, .int 0]))]) := hD
  refine lv_dup hx hb dX6_init_41 rfl ?_
  refine k_ctor (W1 := (fun (z : Nat × (Nat → Nat → Nat)) => hW cI cP g3 z.1 z.2 (fun _ => P0) (nI 0) (nI 0))) (cell := (g3, .inr (0, [.null, .int 0, .int 0]))) (va_runI (As := []) (rest := [.ref g3, .ref b0]) ⟨hx, hb, hml, hown, hts0⟩ (mX0_init l dC dI cI cP qF g3 H.size) (cwI 0 hts0 (gi_ws u_114) rfl rfl rfl (hts _ u_5) (hts _ u_112) (hts _ u_113) rfl (by decide +kernel) ⟨(Nat.le_of_ble_eq_true rfl), (Nat.le_of_ble_eq_true rfl)⟩) (pcN_I (last_P hP) hK hn (last_D hD) hF hO hS (last_A hD hS hA)) rfl rfl hl.1 rfl (lv_room (Nat.le_of_ble_eq_true rfl)) dX6_init_42 ⟨(Nat.le_of_ble_eq_true rfl), (Nat.le_of_ble_eq_true rfl)⟩) hP hD hS hA (fun w4 H locs hw4 hP hD hS => ?_)
  have hP : va_P (dC, dI) vwCl (((([(b0, .inr (4, [.ref g0, .ref g1, .ref g2, .null, .null, .int 0]))] ++ pW cI w1 P0) ++ pW cI w2 P0) ++ pW cI w3 P0) ++ hW cI cP g3 w4.1 w4.2 (fun _ => P0) (nI 0) (nI 0)) H := hP
  have hD : va_D A (((([(b0, .inr (4, [.ref g0, .ref g1, .ref g2, .null, .null, .int 0]))] ++ pW cI w1 P0) ++ pW cI w2 P0) ++ pW cI w3 P0) ++ hW cI cP g3 w4.1 w4.2 (fun _ => P0) (nI 0) (nI 0)) := hD
  refine va_putF (D := (dC, dI)) (ci := 4) (v := .ref g3) (ty := .object "SupperSeats$History") (C := RX6) (T := TX6) (N := 6) hx hb htX6 (fun _ h => h) tyX6 tyX6_ok nmX6 hown hK hP hD hS 0 rfl rfl 3 (by decide) (hts _ u_144) (fun _ h9 => h9) rfl hin rfl (by decide +kernel) rfl rfl (Nat.le_of_ble_eq_true rfl) dX6_init_45 (fun H locs hP hD hS => ?_)
  have hP : va_P (dC, dI) vwCl (((([(b0, .inr (4, [.ref g0, .ref g1, .ref g2, .ref g3, .null, .int 0]))] ++ pW cI w1 P0) ++ pW cI w2 P0) ++ pW cI w3 P0) ++ hW cI cP g3 w4.1 w4.2 (fun _ => P0) (nI 0) (nI 0)) H := hP
  have hD : va_D A (((([(b0, .inr (4, [.ref g0, .ref g1, .ref g2, .ref g3, .null, .int 0]))] ++ pW cI w1 P0) ++ pW cI w2 P0) ++ pW cI w3 P0) ++ hW cI cP g3 w4.1 w4.2 (fun _ => P0) (nI 0) (nI 0)) := hD
  refine lv_aload_n hx hb dX6_init_48 rfl (lv_at hl 0 rfl) ?_
  refine va_new (ci := 3) (fs := [.null]) (C := RX5) (T := TX5) (N := 1) hx hb (fun w h => hts w (wX5 w h)) (fun _ h => h) tyX5 tyX5_ok hown (hts _ u_129) (hts _ u_130) (hts _ u_6) hK hP hD hS hA rfl (fun j hj => by rcases (show j = 0 ∨ False by have h9 : j < 1 := hj; omega) with rfl | h9 <;> first | rfl | exact h9.elim) (Nat.le_of_ble_eq_true rfl) (Nat.le_of_ble_eq_true rfl) dX6_init_49 (fun g4 H hP hD hS => ?_)
  have hP : va_P (dC, dI) vwCl ((((([(b0, .inr (4, [.ref g0, .ref g1, .ref g2, .ref g3, .null, .int 0]))] ++ pW cI w1 P0) ++ pW cI w2 P0) ++ pW cI w3 P0) ++ hW cI cP g3 w4.1 w4.2 (fun _ => P0) (nI 0) (nI 0)) ++ [(g4, .inr (3, [.null]))]) H := hP
  have hD : va_D A ((((([(b0, .inr (4, [.ref g0, .ref g1, .ref g2, .ref g3, .null, .int 0]))] ++ pW cI w1 P0) ++ pW cI w2 P0) ++ pW cI w3 P0) ++ hW cI cP g3 w4.1 w4.2 (fun _ => P0) (nI 0) (nI 0)) ++ [(g4, .inr (3, [.null]))]) := hD
  refine lv_dup hx hb dX6_init_52 rfl ?_
  refine k_ctor (W1 := (fun (z : Nat × Nat) => xW cI g4 z.1 z.2 (fun _ => 0) 0)) (cell := (g4, .inr (3, [.null]))) (va_runIN (As := []) (rest := [.ref g4, .ref b0]) ⟨hx, hb, hml, hown, hts0⟩ (mX5_init l dC dI cI cP qF g4 H.size) ⟨va_cnB 0 hts0 (gi_ws u_133) rfl rfl rfl (hn _ (List.mem_of_getElem? (i := 20) rfl)) (hts _ u_6) (by decide +kernel) ⟨(Nat.le_of_ble_eq_true rfl), (Nat.le_of_ble_eq_true rfl)⟩, rfl, (hts _ u_132)⟩ (pcN_I (last_P hP) hK hn (last_D hD) hF hO hS (last_A hD hS hA)) rfl rfl hl.1 rfl (lv_room (Nat.le_of_ble_eq_true rfl)) dX6_init_53 ⟨(Nat.le_of_ble_eq_true rfl), (Nat.le_of_ble_eq_true rfl)⟩) hP hD hS hA (fun w5 H locs hw5 hP hD hS => ?_)
  have hP : va_P (dC, dI) vwCl ((((([(b0, .inr (4, [.ref g0, .ref g1, .ref g2, .ref g3, .null, .int 0]))] ++ pW cI w1 P0) ++ pW cI w2 P0) ++ pW cI w3 P0) ++ hW cI cP g3 w4.1 w4.2 (fun _ => P0) (nI 0) (nI 0)) ++ xW cI g4 w5.1 w5.2 (fun _ => 0) 0) H := hP
  have hD : va_D A ((((([(b0, .inr (4, [.ref g0, .ref g1, .ref g2, .ref g3, .null, .int 0]))] ++ pW cI w1 P0) ++ pW cI w2 P0) ++ pW cI w3 P0) ++ hW cI cP g3 w4.1 w4.2 (fun _ => P0) (nI 0) (nI 0)) ++ xW cI g4 w5.1 w5.2 (fun _ => 0) 0) := hD
  refine va_putF (D := (dC, dI)) (ci := 4) (v := .ref g4) (ty := .object "SupperSeats$SeatText") (C := RX6) (T := TX6) (N := 6) hx hb htX6 (fun _ h => h) tyX6 tyX6_ok nmX6 hown hK hP hD hS 0 rfl rfl 4 (by decide) (hts _ u_145) (fun _ h9 => h9) rfl hin rfl (by decide +kernel) rfl rfl (Nat.le_of_ble_eq_true rfl) dX6_init_56 (fun H locs hP hD hS => ?_)
  have hP : va_P (dC, dI) vwCl ((((([(b0, .inr (4, [.ref g0, .ref g1, .ref g2, .ref g3, .ref g4, .int 0]))] ++ pW cI w1 P0) ++ pW cI w2 P0) ++ pW cI w3 P0) ++ hW cI cP g3 w4.1 w4.2 (fun _ => P0) (nI 0) (nI 0)) ++ xW cI g4 w5.1 w5.2 (fun _ => 0) 0) H := hP
  have hD : va_D A ((((([(b0, .inr (4, [.ref g0, .ref g1, .ref g2, .ref g3, .ref g4, .int 0]))] ++ pW cI w1 P0) ++ pW cI w2 P0) ++ pW cI w3 P0) ++ hW cI cP g3 w4.1 w4.2 (fun _ => P0) (nI 0) (nI 0)) ++ xW cI g4 w5.1 w5.2 (fun _ => 0) 0) := hD
  refine lv_aload_n hx hb dX6_init_59 rfl (lv_at hl 0 rfl) ?_
  refine lv_iconst (v := 0) hx hb dX6_init_60 (by decide) ?_
  refine va_put (D := (dC, dI)) (ci := 4) (v := .int 0) (ty := .boolean) (C := RX6) (T := TX6) (N := 6) hx hb htX6 (fun _ h => h) tyX6 tyX6_ok nmX6 hown hK hP hD hS 0 rfl rfl 5 (by decide) (hts _ u_146) (fun _ h9 => h9) rfl (by decide +kernel) rfl rfl (Nat.le_of_ble_eq_true rfl) dX6_init_61 (fun H locs hP hD hS => ?_)
  have hP : va_P (dC, dI) vwCl ((((([(b0, .inr (4, [.ref g0, .ref g1, .ref g2, .ref g3, .ref g4, .int 0]))] ++ pW cI w1 P0) ++ pW cI w2 P0) ++ pW cI w3 P0) ++ hW cI cP g3 w4.1 w4.2 (fun _ => P0) (nI 0) (nI 0)) ++ xW cI g4 w5.1 w5.2 (fun _ => 0) 0) H := hP
  have hD : va_D A ((((([(b0, .inr (4, [.ref g0, .ref g1, .ref g2, .ref g3, .ref g4, .int 0]))] ++ pW cI w1 P0) ++ pW cI w2 P0) ++ pW cI w3 P0) ++ hW cI cP g3 w4.1 w4.2 (fun _ => P0) (nI 0) (nI 0)) ++ xW cI g4 w5.1 w5.2 (fun _ => 0) 0) := hD
  subst hw1
  subst hw2
  subst hw3
  have hP : va_P (dC, dI) vwCl (fW cI cP b0 w1 w2 w3 g4 w5.1 w5.2 g3 w4.1 w4.2 P0 P0 P0 (fun _ => 0) 0 (fun _ => P0) 0 0 0) H := reord hP
  have hD : va_D A (fW cI cP b0 w1 w2 w3 g4 w5.1 w5.2 g3 w4.1 w4.2 P0 P0 P0 (fun _ => 0) 0 (fun _ => P0) 0 0 0) := reordD hD
  refine W.widen (k := 122) (n := 1530) (Nat.le_of_ble_eq_true rfl) (Nat.le_of_ble_eq_true rfl) ?_
  exact W.vret hx hb hr (fun t ht hW => ⟨⟨(w1, w2, w3, g4, w5.1, w5.2, g3, w4.1, w4.2), rfl, trivial, toH ht hP, hD⟩, hS.F ht⟩) hS.2.2 dX6_init_64

/-- the reference's first row -/
def F0m : Nat → Int32 := upd (upd (upd (upd (fun _ => 0) 6 3) 7 5) 8 3) 9 2
