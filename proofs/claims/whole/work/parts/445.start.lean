/-! the law's beginning. Mine. -/
theorem reord3 {D : va_G} {H : Heap} {b0 b1 b2 : va_W} (hP : va_P D vwCl ((([] ++ b0) ++ b1) ++ b2) H) : va_P D vwCl (fl [b2, b0, b1]) H := by
  refine fl_P.mpr (fun b hb => P_mem.mpr (fun q hq => P_mem.mp hP q ?_))
  simp only [List.mem_cons, List.not_mem_nil, or_false] at hb
  rcases hb with rfl | rfl | rfl <;> simp [hq]
theorem reordD3 {A : Nat → Prop} {b0 b1 b2 : va_W} (hD : va_D A ((([] ++ b0) ++ b1) ++ b2)) : va_D A (fl [b2, b0, b1]) := by
  obtain ⟨n1, n2⟩ := D_addr.mp hD
  have hp : (fl [b2, b0, b1]).Perm ((([] ++ b0) ++ b1) ++ b2) := by
    rw [fl_eq]
    simp only [List.flatten_cons, List.flatten_nil, List.append_nil, List.nil_append]
    exact List.perm_append_comm
  refine D_addr.mpr ⟨(hp.map (fun c => c.1)).nodup_iff.mpr n1, fun a ha => n2 a ((hp.map (fun c => c.1)).mem_iff.mp ha)⟩
theorem K_long {c1 c2 : ClassId} {U : State} (h1 : va_RA U c1 .long) (h2 : va_RA U c2 .long) : c1 = c2 := Option.some.inj ((show U.vm.findClass _ = some c1 from h1).symm.trans h2)
theorem no_traces {l : Launch} (h : l.flags = flags0) : l.stackTraces = false := by
  unfold Launch.stackTraces
  rw [h]
  decide +kernel
set_option maxHeartbeats 4000000 in
set_option maxRecDepth 100000 in
/-- from the entry on -/
theorem whole_start {p : Program} {e : Env} {s : State} {m : MethodId} {below : List Frame} {meth : Method} {c : Code} (l : Launch) (hflags : l.flags = flags0) {b L : Nat} {xs : Nat → Int32} (hL : L ≤ 2048) (C0 : lw_At p s m meth c b L xs) : W p l e room_1 s m #[Value.ref b] below meth c s.heap [] 0 0 (lw_Z below #[Value.ref b] s) (entryFrame m ([Value.ref b] : List Value).toArray 9) := by
  have hst := no_traces hflags
  obtain ⟨dC, dI, cI, cP, cL, qL, qG, qF, C, hF, hO⟩ := law_given C0
  obtain ⟨-, -, hr, -, -, -, -, -, hlocks, -⟩ := C0
  obtain ⟨A, hAe⟩ : ∃ A, A = (fun q : Nat => s.heap.size ≤ q) := ⟨_, rfl⟩
  rw [← hAe] at C hF
  have C1 := C
  obtain ⟨hx, hb, hml, hown, hts, hX, hbl, hbA, hA, hK, hn, hXo, hN, hT⟩ := C1
  have hall : ∀ w ∈ lw_all, w.before #[Value.ref b] s = true := fun w h => hts w (List.mem_cons_of_mem _ h)
  have hS : va_S A s.heap s.heap [] := va_S.rf
  have hP : va_P (dC, dI) vwCl [] s.heap := fun k q h => by simp at h
  have hD : va_D A [] := ⟨fun i j p q h => by simp at h, fun k q h => by simp at h⟩
  have hl := lv_entry ([.ref b]) (n := 9) (Nat.le_of_ble_eq_true rfl)
  rw [lg_entry_eq]
  generalize (lg_sl ([.ref b]) ++ List.replicate (9 - (lg_sl ([.ref b])).length) Slot.unset).toArray = ls at hl ⊢
  have hl : lv_has ls 9 [(0, .ref b)] := hl
  obtain ⟨Q, hQ⟩ : ∃ Q, Q = lw_Z below #[Value.ref b] s := ⟨_, rfl⟩
  rw [← hQ]
  refine va_new (ci := 4) (fs := [.null, .null, .null, .null, .null, .int 0]) (C := RX6) (T := TX6) (N := 6) hx hb (fun w h => hall w (wX6 w h)) (fun _ h => h) tyX6 tyX6_ok hown (hall _ u_16) (hall _ u_17) (hall _ u_1) hK hP hD hS hA rfl (fun j hj => by rcases (show j = 0 ∨ j = 1 ∨ j = 2 ∨ j = 3 ∨ j = 4 ∨ j = 5 by omega) with rfl | rfl | rfl | rfl | rfl | rfl <;> rfl) (Nat.le_of_ble_eq_true rfl) (Nat.le_of_ble_eq_true rfl) dL_law_0 (fun g0 H hP hD hS => ?_)
  refine lv_dup hx hb dL_law_3 rfl ?_
  refine k_ctor (ws := []) (W1 := fun (z9 : (Nat → Nat) × (Nat → Nat) × (Nat → Nat) × Nat × Nat × Nat × Nat × Nat × (Nat → Nat → Nat)) => fW cI cP g0 z9.1 z9.2.1 z9.2.2.1 z9.2.2.2.1 z9.2.2.2.2.1 z9.2.2.2.2.2.1 z9.2.2.2.2.2.2.1 z9.2.2.2.2.2.2.2.1 z9.2.2.2.2.2.2.2.2 P0 P0 P0 (fun _ => 0) 0 (fun _ => P0) 0 0 0) (cell := (g0, .inr (4, [.null, .null, .null, .null, .null, .int 0]))) (va_runI (As := []) (rest := [.ref g0]) ⟨hx, hb, hml, hown, hts⟩ (mX6_init l dC dI cI cP qF g0 H.size) (cwI 0 hts (gi_ws u_20) rfl rfl rfl (hall _ u_1) (hall _ u_18) (hall _ u_19) rfl (by decide +kernel) ⟨Nat.le_of_ble_eq_true rfl, Nat.le_of_ble_eq_true rfl⟩) (pcN_I (last_P hP) (hK.sub (tys' := [(cI, .int), (cP, .object "SupperSeats$Plan")]) [0, 1] rfl) hn (last_D hD) hF hO hS (last_A hD hS hA)) rfl rfl hl.1 rfl (lv_room (Nat.le_of_ble_eq_true rfl)) dL_law_4 ⟨Nat.le_of_ble_eq_true rfl, Nat.le_of_ble_eq_true rfl⟩) hP hD hS hA (fun z9 H locs hz9 hP hD hS => ?_)
  refine lv_astore_n (lv' := [(1, .ref g0), (0, .ref b)]) hx hb dL_law_7 rfl hl (by decide) rfl (fun ls hl => ?_)
  have hP : va_P (dC, dI) vwCl ([] ++ fW cI cP g0 z9.1 z9.2.1 z9.2.2.1 z9.2.2.2.1 z9.2.2.2.2.1 z9.2.2.2.2.2.1 z9.2.2.2.2.2.2.1 z9.2.2.2.2.2.2.2.1 z9.2.2.2.2.2.2.2.2 P0 P0 P0 (fun _ => 0) 0 (fun _ => P0) 0 0 0) H := hP
  have hD : va_D A ([] ++ fW cI cP g0 z9.1 z9.2.1 z9.2.2.1 z9.2.2.2.1 z9.2.2.2.2.1 z9.2.2.2.2.2.1 z9.2.2.2.2.2.2.1 z9.2.2.2.2.2.2.2.1 z9.2.2.2.2.2.2.2.2 P0 P0 P0 (fun _ => 0) 0 (fun _ => P0) 0 0 0) := hD
  refine va_new (ci := 5) (fs := [.int 0, .null, .int 0, .int 0, .null, .int 0, .int 0, .int 0, .int 0, .int 0, .int 0, .long 0]) (C := RX7) (T := TX7) (N := 12) hx hb (fun w h => hall w (wX7 w h)) (fun _ h => h) tyX7 tyX7_ok hown (hall _ u_851) (hall _ u_852) (hall _ u_7) hK hP hD hS hA rfl (fun j hj => by rcases (show j = 0 ∨ j = 1 ∨ j = 2 ∨ j = 3 ∨ j = 4 ∨ j = 5 ∨ j = 6 ∨ j = 7 ∨ j = 8 ∨ j = 9 ∨ j = 10 ∨ j = 11 by omega) with rfl | rfl | rfl | rfl | rfl | rfl | rfl | rfl | rfl | rfl | rfl | rfl <;> rfl) (Nat.le_of_ble_eq_true rfl) (Nat.le_of_ble_eq_true rfl) dL_law_8 (fun g1 H hP hD hS => ?_)
  refine lv_dup hx hb dL_law_11 rfl ?_
  refine k_ctor (ws := [] ++ fW cI cP g0 z9.1 z9.2.1 z9.2.2.1 z9.2.2.2.1 z9.2.2.2.2.1 z9.2.2.2.2.2.1 z9.2.2.2.2.2.2.1 z9.2.2.2.2.2.2.2.1 z9.2.2.2.2.2.2.2.2 P0 P0 P0 (fun _ => 0) 0 (fun _ => P0) 0 0 0) (W1 := fun (z8 : Nat × Nat) => mW cI g1 z8.1 z8.2 F0m (fun _ => 0) (fun _ => 0) 0) (cell := (g1, .inr (5, [.int 0, .null, .int 0, .int 0, .null, .int 0, .int 0, .int 0, .int 0, .int 0, .int 0, .long 0]))) (va_runI (As := []) (rest := [.ref g1]) ⟨hx, hb, hml, hown, hts⟩ (mX7_init l dC dI cI cP qF g1 H.size) (cwI 0 hts (gi_ws u_855) rfl rfl rfl (hall _ u_7) (hall _ u_853) (hall _ u_854) rfl (by decide +kernel) ⟨Nat.le_of_ble_eq_true rfl, Nat.le_of_ble_eq_true rfl⟩) (pcN_I (last_P hP) (hK.sub (tys' := [(cI, .int), (cP, .object "SupperSeats$Plan")]) [0, 1] rfl) hn (last_D hD) hF hO hS (last_A hD hS hA)) rfl rfl hl.1 rfl (lv_room (Nat.le_of_ble_eq_true rfl)) dL_law_12 ⟨Nat.le_of_ble_eq_true rfl, Nat.le_of_ble_eq_true rfl⟩) hP hD hS hA (fun z8 H locs hz8 hP hD hS => ?_)
  refine lv_astore_n (lv' := [(2, .ref g1), (1, .ref g0), (0, .ref b)]) hx hb dL_law_15 rfl hl (by decide) rfl (fun ls hl => ?_)
  refine lv_iconst (v := 1) hx hb dL_law_16 (by decide) ?_
  refine va_newa (atype := .long) (ty := .long) (a0 := (1, .inr (.inl (fun _ => 0)))) hx hb (hall _ u_1209) rfl hK hP hD hS hA (fun cA => rfl) (by decide) rfl (by decide) (Nat.le_of_ble_eq_true rfl) (Nat.le_of_ble_eq_true rfl) dL_law_17 (fun qo cA H hK1 hP hD hS => ?_)
  have ec : cA = cL := K_long (hK1.2 3 (cA, .long) rfl).2 (hK.2 2 _ rfl).2
  rw [ec] at hP hD
  refine lv_astore_n (lv' := [(3, .ref qo), (2, .ref g1), (1, .ref g0), (0, .ref b)]) hx hb dL_law_19 rfl hl (by decide) rfl (fun ls hl => ?_)
  refine lv_iconst (v := nI 0) hx hb dL_law_20 rfl ?_
  refine lv_istore (lv' := [(4, .int (nI 0)), (3, .ref qo), (2, .ref g1), (1, .ref g0), (0, .ref b)]) hx hb dL_law_21 hl (by decide) rfl (fun ls hl => ?_)
  have hP : va_P (dC, dI) vwCl (fl [outW cL qo (fun _ => 0), fW cI cP g0 z9.1 z9.2.1 z9.2.2.1 z9.2.2.2.1 z9.2.2.2.2.1 z9.2.2.2.2.2.1 z9.2.2.2.2.2.2.1 z9.2.2.2.2.2.2.2.1 z9.2.2.2.2.2.2.2.2 P0 P0 P0 (fun _ => 0) 0 (fun _ => P0) 0 0 0, mW cI g1 z8.1 z8.2 F0m (fun _ => 0) (fun _ => 0) 0]) H := reord3 hP
  have hD : va_D A (fl [outW cL qo (fun _ => 0), fW cI cP g0 z9.1 z9.2.1 z9.2.2.1 z9.2.2.2.1 z9.2.2.2.2.1 z9.2.2.2.2.2.1 z9.2.2.2.2.2.2.1 z9.2.2.2.2.2.2.2.1 z9.2.2.2.2.2.2.2.2 P0 P0 P0 (fun _ => 0) 0 (fun _ => P0) 0 0 0, mW cI g1 z8.1 z8.2 F0m (fun _ => 0) (fun _ => 0) 0]) := reordD3 hD
  refine W.widen (k := 200) (n := 4000) (Nat.le_of_ble_eq_true rfl) (Nat.le_of_ble_eq_true rfl) ?_
  refine law_loop hst C hL (fun H locs ls cells slots hc hs hS => ?_) 513 0 200 4000 (fun _ => 0) P0 P0 P0 (fun _ => 0) 0 (fun _ => P0) 0 0 0 F0m (fun _ => 0) (fun _ => 0) 0 H locs ls (by omega) (Nat.zero_le _) (Nat.le_of_ble_eq_true rfl) (Nat.le_of_ble_eq_true rfl) LI_0 hP hD hS (lv_sub hl [4, 3, 2, 1, 0] rfl)
  refine W.widen hc hs ?_
  refine va_forget (fun q hq => by have := hS.2.2 q hq; rw [hAe] at this; exact this) ?_
  refine lv_iconst (v := 1) hx hb dL_law_1857 (by decide) ?_
  rw [hQ]
  exact lw_ret (s := s) (d0 := s.drawn) (Drawn.sameBut.refl s.drawn lw_cs) hx hb hr hlocks dL_law_1858
