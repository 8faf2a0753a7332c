/-! from the entry on. Mine. -/
set_option maxHeartbeats 4000000 in
set_option maxRecDepth 100000 in
/-- from the entry on -/
theorem whole_start {p : Program} {e : Env} {s : State} {m : MethodId} {below : List Frame} {meth : Method} {c : Code} (l : Launch) (hflags : l.flags = flags0) {b L : Nat} {xs : Nat → Int32} (hL : L ≤ 260) (C0 : lw_At p s m meth c b L xs) : W p l e room_1 s m #[Value.ref b] below meth c s.heap [] 0 0 (lw_Z below #[Value.ref b] s) (entryFrame m ([Value.ref b] : List Value).toArray 13) := by
  obtain ⟨dC, dI, cI, cP, qL, qG, qF, C, hF, hO⟩ := law_given C0
  obtain ⟨-, -, hr, -, -, -, -, -, hlocks, -⟩ := C0
  obtain ⟨A, hAe⟩ : ∃ A, A = (fun q : Nat => s.heap.size ≤ q) := ⟨_, rfl⟩
  rw [← hAe] at C hF
  have C1 := C
  obtain ⟨hx, hb, hml, hown, hts, hX, hbl, hbA, hA, hK, hn, hT⟩ := C1
  have hall : ∀ w ∈ lw_all, w.before #[Value.ref b] s = true := fun w h => hts w (List.mem_cons_of_mem _ h)
  have hS : va_S A s.heap s.heap [] := va_S.rf
  have hP : va_P (dC, dI) vwCl [] s.heap := fun k q h => by simp at h
  have hD : va_D A [] := ⟨fun i j p q h => by simp at h, fun k q h => by simp at h⟩
  have hl := lv_entry ([.ref b]) (n := 13) (Nat.le_of_ble_eq_true rfl)
  rw [lg_entry_eq]
  generalize (lg_sl ([.ref b]) ++ List.replicate (13 - (lg_sl ([.ref b])).length) Slot.unset).toArray = ls at hl ⊢
  have hl : lv_has ls 13 [(0, .ref b)] := hl
  obtain ⟨Q, hQ⟩ : ∃ Q, Q = lw_Z below #[Value.ref b] s := ⟨_, rfl⟩
  rw [← hQ]
  refine va_new (ci := 4) (fs := [.null, .null, .null, .null, .null, .int 0]) (C := RX6) (T := TX6) (N := 6) hx hb (fun w h => hall w (wX6 w h)) (fun _ h => h) tyX6 tyX6_ok hown (hall _ u_15) (hall _ u_16) (hall _ u_1) hK hP hD hS hA rfl (fun j hj => by rcases (show j = 0 ∨ j = 1 ∨ j = 2 ∨ j = 3 ∨ j = 4 ∨ j = 5 by omega) with rfl | rfl | rfl | rfl | rfl | rfl <;> rfl) (Nat.le_of_ble_eq_true rfl) (Nat.le_of_ble_eq_true rfl) dL_law_0 (fun g0 H hP hD hS => ?_)
  refine lv_dup hx hb dL_law_3 rfl ?_
  refine k_ctor (ws := []) (W1 := fun (z9 : (Nat → Nat) × (Nat → Nat) × (Nat → Nat) × Nat × Nat × Nat × Nat × Nat × (Nat → Nat → Nat)) => fW cI cP g0 z9.1 z9.2.1 z9.2.2.1 z9.2.2.2.1 z9.2.2.2.2.1 z9.2.2.2.2.2.1 z9.2.2.2.2.2.2.1 z9.2.2.2.2.2.2.2.1 z9.2.2.2.2.2.2.2.2 P0 P0 P0 (fun _ => 0) 0 (fun _ => P0) 0 0 0) (cell := (g0, .inr (4, [.null, .null, .null, .null, .null, .int 0]))) (va_runI (As := []) (rest := [.ref g0]) ⟨hx, hb, hml, hown, hts⟩ (mX6_init l dC dI cI cP qF g0 H.size) (cwI 0 hts (gi_ws u_19) rfl rfl rfl (hall _ u_1) (hall _ u_17) (hall _ u_18) rfl (by decide +kernel) ⟨Nat.le_of_ble_eq_true rfl, Nat.le_of_ble_eq_true rfl⟩) (pcN_I (last_P hP) hK hn (last_D hD) hF hO hS (last_A hD hS hA)) rfl rfl hl.1 rfl (lv_room (Nat.le_of_ble_eq_true rfl)) dL_law_4 ⟨Nat.le_of_ble_eq_true rfl, Nat.le_of_ble_eq_true rfl⟩) hP hD hS hA (fun z9 H locs hz9 hP hD hS => ?_)
  refine lv_astore_n (lv' := [(1, .ref g0), (0, .ref b)]) hx hb dL_law_7 rfl hl (by decide) rfl (fun ls hl => ?_)
  obtain ⟨aN, aT, aS, t0, t1, t2, h0, h1, pa⟩ := z9
  have hP : va_P (dC, dI) vwCl (fW cI cP g0 aN aT aS t0 t1 t2 h0 h1 pa P0 P0 P0 (fun _ => 0) 0 (fun _ => P0) 0 0 0) H := hP
  have hD : va_D A (fW cI cP g0 aN aT aS t0 t1 t2 h0 h1 pa P0 P0 P0 (fun _ => 0) 0 (fun _ => P0) 0 0 0) := hD
  refine W.widen (k := 200) (n := 4000) (Nat.le_of_ble_eq_true rfl) (Nat.le_of_ble_eq_true rfl) ?_
  refine law_begin C hL (fun H locs ls hS hl => ?_) hP hD hS hl
  refine W.widen (k := 600130) (n := 7301080) (Nat.le_of_ble_eq_true rfl) (Nat.le_of_ble_eq_true rfl) ?_
  refine va_forget (fun q hq => by have := hS.2.2 q hq; rw [hAe] at this; exact this) ?_
  refine lv_iload_n hx hb dL_law_280 rfl (lv_at hl 0 rfl) ?_
  rw [hQ]
  exact lw_ret (s := s) (d0 := s.drawn) (Drawn.sameBut.refl s.drawn lw_cs) hx hb hr hlocks dL_law_281
