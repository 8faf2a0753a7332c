theorem share_all : (List.range 17).all (fun a => (List.range 17).all (fun b => b == 0 || Op.cmpValue (FP.dcmp (shv a b) (shv a b)) .l == 0)) = true := by decide +kernel
theorem share_cmp {P : PV} (hG : IN (P 10 0) 16) : Op.cmpValue (FP.dcmp (fX6_met P) (fX6_met P)) .l = 0 := by
  show Op.cmpValue (FP.dcmp (fX4_shareMet P) (fX4_shareMet P)) .l = 0
  rcases shareMet_at hG with e | ⟨a, b, ha, hb, h0, e⟩
  · rw [e]; decide +kernel
  · rw [e]
    have h1 := List.all_eq_true.mp share_all a (List.mem_range.mpr (by omega))
    have h2 := List.all_eq_true.mp h1 b (List.mem_range.mpr (by omega))
    rcases Bool.or_eq_true _ _ ▸ h2 with h3 | h3
    · exact absurd (by simpa using h3) h0
    · exact of_decide_eq_true (by simpa using h3)
section LC424
variable {p : Program} {l : Launch} {e : Env} {s : State} {m : MethodId} {below : List Frame} {meth : Method} {c : Code} {Q : State → Prop} {b L i : Nat} {xs : Nat → Int32} {A : Nat → Prop} {dC : Nat → ClassId} {dI : Nat → Nat → Nat} {cI cP cL : ClassId} {qL qG qo a0 : Nat} {aN aT aS : Nat → Nat} {t0 t1 t2 h0 h1 : Nat} {pa : Nat → Nat → Nat} {o q0 q1 : Nat}
variable {fo : Nat → Int64} {PN PT PS : PV} {f : Nat → Int32} {u : Int32} {Ps : Nat → PV} {oh vh : Nat} {k : Int32} {F x M : Nat → Int32} {h : Int64} {H : Heap} {locs : List Loc} {ls : Array Slot} {cells slots : Nat}
set_option maxHeartbeats 4000000 in
set_option maxRecDepth 100000 in
theorem lc_seatAll (hst : l.stackTraces = false) (C : LBd p s m c b L xs A dC dI cI cP cL qL qG) (hI : LI PN PS Ps oh vh k F M f u x) (hi : i + 4 ≤ L) (hL : L ≤ 2048) (hP : va_P (dC, dI) vwCl (fl [outW cL qo fo, fW cI cP a0 aN aT aS t0 t1 t2 h0 h1 pa PN PT PS f u Ps oh vh k, mW cI o q0 q1 F x M h]) H) (hD : va_D A (fl [outW cL qo fo, fW cI cP a0 aN aT aS t0 t1 t2 h0 h1 pa PN PT PS f u Ps oh vh k, mW cI o q0 q1 F x M h])) (hS : va_S A s.heap H locs) (hl : lv_has ls 9 [(0, .ref b), (1, .ref a0), (2, .ref o), (3, .ref qo), (4, .int (nI i))]) (hc : cells + 3 ≤ 601024) (hs : slots + 18 ≤ 7293034) (kk : NX p l e s m below meth c Q b i A dC dI cI cP cL qo a0 aN aT aS t0 t1 t2 h0 h1 pa o q0 q1 (cells + 3) (slots + 18)) : W p l e room_1 s m #[Value.ref b] below meth c H locs cells slots Q (F0 m 776 ls []) := by
  have C0 := C
  have hI0 := hI
  obtain ⟨hx, hb, hml, hown, hts, hX, hbl, hbA, hA, hK, hn, hXo, hN, hT⟩ := C
  obtain ⟨⟨⟨G9, T9, L9, hR9⟩, ⟨ho6, hv6, -⟩, hM1, -, -⟩, ⟨n9, hn9, hun, hM9, -⟩⟩ := hI0
  have hRO := hR9.wf.ro
  have hRW := hRO.1
  have hM3 : IN (M 3) 60 := ⟨n9, hn9, hM9⟩
  have hu9 : u = nI u.toNatClampNeg := by rw [hun, nI_clamp (by omega)]
  have hu8 : u.toNatClampNeg ≤ 60 := by rw [hun, nI_clamp (by omega)]; exact hn9
  have hG9 : IN (PN 10 0) 16 := ⟨G9, hR9.wf.G16, hR9.pg⟩
  refine lv_aload_n hx hb dL_law_776 rfl (lv_at hl 1 rfl) ?_
  refine k_clsi (Wf := fun (z9 : PV × (Nat → PV) × Nat × Nat) => fW cI cP a0 aN aT aS t0 t1 t2 h0 h1 pa z9.1 PT PS f u z9.2.1 z9.2.2.1 z9.2.2.2 k) (va_runV (As := []) (rest := []) ⟨hx, hb, hml, hown, hts⟩ (mX6_seatAll l dC dI cI cP a0 aN aT aS t0 t1 t2 h0 h1 pa PN PT PS f u Ps oh vh k ho6 hv6) (cwV 0 hts (gi_V u_162 u_163 u_164 u_1 u_165) rfl rfl rfl (by decide +kernel) ⟨Nat.le_of_ble_eq_true rfl, Nat.le_of_ble_eq_true rfl⟩) (pcM_V (ci := 4) (q0 := 0) (fl_at hP 1 rfl) (hK.sub (tys' := [(cI, .int), (cP, .object "SupperSeats$Plan")]) [0, 1] rfl) hn (fl_D1 hD 1 rfl) rfl rfl) rfl rfl hl.1 rfl (lv_room (Nat.le_of_ble_eq_true rfl)) dL_law_777 ⟨(show cells + 0 ≤ 601024 by omega), (show slots + 0 ≤ 7293034 by omega)⟩) hP hD hS (fun _ => rfl) (fun a9 z9 H locs ha9 hP hD hS => ?_)
  have hP : va_P (dC, dI) vwCl (fl [outW cL qo fo, fW cI cP a0 aN aT aS t0 t1 t2 h0 h1 pa z9.1 PT PS f u z9.2.1 z9.2.2.1 z9.2.2.2 k, mW cI o q0 q1 F x M h]) H := hP
  have hD : va_D A (fl [outW cL qo fo, fW cI cP a0 aN aT aS t0 t1 t2 h0 h1 pa z9.1 PT PS f u z9.2.1 z9.2.2.1 z9.2.2.2 k, mW cI o q0 q1 F x M h]) := hD
  refine lv_aload_n hx hb dL_law_780 rfl (lv_at hl 2 rfl) ?_
  refine k_modi (Wm := fun (w9 : (Nat → Int32) × (Nat → Int32)) => mW cI o q0 q1 w9.1 x w9.2 h) (va_runV (As := []) (rest := [.int a9]) ⟨hx, hb, hml, hown, hts⟩ (mX7_seatAll l dC dI cI o q0 q1 F x M h hRW G9 L9 hRO vh hv6 hM1) (cwV 0 hts (gi_V u_1028 u_1029 u_1030 u_7 u_1031) rfl rfl rfl (by decide +kernel) ⟨Nat.le_of_ble_eq_true rfl, Nat.le_of_ble_eq_true rfl⟩) (pcM_V (ci := 5) (q0 := 0) (fl_at hP 2 rfl) (hK.sub (tys' := [(cI, .int)]) [0] rfl) hn (fl_D1 hD 2 rfl) rfl rfl) rfl rfl hl.1 rfl (lv_room (Nat.le_of_ble_eq_true rfl)) dL_law_781 ⟨(show cells + 0 ≤ 601024 by omega), (show slots + 0 ≤ 7293034 by omega)⟩) hP hD hS (fun _ => rfl) (fun b9 w9 H locs hm9 hP hD hS => ?_)
  have hP : va_P (dC, dI) vwCl (fl [outW cL qo fo, fW cI cP a0 aN aT aS t0 t1 t2 h0 h1 pa z9.1 PT PS f u z9.2.1 z9.2.2.1 z9.2.2.2 k, mW cI o q0 q1 w9.1 x w9.2 h]) H := hP
  have hD : va_D A (fl [outW cL qo fo, fW cI cP a0 aN aT aS t0 t1 t2 h0 h1 pa z9.1 PT PS f u z9.2.1 z9.2.2.1 z9.2.2.2 k, mW cI o q0 q1 w9.1 x w9.2 h]) := hD
  obtain ⟨s1, s3⟩ := sd_seatAll (PT := PT) hI ha9 hm9
  refine lv_icmp_eq (tgt := 1851) hx hb dL_law_784 (by decide) (fun _ => ?_) (fun z => absurd s1 z)
  exact W.widen (Nat.le_add_right _ _) (Nat.le_add_right _ _) (kk _ _ _ _ _ _ _ _ _ _ _ _ _ _ _ _ _ s3 hP hD hS (lv_sub hl [0, 1, 2, 3, 4] rfl))
set_option maxHeartbeats 4000000 in
set_option maxRecDepth 100000 in
theorem lc_clearBuffer (hst : l.stackTraces = false) (C : LBd p s m c b L xs A dC dI cI cP cL qL qG) (hI : LI PN PS Ps oh vh k F M f u x) (hi : i + 4 ≤ L) (hL : L ≤ 2048) (hP : va_P (dC, dI) vwCl (fl [outW cL qo fo, fW cI cP a0 aN aT aS t0 t1 t2 h0 h1 pa PN PT PS f u Ps oh vh k, mW cI o q0 q1 F x M h]) H) (hD : va_D A (fl [outW cL qo fo, fW cI cP a0 aN aT aS t0 t1 t2 h0 h1 pa PN PT PS f u Ps oh vh k, mW cI o q0 q1 F x M h])) (hS : va_S A s.heap H locs) (hl : lv_has ls 9 [(0, .ref b), (1, .ref a0), (2, .ref o), (3, .ref qo), (4, .int (nI i))]) (hc : cells + 3 ≤ 601024) (hs : slots + 18 ≤ 7293034) (kk : NX p l e s m below meth c Q b i A dC dI cI cP cL qo a0 aN aT aS t0 t1 t2 h0 h1 pa o q0 q1 (cells + 3) (slots + 18)) : W p l e room_1 s m #[Value.ref b] below meth c H locs cells slots Q (F0 m 845 ls []) := by
  have C0 := C
  have hI0 := hI
  obtain ⟨hx, hb, hml, hown, hts, hX, hbl, hbA, hA, hK, hn, hXo, hN, hT⟩ := C
  obtain ⟨⟨⟨G9, T9, L9, hR9⟩, ⟨ho6, hv6, -⟩, hM1, -, -⟩, ⟨n9, hn9, hun, hM9, -⟩⟩ := hI0
  have hRO := hR9.wf.ro
  have hRW := hRO.1
  have hM3 : IN (M 3) 60 := ⟨n9, hn9, hM9⟩
  have hu9 : u = nI u.toNatClampNeg := by rw [hun, nI_clamp (by omega)]
  have hu8 : u.toNatClampNeg ≤ 60 := by rw [hun, nI_clamp (by omega)]; exact hn9
  have hG9 : IN (PN 10 0) 16 := ⟨G9, hR9.wf.G16, hR9.pg⟩
  refine lv_aload_n hx hb dL_law_845 rfl (lv_at hl 1 rfl) ?_
  refine k_clsi (Wf := fun (z9 : (Nat → Int32) × Int32) => fW cI cP a0 aN aT aS t0 t1 t2 h0 h1 pa PN PT PS z9.1 z9.2 Ps oh vh k) (va_runV (As := []) (rest := []) ⟨hx, hb, hml, hown, hts⟩ (mX6_clearBuffer l dC dI cI cP a0 aN aT aS t0 t1 t2 h0 h1 pa PN PT PS f u Ps oh vh k) (cwV 0 hts (gi_V u_286 u_287 u_288 u_1 u_289) rfl rfl rfl (by decide +kernel) ⟨Nat.le_of_ble_eq_true rfl, Nat.le_of_ble_eq_true rfl⟩) (pcM_V (ci := 4) (q0 := 0) (fl_at hP 1 rfl) (hK.sub (tys' := [(cI, .int), (cP, .object "SupperSeats$Plan")]) [0, 1] rfl) hn (fl_D1 hD 1 rfl) rfl rfl) rfl rfl hl.1 rfl (lv_room (Nat.le_of_ble_eq_true rfl)) dL_law_846 ⟨(show cells + 0 ≤ 601024 by omega), (show slots + 0 ≤ 7293034 by omega)⟩) hP hD hS (fun _ => rfl) (fun a9 z9 H locs ha9 hP hD hS => ?_)
  have hP : va_P (dC, dI) vwCl (fl [outW cL qo fo, fW cI cP a0 aN aT aS t0 t1 t2 h0 h1 pa PN PT PS z9.1 z9.2 Ps oh vh k, mW cI o q0 q1 F x M h]) H := hP
  have hD : va_D A (fl [outW cL qo fo, fW cI cP a0 aN aT aS t0 t1 t2 h0 h1 pa PN PT PS z9.1 z9.2 Ps oh vh k, mW cI o q0 q1 F x M h]) := hD
  refine lv_aload_n hx hb dL_law_849 rfl (lv_at hl 2 rfl) ?_
  refine k_modi (Wm := fun (w9 : (Nat → Int32)) => mW cI o q0 q1 F x w9 h) (va_runV (As := []) (rest := [.int a9]) ⟨hx, hb, hml, hown, hts⟩ (mX7_clearBuffer l dC dI cI o q0 q1 F x M h hRW) (cwV 0 hts (gi_V u_1048 u_1049 u_1050 u_7 u_1051) rfl rfl rfl (by decide +kernel) ⟨Nat.le_of_ble_eq_true rfl, Nat.le_of_ble_eq_true rfl⟩) (pcM_V (ci := 5) (q0 := 0) (fl_at hP 2 rfl) (hK.sub (tys' := [(cI, .int)]) [0] rfl) hn (fl_D1 hD 2 rfl) rfl rfl) rfl rfl hl.1 rfl (lv_room (Nat.le_of_ble_eq_true rfl)) dL_law_850 ⟨(show cells + 0 ≤ 601024 by omega), (show slots + 0 ≤ 7293034 by omega)⟩) hP hD hS (fun _ => rfl) (fun b9 w9 H locs hm9 hP hD hS => ?_)
  have hP : va_P (dC, dI) vwCl (fl [outW cL qo fo, fW cI cP a0 aN aT aS t0 t1 t2 h0 h1 pa PN PT PS z9.1 z9.2 Ps oh vh k, mW cI o q0 q1 F x w9 h]) H := hP
  have hD : va_D A (fl [outW cL qo fo, fW cI cP a0 aN aT aS t0 t1 t2 h0 h1 pa PN PT PS z9.1 z9.2 Ps oh vh k, mW cI o q0 q1 F x w9 h]) := hD
  obtain ⟨s1, s3⟩ := sd_clearBuffer (PT := PT) hI ha9 hm9
  refine lv_icmp_eq (tgt := 1851) hx hb dL_law_853 (by decide) (fun _ => ?_) (fun z => absurd s1 z)
  exact W.widen (Nat.le_add_right _ _) (Nat.le_add_right _ _) (kk _ _ _ _ _ _ _ _ _ _ _ _ _ _ _ _ _ s3 hP hD hS (lv_sub hl [0, 1, 2, 3, 4] rfl))
set_option maxHeartbeats 4000000 in
set_option maxRecDepth 100000 in
theorem lc_firstError (hst : l.stackTraces = false) (C : LBd p s m c b L xs A dC dI cI cP cL qL qG) (hI : LI PN PS Ps oh vh k F M f u x) (hi : i + 4 ≤ L) (hL : L ≤ 2048) (hP : va_P (dC, dI) vwCl (fl [outW cL qo fo, fW cI cP a0 aN aT aS t0 t1 t2 h0 h1 pa PN PT PS f u Ps oh vh k, mW cI o q0 q1 F x M h]) H) (hD : va_D A (fl [outW cL qo fo, fW cI cP a0 aN aT aS t0 t1 t2 h0 h1 pa PN PT PS f u Ps oh vh k, mW cI o q0 q1 F x M h])) (hS : va_S A s.heap H locs) (hl : lv_has ls 9 [(0, .ref b), (1, .ref a0), (2, .ref o), (3, .ref qo), (4, .int (nI i))]) (hc : cells + 3 ≤ 601024) (hs : slots + 18 ≤ 7293034) (kk : NX p l e s m below meth c Q b i A dC dI cI cP cL qo a0 aN aT aS t0 t1 t2 h0 h1 pa o q0 q1 (cells + 3) (slots + 18)) : W p l e room_1 s m #[Value.ref b] below meth c H locs cells slots Q (F0 m 858 ls []) := by
  have C0 := C
  have hI0 := hI
  obtain ⟨hx, hb, hml, hown, hts, hX, hbl, hbA, hA, hK, hn, hXo, hN, hT⟩ := C
  obtain ⟨⟨⟨G9, T9, L9, hR9⟩, ⟨ho6, hv6, -⟩, hM1, -, -⟩, ⟨n9, hn9, hun, hM9, -⟩⟩ := hI0
  have hRO := hR9.wf.ro
  have hRW := hRO.1
  have hM3 : IN (M 3) 60 := ⟨n9, hn9, hM9⟩
  have hu9 : u = nI u.toNatClampNeg := by rw [hun, nI_clamp (by omega)]
  have hu8 : u.toNatClampNeg ≤ 60 := by rw [hun, nI_clamp (by omega)]; exact hn9
  have hG9 : IN (PN 10 0) 16 := ⟨G9, hR9.wf.G16, hR9.pg⟩
  refine lv_aload_n hx hb dL_law_858 rfl (lv_at hl 1 rfl) ?_
  refine k_calli (W.runV (As := []) (rest := []) ⟨hx, hb, hml, hown, hts⟩ (mX6_firstError l dC dI cI cP a0 aN aT aS t0 t1 t2 h0 h1 pa PN PT PS f u Ps oh vh k) (cwV 0 hts (gi_V u_295 u_296 u_297 u_1 u_298) rfl rfl rfl (by decide +kernel) ⟨Nat.le_of_ble_eq_true rfl, Nat.le_of_ble_eq_true rfl⟩) (pcR_V (ci := 4) (q0 := 0) (fl_at hP 1 rfl) (hK.sub (tys' := [(cI, .int), (cP, .object "SupperSeats$Plan")]) [0, 1] rfl) hn rfl rfl) rfl rfl hl.1 rfl (lv_room (Nat.le_of_ble_eq_true rfl)) dL_law_859 ⟨(show cells + 0 ≤ 601024 by omega), (show slots + 0 ≤ 7293034 by omega)⟩) ?_
  refine lv_aload_n hx hb dL_law_862 rfl (lv_at hl 2 rfl) ?_
  refine k_modi (Wm := fun (w9 : (Nat → Int32)) => mW cI o q0 q1 F x w9 h) (va_runV (As := []) (rest := [.int (fX6_firstError f u)]) ⟨hx, hb, hml, hown, hts⟩ (mX7_firstError l dC dI cI o q0 q1 F x M h hM3) (cwV 0 hts (gi_V u_1052 u_1053 u_1054 u_7 u_1055) rfl rfl rfl (by decide +kernel) ⟨Nat.le_of_ble_eq_true rfl, Nat.le_of_ble_eq_true rfl⟩) (pcM_V (ci := 5) (q0 := 0) (fl_at hP 2 rfl) (hK.sub (tys' := [(cI, .int)]) [0] rfl) hn (fl_D1 hD 2 rfl) rfl rfl) rfl rfl hl.1 rfl (lv_room (Nat.le_of_ble_eq_true rfl)) dL_law_863 ⟨(show cells + 0 ≤ 601024 by omega), (show slots + 0 ≤ 7293034 by omega)⟩) hP hD hS (fun _ => rfl) (fun b9 w9 H locs hm9 hP hD hS => ?_)
  have hP : va_P (dC, dI) vwCl (fl [outW cL qo fo, fW cI cP a0 aN aT aS t0 t1 t2 h0 h1 pa PN PT PS f u Ps oh vh k, mW cI o q0 q1 F x w9 h]) H := hP
  have hD : va_D A (fl [outW cL qo fo, fW cI cP a0 aN aT aS t0 t1 t2 h0 h1 pa PN PT PS f u Ps oh vh k, mW cI o q0 q1 F x w9 h]) := hD
  obtain ⟨s1, s3⟩ := sd_firstError (PT := PT) hI hm9
  refine lv_icmp_eq (tgt := 1851) hx hb dL_law_866 (by decide) (fun _ => ?_) (fun z => absurd s1 z)
  exact W.widen (Nat.le_add_right _ _) (Nat.le_add_right _ _) (kk _ _ _ _ _ _ _ _ _ _ _ _ _ _ _ _ _ s3 hP hD hS (lv_sub hl [0, 1, 2, 3, 4] rfl))
set_option maxHeartbeats 4000000 in
set_option maxRecDepth 100000 in
theorem lc_keep (hst : l.stackTraces = false) (C : LBd p s m c b L xs A dC dI cI cP cL qL qG) (hI : LI PN PS Ps oh vh k F M f u x) (hi : i + 4 ≤ L) (hL : L ≤ 2048) (hP : va_P (dC, dI) vwCl (fl [outW cL qo fo, fW cI cP a0 aN aT aS t0 t1 t2 h0 h1 pa PN PT PS f u Ps oh vh k, mW cI o q0 q1 F x M h]) H) (hD : va_D A (fl [outW cL qo fo, fW cI cP a0 aN aT aS t0 t1 t2 h0 h1 pa PN PT PS f u Ps oh vh k, mW cI o q0 q1 F x M h])) (hS : va_S A s.heap H locs) (hl : lv_has ls 9 [(0, .ref b), (1, .ref a0), (2, .ref o), (3, .ref qo), (4, .int (nI i))]) (hc : cells + 3 ≤ 601024) (hs : slots + 18 ≤ 7293034) (kk : NX p l e s m below meth c Q b i A dC dI cI cP cL qo a0 aN aT aS t0 t1 t2 h0 h1 pa o q0 q1 (cells + 3) (slots + 18)) : W p l e room_1 s m #[Value.ref b] below meth c H locs cells slots Q (F0 m 1027 ls []) := by
  have C0 := C
  have hI0 := hI
  obtain ⟨hx, hb, hml, hown, hts, hX, hbl, hbA, hA, hK, hn, hXo, hN, hT⟩ := C
  obtain ⟨⟨⟨G9, T9, L9, hR9⟩, ⟨ho6, hv6, -⟩, hM1, -, -⟩, ⟨n9, hn9, hun, hM9, -⟩⟩ := hI0
  have hRO := hR9.wf.ro
  have hRW := hRO.1
  have hM3 : IN (M 3) 60 := ⟨n9, hn9, hM9⟩
  have hu9 : u = nI u.toNatClampNeg := by rw [hun, nI_clamp (by omega)]
  have hu8 : u.toNatClampNeg ≤ 60 := by rw [hun, nI_clamp (by omega)]; exact hn9
  have hG9 : IN (PN 10 0) 16 := ⟨G9, hR9.wf.G16, hR9.pg⟩
  refine lv_aload_n hx hb dL_law_1027 rfl (lv_at hl 1 rfl) ?_
  refine k_clsi (Wf := fun (z9 : PV × Int32) => fW cI cP a0 aN aT aS t0 t1 t2 h0 h1 pa PN PT z9.1 f u Ps oh vh z9.2) (va_runV (As := []) (rest := []) ⟨hx, hb, hml, hown, hts⟩ (mX6_keep l dC dI cI cP a0 aN aT aS t0 t1 t2 h0 h1 pa PN PT PS f u Ps oh vh k) (cwV 0 hts (gi_V u_317 u_318 u_319 u_1 u_320) rfl rfl rfl (by decide +kernel) ⟨Nat.le_of_ble_eq_true rfl, Nat.le_of_ble_eq_true rfl⟩) (pcM_V (ci := 4) (q0 := 0) (fl_at hP 1 rfl) (hK.sub (tys' := [(cI, .int), (cP, .object "SupperSeats$Plan")]) [0, 1] rfl) hn (fl_D1 hD 1 rfl) rfl rfl) rfl rfl hl.1 rfl (lv_room (Nat.le_of_ble_eq_true rfl)) dL_law_1028 ⟨(show cells + 0 ≤ 601024 by omega), (show slots + 0 ≤ 7293034 by omega)⟩) hP hD hS (fun _ => rfl) (fun a9 z9 H locs ha9 hP hD hS => ?_)
  have hP : va_P (dC, dI) vwCl (fl [outW cL qo fo, fW cI cP a0 aN aT aS t0 t1 t2 h0 h1 pa PN PT z9.1 f u Ps oh vh z9.2, mW cI o q0 q1 F x M h]) H := hP
  have hD : va_D A (fl [outW cL qo fo, fW cI cP a0 aN aT aS t0 t1 t2 h0 h1 pa PN PT z9.1 f u Ps oh vh z9.2, mW cI o q0 q1 F x M h]) := hD
  refine lv_aload_n hx hb dL_law_1031 rfl (lv_at hl 2 rfl) ?_
  refine k_modi (Wm := fun (w9 : (Nat → Int32) × (Nat → Int32)) => mW cI o q0 q1 w9.1 x w9.2 h) (va_runV (As := []) (rest := [.int a9]) ⟨hx, hb, hml, hown, hts⟩ (mX7_keep l dC dI cI o q0 q1 F x M h hRW) (cwV 0 hts (gi_V u_1100 u_1101 u_1102 u_7 u_1103) rfl rfl rfl (by decide +kernel) ⟨Nat.le_of_ble_eq_true rfl, Nat.le_of_ble_eq_true rfl⟩) (pcM_V (ci := 5) (q0 := 0) (fl_at hP 2 rfl) (hK.sub (tys' := [(cI, .int)]) [0] rfl) hn (fl_D1 hD 2 rfl) rfl rfl) rfl rfl hl.1 rfl (lv_room (Nat.le_of_ble_eq_true rfl)) dL_law_1032 ⟨(show cells + 0 ≤ 601024 by omega), (show slots + 0 ≤ 7293034 by omega)⟩) hP hD hS (fun _ => rfl) (fun b9 w9 H locs hm9 hP hD hS => ?_)
  have hP : va_P (dC, dI) vwCl (fl [outW cL qo fo, fW cI cP a0 aN aT aS t0 t1 t2 h0 h1 pa PN PT z9.1 f u Ps oh vh z9.2, mW cI o q0 q1 w9.1 x w9.2 h]) H := hP
  have hD : va_D A (fl [outW cL qo fo, fW cI cP a0 aN aT aS t0 t1 t2 h0 h1 pa PN PT z9.1 f u Ps oh vh z9.2, mW cI o q0 q1 w9.1 x w9.2 h]) := hD
  obtain ⟨s1, s3⟩ := sd_keep (PT := PT) hI ha9 hm9
  refine lv_icmp_eq (tgt := 1851) hx hb dL_law_1035 (by decide) (fun _ => ?_) (fun z => absurd s1 z)
  exact W.widen (Nat.le_add_right _ _) (Nat.le_add_right _ _) (kk _ _ _ _ _ _ _ _ _ _ _ _ _ _ _ _ _ s3 hP hD hS (lv_sub hl [0, 1, 2, 3, 4] rfl))
set_option maxHeartbeats 4000000 in
set_option maxRecDepth 100000 in
theorem lc_met (hst : l.stackTraces = false) (C : LBd p s m c b L xs A dC dI cI cP cL qL qG) (hI : LI PN PS Ps oh vh k F M f u x) (hi : i + 4 ≤ L) (hL : L ≤ 2048) (hP : va_P (dC, dI) vwCl (fl [outW cL qo fo, fW cI cP a0 aN aT aS t0 t1 t2 h0 h1 pa PN PT PS f u Ps oh vh k, mW cI o q0 q1 F x M h]) H) (hD : va_D A (fl [outW cL qo fo, fW cI cP a0 aN aT aS t0 t1 t2 h0 h1 pa PN PT PS f u Ps oh vh k, mW cI o q0 q1 F x M h])) (hS : va_S A s.heap H locs) (hl : lv_has ls 9 [(0, .ref b), (1, .ref a0), (2, .ref o), (3, .ref qo), (4, .int (nI i))]) (hc : cells + 3 ≤ 601024) (hs : slots + 18 ≤ 7293034) (kk : NX p l e s m below meth c Q b i A dC dI cI cP cL qo a0 aN aT aS t0 t1 t2 h0 h1 pa o q0 q1 (cells + 3) (slots + 18)) : W p l e room_1 s m #[Value.ref b] below meth c H locs cells slots Q (F0 m 1796 ls []) := by
  have C0 := C
  have hI0 := hI
  obtain ⟨hx, hb, hml, hown, hts, hX, hbl, hbA, hA, hK, hn, hXo, hN, hT⟩ := C
  obtain ⟨⟨⟨G9, T9, L9, hR9⟩, ⟨ho6, hv6, -⟩, hM1, -, -⟩, ⟨n9, hn9, hun, hM9, -⟩⟩ := hI0
  have hRO := hR9.wf.ro
  have hRW := hRO.1
  have hM3 : IN (M 3) 60 := ⟨n9, hn9, hM9⟩
  have hu9 : u = nI u.toNatClampNeg := by rw [hun, nI_clamp (by omega)]
  have hu8 : u.toNatClampNeg ≤ 60 := by rw [hun, nI_clamp (by omega)]; exact hn9
  have hG9 : IN (PN 10 0) 16 := ⟨G9, hR9.wf.G16, hR9.pg⟩
  refine lv_aload_n hx hb dL_law_1796 rfl (lv_at hl 1 rfl) ?_
  refine k_calld (W.runV (As := []) (rest := []) ⟨hx, hb, hml, hown, hts⟩ (mX6_met l dC dI cI cP a0 aN aT aS t0 t1 t2 h0 h1 pa PN PT PS f u Ps oh vh k hG9) (cwV 0 hts (gi_V u_322 u_323 u_324 u_1 u_325) rfl rfl rfl (by decide +kernel) ⟨Nat.le_of_ble_eq_true rfl, Nat.le_of_ble_eq_true rfl⟩) (pcR_V (ci := 4) (q0 := 0) (fl_at hP 1 rfl) (hK.sub (tys' := [(cI, .int), (cP, .object "SupperSeats$Plan")]) [0, 1] rfl) hn rfl rfl) rfl rfl hl.1 rfl (lv_room (Nat.le_of_ble_eq_true rfl)) dL_law_1797 ⟨(show cells + 0 ≤ 601024 by omega), (show slots + 0 ≤ 7293034 by omega)⟩) ?_
  refine lv_dstore (lv' := [(5, .double (fX6_met PN)), (0, .ref b), (1, .ref a0), (2, .ref o), (3, .ref qo), (4, .int (nI i))]) hx hb dL_law_1800 hl (by decide) rfl (fun ls hl => ?_)
  refine lv_aload_n hx hb dL_law_1802 rfl (lv_at hl 3 rfl) ?_
  refine k_modd (Wm := fun (w9 : (Nat → Int32)) => mW cI o q0 q1 F x w9 h) (va_runV (As := []) (rest := []) ⟨hx, hb, hml, hown, hts⟩ (mX7_met l dC dI cI o q0 q1 F x M h hRW) (cwV 0 hts (gi_V u_1180 u_1181 u_1182 u_7 u_1183) rfl rfl rfl (by decide +kernel) ⟨Nat.le_of_ble_eq_true rfl, Nat.le_of_ble_eq_true rfl⟩) (pcM_V (ci := 5) (q0 := 0) (fl_at hP 2 rfl) (hK.sub (tys' := [(cI, .int)]) [0] rfl) hn (fl_D1 hD 2 rfl) rfl rfl) rfl rfl hl.1 rfl (lv_room (Nat.le_of_ble_eq_true rfl)) dL_law_1803 ⟨(show cells + 0 ≤ 601024 by omega), (show slots + 0 ≤ 7293034 by omega)⟩) hP hD hS (fun _ => rfl) (fun b9 w9 H locs hm9 hP hD hS => ?_)
  have hP : va_P (dC, dI) vwCl (fl [outW cL qo fo, fW cI cP a0 aN aT aS t0 t1 t2 h0 h1 pa PN PT PS f u Ps oh vh k, mW cI o q0 q1 F x w9 h]) H := hP
  have hD : va_D A (fl [outW cL qo fo, fW cI cP a0 aN aT aS t0 t1 t2 h0 h1 pa PN PT PS f u Ps oh vh k, mW cI o q0 q1 F x w9 h]) := hD
  obtain ⟨s1, s3⟩ := sd_met (PT := PT) hI hm9
  refine lv_dstore (lv' := [(7, .double b9), (5, .double (fX6_met PN)), (0, .ref b), (1, .ref a0), (2, .ref o), (3, .ref qo), (4, .int (nI i))]) hx hb dL_law_1806 hl (by decide) rfl (fun ls hl => ?_)
  refine lv_dload hx hb dL_law_1808 (lv_at hl 1 rfl) ?_
  refine lv_dload hx hb dL_law_1810 (lv_at hl 0 rfl) ?_
  refine lv_dcmp hx hb dL_law_1812 ?_
  rw [← s1, show Op.cmpValue (FP.dcmp (fX6_met PN) (fX6_met PN)) .l = 0 from share_cmp hG9]
  refine lv_if_eq (tgt := 1834) hx hb dL_law_1813 (by decide) (fun _ => ?_) (fun z => absurd rfl z)
  refine lv_goto (tgt := 1851) hx hb dL_law_1834 (by decide) ?_
  exact W.widen (Nat.le_add_right _ _) (Nat.le_add_right _ _) (kk _ _ _ _ _ _ _ _ _ _ _ _ _ _ _ _ _ s3 hP hD hS (lv_sub hl [2, 3, 4, 5, 6] rfl))
set_option maxHeartbeats 4000000 in
set_option maxRecDepth 100000 in
theorem lc_digest (hst : l.stackTraces = false) (C : LBd p s m c b L xs A dC dI cI cP cL qL qG) (hI : LI PN PS Ps oh vh k F M f u x) (hi : i + 4 ≤ L) (hL : L ≤ 2048) (hP : va_P (dC, dI) vwCl (fl [outW cL qo fo, fW cI cP a0 aN aT aS t0 t1 t2 h0 h1 pa PN PT PS f u Ps oh vh k, mW cI o q0 q1 F x M h]) H) (hD : va_D A (fl [outW cL qo fo, fW cI cP a0 aN aT aS t0 t1 t2 h0 h1 pa PN PT PS f u Ps oh vh k, mW cI o q0 q1 F x M h])) (hS : va_S A s.heap H locs) (hl : lv_has ls 9 [(0, .ref b), (1, .ref a0), (2, .ref o), (3, .ref qo), (4, .int (nI i))]) (hc : cells + 3 ≤ 601024) (hs : slots + 18 ≤ 7293034) (kk : NX p l e s m below meth c Q b i A dC dI cI cP cL qo a0 aN aT aS t0 t1 t2 h0 h1 pa o q0 q1 (cells + 3) (slots + 18)) : W p l e room_1 s m #[Value.ref b] below meth c H locs cells slots Q (F0 m 1837 ls []) := by
  have C0 := C
  have hI0 := hI
  obtain ⟨hx, hb, hml, hown, hts, hX, hbl, hbA, hA, hK, hn, hXo, hN, hT⟩ := C
  obtain ⟨⟨⟨G9, T9, L9, hR9⟩, ⟨ho6, hv6, -⟩, hM1, -, -⟩, ⟨n9, hn9, hun, hM9, -⟩⟩ := hI0
  have hRO := hR9.wf.ro
  have hRW := hRO.1
  have hM3 : IN (M 3) 60 := ⟨n9, hn9, hM9⟩
  have hu9 : u = nI u.toNatClampNeg := by rw [hun, nI_clamp (by omega)]
  have hu8 : u.toNatClampNeg ≤ 60 := by rw [hun, nI_clamp (by omega)]; exact hn9
  have hG9 : IN (PN 10 0) 16 := ⟨G9, hR9.wf.G16, hR9.pg⟩
  have hS8 : ∀ t : Nat, t < (F 1).toNatClampNeg → (F (18 + t)).toNatClampNeg ≤ 8 := fun t ht => by
    have e1 : (F 1).toNatClampNeg = T9 := by have := hR9.wf.tN; rw [Nat.zero_add] at this; exact this
    rw [e1] at ht
    obtain ⟨n, n3, n8, hn⟩ := hR9.wf.sts t ht
    rw [Nat.zero_add] at hn
    rw [hn, nI_clamp (by omega)]; exact n8
  refine lv_aload_n hx hb dL_law_1837 rfl (lv_at hl 1 rfl) ?_
  refine k_clsl (Wf := fun (z9 : PV) => fW cI cP a0 aN aT aS t0 t1 t2 h0 h1 pa PN z9 PS f u Ps oh vh k) (va_runV (As := []) (rest := []) ⟨hx, hb, hml, hown, hts⟩ (mX6_digest l dC dI cI cP a0 aN aT aS t0 t1 t2 h0 h1 pa PN PT PS f u Ps oh vh k hG9) (cwV 0 hts (gi_V u_336 u_337 u_338 u_1 u_339) rfl rfl rfl (by decide +kernel) ⟨Nat.le_of_ble_eq_true rfl, Nat.le_of_ble_eq_true rfl⟩) (pcM_V (ci := 4) (q0 := 0) (fl_at hP 1 rfl) (hK.sub (tys' := [(cI, .int), (cP, .object "SupperSeats$Plan")]) [0, 1] rfl) hn (fl_D1 hD 1 rfl) rfl rfl) rfl rfl hl.1 rfl (lv_room (Nat.le_of_ble_eq_true rfl)) dL_law_1838 ⟨(show cells + 0 ≤ 601024 by omega), (show slots + 0 ≤ 7293034 by omega)⟩) hP hD hS (fun _ => rfl) (fun a9 z9 H locs ha9 hP hD hS => ?_)
  have hP : va_P (dC, dI) vwCl (fl [outW cL qo fo, fW cI cP a0 aN aT aS t0 t1 t2 h0 h1 pa PN z9 PS f u Ps oh vh k, mW cI o q0 q1 F x M h]) H := hP
  have hD : va_D A (fl [outW cL qo fo, fW cI cP a0 aN aT aS t0 t1 t2 h0 h1 pa PN z9 PS f u Ps oh vh k, mW cI o q0 q1 F x M h]) := hD
  refine lv_aload_n hx hb dL_law_1841 rfl (lv_at hl 2 rfl) ?_
  refine k_modl (Wm := fun (w9 : (Nat → Int32) × (Nat → Int32) × Int64) => mW cI o q0 q1 w9.1 x w9.2.1 w9.2.2) (va_runV (As := []) (rest := [.long a9]) ⟨hx, hb, hml, hown, hts⟩ (mX7_digest2 l dC dI cI o q0 q1 F x M h hRW G9 L9 hRO hM3 hS8) (cwV 0 hts (gi_V u_1188 u_1189 u_1190 u_7 u_1191) rfl rfl rfl (by decide +kernel) ⟨Nat.le_of_ble_eq_true rfl, Nat.le_of_ble_eq_true rfl⟩) (pcM_V (ci := 5) (q0 := 0) (fl_at hP 2 rfl) (hK.sub (tys' := [(cI, .int)]) [0] rfl) hn (fl_D1 hD 2 rfl) rfl rfl) rfl rfl hl.1 rfl (lv_room (Nat.le_of_ble_eq_true rfl)) dL_law_1842 ⟨(show cells + 0 ≤ 601024 by omega), (show slots + 0 ≤ 7293034 by omega)⟩) hP hD hS (fun _ => rfl) (fun b9 w9 H locs hm9 hP hD hS => ?_)
  have hP : va_P (dC, dI) vwCl (fl [outW cL qo fo, fW cI cP a0 aN aT aS t0 t1 t2 h0 h1 pa PN z9 PS f u Ps oh vh k, mW cI o q0 q1 w9.1 x w9.2.1 w9.2.2]) H := hP
  have hD : va_D A (fl [outW cL qo fo, fW cI cP a0 aN aT aS t0 t1 t2 h0 h1 pa PN z9 PS f u Ps oh vh k, mW cI o q0 q1 w9.1 x w9.2.1 w9.2.2]) := hD
  obtain ⟨s1, s3⟩ := sd_digest (PT := PT) hI ha9 hm9
  refine W.lcmp hx hb dL_law_1845 ?_
  rw [s1, cmp_same]
  refine lv_if_eq (tgt := 1851) hx hb dL_law_1846 (by decide) (fun _ => ?_) (fun z => absurd rfl z)
  exact W.widen (Nat.le_add_right _ _) (Nat.le_add_right _ _) (kk _ _ _ _ _ _ _ _ _ _ _ _ _ _ _ _ _ s3 hP hD hS (lv_sub hl [0, 1, 2, 3, 4] rfl))
end LC424
