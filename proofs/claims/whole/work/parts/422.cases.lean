section LC422
variable {p : Program} {l : Launch} {e : Env} {s : State} {m : MethodId} {below : List Frame} {meth : Method} {c : Code} {Q : State → Prop} {b L i : Nat} {xs : Nat → Int32} {A : Nat → Prop} {dC : Nat → ClassId} {dI : Nat → Nat → Nat} {cI cP cL : ClassId} {qL qG qo a0 : Nat} {aN aT aS : Nat → Nat} {t0 t1 t2 h0 h1 : Nat} {pa : Nat → Nat → Nat} {o q0 q1 : Nat}
variable {fo : Nat → Int64} {PN PT PS : PV} {f : Nat → Int32} {u : Int32} {Ps : Nat → PV} {oh vh : Nat} {k : Int32} {F x M : Nat → Int32} {h : Int64} {H : Heap} {locs : List Loc} {ls : Array Slot} {cells slots : Nat}
set_option maxHeartbeats 4000000 in
set_option maxRecDepth 100000 in
theorem lc_swap (hst : l.stackTraces = false) (C : LBd p s m c b L xs A dC dI cI cP cL qL qG) (hI : LI PN PS Ps oh vh k F M f u x) (hi : i + 4 ≤ L) (hL : L ≤ 2048) (hP : va_P (dC, dI) vwCl (fl [outW cL qo fo, fW cI cP a0 aN aT aS t0 t1 t2 h0 h1 pa PN PT PS f u Ps oh vh k, mW cI o q0 q1 F x M h]) H) (hD : va_D A (fl [outW cL qo fo, fW cI cP a0 aN aT aS t0 t1 t2 h0 h1 pa PN PT PS f u Ps oh vh k, mW cI o q0 q1 F x M h])) (hS : va_S A s.heap H locs) (hl : lv_has ls 9 [(0, .ref b), (1, .ref a0), (2, .ref o), (3, .ref qo), (4, .int (nI i))]) (hc : cells + 3 ≤ 601024) (hs : slots + 18 ≤ 7293034) (kk : NX p l e s m below meth c Q b i A dC dI cI cP cL qo a0 aN aT aS t0 t1 t2 h0 h1 pa o q0 q1 (cells + 3) (slots + 18)) : W p l e room_1 s m #[Value.ref b] below meth c H locs cells slots Q (F0 m 708 ls []) := by
  have C0 := C
  have hI0 := hI
  obtain ⟨hx, hb, hml, hown, hts, hX, hbl, hbA, hA, hK, hn, hXo, hN, hT⟩ := C
  obtain ⟨⟨⟨G9, T9, L9, hR9⟩, ⟨ho6, hv6, -⟩, hM1, -, -⟩, ⟨n9, hn9, hun, hM9, -⟩⟩ := hI0
  have hRO := hR9.wf.ro
  have hRW := hRO.1
  have hM3 : IN (M 3) 60 := ⟨n9, hn9, hM9⟩
  have hu9 : u = nI u.toNatClampNeg := by rw [hun, nI_clamp (by omega)]
  have hu8 : u.toNatClampNeg ≤ 60 := by rw [hun, nI_clamp (by omega)]; exact hn9
  have hG9 : IN (PN 10 0) 16 := ⟨G9, hR9.wf.G16, hR9.pg⟩
  refine lv_aload_n hx hb dL_law_708 rfl (lv_at hl 1 rfl) ?_
  refine law_arg hx hb hX hbl hbA hS (j := 1) (by omega) hL (lv_at hl 0 rfl) (lv_at hl 4 rfl) rfl dL_law_709 dL_law_710 dL_law_712 dL_law_713 dL_law_714 ?_
  refine law_arg hx hb hX hbl hbA hS (j := 2) (by omega) hL (lv_at hl 0 rfl) (lv_at hl 4 rfl) rfl dL_law_715 dL_law_716 dL_law_718 dL_law_719 dL_law_720 ?_
  refine lv_aload_n hx hb dL_law_721 rfl (lv_at hl 3 rfl) ?_
  refine k_wrap (Wo := fun (z9 : (PV × PV × (Nat → PV) × Nat × Nat) × (Nat → Int64)) => outW cL qo z9.2) (Wf := fun (z9 : (PV × PV × (Nat → PV) × Nat × Nat) × (Nat → Int64)) => fW cI cP a0 aN aT aS t0 t1 t2 h0 h1 pa z9.1.1 z9.1.2.1 PS f u z9.1.2.2.1 z9.1.2.2.2.1 z9.1.2.2.2.2 k) (vx_runSX (As := [.ref a0, .int (xs (i + 1)), .int (xs (i + 2)), .ref qo]) (rest := []) ⟨hx, hb, hml, hown, hts⟩ (mL_swap l hst dC dI cI cP cL qL qG qo fo a0 aN aT aS t0 t1 t2 h0 h1 pa PN PT PS f u Ps oh vh k (xs (i + 1)) (xs (i + 2)) ho6 hv6) (vx_cwSW 4 hts (gi_W u_665 u_666 u_0 u_667) rfl rfl rfl (by decide +kernel) ⟨Nat.le_of_ble_eq_true rfl, Nat.le_of_ble_eq_true rfl⟩) (pcW_S (fl_sub (wc := [outW cL qo fo, fW cI cP a0 aN aT aS t0 t1 t2 h0 h1 pa PN PT PS f u Ps oh vh k]) hP [0, 1] rfl) hK hn (fl_D (wc := [outW cL qo fo, fW cI cP a0 aN aT aS t0 t1 t2 h0 h1 pa PN PT PS f u Ps oh vh k]) hD [0, 1] (by decide) rfl) hXo hN hT hS) rfl rfl hl.1 rfl (lv_room (Nat.le_of_ble_eq_true rfl)) dL_law_722 ⟨(show cells + 3 ≤ 601024 by omega), (show slots + 18 ≤ 7293034 by omega)⟩) hP hD hS (fun _ => rfl) (fun _ => rfl) (fun k9 z9 H locs hw9 hP hD hS => ?_)
  have hP : va_P (dC, dI) vwCl (fl [outW cL qo z9.2, fW cI cP a0 aN aT aS t0 t1 t2 h0 h1 pa z9.1.1 z9.1.2.1 PS f u z9.1.2.2.1 z9.1.2.2.2.1 z9.1.2.2.2.2 k, mW cI o q0 q1 F x M h]) H := hP
  have hD : va_D A (fl [outW cL qo z9.2, fW cI cP a0 aN aT aS t0 t1 t2 h0 h1 pa z9.1.1 z9.1.2.1 PS f u z9.1.2.2.1 z9.1.2.2.2.1 z9.1.2.2.2.2 k, mW cI o q0 q1 F x M h]) := hD
  refine lv_istore (lv' := [(5, .int k9), (0, .ref b), (1, .ref a0), (2, .ref o), (3, .ref qo), (4, .int (nI i))]) hx hb dL_law_725 hl (by decide) rfl (fun ls hl => ?_)
  refine lv_aload_n hx hb dL_law_727 rfl (lv_at hl 3 rfl) ?_
  refine law_arg hx hb hX hbl hbA hS (j := 1) (by omega) hL (lv_at hl 1 rfl) (lv_at hl 5 rfl) rfl dL_law_728 dL_law_729 dL_law_731 dL_law_732 dL_law_733 ?_
  refine law_arg hx hb hX hbl hbA hS (j := 2) (by omega) hL (lv_at hl 1 rfl) (lv_at hl 5 rfl) rfl dL_law_734 dL_law_735 dL_law_737 dL_law_738 dL_law_739 ?_
  refine k_modi (Wm := fun (w9 : (Nat → Int32) × (Nat → Int32)) => mW cI o q0 q1 w9.1 x w9.2 h) (va_runV (As := [.int (xs (i + 1)), .int (xs (i + 2))]) (rest := []) ⟨hx, hb, hml, hown, hts⟩ (mX7_swap l dC dI cI o q0 q1 F x M h (xs (i + 1)) (xs (i + 2)) hRW G9 L9 hRO vh hv6 hM1) (cwV 2 hts (gi_V u_1020 u_1021 u_1022 u_7 u_1023) rfl rfl rfl (by decide +kernel) ⟨Nat.le_of_ble_eq_true rfl, Nat.le_of_ble_eq_true rfl⟩) (pcM_V (ci := 5) (q0 := 0) (fl_at hP 2 rfl) (hK.sub (tys' := [(cI, .int)]) [0] rfl) hn (fl_D1 hD 2 rfl) rfl rfl) rfl rfl hl.1 rfl (lv_room (Nat.le_of_ble_eq_true rfl)) dL_law_740 ⟨(show cells + 3 + 0 ≤ 601024 by omega), (show slots + 18 + 0 ≤ 7293034 by omega)⟩) hP hD hS (fun _ => rfl) (fun b9 w9 H locs hm9 hP hD hS => ?_)
  have hP : va_P (dC, dI) vwCl (fl [outW cL qo z9.2, fW cI cP a0 aN aT aS t0 t1 t2 h0 h1 pa z9.1.1 z9.1.2.1 PS f u z9.1.2.2.1 z9.1.2.2.2.1 z9.1.2.2.2.2 k, mW cI o q0 q1 w9.1 x w9.2 h]) H := hP
  have hD : va_D A (fl [outW cL qo z9.2, fW cI cP a0 aN aT aS t0 t1 t2 h0 h1 pa z9.1.1 z9.1.2.1 PS f u z9.1.2.2.1 z9.1.2.2.2.1 z9.1.2.2.2.2 k, mW cI o q0 q1 w9.1 x w9.2 h]) := hD
  refine lv_istore (lv' := [(6, .int b9), (5, .int k9), (0, .ref b), (1, .ref a0), (2, .ref o), (3, .ref qo), (4, .int (nI i))]) hx hb dL_law_743 hl (by decide) rfl (fun ls hl => ?_)
  obtain ⟨s1, s2, s3⟩ := sx_swap (PT := PT) (fo := fo) hI hw9 hm9
  refine law_tail C0 hP hS hl s1 s2 (show cells + 3 ≤ 601024 by omega) (show slots + 18 ≤ 7293034 by omega) dL_law_745 dL_law_746 dL_law_749 dL_law_751 dL_law_756 dL_law_758 dL_law_761 dL_law_762 dL_law_763 dL_law_764 dL_law_766 dL_law_767 dL_law_768 dL_law_773 (by decide) (fun ls hl => ?_)
  exact W.widen (show cells + 3 ≤ cells + 3 by omega) (show slots + 18 ≤ slots + 18 by omega) (kk _ _ _ _ _ _ _ _ _ _ _ _ _ _ _ _ _ s3 hP hD hS hl)
set_option maxHeartbeats 4000000 in
set_option maxRecDepth 100000 in
theorem lc_append (hst : l.stackTraces = false) (C : LBd p s m c b L xs A dC dI cI cP cL qL qG) (hI : LI PN PS Ps oh vh k F M f u x) (hi : i + 4 ≤ L) (hL : L ≤ 2048) (hP : va_P (dC, dI) vwCl (fl [outW cL qo fo, fW cI cP a0 aN aT aS t0 t1 t2 h0 h1 pa PN PT PS f u Ps oh vh k, mW cI o q0 q1 F x M h]) H) (hD : va_D A (fl [outW cL qo fo, fW cI cP a0 aN aT aS t0 t1 t2 h0 h1 pa PN PT PS f u Ps oh vh k, mW cI o q0 q1 F x M h])) (hS : va_S A s.heap H locs) (hl : lv_has ls 9 [(0, .ref b), (1, .ref a0), (2, .ref o), (3, .ref qo), (4, .int (nI i))]) (hc : cells + 3 ≤ 601024) (hs : slots + 18 ≤ 7293034) (kk : NX p l e s m below meth c Q b i A dC dI cI cP cL qo a0 aN aT aS t0 t1 t2 h0 h1 pa o q0 q1 (cells + 3) (slots + 18)) : W p l e room_1 s m #[Value.ref b] below meth c H locs cells slots Q (F0 m 789 ls []) := by
  have C0 := C
  have hI0 := hI
  obtain ⟨hx, hb, hml, hown, hts, hX, hbl, hbA, hA, hK, hn, hXo, hN, hT⟩ := C
  obtain ⟨⟨⟨G9, T9, L9, hR9⟩, ⟨ho6, hv6, -⟩, hM1, -, -⟩, ⟨n9, hn9, hun, hM9, -⟩⟩ := hI0
  have hRO := hR9.wf.ro
  have hRW := hRO.1
  have hM3 : IN (M 3) 60 := ⟨n9, hn9, hM9⟩
  have hu9 : u = nI u.toNatClampNeg := by rw [hun, nI_clamp (by omega)]
  have hu8 : u.toNatClampNeg ≤ 60 := by rw [hun, nI_clamp (by omega)]; exact hn9
  have hG9 : IN (PN 10 0) 16 := ⟨G9, hR9.wf.G16, hR9.pg⟩
  refine lv_aload_n hx hb dL_law_789 rfl (lv_at hl 1 rfl) ?_
  refine law_arg hx hb hX hbl hbA hS (j := 1) (by omega) hL (lv_at hl 0 rfl) (lv_at hl 4 rfl) rfl dL_law_790 dL_law_791 dL_law_793 dL_law_794 dL_law_795 ?_
  refine lv_aload_n hx hb dL_law_796 rfl (lv_at hl 3 rfl) ?_
  refine k_wrap (Wo := fun (z9 : ((Nat → Int32) × Int32) × (Nat → Int64)) => outW cL qo z9.2) (Wf := fun (z9 : ((Nat → Int32) × Int32) × (Nat → Int64)) => fW cI cP a0 aN aT aS t0 t1 t2 h0 h1 pa PN PT PS z9.1.1 z9.1.2 Ps oh vh k) (vx_runSX (As := [.ref a0, .int (xs (i + 1)), .ref qo]) (rest := []) ⟨hx, hb, hml, hown, hts⟩ (mL_append l hst dC dI cI cP cL qL qG qo fo a0 aN aT aS t0 t1 t2 h0 h1 pa PN PT PS f u Ps oh vh k (xs (i + 1))) (vx_cwSW 3 hts (gi_W u_684 u_685 u_0 u_686) rfl rfl rfl (by decide +kernel) ⟨Nat.le_of_ble_eq_true rfl, Nat.le_of_ble_eq_true rfl⟩) (pcW_S (fl_sub (wc := [outW cL qo fo, fW cI cP a0 aN aT aS t0 t1 t2 h0 h1 pa PN PT PS f u Ps oh vh k]) hP [0, 1] rfl) hK hn (fl_D (wc := [outW cL qo fo, fW cI cP a0 aN aT aS t0 t1 t2 h0 h1 pa PN PT PS f u Ps oh vh k]) hD [0, 1] (by decide) rfl) hXo hN hT hS) rfl rfl hl.1 rfl (lv_room (Nat.le_of_ble_eq_true rfl)) dL_law_797 ⟨(show cells + 1 ≤ 601024 by omega), (show slots + 6 ≤ 7293034 by omega)⟩) hP hD hS (fun _ => rfl) (fun _ => rfl) (fun k9 z9 H locs hw9 hP hD hS => ?_)
  have hP : va_P (dC, dI) vwCl (fl [outW cL qo z9.2, fW cI cP a0 aN aT aS t0 t1 t2 h0 h1 pa PN PT PS z9.1.1 z9.1.2 Ps oh vh k, mW cI o q0 q1 F x M h]) H := hP
  have hD : va_D A (fl [outW cL qo z9.2, fW cI cP a0 aN aT aS t0 t1 t2 h0 h1 pa PN PT PS z9.1.1 z9.1.2 Ps oh vh k, mW cI o q0 q1 F x M h]) := hD
  refine lv_istore (lv' := [(5, .int k9), (0, .ref b), (1, .ref a0), (2, .ref o), (3, .ref qo), (4, .int (nI i))]) hx hb dL_law_800 hl (by decide) rfl (fun ls hl => ?_)
  refine lv_aload_n hx hb dL_law_802 rfl (lv_at hl 3 rfl) ?_
  refine law_arg hx hb hX hbl hbA hS (j := 1) (by omega) hL (lv_at hl 1 rfl) (lv_at hl 5 rfl) rfl dL_law_803 dL_law_804 dL_law_806 dL_law_807 dL_law_808 ?_
  refine k_modi (Wm := fun (w9 : (Nat → Int32) × (Nat → Int32)) => mW cI o q0 q1 F w9.1 w9.2 h) (va_runV (As := [.int (xs (i + 1))]) (rest := []) ⟨hx, hb, hml, hown, hts⟩ (mX7_append l dC dI cI o q0 q1 F x M h (xs (i + 1)) hRW hM3) (cwV 1 hts (gi_V u_1044 u_1045 u_1046 u_7 u_1047) rfl rfl rfl (by decide +kernel) ⟨Nat.le_of_ble_eq_true rfl, Nat.le_of_ble_eq_true rfl⟩) (pcM_V (ci := 5) (q0 := 0) (fl_at hP 2 rfl) (hK.sub (tys' := [(cI, .int)]) [0] rfl) hn (fl_D1 hD 2 rfl) rfl rfl) rfl rfl hl.1 rfl (lv_room (Nat.le_of_ble_eq_true rfl)) dL_law_809 ⟨(show cells + 1 + 0 ≤ 601024 by omega), (show slots + 6 + 0 ≤ 7293034 by omega)⟩) hP hD hS (fun _ => rfl) (fun b9 w9 H locs hm9 hP hD hS => ?_)
  have hP : va_P (dC, dI) vwCl (fl [outW cL qo z9.2, fW cI cP a0 aN aT aS t0 t1 t2 h0 h1 pa PN PT PS z9.1.1 z9.1.2 Ps oh vh k, mW cI o q0 q1 F w9.1 w9.2 h]) H := hP
  have hD : va_D A (fl [outW cL qo z9.2, fW cI cP a0 aN aT aS t0 t1 t2 h0 h1 pa PN PT PS z9.1.1 z9.1.2 Ps oh vh k, mW cI o q0 q1 F w9.1 w9.2 h]) := hD
  refine lv_istore (lv' := [(6, .int b9), (5, .int k9), (0, .ref b), (1, .ref a0), (2, .ref o), (3, .ref qo), (4, .int (nI i))]) hx hb dL_law_812 hl (by decide) rfl (fun ls hl => ?_)
  obtain ⟨s1, s2, s3⟩ := sx_append (PT := PT) (fo := fo) hI hw9 hm9
  refine law_tail C0 hP hS hl s1 s2 (show cells + 1 ≤ 601024 by omega) (show slots + 6 ≤ 7293034 by omega) dL_law_814 dL_law_815 dL_law_818 dL_law_820 dL_law_825 dL_law_827 dL_law_830 dL_law_831 dL_law_832 dL_law_833 dL_law_835 dL_law_836 dL_law_837 dL_law_842 (by decide) (fun ls hl => ?_)
  exact W.widen (show cells + 1 ≤ cells + 3 by omega) (show slots + 6 ≤ slots + 18 by omega) (kk _ _ _ _ _ _ _ _ _ _ _ _ _ _ _ _ _ s3 hP hD hS hl)
set_option maxHeartbeats 4000000 in
set_option maxRecDepth 100000 in
theorem lc_seats (hst : l.stackTraces = false) (C : LBd p s m c b L xs A dC dI cI cP cL qL qG) (hI : LI PN PS Ps oh vh k F M f u x) (hi : i + 4 ≤ L) (hL : L ≤ 2048) (hP : va_P (dC, dI) vwCl (fl [outW cL qo fo, fW cI cP a0 aN aT aS t0 t1 t2 h0 h1 pa PN PT PS f u Ps oh vh k, mW cI o q0 q1 F x M h]) H) (hD : va_D A (fl [outW cL qo fo, fW cI cP a0 aN aT aS t0 t1 t2 h0 h1 pa PN PT PS f u Ps oh vh k, mW cI o q0 q1 F x M h])) (hS : va_S A s.heap H locs) (hl : lv_has ls 9 [(0, .ref b), (1, .ref a0), (2, .ref o), (3, .ref qo), (4, .int (nI i))]) (hc : cells + 3 ≤ 601024) (hs : slots + 18 ≤ 7293034) (kk : NX p l e s m below meth c Q b i A dC dI cI cP cL qo a0 aN aT aS t0 t1 t2 h0 h1 pa o q0 q1 (cells + 3) (slots + 18)) : W p l e room_1 s m #[Value.ref b] below meth c H locs cells slots Q (F0 m 871 ls []) := by
  have C0 := C
  have hI0 := hI
  obtain ⟨hx, hb, hml, hown, hts, hX, hbl, hbA, hA, hK, hn, hXo, hN, hT⟩ := C
  obtain ⟨⟨⟨G9, T9, L9, hR9⟩, ⟨ho6, hv6, -⟩, hM1, -, -⟩, ⟨n9, hn9, hun, hM9, -⟩⟩ := hI0
  have hRO := hR9.wf.ro
  have hRW := hRO.1
  have hM3 : IN (M 3) 60 := ⟨n9, hn9, hM9⟩
  have hu9 : u = nI u.toNatClampNeg := by rw [hun, nI_clamp (by omega)]
  have hu8 : u.toNatClampNeg ≤ 60 := by rw [hun, nI_clamp (by omega)]; exact hn9
  have hG9 : IN (PN 10 0) 16 := ⟨G9, hR9.wf.G16, hR9.pg⟩
  refine lv_aload_n hx hb dL_law_871 rfl (lv_at hl 1 rfl) ?_
  refine lv_aload_n hx hb dL_law_872 rfl (lv_at hl 3 rfl) ?_
  refine k_wrap (Wo := fun (z9 : (PV × (Nat → Int32) × Int32 × (Nat → PV) × Nat × Nat) × (Nat → Int64)) => outW cL qo z9.2) (Wf := fun (z9 : (PV × (Nat → Int32) × Int32 × (Nat → PV) × Nat × Nat) × (Nat → Int64)) => fW cI cP a0 aN aT aS t0 t1 t2 h0 h1 pa z9.1.1 PT PS z9.1.2.1 z9.1.2.2.1 z9.1.2.2.2.1 z9.1.2.2.2.2.1 z9.1.2.2.2.2.2 k) (vx_runSX (As := [.ref a0, .ref qo]) (rest := []) ⟨hx, hb, hml, hown, hts⟩ (mL_seats l hst dC dI cI cP cL qL qG qo fo a0 aN aT aS t0 t1 t2 h0 h1 pa PN PT PS f u Ps oh vh k ho6 hv6 hu9 hu8) (vx_cwSW 2 hts (gi_W u_694 u_695 u_0 u_696) rfl rfl rfl (by decide +kernel) ⟨Nat.le_of_ble_eq_true rfl, Nat.le_of_ble_eq_true rfl⟩) (pcW_S (fl_sub (wc := [outW cL qo fo, fW cI cP a0 aN aT aS t0 t1 t2 h0 h1 pa PN PT PS f u Ps oh vh k]) hP [0, 1] rfl) hK hn (fl_D (wc := [outW cL qo fo, fW cI cP a0 aN aT aS t0 t1 t2 h0 h1 pa PN PT PS f u Ps oh vh k]) hD [0, 1] (by decide) rfl) hXo hN hT hS) rfl rfl hl.1 rfl (lv_room (Nat.le_of_ble_eq_true rfl)) dL_law_873 ⟨(show cells + 1 ≤ 601024 by omega), (show slots + 6 ≤ 7293034 by omega)⟩) hP hD hS (fun _ => rfl) (fun _ => rfl) (fun k9 z9 H locs hw9 hP hD hS => ?_)
  have hP : va_P (dC, dI) vwCl (fl [outW cL qo z9.2, fW cI cP a0 aN aT aS t0 t1 t2 h0 h1 pa z9.1.1 PT PS z9.1.2.1 z9.1.2.2.1 z9.1.2.2.2.1 z9.1.2.2.2.2.1 z9.1.2.2.2.2.2 k, mW cI o q0 q1 F x M h]) H := hP
  have hD : va_D A (fl [outW cL qo z9.2, fW cI cP a0 aN aT aS t0 t1 t2 h0 h1 pa z9.1.1 PT PS z9.1.2.1 z9.1.2.2.1 z9.1.2.2.2.1 z9.1.2.2.2.2.1 z9.1.2.2.2.2.2 k, mW cI o q0 q1 F x M h]) := hD
  refine lv_istore (lv' := [(5, .int k9), (0, .ref b), (1, .ref a0), (2, .ref o), (3, .ref qo), (4, .int (nI i))]) hx hb dL_law_876 hl (by decide) rfl (fun ls hl => ?_)
  refine lv_aload_n hx hb dL_law_878 rfl (lv_at hl 3 rfl) ?_
  refine k_modi (Wm := fun (w9 : (Nat → Int32) × (Nat → Int32)) => mW cI o q0 q1 w9.1 x w9.2 h) (va_runV (As := []) (rest := []) ⟨hx, hb, hml, hown, hts⟩ (mX7_seats l dC dI cI o q0 q1 F x M h hRW G9 L9 hRO hM3 vh hv6 hM1) (cwV 0 hts (gi_V u_1080 u_1081 u_1082 u_7 u_1083) rfl rfl rfl (by decide +kernel) ⟨Nat.le_of_ble_eq_true rfl, Nat.le_of_ble_eq_true rfl⟩) (pcM_V (ci := 5) (q0 := 0) (fl_at hP 2 rfl) (hK.sub (tys' := [(cI, .int)]) [0] rfl) hn (fl_D1 hD 2 rfl) rfl rfl) rfl rfl hl.1 rfl (lv_room (Nat.le_of_ble_eq_true rfl)) dL_law_879 ⟨(show cells + 1 + 0 ≤ 601024 by omega), (show slots + 6 + 0 ≤ 7293034 by omega)⟩) hP hD hS (fun _ => rfl) (fun b9 w9 H locs hm9 hP hD hS => ?_)
  have hP : va_P (dC, dI) vwCl (fl [outW cL qo z9.2, fW cI cP a0 aN aT aS t0 t1 t2 h0 h1 pa z9.1.1 PT PS z9.1.2.1 z9.1.2.2.1 z9.1.2.2.2.1 z9.1.2.2.2.2.1 z9.1.2.2.2.2.2 k, mW cI o q0 q1 w9.1 x w9.2 h]) H := hP
  have hD : va_D A (fl [outW cL qo z9.2, fW cI cP a0 aN aT aS t0 t1 t2 h0 h1 pa z9.1.1 PT PS z9.1.2.1 z9.1.2.2.1 z9.1.2.2.2.1 z9.1.2.2.2.2.1 z9.1.2.2.2.2.2 k, mW cI o q0 q1 w9.1 x w9.2 h]) := hD
  refine lv_istore (lv' := [(6, .int b9), (5, .int k9), (0, .ref b), (1, .ref a0), (2, .ref o), (3, .ref qo), (4, .int (nI i))]) hx hb dL_law_882 hl (by decide) rfl (fun ls hl => ?_)
  obtain ⟨s1, s2, s3⟩ := sx_seats (PT := PT) (fo := fo) hI hw9 hm9
  refine law_tail C0 hP hS hl s1 s2 (show cells + 1 ≤ 601024 by omega) (show slots + 6 ≤ 7293034 by omega) dL_law_884 dL_law_885 dL_law_888 dL_law_890 dL_law_895 dL_law_897 dL_law_900 dL_law_901 dL_law_902 dL_law_903 dL_law_905 dL_law_906 dL_law_907 dL_law_912 (by decide) (fun ls hl => ?_)
  exact W.widen (show cells + 1 ≤ cells + 3 by omega) (show slots + 6 ≤ slots + 18 by omega) (kk _ _ _ _ _ _ _ _ _ _ _ _ _ _ _ _ _ s3 hP hD hS hl)
set_option maxHeartbeats 4000000 in
set_option maxRecDepth 100000 in
theorem lc_told (hst : l.stackTraces = false) (C : LBd p s m c b L xs A dC dI cI cP cL qL qG) (hI : LI PN PS Ps oh vh k F M f u x) (hi : i + 4 ≤ L) (hL : L ≤ 2048) (hP : va_P (dC, dI) vwCl (fl [outW cL qo fo, fW cI cP a0 aN aT aS t0 t1 t2 h0 h1 pa PN PT PS f u Ps oh vh k, mW cI o q0 q1 F x M h]) H) (hD : va_D A (fl [outW cL qo fo, fW cI cP a0 aN aT aS t0 t1 t2 h0 h1 pa PN PT PS f u Ps oh vh k, mW cI o q0 q1 F x M h])) (hS : va_S A s.heap H locs) (hl : lv_has ls 9 [(0, .ref b), (1, .ref a0), (2, .ref o), (3, .ref qo), (4, .int (nI i))]) (hc : cells + 3 ≤ 601024) (hs : slots + 18 ≤ 7293034) (kk : NX p l e s m below meth c Q b i A dC dI cI cP cL qo a0 aN aT aS t0 t1 t2 h0 h1 pa o q0 q1 (cells + 3) (slots + 18)) : W p l e room_1 s m #[Value.ref b] below meth c H locs cells slots Q (F0 m 915 ls []) := by
  have C0 := C
  have hI0 := hI
  obtain ⟨hx, hb, hml, hown, hts, hX, hbl, hbA, hA, hK, hn, hXo, hN, hT⟩ := C
  obtain ⟨⟨⟨G9, T9, L9, hR9⟩, ⟨ho6, hv6, -⟩, hM1, -, -⟩, ⟨n9, hn9, hun, hM9, -⟩⟩ := hI0
  have hRO := hR9.wf.ro
  have hRW := hRO.1
  have hM3 : IN (M 3) 60 := ⟨n9, hn9, hM9⟩
  have hu9 : u = nI u.toNatClampNeg := by rw [hun, nI_clamp (by omega)]
  have hu8 : u.toNatClampNeg ≤ 60 := by rw [hun, nI_clamp (by omega)]; exact hn9
  have hG9 : IN (PN 10 0) 16 := ⟨G9, hR9.wf.G16, hR9.pg⟩
  refine lv_aload_n hx hb dL_law_915 rfl (lv_at hl 1 rfl) ?_
  refine law_arg hx hb hX hbl hbA hS (j := 1) (by omega) hL (lv_at hl 0 rfl) (lv_at hl 4 rfl) rfl dL_law_916 dL_law_917 dL_law_919 dL_law_920 dL_law_921 ?_
  refine law_arg hx hb hX hbl hbA hS (j := 2) (by omega) hL (lv_at hl 0 rfl) (lv_at hl 4 rfl) rfl dL_law_922 dL_law_923 dL_law_925 dL_law_926 dL_law_927 ?_
  refine lv_aload_n hx hb dL_law_928 rfl (lv_at hl 3 rfl) ?_
  refine k_wrap (Wo := fun (z9 : (Unit) × (Nat → Int64)) => outW cL qo z9.2) (Wf := fun (z9 : (Unit) × (Nat → Int64)) => fW cI cP a0 aN aT aS t0 t1 t2 h0 h1 pa PN PT PS f u Ps oh vh k) (vx_runSX (As := [.ref a0, .int (xs (i + 1)), .int (xs (i + 2)), .ref qo]) (rest := []) ⟨hx, hb, hml, hown, hts⟩ (mL_told l hst dC dI cI cP cL qL qG qo fo a0 aN aT aS t0 t1 t2 h0 h1 pa PN PT PS f u Ps oh vh k (xs (i + 1)) (xs (i + 2))) (vx_cwSW 4 hts (gi_W u_727 u_728 u_0 u_729) rfl rfl rfl (by decide +kernel) ⟨Nat.le_of_ble_eq_true rfl, Nat.le_of_ble_eq_true rfl⟩) (pcW_S (fl_sub (wc := [outW cL qo fo, fW cI cP a0 aN aT aS t0 t1 t2 h0 h1 pa PN PT PS f u Ps oh vh k]) hP [0, 1] rfl) hK hn (fl_D (wc := [outW cL qo fo, fW cI cP a0 aN aT aS t0 t1 t2 h0 h1 pa PN PT PS f u Ps oh vh k]) hD [0, 1] (by decide) rfl) hXo hN hT hS) rfl rfl hl.1 rfl (lv_room (Nat.le_of_ble_eq_true rfl)) dL_law_929 ⟨(show cells + 2 ≤ 601024 by omega), (show slots + 12 ≤ 7293034 by omega)⟩) hP hD hS (fun _ => rfl) (fun _ => rfl) (fun k9 z9 H locs hw9 hP hD hS => ?_)
  have hP : va_P (dC, dI) vwCl (fl [outW cL qo z9.2, fW cI cP a0 aN aT aS t0 t1 t2 h0 h1 pa PN PT PS f u Ps oh vh k, mW cI o q0 q1 F x M h]) H := hP
  have hD : va_D A (fl [outW cL qo z9.2, fW cI cP a0 aN aT aS t0 t1 t2 h0 h1 pa PN PT PS f u Ps oh vh k, mW cI o q0 q1 F x M h]) := hD
  refine lv_istore (lv' := [(5, .int k9), (0, .ref b), (1, .ref a0), (2, .ref o), (3, .ref qo), (4, .int (nI i))]) hx hb dL_law_932 hl (by decide) rfl (fun ls hl => ?_)
  refine lv_aload_n hx hb dL_law_934 rfl (lv_at hl 3 rfl) ?_
  refine law_arg hx hb hX hbl hbA hS (j := 1) (by omega) hL (lv_at hl 1 rfl) (lv_at hl 5 rfl) rfl dL_law_935 dL_law_936 dL_law_938 dL_law_939 dL_law_940 ?_
  refine law_arg hx hb hX hbl hbA hS (j := 2) (by omega) hL (lv_at hl 1 rfl) (lv_at hl 5 rfl) rfl dL_law_941 dL_law_942 dL_law_944 dL_law_945 dL_law_946 ?_
  refine k_modi (Wm := fun (w9 : (Nat → Int32)) => mW cI o q0 q1 F x w9 h) (va_runV (As := [.int (xs (i + 1)), .int (xs (i + 2))]) (rest := []) ⟨hx, hb, hml, hown, hts⟩ (mX7_told l dC dI cI o q0 q1 F x M h (xs (i + 1)) (xs (i + 2)) hRW) (cwV 2 hts (gi_V u_1088 u_1089 u_1090 u_7 u_1091) rfl rfl rfl (by decide +kernel) ⟨Nat.le_of_ble_eq_true rfl, Nat.le_of_ble_eq_true rfl⟩) (pcM_V (ci := 5) (q0 := 0) (fl_at hP 2 rfl) (hK.sub (tys' := [(cI, .int)]) [0] rfl) hn (fl_D1 hD 2 rfl) rfl rfl) rfl rfl hl.1 rfl (lv_room (Nat.le_of_ble_eq_true rfl)) dL_law_947 ⟨(show cells + 2 + 0 ≤ 601024 by omega), (show slots + 12 + 0 ≤ 7293034 by omega)⟩) hP hD hS (fun _ => rfl) (fun b9 w9 H locs hm9 hP hD hS => ?_)
  have hP : va_P (dC, dI) vwCl (fl [outW cL qo z9.2, fW cI cP a0 aN aT aS t0 t1 t2 h0 h1 pa PN PT PS f u Ps oh vh k, mW cI o q0 q1 F x w9 h]) H := hP
  have hD : va_D A (fl [outW cL qo z9.2, fW cI cP a0 aN aT aS t0 t1 t2 h0 h1 pa PN PT PS f u Ps oh vh k, mW cI o q0 q1 F x w9 h]) := hD
  refine lv_istore (lv' := [(6, .int b9), (5, .int k9), (0, .ref b), (1, .ref a0), (2, .ref o), (3, .ref qo), (4, .int (nI i))]) hx hb dL_law_950 hl (by decide) rfl (fun ls hl => ?_)
  obtain ⟨s1, s2, s3⟩ := sx_told (PT := PT) (fo := fo) hI hw9 hm9
  refine law_tail C0 hP hS hl s1 s2 (show cells + 2 ≤ 601024 by omega) (show slots + 12 ≤ 7293034 by omega) dL_law_952 dL_law_953 dL_law_956 dL_law_958 dL_law_963 dL_law_965 dL_law_968 dL_law_969 dL_law_970 dL_law_971 dL_law_973 dL_law_974 dL_law_975 dL_law_980 (by decide) (fun ls hl => ?_)
  exact W.widen (show cells + 2 ≤ cells + 3 by omega) (show slots + 12 ≤ slots + 18 by omega) (kk _ _ _ _ _ _ _ _ _ _ _ _ _ _ _ _ _ s3 hP hD hS hl)
set_option maxHeartbeats 4000000 in
set_option maxRecDepth 100000 in
theorem lc_undo (hst : l.stackTraces = false) (C : LBd p s m c b L xs A dC dI cI cP cL qL qG) (hI : LI PN PS Ps oh vh k F M f u x) (hi : i + 4 ≤ L) (hL : L ≤ 2048) (hP : va_P (dC, dI) vwCl (fl [outW cL qo fo, fW cI cP a0 aN aT aS t0 t1 t2 h0 h1 pa PN PT PS f u Ps oh vh k, mW cI o q0 q1 F x M h]) H) (hD : va_D A (fl [outW cL qo fo, fW cI cP a0 aN aT aS t0 t1 t2 h0 h1 pa PN PT PS f u Ps oh vh k, mW cI o q0 q1 F x M h])) (hS : va_S A s.heap H locs) (hl : lv_has ls 9 [(0, .ref b), (1, .ref a0), (2, .ref o), (3, .ref qo), (4, .int (nI i))]) (hc : cells + 3 ≤ 601024) (hs : slots + 18 ≤ 7293034) (kk : NX p l e s m below meth c Q b i A dC dI cI cP cL qo a0 aN aT aS t0 t1 t2 h0 h1 pa o q0 q1 (cells + 3) (slots + 18)) : W p l e room_1 s m #[Value.ref b] below meth c H locs cells slots Q (F0 m 983 ls []) := by
  have C0 := C
  have hI0 := hI
  obtain ⟨hx, hb, hml, hown, hts, hX, hbl, hbA, hA, hK, hn, hXo, hN, hT⟩ := C
  obtain ⟨⟨⟨G9, T9, L9, hR9⟩, ⟨ho6, hv6, -⟩, hM1, -, -⟩, ⟨n9, hn9, hun, hM9, -⟩⟩ := hI0
  have hRO := hR9.wf.ro
  have hRW := hRO.1
  have hM3 : IN (M 3) 60 := ⟨n9, hn9, hM9⟩
  have hu9 : u = nI u.toNatClampNeg := by rw [hun, nI_clamp (by omega)]
  have hu8 : u.toNatClampNeg ≤ 60 := by rw [hun, nI_clamp (by omega)]; exact hn9
  have hG9 : IN (PN 10 0) 16 := ⟨G9, hR9.wf.G16, hR9.pg⟩
  refine lv_aload_n hx hb dL_law_983 rfl (lv_at hl 1 rfl) ?_
  refine lv_aload_n hx hb dL_law_984 rfl (lv_at hl 3 rfl) ?_
  refine k_wrap (Wo := fun (z9 : (PV × Nat) × (Nat → Int64)) => outW cL qo z9.2) (Wf := fun (z9 : (PV × Nat) × (Nat → Int64)) => fW cI cP a0 aN aT aS t0 t1 t2 h0 h1 pa z9.1.1 PT PS f u Ps oh z9.1.2 k) (vx_runSX (As := [.ref a0, .ref qo]) (rest := []) ⟨hx, hb, hml, hown, hts⟩ (mL_undo l hst dC dI cI cP cL qL qG qo fo a0 aN aT aS t0 t1 t2 h0 h1 pa PN PT PS f u Ps oh vh k ho6 hv6) (vx_cwSW 2 hts (gi_W u_741 u_742 u_0 u_743) rfl rfl rfl (by decide +kernel) ⟨Nat.le_of_ble_eq_true rfl, Nat.le_of_ble_eq_true rfl⟩) (pcW_S (fl_sub (wc := [outW cL qo fo, fW cI cP a0 aN aT aS t0 t1 t2 h0 h1 pa PN PT PS f u Ps oh vh k]) hP [0, 1] rfl) hK hn (fl_D (wc := [outW cL qo fo, fW cI cP a0 aN aT aS t0 t1 t2 h0 h1 pa PN PT PS f u Ps oh vh k]) hD [0, 1] (by decide) rfl) hXo hN hT hS) rfl rfl hl.1 rfl (lv_room (Nat.le_of_ble_eq_true rfl)) dL_law_985 ⟨(show cells + 1 ≤ 601024 by omega), (show slots + 6 ≤ 7293034 by omega)⟩) hP hD hS (fun _ => rfl) (fun _ => rfl) (fun k9 z9 H locs hw9 hP hD hS => ?_)
  have hP : va_P (dC, dI) vwCl (fl [outW cL qo z9.2, fW cI cP a0 aN aT aS t0 t1 t2 h0 h1 pa z9.1.1 PT PS f u Ps oh z9.1.2 k, mW cI o q0 q1 F x M h]) H := hP
  have hD : va_D A (fl [outW cL qo z9.2, fW cI cP a0 aN aT aS t0 t1 t2 h0 h1 pa z9.1.1 PT PS f u Ps oh z9.1.2 k, mW cI o q0 q1 F x M h]) := hD
  refine lv_istore (lv' := [(5, .int k9), (0, .ref b), (1, .ref a0), (2, .ref o), (3, .ref qo), (4, .int (nI i))]) hx hb dL_law_988 hl (by decide) rfl (fun ls hl => ?_)
  refine lv_aload_n hx hb dL_law_990 rfl (lv_at hl 3 rfl) ?_
  refine k_modi (Wm := fun (w9 : (Nat → Int32) × (Nat → Int32)) => mW cI o q0 q1 w9.1 x w9.2 h) (va_runV (As := []) (rest := []) ⟨hx, hb, hml, hown, hts⟩ (mX7_undo l dC dI cI o q0 q1 F x M h hRW vh hv6 hM1) (cwV 0 hts (gi_V u_1096 u_1097 u_1098 u_7 u_1099) rfl rfl rfl (by decide +kernel) ⟨Nat.le_of_ble_eq_true rfl, Nat.le_of_ble_eq_true rfl⟩) (pcM_V (ci := 5) (q0 := 0) (fl_at hP 2 rfl) (hK.sub (tys' := [(cI, .int)]) [0] rfl) hn (fl_D1 hD 2 rfl) rfl rfl) rfl rfl hl.1 rfl (lv_room (Nat.le_of_ble_eq_true rfl)) dL_law_991 ⟨(show cells + 1 + 0 ≤ 601024 by omega), (show slots + 6 + 0 ≤ 7293034 by omega)⟩) hP hD hS (fun _ => rfl) (fun b9 w9 H locs hm9 hP hD hS => ?_)
  have hP : va_P (dC, dI) vwCl (fl [outW cL qo z9.2, fW cI cP a0 aN aT aS t0 t1 t2 h0 h1 pa z9.1.1 PT PS f u Ps oh z9.1.2 k, mW cI o q0 q1 w9.1 x w9.2 h]) H := hP
  have hD : va_D A (fl [outW cL qo z9.2, fW cI cP a0 aN aT aS t0 t1 t2 h0 h1 pa z9.1.1 PT PS f u Ps oh z9.1.2 k, mW cI o q0 q1 w9.1 x w9.2 h]) := hD
  refine lv_istore (lv' := [(6, .int b9), (5, .int k9), (0, .ref b), (1, .ref a0), (2, .ref o), (3, .ref qo), (4, .int (nI i))]) hx hb dL_law_994 hl (by decide) rfl (fun ls hl => ?_)
  obtain ⟨s1, s2, s3⟩ := sx_undo (PT := PT) (fo := fo) hI hw9 hm9
  refine law_tail C0 hP hS hl s1 s2 (show cells + 1 ≤ 601024 by omega) (show slots + 6 ≤ 7293034 by omega) dL_law_996 dL_law_997 dL_law_1000 dL_law_1002 dL_law_1007 dL_law_1009 dL_law_1012 dL_law_1013 dL_law_1014 dL_law_1015 dL_law_1017 dL_law_1018 dL_law_1019 dL_law_1024 (by decide) (fun ls hl => ?_)
  exact W.widen (show cells + 1 ≤ cells + 3 by omega) (show slots + 6 ≤ slots + 18 by omega) (kk _ _ _ _ _ _ _ _ _ _ _ _ _ _ _ _ _ s3 hP hD hS hl)
set_option maxHeartbeats 4000000 in
set_option maxRecDepth 100000 in
theorem lc_restore (hst : l.stackTraces = false) (C : LBd p s m c b L xs A dC dI cI cP cL qL qG) (hI : LI PN PS Ps oh vh k F M f u x) (hi : i + 4 ≤ L) (hL : L ≤ 2048) (hP : va_P (dC, dI) vwCl (fl [outW cL qo fo, fW cI cP a0 aN aT aS t0 t1 t2 h0 h1 pa PN PT PS f u Ps oh vh k, mW cI o q0 q1 F x M h]) H) (hD : va_D A (fl [outW cL qo fo, fW cI cP a0 aN aT aS t0 t1 t2 h0 h1 pa PN PT PS f u Ps oh vh k, mW cI o q0 q1 F x M h])) (hS : va_S A s.heap H locs) (hl : lv_has ls 9 [(0, .ref b), (1, .ref a0), (2, .ref o), (3, .ref qo), (4, .int (nI i))]) (hc : cells + 3 ≤ 601024) (hs : slots + 18 ≤ 7293034) (kk : NX p l e s m below meth c Q b i A dC dI cI cP cL qo a0 aN aT aS t0 t1 t2 h0 h1 pa o q0 q1 (cells + 3) (slots + 18)) : W p l e room_1 s m #[Value.ref b] below meth c H locs cells slots Q (F0 m 1040 ls []) := by
  have C0 := C
  have hI0 := hI
  obtain ⟨hx, hb, hml, hown, hts, hX, hbl, hbA, hA, hK, hn, hXo, hN, hT⟩ := C
  obtain ⟨⟨⟨G9, T9, L9, hR9⟩, ⟨ho6, hv6, -⟩, hM1, -, -⟩, ⟨n9, hn9, hun, hM9, -⟩⟩ := hI0
  have hRO := hR9.wf.ro
  have hRW := hRO.1
  have hM3 : IN (M 3) 60 := ⟨n9, hn9, hM9⟩
  have hu9 : u = nI u.toNatClampNeg := by rw [hun, nI_clamp (by omega)]
  have hu8 : u.toNatClampNeg ≤ 60 := by rw [hun, nI_clamp (by omega)]; exact hn9
  have hG9 : IN (PN 10 0) 16 := ⟨G9, hR9.wf.G16, hR9.pg⟩
  refine lv_aload_n hx hb dL_law_1040 rfl (lv_at hl 1 rfl) ?_
  refine lv_aload_n hx hb dL_law_1041 rfl (lv_at hl 3 rfl) ?_
  refine k_wrap (Wo := fun (z9 : (PV × (Nat → PV) × Nat × Nat) × (Nat → Int64)) => outW cL qo z9.2) (Wf := fun (z9 : (PV × (Nat → PV) × Nat × Nat) × (Nat → Int64)) => fW cI cP a0 aN aT aS t0 t1 t2 h0 h1 pa z9.1.1 PT PS f u z9.1.2.1 z9.1.2.2.1 z9.1.2.2.2 k) (vx_runSX (As := [.ref a0, .ref qo]) (rest := []) ⟨hx, hb, hml, hown, hts⟩ (mL_restore l hst dC dI cI cP cL qL qG qo fo a0 aN aT aS t0 t1 t2 h0 h1 pa PN PT PS f u Ps oh vh k ho6 hv6) (vx_cwSW 2 hts (gi_W u_753 u_754 u_0 u_755) rfl rfl rfl (by decide +kernel) ⟨Nat.le_of_ble_eq_true rfl, Nat.le_of_ble_eq_true rfl⟩) (pcW_S (fl_sub (wc := [outW cL qo fo, fW cI cP a0 aN aT aS t0 t1 t2 h0 h1 pa PN PT PS f u Ps oh vh k]) hP [0, 1] rfl) hK hn (fl_D (wc := [outW cL qo fo, fW cI cP a0 aN aT aS t0 t1 t2 h0 h1 pa PN PT PS f u Ps oh vh k]) hD [0, 1] (by decide) rfl) hXo hN hT hS) rfl rfl hl.1 rfl (lv_room (Nat.le_of_ble_eq_true rfl)) dL_law_1042 ⟨(show cells + 1 ≤ 601024 by omega), (show slots + 6 ≤ 7293034 by omega)⟩) hP hD hS (fun _ => rfl) (fun _ => rfl) (fun k9 z9 H locs hw9 hP hD hS => ?_)
  have hP : va_P (dC, dI) vwCl (fl [outW cL qo z9.2, fW cI cP a0 aN aT aS t0 t1 t2 h0 h1 pa z9.1.1 PT PS f u z9.1.2.1 z9.1.2.2.1 z9.1.2.2.2 k, mW cI o q0 q1 F x M h]) H := hP
  have hD : va_D A (fl [outW cL qo z9.2, fW cI cP a0 aN aT aS t0 t1 t2 h0 h1 pa z9.1.1 PT PS f u z9.1.2.1 z9.1.2.2.1 z9.1.2.2.2 k, mW cI o q0 q1 F x M h]) := hD
  refine lv_istore (lv' := [(5, .int k9), (0, .ref b), (1, .ref a0), (2, .ref o), (3, .ref qo), (4, .int (nI i))]) hx hb dL_law_1045 hl (by decide) rfl (fun ls hl => ?_)
  refine lv_aload_n hx hb dL_law_1047 rfl (lv_at hl 3 rfl) ?_
  refine k_modi (Wm := fun (w9 : (Nat → Int32) × (Nat → Int32)) => mW cI o q0 q1 w9.1 x w9.2 h) (va_runV (As := []) (rest := []) ⟨hx, hb, hml, hown, hts⟩ (mX7_restore l dC dI cI o q0 q1 F x M h hRW vh hv6 hM1) (cwV 0 hts (gi_V u_1104 u_1105 u_1106 u_7 u_1107) rfl rfl rfl (by decide +kernel) ⟨Nat.le_of_ble_eq_true rfl, Nat.le_of_ble_eq_true rfl⟩) (pcM_V (ci := 5) (q0 := 0) (fl_at hP 2 rfl) (hK.sub (tys' := [(cI, .int)]) [0] rfl) hn (fl_D1 hD 2 rfl) rfl rfl) rfl rfl hl.1 rfl (lv_room (Nat.le_of_ble_eq_true rfl)) dL_law_1048 ⟨(show cells + 1 + 0 ≤ 601024 by omega), (show slots + 6 + 0 ≤ 7293034 by omega)⟩) hP hD hS (fun _ => rfl) (fun b9 w9 H locs hm9 hP hD hS => ?_)
  have hP : va_P (dC, dI) vwCl (fl [outW cL qo z9.2, fW cI cP a0 aN aT aS t0 t1 t2 h0 h1 pa z9.1.1 PT PS f u z9.1.2.1 z9.1.2.2.1 z9.1.2.2.2 k, mW cI o q0 q1 w9.1 x w9.2 h]) H := hP
  have hD : va_D A (fl [outW cL qo z9.2, fW cI cP a0 aN aT aS t0 t1 t2 h0 h1 pa z9.1.1 PT PS f u z9.1.2.1 z9.1.2.2.1 z9.1.2.2.2 k, mW cI o q0 q1 w9.1 x w9.2 h]) := hD
  refine lv_istore (lv' := [(6, .int b9), (5, .int k9), (0, .ref b), (1, .ref a0), (2, .ref o), (3, .ref qo), (4, .int (nI i))]) hx hb dL_law_1051 hl (by decide) rfl (fun ls hl => ?_)
  obtain ⟨s1, s2, s3⟩ := sx_restore (PT := PT) (fo := fo) hI hw9 hm9
  refine law_tail C0 hP hS hl s1 s2 (show cells + 1 ≤ 601024 by omega) (show slots + 6 ≤ 7293034 by omega) dL_law_1053 dL_law_1054 dL_law_1057 dL_law_1059 dL_law_1064 dL_law_1066 dL_law_1069 dL_law_1070 dL_law_1071 dL_law_1072 dL_law_1074 dL_law_1075 dL_law_1076 dL_law_1081 (by decide) (fun ls hl => ?_)
  exact W.widen (show cells + 1 ≤ cells + 3 by omega) (show slots + 6 ≤ slots + 18 by omega) (kk _ _ _ _ _ _ _ _ _ _ _ _ _ _ _ _ _ s3 hP hD hS hl)
set_option maxHeartbeats 4000000 in
set_option maxRecDepth 100000 in
theorem lc_guestOf (hst : l.stackTraces = false) (C : LBd p s m c b L xs A dC dI cI cP cL qL qG) (hI : LI PN PS Ps oh vh k F M f u x) (hi : i + 4 ≤ L) (hL : L ≤ 2048) (hP : va_P (dC, dI) vwCl (fl [outW cL qo fo, fW cI cP a0 aN aT aS t0 t1 t2 h0 h1 pa PN PT PS f u Ps oh vh k, mW cI o q0 q1 F x M h]) H) (hD : va_D A (fl [outW cL qo fo, fW cI cP a0 aN aT aS t0 t1 t2 h0 h1 pa PN PT PS f u Ps oh vh k, mW cI o q0 q1 F x M h])) (hS : va_S A s.heap H locs) (hl : lv_has ls 9 [(0, .ref b), (1, .ref a0), (2, .ref o), (3, .ref qo), (4, .int (nI i))]) (hc : cells + 3 ≤ 601024) (hs : slots + 18 ≤ 7293034) (kk : NX p l e s m below meth c Q b i A dC dI cI cP cL qo a0 aN aT aS t0 t1 t2 h0 h1 pa o q0 q1 (cells + 3) (slots + 18)) : W p l e room_1 s m #[Value.ref b] below meth c H locs cells slots Q (F0 m 1084 ls []) := by
  have C0 := C
  have hI0 := hI
  obtain ⟨hx, hb, hml, hown, hts, hX, hbl, hbA, hA, hK, hn, hXo, hN, hT⟩ := C
  obtain ⟨⟨⟨G9, T9, L9, hR9⟩, ⟨ho6, hv6, -⟩, hM1, -, -⟩, ⟨n9, hn9, hun, hM9, -⟩⟩ := hI0
  have hRO := hR9.wf.ro
  have hRW := hRO.1
  have hM3 : IN (M 3) 60 := ⟨n9, hn9, hM9⟩
  have hu9 : u = nI u.toNatClampNeg := by rw [hun, nI_clamp (by omega)]
  have hu8 : u.toNatClampNeg ≤ 60 := by rw [hun, nI_clamp (by omega)]; exact hn9
  have hG9 : IN (PN 10 0) 16 := ⟨G9, hR9.wf.G16, hR9.pg⟩
  refine lv_aload_n hx hb dL_law_1084 rfl (lv_at hl 1 rfl) ?_
  refine law_arg hx hb hX hbl hbA hS (j := 1) (by omega) hL (lv_at hl 0 rfl) (lv_at hl 4 rfl) rfl dL_law_1085 dL_law_1086 dL_law_1088 dL_law_1089 dL_law_1090 ?_
  refine law_arg hx hb hX hbl hbA hS (j := 2) (by omega) hL (lv_at hl 0 rfl) (lv_at hl 4 rfl) rfl dL_law_1091 dL_law_1092 dL_law_1094 dL_law_1095 dL_law_1096 ?_
  refine lv_aload_n hx hb dL_law_1097 rfl (lv_at hl 3 rfl) ?_
  refine k_wrap (Wo := fun (z9 : (Unit) × (Nat → Int64)) => outW cL qo z9.2) (Wf := fun (z9 : (Unit) × (Nat → Int64)) => fW cI cP a0 aN aT aS t0 t1 t2 h0 h1 pa PN PT PS f u Ps oh vh k) (vx_runSX (As := [.ref a0, .int (xs (i + 1)), .int (xs (i + 2)), .ref qo]) (rest := []) ⟨hx, hb, hml, hown, hts⟩ (mL_guestOf l hst dC dI cI cP cL qL qG qo fo a0 aN aT aS t0 t1 t2 h0 h1 pa PN PT PS f u Ps oh vh k (xs (i + 1)) (xs (i + 2))) (vx_cwSW 4 hts (gi_W u_761 u_762 u_0 u_763) rfl rfl rfl (by decide +kernel) ⟨Nat.le_of_ble_eq_true rfl, Nat.le_of_ble_eq_true rfl⟩) (pcW_S (fl_sub (wc := [outW cL qo fo, fW cI cP a0 aN aT aS t0 t1 t2 h0 h1 pa PN PT PS f u Ps oh vh k]) hP [0, 1] rfl) hK hn (fl_D (wc := [outW cL qo fo, fW cI cP a0 aN aT aS t0 t1 t2 h0 h1 pa PN PT PS f u Ps oh vh k]) hD [0, 1] (by decide) rfl) hXo hN hT hS) rfl rfl hl.1 rfl (lv_room (Nat.le_of_ble_eq_true rfl)) dL_law_1098 ⟨(show cells + 2 ≤ 601024 by omega), (show slots + 12 ≤ 7293034 by omega)⟩) hP hD hS (fun _ => rfl) (fun _ => rfl) (fun k9 z9 H locs hw9 hP hD hS => ?_)
  have hP : va_P (dC, dI) vwCl (fl [outW cL qo z9.2, fW cI cP a0 aN aT aS t0 t1 t2 h0 h1 pa PN PT PS f u Ps oh vh k, mW cI o q0 q1 F x M h]) H := hP
  have hD : va_D A (fl [outW cL qo z9.2, fW cI cP a0 aN aT aS t0 t1 t2 h0 h1 pa PN PT PS f u Ps oh vh k, mW cI o q0 q1 F x M h]) := hD
  refine lv_istore (lv' := [(5, .int k9), (0, .ref b), (1, .ref a0), (2, .ref o), (3, .ref qo), (4, .int (nI i))]) hx hb dL_law_1101 hl (by decide) rfl (fun ls hl => ?_)
  refine lv_aload_n hx hb dL_law_1103 rfl (lv_at hl 3 rfl) ?_
  refine law_arg hx hb hX hbl hbA hS (j := 1) (by omega) hL (lv_at hl 1 rfl) (lv_at hl 5 rfl) rfl dL_law_1104 dL_law_1105 dL_law_1107 dL_law_1108 dL_law_1109 ?_
  refine law_arg hx hb hX hbl hbA hS (j := 2) (by omega) hL (lv_at hl 1 rfl) (lv_at hl 5 rfl) rfl dL_law_1110 dL_law_1111 dL_law_1113 dL_law_1114 dL_law_1115 ?_
  refine k_modi (Wm := fun (w9 : (Nat → Int32)) => mW cI o q0 q1 F x w9 h) (va_runV (As := [.int (xs (i + 1)), .int (xs (i + 2))]) (rest := []) ⟨hx, hb, hml, hown, hts⟩ (mX7_guestOf l dC dI cI o q0 q1 F x M h (xs (i + 1)) (xs (i + 2)) hRW) (cwV 2 hts (gi_V u_1108 u_1109 u_1110 u_7 u_1111) rfl rfl rfl (by decide +kernel) ⟨Nat.le_of_ble_eq_true rfl, Nat.le_of_ble_eq_true rfl⟩) (pcM_V (ci := 5) (q0 := 0) (fl_at hP 2 rfl) (hK.sub (tys' := [(cI, .int)]) [0] rfl) hn (fl_D1 hD 2 rfl) rfl rfl) rfl rfl hl.1 rfl (lv_room (Nat.le_of_ble_eq_true rfl)) dL_law_1116 ⟨(show cells + 2 + 0 ≤ 601024 by omega), (show slots + 12 + 0 ≤ 7293034 by omega)⟩) hP hD hS (fun _ => rfl) (fun b9 w9 H locs hm9 hP hD hS => ?_)
  have hP : va_P (dC, dI) vwCl (fl [outW cL qo z9.2, fW cI cP a0 aN aT aS t0 t1 t2 h0 h1 pa PN PT PS f u Ps oh vh k, mW cI o q0 q1 F x w9 h]) H := hP
  have hD : va_D A (fl [outW cL qo z9.2, fW cI cP a0 aN aT aS t0 t1 t2 h0 h1 pa PN PT PS f u Ps oh vh k, mW cI o q0 q1 F x w9 h]) := hD
  refine lv_istore (lv' := [(6, .int b9), (5, .int k9), (0, .ref b), (1, .ref a0), (2, .ref o), (3, .ref qo), (4, .int (nI i))]) hx hb dL_law_1119 hl (by decide) rfl (fun ls hl => ?_)
  obtain ⟨s1, s2, s3⟩ := sx_guestOf (PT := PT) (fo := fo) hI hw9 hm9
  refine law_tail C0 hP hS hl s1 s2 (show cells + 2 ≤ 601024 by omega) (show slots + 12 ≤ 7293034 by omega) dL_law_1121 dL_law_1122 dL_law_1125 dL_law_1127 dL_law_1132 dL_law_1134 dL_law_1137 dL_law_1138 dL_law_1139 dL_law_1140 dL_law_1142 dL_law_1143 dL_law_1144 dL_law_1149 (by decide) (fun ls hl => ?_)
  exact W.widen (show cells + 2 ≤ cells + 3 by omega) (show slots + 12 ≤ slots + 18 by omega) (kk _ _ _ _ _ _ _ _ _ _ _ _ _ _ _ _ _ s3 hP hD hS hl)
set_option maxHeartbeats 4000000 in
set_option maxRecDepth 100000 in
theorem lc_tableOf (hst : l.stackTraces = false) (C : LBd p s m c b L xs A dC dI cI cP cL qL qG) (hI : LI PN PS Ps oh vh k F M f u x) (hi : i + 4 ≤ L) (hL : L ≤ 2048) (hP : va_P (dC, dI) vwCl (fl [outW cL qo fo, fW cI cP a0 aN aT aS t0 t1 t2 h0 h1 pa PN PT PS f u Ps oh vh k, mW cI o q0 q1 F x M h]) H) (hD : va_D A (fl [outW cL qo fo, fW cI cP a0 aN aT aS t0 t1 t2 h0 h1 pa PN PT PS f u Ps oh vh k, mW cI o q0 q1 F x M h])) (hS : va_S A s.heap H locs) (hl : lv_has ls 9 [(0, .ref b), (1, .ref a0), (2, .ref o), (3, .ref qo), (4, .int (nI i))]) (hc : cells + 3 ≤ 601024) (hs : slots + 18 ≤ 7293034) (kk : NX p l e s m below meth c Q b i A dC dI cI cP cL qo a0 aN aT aS t0 t1 t2 h0 h1 pa o q0 q1 (cells + 3) (slots + 18)) : W p l e room_1 s m #[Value.ref b] below meth c H locs cells slots Q (F0 m 1152 ls []) := by
  have C0 := C
  have hI0 := hI
  obtain ⟨hx, hb, hml, hown, hts, hX, hbl, hbA, hA, hK, hn, hXo, hN, hT⟩ := C
  obtain ⟨⟨⟨G9, T9, L9, hR9⟩, ⟨ho6, hv6, -⟩, hM1, -, -⟩, ⟨n9, hn9, hun, hM9, -⟩⟩ := hI0
  have hRO := hR9.wf.ro
  have hRW := hRO.1
  have hM3 : IN (M 3) 60 := ⟨n9, hn9, hM9⟩
  have hu9 : u = nI u.toNatClampNeg := by rw [hun, nI_clamp (by omega)]
  have hu8 : u.toNatClampNeg ≤ 60 := by rw [hun, nI_clamp (by omega)]; exact hn9
  have hG9 : IN (PN 10 0) 16 := ⟨G9, hR9.wf.G16, hR9.pg⟩
  refine lv_aload_n hx hb dL_law_1152 rfl (lv_at hl 1 rfl) ?_
  refine law_arg hx hb hX hbl hbA hS (j := 1) (by omega) hL (lv_at hl 0 rfl) (lv_at hl 4 rfl) rfl dL_law_1153 dL_law_1154 dL_law_1156 dL_law_1157 dL_law_1158 ?_
  refine law_arg hx hb hX hbl hbA hS (j := 2) (by omega) hL (lv_at hl 0 rfl) (lv_at hl 4 rfl) rfl dL_law_1159 dL_law_1160 dL_law_1162 dL_law_1163 dL_law_1164 ?_
  refine lv_aload_n hx hb dL_law_1165 rfl (lv_at hl 3 rfl) ?_
  refine k_wrap (Wo := fun (z9 : (Unit) × (Nat → Int64)) => outW cL qo z9.2) (Wf := fun (z9 : (Unit) × (Nat → Int64)) => fW cI cP a0 aN aT aS t0 t1 t2 h0 h1 pa PN PT PS f u Ps oh vh k) (vx_runSX (As := [.ref a0, .int (xs (i + 1)), .int (xs (i + 2)), .ref qo]) (rest := []) ⟨hx, hb, hml, hown, hts⟩ (mL_tableOf l hst dC dI cI cP cL qL qG qo fo a0 aN aT aS t0 t1 t2 h0 h1 pa PN PT PS f u Ps oh vh k (xs (i + 1)) (xs (i + 2))) (vx_cwSW 4 hts (gi_W u_769 u_770 u_0 u_771) rfl rfl rfl (by decide +kernel) ⟨Nat.le_of_ble_eq_true rfl, Nat.le_of_ble_eq_true rfl⟩) (pcW_S (fl_sub (wc := [outW cL qo fo, fW cI cP a0 aN aT aS t0 t1 t2 h0 h1 pa PN PT PS f u Ps oh vh k]) hP [0, 1] rfl) hK hn (fl_D (wc := [outW cL qo fo, fW cI cP a0 aN aT aS t0 t1 t2 h0 h1 pa PN PT PS f u Ps oh vh k]) hD [0, 1] (by decide) rfl) hXo hN hT hS) rfl rfl hl.1 rfl (lv_room (Nat.le_of_ble_eq_true rfl)) dL_law_1166 ⟨(show cells + 2 ≤ 601024 by omega), (show slots + 12 ≤ 7293034 by omega)⟩) hP hD hS (fun _ => rfl) (fun _ => rfl) (fun k9 z9 H locs hw9 hP hD hS => ?_)
  have hP : va_P (dC, dI) vwCl (fl [outW cL qo z9.2, fW cI cP a0 aN aT aS t0 t1 t2 h0 h1 pa PN PT PS f u Ps oh vh k, mW cI o q0 q1 F x M h]) H := hP
  have hD : va_D A (fl [outW cL qo z9.2, fW cI cP a0 aN aT aS t0 t1 t2 h0 h1 pa PN PT PS f u Ps oh vh k, mW cI o q0 q1 F x M h]) := hD
  refine lv_istore (lv' := [(5, .int k9), (0, .ref b), (1, .ref a0), (2, .ref o), (3, .ref qo), (4, .int (nI i))]) hx hb dL_law_1169 hl (by decide) rfl (fun ls hl => ?_)
  refine lv_aload_n hx hb dL_law_1171 rfl (lv_at hl 3 rfl) ?_
  refine law_arg hx hb hX hbl hbA hS (j := 1) (by omega) hL (lv_at hl 1 rfl) (lv_at hl 5 rfl) rfl dL_law_1172 dL_law_1173 dL_law_1175 dL_law_1176 dL_law_1177 ?_
  refine law_arg hx hb hX hbl hbA hS (j := 2) (by omega) hL (lv_at hl 1 rfl) (lv_at hl 5 rfl) rfl dL_law_1178 dL_law_1179 dL_law_1181 dL_law_1182 dL_law_1183 ?_
  refine k_modi (Wm := fun (w9 : (Nat → Int32)) => mW cI o q0 q1 F x w9 h) (va_runV (As := [.int (xs (i + 1)), .int (xs (i + 2))]) (rest := []) ⟨hx, hb, hml, hown, hts⟩ (mX7_tableOf l dC dI cI o q0 q1 F x M h (xs (i + 1)) (xs (i + 2)) hRW) (cwV 2 hts (gi_V u_1116 u_1117 u_1118 u_7 u_1119) rfl rfl rfl (by decide +kernel) ⟨Nat.le_of_ble_eq_true rfl, Nat.le_of_ble_eq_true rfl⟩) (pcM_V (ci := 5) (q0 := 0) (fl_at hP 2 rfl) (hK.sub (tys' := [(cI, .int)]) [0] rfl) hn (fl_D1 hD 2 rfl) rfl rfl) rfl rfl hl.1 rfl (lv_room (Nat.le_of_ble_eq_true rfl)) dL_law_1184 ⟨(show cells + 2 + 0 ≤ 601024 by omega), (show slots + 12 + 0 ≤ 7293034 by omega)⟩) hP hD hS (fun _ => rfl) (fun b9 w9 H locs hm9 hP hD hS => ?_)
  have hP : va_P (dC, dI) vwCl (fl [outW cL qo z9.2, fW cI cP a0 aN aT aS t0 t1 t2 h0 h1 pa PN PT PS f u Ps oh vh k, mW cI o q0 q1 F x w9 h]) H := hP
  have hD : va_D A (fl [outW cL qo z9.2, fW cI cP a0 aN aT aS t0 t1 t2 h0 h1 pa PN PT PS f u Ps oh vh k, mW cI o q0 q1 F x w9 h]) := hD
  refine lv_istore (lv' := [(6, .int b9), (5, .int k9), (0, .ref b), (1, .ref a0), (2, .ref o), (3, .ref qo), (4, .int (nI i))]) hx hb dL_law_1187 hl (by decide) rfl (fun ls hl => ?_)
  obtain ⟨s1, s2, s3⟩ := sx_tableOf (PT := PT) (fo := fo) hI hw9 hm9
  refine law_tail C0 hP hS hl s1 s2 (show cells + 2 ≤ 601024 by omega) (show slots + 12 ≤ 7293034 by omega) dL_law_1189 dL_law_1190 dL_law_1193 dL_law_1195 dL_law_1200 dL_law_1202 dL_law_1205 dL_law_1206 dL_law_1207 dL_law_1208 dL_law_1210 dL_law_1211 dL_law_1212 dL_law_1217 (by decide) (fun ls hl => ?_)
  exact W.widen (show cells + 2 ≤ cells + 3 by omega) (show slots + 12 ≤ slots + 18 by omega) (kk _ _ _ _ _ _ _ _ _ _ _ _ _ _ _ _ _ s3 hP hD hS hl)
end LC422
