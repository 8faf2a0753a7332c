section LC423
variable {p : Program} {l : Launch} {e : Env} {s : State} {m : MethodId} {below : List Frame} {meth : Method} {c : Code} {Q : State → Prop} {b L i : Nat} {xs : Nat → Int32} {A : Nat → Prop} {dC : Nat → ClassId} {dI : Nat → Nat → Nat} {cI cP cL : ClassId} {qL qG qo a0 : Nat} {aN aT aS : Nat → Nat} {t0 t1 t2 h0 h1 : Nat} {pa : Nat → Nat → Nat} {o q0 q1 : Nat}
variable {fo : Nat → Int64} {PN PT PS : PV} {f : Nat → Int32} {u : Int32} {Ps : Nat → PV} {oh vh : Nat} {k : Int32} {F x M : Nat → Int32} {h : Int64} {H : Heap} {locs : List Loc} {ls : Array Slot} {cells slots : Nat}
set_option maxHeartbeats 4000000 in
set_option maxRecDepth 100000 in
theorem lc_who (hst : l.stackTraces = false) (C : LBd p s m c b L xs A dC dI cI cP cL qL qG) (hI : LI PN PS Ps oh vh k F M f u x) (hi : i + 4 ≤ L) (hL : L ≤ 2048) (hP : va_P (dC, dI) vwCl (fl [outW cL qo fo, fW cI cP a0 aN aT aS t0 t1 t2 h0 h1 pa PN PT PS f u Ps oh vh k, mW cI o q0 q1 F x M h]) H) (hD : va_D A (fl [outW cL qo fo, fW cI cP a0 aN aT aS t0 t1 t2 h0 h1 pa PN PT PS f u Ps oh vh k, mW cI o q0 q1 F x M h])) (hS : va_S A s.heap H locs) (hl : lv_has ls 9 [(0, .ref b), (1, .ref a0), (2, .ref o), (3, .ref qo), (4, .int (nI i))]) (hc : cells + 3 ≤ 601024) (hs : slots + 18 ≤ 7293034) (kk : NX p l e s m below meth c Q b i A dC dI cI cP cL qo a0 aN aT aS t0 t1 t2 h0 h1 pa o q0 q1 (cells + 3) (slots + 18)) : W p l e room_1 s m #[Value.ref b] below meth c H locs cells slots Q (F0 m 1220 ls []) := by
  have C0 := C
  have hI0 := hI
  obtain ⟨hx, hb, hml, hown, hts, hX, hbl, hbA, hA, hK, hn, hXo, hN, hT⟩ := C
  obtain ⟨⟨⟨G9, T9, L9, hR9⟩, ⟨ho6, hv6, -⟩, hM1, -, -⟩, ⟨n9, hn9, hun, hM9, -⟩⟩ := hI0
  have hRO := hR9.wf.ro
  have hRW := hRO.1
  have hM3 : IN (M 3) 60 := ⟨n9, hn9, hM9⟩
  have hu9 : u = nI u.toNatClampNeg := by rw [hun, nI_clamp (by omega)]
  have hu8 : u.toNatClampNeg ≤ 60 := by rw [hun, nI_clamp (by omega)]; exact hn9
  have hG9 : IN (PN 10 0) 16 := ⟨G9, hR9.wf.G16, hR9.pg⟩
  refine lv_aload_n hx hb dL_law_1220 rfl (lv_at hl 1 rfl) ?_
  refine law_arg hx hb hX hbl hbA hS (j := 1) (by omega) hL (lv_at hl 0 rfl) (lv_at hl 4 rfl) rfl dL_law_1221 dL_law_1222 dL_law_1224 dL_law_1225 dL_law_1226 ?_
  refine law_arg hx hb hX hbl hbA hS (j := 2) (by omega) hL (lv_at hl 0 rfl) (lv_at hl 4 rfl) rfl dL_law_1227 dL_law_1228 dL_law_1230 dL_law_1231 dL_law_1232 ?_
  refine lv_aload_n hx hb dL_law_1233 rfl (lv_at hl 3 rfl) ?_
  refine k_wrap (Wo := fun (z9 : (Unit) × (Nat → Int64)) => outW cL qo z9.2) (Wf := fun (z9 : (Unit) × (Nat → Int64)) => fW cI cP a0 aN aT aS t0 t1 t2 h0 h1 pa PN PT PS f u Ps oh vh k) (vx_runSX (As := [.ref a0, .int (xs (i + 1)), .int (xs (i + 2)), .ref qo]) (rest := []) ⟨hx, hb, hml, hown, hts⟩ (mL_who l hst dC dI cI cP cL qL qG qo fo a0 aN aT aS t0 t1 t2 h0 h1 pa PN PT PS f u Ps oh vh k (xs (i + 1)) (xs (i + 2))) (vx_cwSW 4 hts (gi_W u_777 u_778 u_0 u_779) rfl rfl rfl (by decide +kernel) ⟨Nat.le_of_ble_eq_true rfl, Nat.le_of_ble_eq_true rfl⟩) (pcW_S (fl_sub (wc := [outW cL qo fo, fW cI cP a0 aN aT aS t0 t1 t2 h0 h1 pa PN PT PS f u Ps oh vh k]) hP [0, 1] rfl) hK hn (fl_D (wc := [outW cL qo fo, fW cI cP a0 aN aT aS t0 t1 t2 h0 h1 pa PN PT PS f u Ps oh vh k]) hD [0, 1] (by decide) rfl) hXo hN hT hS) rfl rfl hl.1 rfl (lv_room (Nat.le_of_ble_eq_true rfl)) dL_law_1234 ⟨(show cells + 1 ≤ 601024 by omega), (show slots + 6 ≤ 7293034 by omega)⟩) hP hD hS (fun _ => rfl) (fun _ => rfl) (fun k9 z9 H locs hw9 hP hD hS => ?_)
  have hP : va_P (dC, dI) vwCl (fl [outW cL qo z9.2, fW cI cP a0 aN aT aS t0 t1 t2 h0 h1 pa PN PT PS f u Ps oh vh k, mW cI o q0 q1 F x M h]) H := hP
  have hD : va_D A (fl [outW cL qo z9.2, fW cI cP a0 aN aT aS t0 t1 t2 h0 h1 pa PN PT PS f u Ps oh vh k, mW cI o q0 q1 F x M h]) := hD
  refine lv_istore (lv' := [(5, .int k9), (0, .ref b), (1, .ref a0), (2, .ref o), (3, .ref qo), (4, .int (nI i))]) hx hb dL_law_1237 hl (by decide) rfl (fun ls hl => ?_)
  refine lv_aload_n hx hb dL_law_1239 rfl (lv_at hl 3 rfl) ?_
  refine law_arg hx hb hX hbl hbA hS (j := 1) (by omega) hL (lv_at hl 1 rfl) (lv_at hl 5 rfl) rfl dL_law_1240 dL_law_1241 dL_law_1243 dL_law_1244 dL_law_1245 ?_
  refine law_arg hx hb hX hbl hbA hS (j := 2) (by omega) hL (lv_at hl 1 rfl) (lv_at hl 5 rfl) rfl dL_law_1246 dL_law_1247 dL_law_1249 dL_law_1250 dL_law_1251 ?_
  refine k_modi (Wm := fun (w9 : (Nat → Int32)) => mW cI o q0 q1 F x w9 h) (va_runV (As := [.int (xs (i + 1)), .int (xs (i + 2))]) (rest := []) ⟨hx, hb, hml, hown, hts⟩ (mX7_who l dC dI cI o q0 q1 F x M h (xs (i + 1)) (xs (i + 2)) hRW) (cwV 2 hts (gi_V u_1124 u_1125 u_1126 u_7 u_1127) rfl rfl rfl (by decide +kernel) ⟨Nat.le_of_ble_eq_true rfl, Nat.le_of_ble_eq_true rfl⟩) (pcM_V (ci := 5) (q0 := 0) (fl_at hP 2 rfl) (hK.sub (tys' := [(cI, .int)]) [0] rfl) hn (fl_D1 hD 2 rfl) rfl rfl) rfl rfl hl.1 rfl (lv_room (Nat.le_of_ble_eq_true rfl)) dL_law_1252 ⟨(show cells + 1 + 0 ≤ 601024 by omega), (show slots + 6 + 0 ≤ 7293034 by omega)⟩) hP hD hS (fun _ => rfl) (fun b9 w9 H locs hm9 hP hD hS => ?_)
  have hP : va_P (dC, dI) vwCl (fl [outW cL qo z9.2, fW cI cP a0 aN aT aS t0 t1 t2 h0 h1 pa PN PT PS f u Ps oh vh k, mW cI o q0 q1 F x w9 h]) H := hP
  have hD : va_D A (fl [outW cL qo z9.2, fW cI cP a0 aN aT aS t0 t1 t2 h0 h1 pa PN PT PS f u Ps oh vh k, mW cI o q0 q1 F x w9 h]) := hD
  refine lv_istore (lv' := [(6, .int b9), (5, .int k9), (0, .ref b), (1, .ref a0), (2, .ref o), (3, .ref qo), (4, .int (nI i))]) hx hb dL_law_1255 hl (by decide) rfl (fun ls hl => ?_)
  obtain ⟨s1, s2, s3⟩ := sx_who (PT := PT) (fo := fo) hI hw9 hm9
  refine law_tail C0 hP hS hl s1 s2 (show cells + 1 ≤ 601024 by omega) (show slots + 6 ≤ 7293034 by omega) dL_law_1257 dL_law_1258 dL_law_1261 dL_law_1263 dL_law_1268 dL_law_1270 dL_law_1273 dL_law_1274 dL_law_1275 dL_law_1276 dL_law_1278 dL_law_1279 dL_law_1280 dL_law_1285 (by decide) (fun ls hl => ?_)
  exact W.widen (show cells + 1 ≤ cells + 3 by omega) (show slots + 6 ≤ slots + 18 by omega) (kk _ _ _ _ _ _ _ _ _ _ _ _ _ _ _ _ _ s3 hP hD hS hl)
set_option maxHeartbeats 4000000 in
set_option maxRecDepth 100000 in
theorem lc_seated (hst : l.stackTraces = false) (C : LBd p s m c b L xs A dC dI cI cP cL qL qG) (hI : LI PN PS Ps oh vh k F M f u x) (hi : i + 4 ≤ L) (hL : L ≤ 2048) (hP : va_P (dC, dI) vwCl (fl [outW cL qo fo, fW cI cP a0 aN aT aS t0 t1 t2 h0 h1 pa PN PT PS f u Ps oh vh k, mW cI o q0 q1 F x M h]) H) (hD : va_D A (fl [outW cL qo fo, fW cI cP a0 aN aT aS t0 t1 t2 h0 h1 pa PN PT PS f u Ps oh vh k, mW cI o q0 q1 F x M h])) (hS : va_S A s.heap H locs) (hl : lv_has ls 9 [(0, .ref b), (1, .ref a0), (2, .ref o), (3, .ref qo), (4, .int (nI i))]) (hc : cells + 3 ≤ 601024) (hs : slots + 18 ≤ 7293034) (kk : NX p l e s m below meth c Q b i A dC dI cI cP cL qo a0 aN aT aS t0 t1 t2 h0 h1 pa o q0 q1 (cells + 3) (slots + 18)) : W p l e room_1 s m #[Value.ref b] below meth c H locs cells slots Q (F0 m 1288 ls []) := by
  have C0 := C
  have hI0 := hI
  obtain ⟨hx, hb, hml, hown, hts, hX, hbl, hbA, hA, hK, hn, hXo, hN, hT⟩ := C
  obtain ⟨⟨⟨G9, T9, L9, hR9⟩, ⟨ho6, hv6, -⟩, hM1, -, -⟩, ⟨n9, hn9, hun, hM9, -⟩⟩ := hI0
  have hRO := hR9.wf.ro
  have hRW := hRO.1
  have hM3 : IN (M 3) 60 := ⟨n9, hn9, hM9⟩
  have hu9 : u = nI u.toNatClampNeg := by rw [hun, nI_clamp (by omega)]
  have hu8 : u.toNatClampNeg ≤ 60 := by rw [hun, nI_clamp (by omega)]; exact hn9
  have hG9 : IN (PN 10 0) 16 := ⟨G9, hR9.wf.G16, hR9.pg⟩
  refine lv_aload_n hx hb dL_law_1288 rfl (lv_at hl 1 rfl) ?_
  refine law_arg hx hb hX hbl hbA hS (j := 1) (by omega) hL (lv_at hl 0 rfl) (lv_at hl 4 rfl) rfl dL_law_1289 dL_law_1290 dL_law_1292 dL_law_1293 dL_law_1294 ?_
  refine lv_aload_n hx hb dL_law_1295 rfl (lv_at hl 3 rfl) ?_
  refine k_wrap (Wo := fun (z9 : (Unit) × (Nat → Int64)) => outW cL qo z9.2) (Wf := fun (z9 : (Unit) × (Nat → Int64)) => fW cI cP a0 aN aT aS t0 t1 t2 h0 h1 pa PN PT PS f u Ps oh vh k) (vx_runSX (As := [.ref a0, .int (xs (i + 1)), .ref qo]) (rest := []) ⟨hx, hb, hml, hown, hts⟩ (mL_seated l hst dC dI cI cP cL qL qG qo fo a0 aN aT aS t0 t1 t2 h0 h1 pa PN PT PS f u Ps oh vh k (xs (i + 1))) (vx_cwSW 3 hts (gi_W u_784 u_785 u_0 u_786) rfl rfl rfl (by decide +kernel) ⟨Nat.le_of_ble_eq_true rfl, Nat.le_of_ble_eq_true rfl⟩) (pcW_S (fl_sub (wc := [outW cL qo fo, fW cI cP a0 aN aT aS t0 t1 t2 h0 h1 pa PN PT PS f u Ps oh vh k]) hP [0, 1] rfl) hK hn (fl_D (wc := [outW cL qo fo, fW cI cP a0 aN aT aS t0 t1 t2 h0 h1 pa PN PT PS f u Ps oh vh k]) hD [0, 1] (by decide) rfl) hXo hN hT hS) rfl rfl hl.1 rfl (lv_room (Nat.le_of_ble_eq_true rfl)) dL_law_1296 ⟨(show cells + 1 ≤ 601024 by omega), (show slots + 6 ≤ 7293034 by omega)⟩) hP hD hS (fun _ => rfl) (fun _ => rfl) (fun k9 z9 H locs hw9 hP hD hS => ?_)
  have hP : va_P (dC, dI) vwCl (fl [outW cL qo z9.2, fW cI cP a0 aN aT aS t0 t1 t2 h0 h1 pa PN PT PS f u Ps oh vh k, mW cI o q0 q1 F x M h]) H := hP
  have hD : va_D A (fl [outW cL qo z9.2, fW cI cP a0 aN aT aS t0 t1 t2 h0 h1 pa PN PT PS f u Ps oh vh k, mW cI o q0 q1 F x M h]) := hD
  refine lv_istore (lv' := [(5, .int k9), (0, .ref b), (1, .ref a0), (2, .ref o), (3, .ref qo), (4, .int (nI i))]) hx hb dL_law_1299 hl (by decide) rfl (fun ls hl => ?_)
  refine lv_aload_n hx hb dL_law_1301 rfl (lv_at hl 3 rfl) ?_
  refine law_arg hx hb hX hbl hbA hS (j := 1) (by omega) hL (lv_at hl 1 rfl) (lv_at hl 5 rfl) rfl dL_law_1302 dL_law_1303 dL_law_1305 dL_law_1306 dL_law_1307 ?_
  refine k_modi (Wm := fun (w9 : (Nat → Int32)) => mW cI o q0 q1 F x w9 h) (va_runV (As := [.int (xs (i + 1))]) (rest := []) ⟨hx, hb, hml, hown, hts⟩ (mX7_seated l dC dI cI o q0 q1 F x M h (xs (i + 1)) hRW) (cwV 1 hts (gi_V u_1128 u_1129 u_1130 u_7 u_1131) rfl rfl rfl (by decide +kernel) ⟨Nat.le_of_ble_eq_true rfl, Nat.le_of_ble_eq_true rfl⟩) (pcM_V (ci := 5) (q0 := 0) (fl_at hP 2 rfl) (hK.sub (tys' := [(cI, .int)]) [0] rfl) hn (fl_D1 hD 2 rfl) rfl rfl) rfl rfl hl.1 rfl (lv_room (Nat.le_of_ble_eq_true rfl)) dL_law_1308 ⟨(show cells + 1 + 0 ≤ 601024 by omega), (show slots + 6 + 0 ≤ 7293034 by omega)⟩) hP hD hS (fun _ => rfl) (fun b9 w9 H locs hm9 hP hD hS => ?_)
  have hP : va_P (dC, dI) vwCl (fl [outW cL qo z9.2, fW cI cP a0 aN aT aS t0 t1 t2 h0 h1 pa PN PT PS f u Ps oh vh k, mW cI o q0 q1 F x w9 h]) H := hP
  have hD : va_D A (fl [outW cL qo z9.2, fW cI cP a0 aN aT aS t0 t1 t2 h0 h1 pa PN PT PS f u Ps oh vh k, mW cI o q0 q1 F x w9 h]) := hD
  refine lv_istore (lv' := [(6, .int b9), (5, .int k9), (0, .ref b), (1, .ref a0), (2, .ref o), (3, .ref qo), (4, .int (nI i))]) hx hb dL_law_1311 hl (by decide) rfl (fun ls hl => ?_)
  obtain ⟨s1, s2, s3⟩ := sx_seated (PT := PT) (fo := fo) hI hw9 hm9
  refine law_tail C0 hP hS hl s1 s2 (show cells + 1 ≤ 601024 by omega) (show slots + 6 ≤ 7293034 by omega) dL_law_1313 dL_law_1314 dL_law_1317 dL_law_1319 dL_law_1324 dL_law_1326 dL_law_1329 dL_law_1330 dL_law_1331 dL_law_1332 dL_law_1334 dL_law_1335 dL_law_1336 dL_law_1341 (by decide) (fun ls hl => ?_)
  exact W.widen (show cells + 1 ≤ cells + 3 by omega) (show slots + 6 ≤ slots + 18 by omega) (kk _ _ _ _ _ _ _ _ _ _ _ _ _ _ _ _ _ s3 hP hD hS hl)
set_option maxHeartbeats 4000000 in
set_option maxRecDepth 100000 in
theorem lc_feudAt (hst : l.stackTraces = false) (C : LBd p s m c b L xs A dC dI cI cP cL qL qG) (hI : LI PN PS Ps oh vh k F M f u x) (hi : i + 4 ≤ L) (hL : L ≤ 2048) (hP : va_P (dC, dI) vwCl (fl [outW cL qo fo, fW cI cP a0 aN aT aS t0 t1 t2 h0 h1 pa PN PT PS f u Ps oh vh k, mW cI o q0 q1 F x M h]) H) (hD : va_D A (fl [outW cL qo fo, fW cI cP a0 aN aT aS t0 t1 t2 h0 h1 pa PN PT PS f u Ps oh vh k, mW cI o q0 q1 F x M h])) (hS : va_S A s.heap H locs) (hl : lv_has ls 9 [(0, .ref b), (1, .ref a0), (2, .ref o), (3, .ref qo), (4, .int (nI i))]) (hc : cells + 3 ≤ 601024) (hs : slots + 18 ≤ 7293034) (kk : NX p l e s m below meth c Q b i A dC dI cI cP cL qo a0 aN aT aS t0 t1 t2 h0 h1 pa o q0 q1 (cells + 3) (slots + 18)) : W p l e room_1 s m #[Value.ref b] below meth c H locs cells slots Q (F0 m 1344 ls []) := by
  have C0 := C
  have hI0 := hI
  obtain ⟨hx, hb, hml, hown, hts, hX, hbl, hbA, hA, hK, hn, hXo, hN, hT⟩ := C
  obtain ⟨⟨⟨G9, T9, L9, hR9⟩, ⟨ho6, hv6, -⟩, hM1, -, -⟩, ⟨n9, hn9, hun, hM9, -⟩⟩ := hI0
  have hRO := hR9.wf.ro
  have hRW := hRO.1
  have hM3 : IN (M 3) 60 := ⟨n9, hn9, hM9⟩
  have hu9 : u = nI u.toNatClampNeg := by rw [hun, nI_clamp (by omega)]
  have hu8 : u.toNatClampNeg ≤ 60 := by rw [hun, nI_clamp (by omega)]; exact hn9
  have hG9 : IN (PN 10 0) 16 := ⟨G9, hR9.wf.G16, hR9.pg⟩
  refine lv_aload_n hx hb dL_law_1344 rfl (lv_at hl 1 rfl) ?_
  refine law_arg hx hb hX hbl hbA hS (j := 1) (by omega) hL (lv_at hl 0 rfl) (lv_at hl 4 rfl) rfl dL_law_1345 dL_law_1346 dL_law_1348 dL_law_1349 dL_law_1350 ?_
  refine lv_aload_n hx hb dL_law_1351 rfl (lv_at hl 3 rfl) ?_
  refine k_wrap (Wo := fun (z9 : (Unit) × (Nat → Int64)) => outW cL qo z9.2) (Wf := fun (z9 : (Unit) × (Nat → Int64)) => fW cI cP a0 aN aT aS t0 t1 t2 h0 h1 pa PN PT PS f u Ps oh vh k) (vx_runSX (As := [.ref a0, .int (xs (i + 1)), .ref qo]) (rest := []) ⟨hx, hb, hml, hown, hts⟩ (mL_feudAt l hst dC dI cI cP cL qL qG qo fo a0 aN aT aS t0 t1 t2 h0 h1 pa PN PT PS f u Ps oh vh k (xs (i + 1))) (vx_cwSW 3 hts (gi_W u_795 u_796 u_0 u_797) rfl rfl rfl (by decide +kernel) ⟨Nat.le_of_ble_eq_true rfl, Nat.le_of_ble_eq_true rfl⟩) (pcW_S (fl_sub (wc := [outW cL qo fo, fW cI cP a0 aN aT aS t0 t1 t2 h0 h1 pa PN PT PS f u Ps oh vh k]) hP [0, 1] rfl) hK hn (fl_D (wc := [outW cL qo fo, fW cI cP a0 aN aT aS t0 t1 t2 h0 h1 pa PN PT PS f u Ps oh vh k]) hD [0, 1] (by decide) rfl) hXo hN hT hS) rfl rfl hl.1 rfl (lv_room (Nat.le_of_ble_eq_true rfl)) dL_law_1352 ⟨(show cells + 1 ≤ 601024 by omega), (show slots + 6 ≤ 7293034 by omega)⟩) hP hD hS (fun _ => rfl) (fun _ => rfl) (fun k9 z9 H locs hw9 hP hD hS => ?_)
  have hP : va_P (dC, dI) vwCl (fl [outW cL qo z9.2, fW cI cP a0 aN aT aS t0 t1 t2 h0 h1 pa PN PT PS f u Ps oh vh k, mW cI o q0 q1 F x M h]) H := hP
  have hD : va_D A (fl [outW cL qo z9.2, fW cI cP a0 aN aT aS t0 t1 t2 h0 h1 pa PN PT PS f u Ps oh vh k, mW cI o q0 q1 F x M h]) := hD
  refine lv_istore (lv' := [(5, .int k9), (0, .ref b), (1, .ref a0), (2, .ref o), (3, .ref qo), (4, .int (nI i))]) hx hb dL_law_1355 hl (by decide) rfl (fun ls hl => ?_)
  refine lv_aload_n hx hb dL_law_1357 rfl (lv_at hl 3 rfl) ?_
  refine law_arg hx hb hX hbl hbA hS (j := 1) (by omega) hL (lv_at hl 1 rfl) (lv_at hl 5 rfl) rfl dL_law_1358 dL_law_1359 dL_law_1361 dL_law_1362 dL_law_1363 ?_
  refine k_modi (Wm := fun (w9 : (Nat → Int32)) => mW cI o q0 q1 F x w9 h) (va_runV (As := [.int (xs (i + 1))]) (rest := []) ⟨hx, hb, hml, hown, hts⟩ (mX7_feudAt l dC dI cI o q0 q1 F x M h (xs (i + 1)) hRW) (cwV 1 hts (gi_V u_1132 u_1133 u_1134 u_7 u_1135) rfl rfl rfl (by decide +kernel) ⟨Nat.le_of_ble_eq_true rfl, Nat.le_of_ble_eq_true rfl⟩) (pcM_V (ci := 5) (q0 := 0) (fl_at hP 2 rfl) (hK.sub (tys' := [(cI, .int)]) [0] rfl) hn (fl_D1 hD 2 rfl) rfl rfl) rfl rfl hl.1 rfl (lv_room (Nat.le_of_ble_eq_true rfl)) dL_law_1364 ⟨(show cells + 1 + 0 ≤ 601024 by omega), (show slots + 6 + 0 ≤ 7293034 by omega)⟩) hP hD hS (fun _ => rfl) (fun b9 w9 H locs hm9 hP hD hS => ?_)
  have hP : va_P (dC, dI) vwCl (fl [outW cL qo z9.2, fW cI cP a0 aN aT aS t0 t1 t2 h0 h1 pa PN PT PS f u Ps oh vh k, mW cI o q0 q1 F x w9 h]) H := hP
  have hD : va_D A (fl [outW cL qo z9.2, fW cI cP a0 aN aT aS t0 t1 t2 h0 h1 pa PN PT PS f u Ps oh vh k, mW cI o q0 q1 F x w9 h]) := hD
  refine lv_istore (lv' := [(6, .int b9), (5, .int k9), (0, .ref b), (1, .ref a0), (2, .ref o), (3, .ref qo), (4, .int (nI i))]) hx hb dL_law_1367 hl (by decide) rfl (fun ls hl => ?_)
  obtain ⟨s1, s2, s3⟩ := sx_feudAt (PT := PT) (fo := fo) hI hw9 hm9
  refine law_tail C0 hP hS hl s1 s2 (show cells + 1 ≤ 601024 by omega) (show slots + 6 ≤ 7293034 by omega) dL_law_1369 dL_law_1370 dL_law_1373 dL_law_1375 dL_law_1380 dL_law_1382 dL_law_1385 dL_law_1386 dL_law_1387 dL_law_1388 dL_law_1390 dL_law_1391 dL_law_1392 dL_law_1397 (by decide) (fun ls hl => ?_)
  exact W.widen (show cells + 1 ≤ cells + 3 by omega) (show slots + 6 ≤ slots + 18 by omega) (kk _ _ _ _ _ _ _ _ _ _ _ _ _ _ _ _ _ s3 hP hD hS hl)
set_option maxHeartbeats 4000000 in
set_option maxRecDepth 100000 in
theorem lc_count (hst : l.stackTraces = false) (C : LBd p s m c b L xs A dC dI cI cP cL qL qG) (hI : LI PN PS Ps oh vh k F M f u x) (hi : i + 4 ≤ L) (hL : L ≤ 2048) (hP : va_P (dC, dI) vwCl (fl [outW cL qo fo, fW cI cP a0 aN aT aS t0 t1 t2 h0 h1 pa PN PT PS f u Ps oh vh k, mW cI o q0 q1 F x M h]) H) (hD : va_D A (fl [outW cL qo fo, fW cI cP a0 aN aT aS t0 t1 t2 h0 h1 pa PN PT PS f u Ps oh vh k, mW cI o q0 q1 F x M h])) (hS : va_S A s.heap H locs) (hl : lv_has ls 9 [(0, .ref b), (1, .ref a0), (2, .ref o), (3, .ref qo), (4, .int (nI i))]) (hc : cells + 3 ≤ 601024) (hs : slots + 18 ≤ 7293034) (kk : NX p l e s m below meth c Q b i A dC dI cI cP cL qo a0 aN aT aS t0 t1 t2 h0 h1 pa o q0 q1 (cells + 3) (slots + 18)) : W p l e room_1 s m #[Value.ref b] below meth c H locs cells slots Q (F0 m 1400 ls []) := by
  have C0 := C
  have hI0 := hI
  obtain ⟨hx, hb, hml, hown, hts, hX, hbl, hbA, hA, hK, hn, hXo, hN, hT⟩ := C
  obtain ⟨⟨⟨G9, T9, L9, hR9⟩, ⟨ho6, hv6, -⟩, hM1, -, -⟩, ⟨n9, hn9, hun, hM9, -⟩⟩ := hI0
  have hRO := hR9.wf.ro
  have hRW := hRO.1
  have hM3 : IN (M 3) 60 := ⟨n9, hn9, hM9⟩
  have hu9 : u = nI u.toNatClampNeg := by rw [hun, nI_clamp (by omega)]
  have hu8 : u.toNatClampNeg ≤ 60 := by rw [hun, nI_clamp (by omega)]; exact hn9
  have hG9 : IN (PN 10 0) 16 := ⟨G9, hR9.wf.G16, hR9.pg⟩
  refine lv_aload_n hx hb dL_law_1400 rfl (lv_at hl 1 rfl) ?_
  refine law_arg hx hb hX hbl hbA hS (j := 1) (by omega) hL (lv_at hl 0 rfl) (lv_at hl 4 rfl) rfl dL_law_1401 dL_law_1402 dL_law_1404 dL_law_1405 dL_law_1406 ?_
  refine lv_aload_n hx hb dL_law_1407 rfl (lv_at hl 3 rfl) ?_
  refine k_wrap (Wo := fun (z9 : (Unit) × (Nat → Int64)) => outW cL qo z9.2) (Wf := fun (z9 : (Unit) × (Nat → Int64)) => fW cI cP a0 aN aT aS t0 t1 t2 h0 h1 pa PN PT PS f u Ps oh vh k) (vx_runSX (As := [.ref a0, .int (xs (i + 1)), .ref qo]) (rest := []) ⟨hx, hb, hml, hown, hts⟩ (mL_count l hst dC dI cI cP cL qL qG qo fo a0 aN aT aS t0 t1 t2 h0 h1 pa PN PT PS f u Ps oh vh k (xs (i + 1))) (vx_cwSW 3 hts (gi_W u_802 u_803 u_0 u_804) rfl rfl rfl (by decide +kernel) ⟨Nat.le_of_ble_eq_true rfl, Nat.le_of_ble_eq_true rfl⟩) (pcW_S (fl_sub (wc := [outW cL qo fo, fW cI cP a0 aN aT aS t0 t1 t2 h0 h1 pa PN PT PS f u Ps oh vh k]) hP [0, 1] rfl) hK hn (fl_D (wc := [outW cL qo fo, fW cI cP a0 aN aT aS t0 t1 t2 h0 h1 pa PN PT PS f u Ps oh vh k]) hD [0, 1] (by decide) rfl) hXo hN hT hS) rfl rfl hl.1 rfl (lv_room (Nat.le_of_ble_eq_true rfl)) dL_law_1408 ⟨(show cells + 1 ≤ 601024 by omega), (show slots + 6 ≤ 7293034 by omega)⟩) hP hD hS (fun _ => rfl) (fun _ => rfl) (fun k9 z9 H locs hw9 hP hD hS => ?_)
  have hP : va_P (dC, dI) vwCl (fl [outW cL qo z9.2, fW cI cP a0 aN aT aS t0 t1 t2 h0 h1 pa PN PT PS f u Ps oh vh k, mW cI o q0 q1 F x M h]) H := hP
  have hD : va_D A (fl [outW cL qo z9.2, fW cI cP a0 aN aT aS t0 t1 t2 h0 h1 pa PN PT PS f u Ps oh vh k, mW cI o q0 q1 F x M h]) := hD
  refine lv_istore (lv' := [(5, .int k9), (0, .ref b), (1, .ref a0), (2, .ref o), (3, .ref qo), (4, .int (nI i))]) hx hb dL_law_1411 hl (by decide) rfl (fun ls hl => ?_)
  refine lv_aload_n hx hb dL_law_1413 rfl (lv_at hl 3 rfl) ?_
  refine law_arg hx hb hX hbl hbA hS (j := 1) (by omega) hL (lv_at hl 1 rfl) (lv_at hl 5 rfl) rfl dL_law_1414 dL_law_1415 dL_law_1417 dL_law_1418 dL_law_1419 ?_
  refine k_modi (Wm := fun (w9 : (Nat → Int32)) => mW cI o q0 q1 F x w9 h) (va_runV (As := [.int (xs (i + 1))]) (rest := []) ⟨hx, hb, hml, hown, hts⟩ (mX7_count l dC dI cI o q0 q1 F x M h (xs (i + 1)) hRW) (cwV 1 hts (gi_V u_1136 u_1137 u_1138 u_7 u_1139) rfl rfl rfl (by decide +kernel) ⟨Nat.le_of_ble_eq_true rfl, Nat.le_of_ble_eq_true rfl⟩) (pcM_V (ci := 5) (q0 := 0) (fl_at hP 2 rfl) (hK.sub (tys' := [(cI, .int)]) [0] rfl) hn (fl_D1 hD 2 rfl) rfl rfl) rfl rfl hl.1 rfl (lv_room (Nat.le_of_ble_eq_true rfl)) dL_law_1420 ⟨(show cells + 1 + 0 ≤ 601024 by omega), (show slots + 6 + 0 ≤ 7293034 by omega)⟩) hP hD hS (fun _ => rfl) (fun b9 w9 H locs hm9 hP hD hS => ?_)
  have hP : va_P (dC, dI) vwCl (fl [outW cL qo z9.2, fW cI cP a0 aN aT aS t0 t1 t2 h0 h1 pa PN PT PS f u Ps oh vh k, mW cI o q0 q1 F x w9 h]) H := hP
  have hD : va_D A (fl [outW cL qo z9.2, fW cI cP a0 aN aT aS t0 t1 t2 h0 h1 pa PN PT PS f u Ps oh vh k, mW cI o q0 q1 F x w9 h]) := hD
  refine lv_istore (lv' := [(6, .int b9), (5, .int k9), (0, .ref b), (1, .ref a0), (2, .ref o), (3, .ref qo), (4, .int (nI i))]) hx hb dL_law_1423 hl (by decide) rfl (fun ls hl => ?_)
  obtain ⟨s1, s2, s3⟩ := sx_count (PT := PT) (fo := fo) hI hw9 hm9
  refine law_tail C0 hP hS hl s1 s2 (show cells + 1 ≤ 601024 by omega) (show slots + 6 ≤ 7293034 by omega) dL_law_1425 dL_law_1426 dL_law_1429 dL_law_1431 dL_law_1436 dL_law_1438 dL_law_1441 dL_law_1442 dL_law_1443 dL_law_1444 dL_law_1446 dL_law_1447 dL_law_1448 dL_law_1453 (by decide) (fun ls hl => ?_)
  exact W.widen (show cells + 1 ≤ cells + 3 by omega) (show slots + 6 ≤ slots + 18 by omega) (kk _ _ _ _ _ _ _ _ _ _ _ _ _ _ _ _ _ s3 hP hD hS hl)
set_option maxHeartbeats 4000000 in
set_option maxRecDepth 100000 in
theorem lc_whyNot (hst : l.stackTraces = false) (C : LBd p s m c b L xs A dC dI cI cP cL qL qG) (hI : LI PN PS Ps oh vh k F M f u x) (hi : i + 4 ≤ L) (hL : L ≤ 2048) (hP : va_P (dC, dI) vwCl (fl [outW cL qo fo, fW cI cP a0 aN aT aS t0 t1 t2 h0 h1 pa PN PT PS f u Ps oh vh k, mW cI o q0 q1 F x M h]) H) (hD : va_D A (fl [outW cL qo fo, fW cI cP a0 aN aT aS t0 t1 t2 h0 h1 pa PN PT PS f u Ps oh vh k, mW cI o q0 q1 F x M h])) (hS : va_S A s.heap H locs) (hl : lv_has ls 9 [(0, .ref b), (1, .ref a0), (2, .ref o), (3, .ref qo), (4, .int (nI i))]) (hc : cells + 3 ≤ 601024) (hs : slots + 18 ≤ 7293034) (kk : NX p l e s m below meth c Q b i A dC dI cI cP cL qo a0 aN aT aS t0 t1 t2 h0 h1 pa o q0 q1 (cells + 3) (slots + 18)) : W p l e room_1 s m #[Value.ref b] below meth c H locs cells slots Q (F0 m 1456 ls []) := by
  have C0 := C
  have hI0 := hI
  obtain ⟨hx, hb, hml, hown, hts, hX, hbl, hbA, hA, hK, hn, hXo, hN, hT⟩ := C
  obtain ⟨⟨⟨G9, T9, L9, hR9⟩, ⟨ho6, hv6, -⟩, hM1, -, -⟩, ⟨n9, hn9, hun, hM9, -⟩⟩ := hI0
  have hRO := hR9.wf.ro
  have hRW := hRO.1
  have hM3 : IN (M 3) 60 := ⟨n9, hn9, hM9⟩
  have hu9 : u = nI u.toNatClampNeg := by rw [hun, nI_clamp (by omega)]
  have hu8 : u.toNatClampNeg ≤ 60 := by rw [hun, nI_clamp (by omega)]; exact hn9
  have hG9 : IN (PN 10 0) 16 := ⟨G9, hR9.wf.G16, hR9.pg⟩
  refine lv_aload_n hx hb dL_law_1456 rfl (lv_at hl 1 rfl) ?_
  refine law_arg hx hb hX hbl hbA hS (j := 1) (by omega) hL (lv_at hl 0 rfl) (lv_at hl 4 rfl) rfl dL_law_1457 dL_law_1458 dL_law_1460 dL_law_1461 dL_law_1462 ?_
  refine law_arg hx hb hX hbl hbA hS (j := 2) (by omega) hL (lv_at hl 0 rfl) (lv_at hl 4 rfl) rfl dL_law_1463 dL_law_1464 dL_law_1466 dL_law_1467 dL_law_1468 ?_
  refine law_arg hx hb hX hbl hbA hS (j := 3) (by omega) hL (lv_at hl 0 rfl) (lv_at hl 4 rfl) rfl dL_law_1469 dL_law_1470 dL_law_1472 dL_law_1473 dL_law_1474 ?_
  refine lv_aload_n hx hb dL_law_1475 rfl (lv_at hl 3 rfl) ?_
  refine k_wrap (Wo := fun (z9 : (Unit) × (Nat → Int64)) => outW cL qo z9.2) (Wf := fun (z9 : (Unit) × (Nat → Int64)) => fW cI cP a0 aN aT aS t0 t1 t2 h0 h1 pa PN PT PS f u Ps oh vh k) (vx_runSX (As := [.ref a0, .int (xs (i + 1)), .int (xs (i + 2)), .int (xs (i + 3)), .ref qo]) (rest := []) ⟨hx, hb, hml, hown, hts⟩ (mL_whyNot l hst dC dI cI cP cL qL qG qo fo a0 aN aT aS t0 t1 t2 h0 h1 pa PN PT PS f u Ps oh vh k (xs (i + 1)) (xs (i + 2)) (xs (i + 3))) (vx_cwSW 5 hts (gi_W u_810 u_811 u_0 u_812) rfl rfl rfl (by decide +kernel) ⟨Nat.le_of_ble_eq_true rfl, Nat.le_of_ble_eq_true rfl⟩) (pcW_S (fl_sub (wc := [outW cL qo fo, fW cI cP a0 aN aT aS t0 t1 t2 h0 h1 pa PN PT PS f u Ps oh vh k]) hP [0, 1] rfl) hK hn (fl_D (wc := [outW cL qo fo, fW cI cP a0 aN aT aS t0 t1 t2 h0 h1 pa PN PT PS f u Ps oh vh k]) hD [0, 1] (by decide) rfl) hXo hN hT hS) rfl rfl hl.1 rfl (lv_room (Nat.le_of_ble_eq_true rfl)) dL_law_1476 ⟨(show cells + 2 ≤ 601024 by omega), (show slots + 12 ≤ 7293034 by omega)⟩) hP hD hS (fun _ => rfl) (fun _ => rfl) (fun k9 z9 H locs hw9 hP hD hS => ?_)
  have hP : va_P (dC, dI) vwCl (fl [outW cL qo z9.2, fW cI cP a0 aN aT aS t0 t1 t2 h0 h1 pa PN PT PS f u Ps oh vh k, mW cI o q0 q1 F x M h]) H := hP
  have hD : va_D A (fl [outW cL qo z9.2, fW cI cP a0 aN aT aS t0 t1 t2 h0 h1 pa PN PT PS f u Ps oh vh k, mW cI o q0 q1 F x M h]) := hD
  refine lv_istore (lv' := [(5, .int k9), (0, .ref b), (1, .ref a0), (2, .ref o), (3, .ref qo), (4, .int (nI i))]) hx hb dL_law_1479 hl (by decide) rfl (fun ls hl => ?_)
  refine lv_aload_n hx hb dL_law_1481 rfl (lv_at hl 3 rfl) ?_
  refine law_arg hx hb hX hbl hbA hS (j := 1) (by omega) hL (lv_at hl 1 rfl) (lv_at hl 5 rfl) rfl dL_law_1482 dL_law_1483 dL_law_1485 dL_law_1486 dL_law_1487 ?_
  refine law_arg hx hb hX hbl hbA hS (j := 2) (by omega) hL (lv_at hl 1 rfl) (lv_at hl 5 rfl) rfl dL_law_1488 dL_law_1489 dL_law_1491 dL_law_1492 dL_law_1493 ?_
  refine law_arg hx hb hX hbl hbA hS (j := 3) (by omega) hL (lv_at hl 1 rfl) (lv_at hl 5 rfl) rfl dL_law_1494 dL_law_1495 dL_law_1497 dL_law_1498 dL_law_1499 ?_
  refine k_modi (Wm := fun (w9 : (Nat → Int32)) => mW cI o q0 q1 F x w9 h) (va_runV (As := [.int (xs (i + 1)), .int (xs (i + 2)), .int (xs (i + 3))]) (rest := []) ⟨hx, hb, hml, hown, hts⟩ (mX7_whyNot l dC dI cI o q0 q1 F x M h (xs (i + 1)) (xs (i + 2)) (xs (i + 3)) hRW) (cwV 3 hts (gi_V u_1148 u_1149 u_1150 u_7 u_1151) rfl rfl rfl (by decide +kernel) ⟨Nat.le_of_ble_eq_true rfl, Nat.le_of_ble_eq_true rfl⟩) (pcM_V (ci := 5) (q0 := 0) (fl_at hP 2 rfl) (hK.sub (tys' := [(cI, .int)]) [0] rfl) hn (fl_D1 hD 2 rfl) rfl rfl) rfl rfl hl.1 rfl (lv_room (Nat.le_of_ble_eq_true rfl)) dL_law_1500 ⟨(show cells + 2 + 0 ≤ 601024 by omega), (show slots + 12 + 0 ≤ 7293034 by omega)⟩) hP hD hS (fun _ => rfl) (fun b9 w9 H locs hm9 hP hD hS => ?_)
  have hP : va_P (dC, dI) vwCl (fl [outW cL qo z9.2, fW cI cP a0 aN aT aS t0 t1 t2 h0 h1 pa PN PT PS f u Ps oh vh k, mW cI o q0 q1 F x w9 h]) H := hP
  have hD : va_D A (fl [outW cL qo z9.2, fW cI cP a0 aN aT aS t0 t1 t2 h0 h1 pa PN PT PS f u Ps oh vh k, mW cI o q0 q1 F x w9 h]) := hD
  refine lv_istore (lv' := [(6, .int b9), (5, .int k9), (0, .ref b), (1, .ref a0), (2, .ref o), (3, .ref qo), (4, .int (nI i))]) hx hb dL_law_1503 hl (by decide) rfl (fun ls hl => ?_)
  obtain ⟨s1, s2, s3⟩ := sx_whyNot (PT := PT) (fo := fo) hI hw9 hm9
  refine law_tail C0 hP hS hl s1 s2 (show cells + 2 ≤ 601024 by omega) (show slots + 12 ≤ 7293034 by omega) dL_law_1505 dL_law_1506 dL_law_1509 dL_law_1511 dL_law_1516 dL_law_1518 dL_law_1521 dL_law_1522 dL_law_1523 dL_law_1524 dL_law_1526 dL_law_1527 dL_law_1528 dL_law_1533 (by decide) (fun ls hl => ?_)
  exact W.widen (show cells + 2 ≤ cells + 3 by omega) (show slots + 12 ≤ slots + 18 by omega) (kk _ _ _ _ _ _ _ _ _ _ _ _ _ _ _ _ _ s3 hP hD hS hl)
set_option maxHeartbeats 4000000 in
set_option maxRecDepth 100000 in
theorem lc_ifSat (hst : l.stackTraces = false) (C : LBd p s m c b L xs A dC dI cI cP cL qL qG) (hI : LI PN PS Ps oh vh k F M f u x) (hi : i + 4 ≤ L) (hL : L ≤ 2048) (hP : va_P (dC, dI) vwCl (fl [outW cL qo fo, fW cI cP a0 aN aT aS t0 t1 t2 h0 h1 pa PN PT PS f u Ps oh vh k, mW cI o q0 q1 F x M h]) H) (hD : va_D A (fl [outW cL qo fo, fW cI cP a0 aN aT aS t0 t1 t2 h0 h1 pa PN PT PS f u Ps oh vh k, mW cI o q0 q1 F x M h])) (hS : va_S A s.heap H locs) (hl : lv_has ls 9 [(0, .ref b), (1, .ref a0), (2, .ref o), (3, .ref qo), (4, .int (nI i))]) (hc : cells + 3 ≤ 601024) (hs : slots + 18 ≤ 7293034) (kk : NX p l e s m below meth c Q b i A dC dI cI cP cL qo a0 aN aT aS t0 t1 t2 h0 h1 pa o q0 q1 (cells + 3) (slots + 18)) : W p l e room_1 s m #[Value.ref b] below meth c H locs cells slots Q (F0 m 1536 ls []) := by
  have C0 := C
  have hI0 := hI
  obtain ⟨hx, hb, hml, hown, hts, hX, hbl, hbA, hA, hK, hn, hXo, hN, hT⟩ := C
  obtain ⟨⟨⟨G9, T9, L9, hR9⟩, ⟨ho6, hv6, -⟩, hM1, -, -⟩, ⟨n9, hn9, hun, hM9, -⟩⟩ := hI0
  have hRO := hR9.wf.ro
  have hRW := hRO.1
  have hM3 : IN (M 3) 60 := ⟨n9, hn9, hM9⟩
  have hu9 : u = nI u.toNatClampNeg := by rw [hun, nI_clamp (by omega)]
  have hu8 : u.toNatClampNeg ≤ 60 := by rw [hun, nI_clamp (by omega)]; exact hn9
  have hG9 : IN (PN 10 0) 16 := ⟨G9, hR9.wf.G16, hR9.pg⟩
  refine lv_aload_n hx hb dL_law_1536 rfl (lv_at hl 1 rfl) ?_
  refine law_arg hx hb hX hbl hbA hS (j := 1) (by omega) hL (lv_at hl 0 rfl) (lv_at hl 4 rfl) rfl dL_law_1537 dL_law_1538 dL_law_1540 dL_law_1541 dL_law_1542 ?_
  refine law_arg hx hb hX hbl hbA hS (j := 2) (by omega) hL (lv_at hl 0 rfl) (lv_at hl 4 rfl) rfl dL_law_1543 dL_law_1544 dL_law_1546 dL_law_1547 dL_law_1548 ?_
  refine law_arg hx hb hX hbl hbA hS (j := 3) (by omega) hL (lv_at hl 0 rfl) (lv_at hl 4 rfl) rfl dL_law_1549 dL_law_1550 dL_law_1552 dL_law_1553 dL_law_1554 ?_
  refine lv_aload_n hx hb dL_law_1555 rfl (lv_at hl 3 rfl) ?_
  refine k_wrap (Wo := fun (z9 : (Unit) × (Nat → Int64)) => outW cL qo z9.2) (Wf := fun (z9 : (Unit) × (Nat → Int64)) => fW cI cP a0 aN aT aS t0 t1 t2 h0 h1 pa PN PT PS f u Ps oh vh k) (vx_runSX (As := [.ref a0, .int (xs (i + 1)), .int (xs (i + 2)), .int (xs (i + 3)), .ref qo]) (rest := []) ⟨hx, hb, hml, hown, hts⟩ (mL_ifSat l hst dC dI cI cP cL qL qG qo fo a0 aN aT aS t0 t1 t2 h0 h1 pa PN PT PS f u Ps oh vh k (xs (i + 1)) (xs (i + 2)) (xs (i + 3))) (vx_cwSW 5 hts (gi_W u_817 u_818 u_0 u_819) rfl rfl rfl (by decide +kernel) ⟨Nat.le_of_ble_eq_true rfl, Nat.le_of_ble_eq_true rfl⟩) (pcW_S (fl_sub (wc := [outW cL qo fo, fW cI cP a0 aN aT aS t0 t1 t2 h0 h1 pa PN PT PS f u Ps oh vh k]) hP [0, 1] rfl) hK hn (fl_D (wc := [outW cL qo fo, fW cI cP a0 aN aT aS t0 t1 t2 h0 h1 pa PN PT PS f u Ps oh vh k]) hD [0, 1] (by decide) rfl) hXo hN hT hS) rfl rfl hl.1 rfl (lv_room (Nat.le_of_ble_eq_true rfl)) dL_law_1556 ⟨(show cells + 2 ≤ 601024 by omega), (show slots + 12 ≤ 7293034 by omega)⟩) hP hD hS (fun _ => rfl) (fun _ => rfl) (fun k9 z9 H locs hw9 hP hD hS => ?_)
  have hP : va_P (dC, dI) vwCl (fl [outW cL qo z9.2, fW cI cP a0 aN aT aS t0 t1 t2 h0 h1 pa PN PT PS f u Ps oh vh k, mW cI o q0 q1 F x M h]) H := hP
  have hD : va_D A (fl [outW cL qo z9.2, fW cI cP a0 aN aT aS t0 t1 t2 h0 h1 pa PN PT PS f u Ps oh vh k, mW cI o q0 q1 F x M h]) := hD
  refine lv_istore (lv' := [(5, .int k9), (0, .ref b), (1, .ref a0), (2, .ref o), (3, .ref qo), (4, .int (nI i))]) hx hb dL_law_1559 hl (by decide) rfl (fun ls hl => ?_)
  refine lv_aload_n hx hb dL_law_1561 rfl (lv_at hl 3 rfl) ?_
  refine law_arg hx hb hX hbl hbA hS (j := 1) (by omega) hL (lv_at hl 1 rfl) (lv_at hl 5 rfl) rfl dL_law_1562 dL_law_1563 dL_law_1565 dL_law_1566 dL_law_1567 ?_
  refine law_arg hx hb hX hbl hbA hS (j := 2) (by omega) hL (lv_at hl 1 rfl) (lv_at hl 5 rfl) rfl dL_law_1568 dL_law_1569 dL_law_1571 dL_law_1572 dL_law_1573 ?_
  refine law_arg hx hb hX hbl hbA hS (j := 3) (by omega) hL (lv_at hl 1 rfl) (lv_at hl 5 rfl) rfl dL_law_1574 dL_law_1575 dL_law_1577 dL_law_1578 dL_law_1579 ?_
  refine k_modi (Wm := fun (w9 : (Nat → Int32)) => mW cI o q0 q1 F x w9 h) (va_runV (As := [.int (xs (i + 1)), .int (xs (i + 2)), .int (xs (i + 3))]) (rest := []) ⟨hx, hb, hml, hown, hts⟩ (mX7_ifSat l dC dI cI o q0 q1 F x M h (xs (i + 1)) (xs (i + 2)) (xs (i + 3)) hRW) (cwV 3 hts (gi_V u_1152 u_1153 u_1154 u_7 u_1155) rfl rfl rfl (by decide +kernel) ⟨Nat.le_of_ble_eq_true rfl, Nat.le_of_ble_eq_true rfl⟩) (pcM_V (ci := 5) (q0 := 0) (fl_at hP 2 rfl) (hK.sub (tys' := [(cI, .int)]) [0] rfl) hn (fl_D1 hD 2 rfl) rfl rfl) rfl rfl hl.1 rfl (lv_room (Nat.le_of_ble_eq_true rfl)) dL_law_1580 ⟨(show cells + 2 + 0 ≤ 601024 by omega), (show slots + 12 + 0 ≤ 7293034 by omega)⟩) hP hD hS (fun _ => rfl) (fun b9 w9 H locs hm9 hP hD hS => ?_)
  have hP : va_P (dC, dI) vwCl (fl [outW cL qo z9.2, fW cI cP a0 aN aT aS t0 t1 t2 h0 h1 pa PN PT PS f u Ps oh vh k, mW cI o q0 q1 F x w9 h]) H := hP
  have hD : va_D A (fl [outW cL qo z9.2, fW cI cP a0 aN aT aS t0 t1 t2 h0 h1 pa PN PT PS f u Ps oh vh k, mW cI o q0 q1 F x w9 h]) := hD
  refine lv_istore (lv' := [(6, .int b9), (5, .int k9), (0, .ref b), (1, .ref a0), (2, .ref o), (3, .ref qo), (4, .int (nI i))]) hx hb dL_law_1583 hl (by decide) rfl (fun ls hl => ?_)
  obtain ⟨s1, s2, s3⟩ := sx_ifSat (PT := PT) (fo := fo) hI hw9 hm9
  refine law_tail C0 hP hS hl s1 s2 (show cells + 2 ≤ 601024 by omega) (show slots + 12 ≤ 7293034 by omega) dL_law_1585 dL_law_1586 dL_law_1589 dL_law_1591 dL_law_1596 dL_law_1598 dL_law_1601 dL_law_1602 dL_law_1603 dL_law_1604 dL_law_1606 dL_law_1607 dL_law_1608 dL_law_1613 (by decide) (fun ls hl => ?_)
  exact W.widen (show cells + 2 ≤ cells + 3 by omega) (show slots + 12 ≤ slots + 18 by omega) (kk _ _ _ _ _ _ _ _ _ _ _ _ _ _ _ _ _ s3 hP hD hS hl)
set_option maxHeartbeats 4000000 in
set_option maxRecDepth 100000 in
theorem lc_bestSeat (hst : l.stackTraces = false) (C : LBd p s m c b L xs A dC dI cI cP cL qL qG) (hI : LI PN PS Ps oh vh k F M f u x) (hi : i + 4 ≤ L) (hL : L ≤ 2048) (hP : va_P (dC, dI) vwCl (fl [outW cL qo fo, fW cI cP a0 aN aT aS t0 t1 t2 h0 h1 pa PN PT PS f u Ps oh vh k, mW cI o q0 q1 F x M h]) H) (hD : va_D A (fl [outW cL qo fo, fW cI cP a0 aN aT aS t0 t1 t2 h0 h1 pa PN PT PS f u Ps oh vh k, mW cI o q0 q1 F x M h])) (hS : va_S A s.heap H locs) (hl : lv_has ls 9 [(0, .ref b), (1, .ref a0), (2, .ref o), (3, .ref qo), (4, .int (nI i))]) (hc : cells + 3 ≤ 601024) (hs : slots + 18 ≤ 7293034) (kk : NX p l e s m below meth c Q b i A dC dI cI cP cL qo a0 aN aT aS t0 t1 t2 h0 h1 pa o q0 q1 (cells + 3) (slots + 18)) : W p l e room_1 s m #[Value.ref b] below meth c H locs cells slots Q (F0 m 1616 ls []) := by
  have C0 := C
  have hI0 := hI
  obtain ⟨hx, hb, hml, hown, hts, hX, hbl, hbA, hA, hK, hn, hXo, hN, hT⟩ := C
  obtain ⟨⟨⟨G9, T9, L9, hR9⟩, ⟨ho6, hv6, -⟩, hM1, -, -⟩, ⟨n9, hn9, hun, hM9, -⟩⟩ := hI0
  have hRO := hR9.wf.ro
  have hRW := hRO.1
  have hM3 : IN (M 3) 60 := ⟨n9, hn9, hM9⟩
  have hu9 : u = nI u.toNatClampNeg := by rw [hun, nI_clamp (by omega)]
  have hu8 : u.toNatClampNeg ≤ 60 := by rw [hun, nI_clamp (by omega)]; exact hn9
  have hG9 : IN (PN 10 0) 16 := ⟨G9, hR9.wf.G16, hR9.pg⟩
  refine lv_aload_n hx hb dL_law_1616 rfl (lv_at hl 1 rfl) ?_
  refine law_arg hx hb hX hbl hbA hS (j := 1) (by omega) hL (lv_at hl 0 rfl) (lv_at hl 4 rfl) rfl dL_law_1617 dL_law_1618 dL_law_1620 dL_law_1621 dL_law_1622 ?_
  refine lv_aload_n hx hb dL_law_1623 rfl (lv_at hl 3 rfl) ?_
  refine k_wrap (Wo := fun (z9 : (Unit) × (Nat → Int64)) => outW cL qo z9.2) (Wf := fun (z9 : (Unit) × (Nat → Int64)) => fW cI cP a0 aN aT aS t0 t1 t2 h0 h1 pa PN PT PS f u Ps oh vh k) (vx_runSX (As := [.ref a0, .int (xs (i + 1)), .ref qo]) (rest := []) ⟨hx, hb, hml, hown, hts⟩ (mL_bestSeat l hst dC dI cI cP cL qL qG qo fo a0 aN aT aS t0 t1 t2 h0 h1 pa PN PT PS f u Ps oh vh k (xs (i + 1))) (vx_cwSW 3 hts (gi_W u_829 u_830 u_0 u_831) rfl rfl rfl (by decide +kernel) ⟨Nat.le_of_ble_eq_true rfl, Nat.le_of_ble_eq_true rfl⟩) (pcW_S (fl_sub (wc := [outW cL qo fo, fW cI cP a0 aN aT aS t0 t1 t2 h0 h1 pa PN PT PS f u Ps oh vh k]) hP [0, 1] rfl) hK hn (fl_D (wc := [outW cL qo fo, fW cI cP a0 aN aT aS t0 t1 t2 h0 h1 pa PN PT PS f u Ps oh vh k]) hD [0, 1] (by decide) rfl) hXo hN hT hS) rfl rfl hl.1 rfl (lv_room (Nat.le_of_ble_eq_true rfl)) dL_law_1624 ⟨(show cells + 1 ≤ 601024 by omega), (show slots + 6 ≤ 7293034 by omega)⟩) hP hD hS (fun _ => rfl) (fun _ => rfl) (fun k9 z9 H locs hw9 hP hD hS => ?_)
  have hP : va_P (dC, dI) vwCl (fl [outW cL qo z9.2, fW cI cP a0 aN aT aS t0 t1 t2 h0 h1 pa PN PT PS f u Ps oh vh k, mW cI o q0 q1 F x M h]) H := hP
  have hD : va_D A (fl [outW cL qo z9.2, fW cI cP a0 aN aT aS t0 t1 t2 h0 h1 pa PN PT PS f u Ps oh vh k, mW cI o q0 q1 F x M h]) := hD
  refine lv_istore (lv' := [(5, .int k9), (0, .ref b), (1, .ref a0), (2, .ref o), (3, .ref qo), (4, .int (nI i))]) hx hb dL_law_1627 hl (by decide) rfl (fun ls hl => ?_)
  refine lv_aload_n hx hb dL_law_1629 rfl (lv_at hl 3 rfl) ?_
  refine law_arg hx hb hX hbl hbA hS (j := 1) (by omega) hL (lv_at hl 1 rfl) (lv_at hl 5 rfl) rfl dL_law_1630 dL_law_1631 dL_law_1633 dL_law_1634 dL_law_1635 ?_
  refine k_modi (Wm := fun (w9 : (Nat → Int32)) => mW cI o q0 q1 F x w9 h) (va_runV (As := [.int (xs (i + 1))]) (rest := []) ⟨hx, hb, hml, hown, hts⟩ (mX7_bestSeat l dC dI cI o q0 q1 F x M h (xs (i + 1)) hRW) (cwV 1 hts (gi_V u_1156 u_1157 u_1158 u_7 u_1159) rfl rfl rfl (by decide +kernel) ⟨Nat.le_of_ble_eq_true rfl, Nat.le_of_ble_eq_true rfl⟩) (pcM_V (ci := 5) (q0 := 0) (fl_at hP 2 rfl) (hK.sub (tys' := [(cI, .int)]) [0] rfl) hn (fl_D1 hD 2 rfl) rfl rfl) rfl rfl hl.1 rfl (lv_room (Nat.le_of_ble_eq_true rfl)) dL_law_1636 ⟨(show cells + 1 + 0 ≤ 601024 by omega), (show slots + 6 + 0 ≤ 7293034 by omega)⟩) hP hD hS (fun _ => rfl) (fun b9 w9 H locs hm9 hP hD hS => ?_)
  have hP : va_P (dC, dI) vwCl (fl [outW cL qo z9.2, fW cI cP a0 aN aT aS t0 t1 t2 h0 h1 pa PN PT PS f u Ps oh vh k, mW cI o q0 q1 F x w9 h]) H := hP
  have hD : va_D A (fl [outW cL qo z9.2, fW cI cP a0 aN aT aS t0 t1 t2 h0 h1 pa PN PT PS f u Ps oh vh k, mW cI o q0 q1 F x w9 h]) := hD
  refine lv_istore (lv' := [(6, .int b9), (5, .int k9), (0, .ref b), (1, .ref a0), (2, .ref o), (3, .ref qo), (4, .int (nI i))]) hx hb dL_law_1639 hl (by decide) rfl (fun ls hl => ?_)
  obtain ⟨s1, s2, s3⟩ := sx_bestSeat (PT := PT) (fo := fo) hI hw9 hm9
  refine law_tail C0 hP hS hl s1 s2 (show cells + 1 ≤ 601024 by omega) (show slots + 6 ≤ 7293034 by omega) dL_law_1641 dL_law_1642 dL_law_1645 dL_law_1647 dL_law_1652 dL_law_1654 dL_law_1657 dL_law_1658 dL_law_1659 dL_law_1660 dL_law_1662 dL_law_1663 dL_law_1664 dL_law_1669 (by decide) (fun ls hl => ?_)
  exact W.widen (show cells + 1 ≤ cells + 3 by omega) (show slots + 6 ≤ slots + 18 by omega) (kk _ _ _ _ _ _ _ _ _ _ _ _ _ _ _ _ _ s3 hP hD hS hl)
set_option maxHeartbeats 4000000 in
set_option maxRecDepth 100000 in
theorem lc_ifFeud (hst : l.stackTraces = false) (C : LBd p s m c b L xs A dC dI cI cP cL qL qG) (hI : LI PN PS Ps oh vh k F M f u x) (hi : i + 4 ≤ L) (hL : L ≤ 2048) (hP : va_P (dC, dI) vwCl (fl [outW cL qo fo, fW cI cP a0 aN aT aS t0 t1 t2 h0 h1 pa PN PT PS f u Ps oh vh k, mW cI o q0 q1 F x M h]) H) (hD : va_D A (fl [outW cL qo fo, fW cI cP a0 aN aT aS t0 t1 t2 h0 h1 pa PN PT PS f u Ps oh vh k, mW cI o q0 q1 F x M h])) (hS : va_S A s.heap H locs) (hl : lv_has ls 9 [(0, .ref b), (1, .ref a0), (2, .ref o), (3, .ref qo), (4, .int (nI i))]) (hc : cells + 3 ≤ 601024) (hs : slots + 18 ≤ 7293034) (kk : NX p l e s m below meth c Q b i A dC dI cI cP cL qo a0 aN aT aS t0 t1 t2 h0 h1 pa o q0 q1 (cells + 3) (slots + 18)) : W p l e room_1 s m #[Value.ref b] below meth c H locs cells slots Q (F0 m 1672 ls []) := by
  have C0 := C
  have hI0 := hI
  obtain ⟨hx, hb, hml, hown, hts, hX, hbl, hbA, hA, hK, hn, hXo, hN, hT⟩ := C
  obtain ⟨⟨⟨G9, T9, L9, hR9⟩, ⟨ho6, hv6, -⟩, hM1, -, -⟩, ⟨n9, hn9, hun, hM9, -⟩⟩ := hI0
  have hRO := hR9.wf.ro
  have hRW := hRO.1
  have hM3 : IN (M 3) 60 := ⟨n9, hn9, hM9⟩
  have hu9 : u = nI u.toNatClampNeg := by rw [hun, nI_clamp (by omega)]
  have hu8 : u.toNatClampNeg ≤ 60 := by rw [hun, nI_clamp (by omega)]; exact hn9
  have hG9 : IN (PN 10 0) 16 := ⟨G9, hR9.wf.G16, hR9.pg⟩
  refine lv_aload_n hx hb dL_law_1672 rfl (lv_at hl 1 rfl) ?_
  refine law_arg hx hb hX hbl hbA hS (j := 1) (by omega) hL (lv_at hl 0 rfl) (lv_at hl 4 rfl) rfl dL_law_1673 dL_law_1674 dL_law_1676 dL_law_1677 dL_law_1678 ?_
  refine law_arg hx hb hX hbl hbA hS (j := 2) (by omega) hL (lv_at hl 0 rfl) (lv_at hl 4 rfl) rfl dL_law_1679 dL_law_1680 dL_law_1682 dL_law_1683 dL_law_1684 ?_
  refine lv_aload_n hx hb dL_law_1685 rfl (lv_at hl 3 rfl) ?_
  refine k_wrap (Wo := fun (z9 : (Unit) × (Nat → Int64)) => outW cL qo z9.2) (Wf := fun (z9 : (Unit) × (Nat → Int64)) => fW cI cP a0 aN aT aS t0 t1 t2 h0 h1 pa PN PT PS f u Ps oh vh k) (vx_runSX (As := [.ref a0, .int (xs (i + 1)), .int (xs (i + 2)), .ref qo]) (rest := []) ⟨hx, hb, hml, hown, hts⟩ (mL_ifFeud l hst dC dI cI cP cL qL qG qo fo a0 aN aT aS t0 t1 t2 h0 h1 pa PN PT PS f u Ps oh vh k (xs (i + 1)) (xs (i + 2))) (vx_cwSW 4 hts (gi_W u_836 u_837 u_0 u_838) rfl rfl rfl (by decide +kernel) ⟨Nat.le_of_ble_eq_true rfl, Nat.le_of_ble_eq_true rfl⟩) (pcW_S (fl_sub (wc := [outW cL qo fo, fW cI cP a0 aN aT aS t0 t1 t2 h0 h1 pa PN PT PS f u Ps oh vh k]) hP [0, 1] rfl) hK hn (fl_D (wc := [outW cL qo fo, fW cI cP a0 aN aT aS t0 t1 t2 h0 h1 pa PN PT PS f u Ps oh vh k]) hD [0, 1] (by decide) rfl) hXo hN hT hS) rfl rfl hl.1 rfl (lv_room (Nat.le_of_ble_eq_true rfl)) dL_law_1686 ⟨(show cells + 1 ≤ 601024 by omega), (show slots + 6 ≤ 7293034 by omega)⟩) hP hD hS (fun _ => rfl) (fun _ => rfl) (fun k9 z9 H locs hw9 hP hD hS => ?_)
  have hP : va_P (dC, dI) vwCl (fl [outW cL qo z9.2, fW cI cP a0 aN aT aS t0 t1 t2 h0 h1 pa PN PT PS f u Ps oh vh k, mW cI o q0 q1 F x M h]) H := hP
  have hD : va_D A (fl [outW cL qo z9.2, fW cI cP a0 aN aT aS t0 t1 t2 h0 h1 pa PN PT PS f u Ps oh vh k, mW cI o q0 q1 F x M h]) := hD
  refine lv_istore (lv' := [(5, .int k9), (0, .ref b), (1, .ref a0), (2, .ref o), (3, .ref qo), (4, .int (nI i))]) hx hb dL_law_1689 hl (by decide) rfl (fun ls hl => ?_)
  refine lv_aload_n hx hb dL_law_1691 rfl (lv_at hl 3 rfl) ?_
  refine law_arg hx hb hX hbl hbA hS (j := 1) (by omega) hL (lv_at hl 1 rfl) (lv_at hl 5 rfl) rfl dL_law_1692 dL_law_1693 dL_law_1695 dL_law_1696 dL_law_1697 ?_
  refine law_arg hx hb hX hbl hbA hS (j := 2) (by omega) hL (lv_at hl 1 rfl) (lv_at hl 5 rfl) rfl dL_law_1698 dL_law_1699 dL_law_1701 dL_law_1702 dL_law_1703 ?_
  refine k_modi (Wm := fun (w9 : (Nat → Int32)) => mW cI o q0 q1 F x w9 h) (va_runV (As := [.int (xs (i + 1)), .int (xs (i + 2))]) (rest := []) ⟨hx, hb, hml, hown, hts⟩ (mX7_ifFeud l dC dI cI o q0 q1 F x M h (xs (i + 1)) (xs (i + 2)) hRW) (cwV 2 hts (gi_V u_1160 u_1161 u_1162 u_7 u_1163) rfl rfl rfl (by decide +kernel) ⟨Nat.le_of_ble_eq_true rfl, Nat.le_of_ble_eq_true rfl⟩) (pcM_V (ci := 5) (q0 := 0) (fl_at hP 2 rfl) (hK.sub (tys' := [(cI, .int)]) [0] rfl) hn (fl_D1 hD 2 rfl) rfl rfl) rfl rfl hl.1 rfl (lv_room (Nat.le_of_ble_eq_true rfl)) dL_law_1704 ⟨(show cells + 1 + 0 ≤ 601024 by omega), (show slots + 6 + 0 ≤ 7293034 by omega)⟩) hP hD hS (fun _ => rfl) (fun b9 w9 H locs hm9 hP hD hS => ?_)
  have hP : va_P (dC, dI) vwCl (fl [outW cL qo z9.2, fW cI cP a0 aN aT aS t0 t1 t2 h0 h1 pa PN PT PS f u Ps oh vh k, mW cI o q0 q1 F x w9 h]) H := hP
  have hD : va_D A (fl [outW cL qo z9.2, fW cI cP a0 aN aT aS t0 t1 t2 h0 h1 pa PN PT PS f u Ps oh vh k, mW cI o q0 q1 F x w9 h]) := hD
  refine lv_istore (lv' := [(6, .int b9), (5, .int k9), (0, .ref b), (1, .ref a0), (2, .ref o), (3, .ref qo), (4, .int (nI i))]) hx hb dL_law_1707 hl (by decide) rfl (fun ls hl => ?_)
  obtain ⟨s1, s2, s3⟩ := sx_ifFeud (PT := PT) (fo := fo) hI hw9 hm9
  refine law_tail C0 hP hS hl s1 s2 (show cells + 1 ≤ 601024 by omega) (show slots + 6 ≤ 7293034 by omega) dL_law_1709 dL_law_1710 dL_law_1713 dL_law_1715 dL_law_1720 dL_law_1722 dL_law_1725 dL_law_1726 dL_law_1727 dL_law_1728 dL_law_1730 dL_law_1731 dL_law_1732 dL_law_1737 (by decide) (fun ls hl => ?_)
  exact W.widen (show cells + 1 ≤ cells + 3 by omega) (show slots + 6 ≤ slots + 18 by omega) (kk _ _ _ _ _ _ _ _ _ _ _ _ _ _ _ _ _ s3 hP hD hS hl)
set_option maxHeartbeats 4000000 in
set_option maxRecDepth 100000 in
theorem lc_ifSeated (hst : l.stackTraces = false) (C : LBd p s m c b L xs A dC dI cI cP cL qL qG) (hI : LI PN PS Ps oh vh k F M f u x) (hi : i + 4 ≤ L) (hL : L ≤ 2048) (hP : va_P (dC, dI) vwCl (fl [outW cL qo fo, fW cI cP a0 aN aT aS t0 t1 t2 h0 h1 pa PN PT PS f u Ps oh vh k, mW cI o q0 q1 F x M h]) H) (hD : va_D A (fl [outW cL qo fo, fW cI cP a0 aN aT aS t0 t1 t2 h0 h1 pa PN PT PS f u Ps oh vh k, mW cI o q0 q1 F x M h])) (hS : va_S A s.heap H locs) (hl : lv_has ls 9 [(0, .ref b), (1, .ref a0), (2, .ref o), (3, .ref qo), (4, .int (nI i))]) (hc : cells + 3 ≤ 601024) (hs : slots + 18 ≤ 7293034) (kk : NX p l e s m below meth c Q b i A dC dI cI cP cL qo a0 aN aT aS t0 t1 t2 h0 h1 pa o q0 q1 (cells + 3) (slots + 18)) : W p l e room_1 s m #[Value.ref b] below meth c H locs cells slots Q (F0 m 1740 ls []) := by
  have C0 := C
  have hI0 := hI
  obtain ⟨hx, hb, hml, hown, hts, hX, hbl, hbA, hA, hK, hn, hXo, hN, hT⟩ := C
  obtain ⟨⟨⟨G9, T9, L9, hR9⟩, ⟨ho6, hv6, -⟩, hM1, -, -⟩, ⟨n9, hn9, hun, hM9, -⟩⟩ := hI0
  have hRO := hR9.wf.ro
  have hRW := hRO.1
  have hM3 : IN (M 3) 60 := ⟨n9, hn9, hM9⟩
  have hu9 : u = nI u.toNatClampNeg := by rw [hun, nI_clamp (by omega)]
  have hu8 : u.toNatClampNeg ≤ 60 := by rw [hun, nI_clamp (by omega)]; exact hn9
  have hG9 : IN (PN 10 0) 16 := ⟨G9, hR9.wf.G16, hR9.pg⟩
  refine lv_aload_n hx hb dL_law_1740 rfl (lv_at hl 1 rfl) ?_
  refine law_arg hx hb hX hbl hbA hS (j := 1) (by omega) hL (lv_at hl 0 rfl) (lv_at hl 4 rfl) rfl dL_law_1741 dL_law_1742 dL_law_1744 dL_law_1745 dL_law_1746 ?_
  refine lv_aload_n hx hb dL_law_1747 rfl (lv_at hl 3 rfl) ?_
  refine k_wrap (Wo := fun (z9 : (PV) × (Nat → Int64)) => outW cL qo z9.2) (Wf := fun (z9 : (PV) × (Nat → Int64)) => fW cI cP a0 aN aT aS t0 t1 t2 h0 h1 pa PN z9.1 PS f u Ps oh vh k) (vx_runSX (As := [.ref a0, .int (xs (i + 1)), .ref qo]) (rest := []) ⟨hx, hb, hml, hown, hts⟩ (mL_ifSeated l hst dC dI cI cP cL qL qG qo fo a0 aN aT aS t0 t1 t2 h0 h1 pa PN PT PS f u Ps oh vh k (xs (i + 1))) (vx_cwSW 3 hts (gi_W u_843 u_844 u_0 u_845) rfl rfl rfl (by decide +kernel) ⟨Nat.le_of_ble_eq_true rfl, Nat.le_of_ble_eq_true rfl⟩) (pcW_S (fl_sub (wc := [outW cL qo fo, fW cI cP a0 aN aT aS t0 t1 t2 h0 h1 pa PN PT PS f u Ps oh vh k]) hP [0, 1] rfl) hK hn (fl_D (wc := [outW cL qo fo, fW cI cP a0 aN aT aS t0 t1 t2 h0 h1 pa PN PT PS f u Ps oh vh k]) hD [0, 1] (by decide) rfl) hXo hN hT hS) rfl rfl hl.1 rfl (lv_room (Nat.le_of_ble_eq_true rfl)) dL_law_1748 ⟨(show cells + 1 ≤ 601024 by omega), (show slots + 6 ≤ 7293034 by omega)⟩) hP hD hS (fun _ => rfl) (fun _ => rfl) (fun k9 z9 H locs hw9 hP hD hS => ?_)
  have hP : va_P (dC, dI) vwCl (fl [outW cL qo z9.2, fW cI cP a0 aN aT aS t0 t1 t2 h0 h1 pa PN z9.1 PS f u Ps oh vh k, mW cI o q0 q1 F x M h]) H := hP
  have hD : va_D A (fl [outW cL qo z9.2, fW cI cP a0 aN aT aS t0 t1 t2 h0 h1 pa PN z9.1 PS f u Ps oh vh k, mW cI o q0 q1 F x M h]) := hD
  refine lv_istore (lv' := [(5, .int k9), (0, .ref b), (1, .ref a0), (2, .ref o), (3, .ref qo), (4, .int (nI i))]) hx hb dL_law_1751 hl (by decide) rfl (fun ls hl => ?_)
  refine lv_aload_n hx hb dL_law_1753 rfl (lv_at hl 3 rfl) ?_
  refine law_arg hx hb hX hbl hbA hS (j := 1) (by omega) hL (lv_at hl 1 rfl) (lv_at hl 5 rfl) rfl dL_law_1754 dL_law_1755 dL_law_1757 dL_law_1758 dL_law_1759 ?_
  refine k_modi (Wm := fun (w9 : (Nat → Int32) × (Nat → Int32)) => mW cI o q0 q1 w9.1 x w9.2 h) (va_runV (As := [.int (xs (i + 1))]) (rest := []) ⟨hx, hb, hml, hown, hts⟩ (mX7_ifSeated l dC dI cI o q0 q1 F x M h (xs (i + 1)) hRW G9 L9 hRO) (cwV 1 hts (gi_V u_1172 u_1173 u_1174 u_7 u_1175) rfl rfl rfl (by decide +kernel) ⟨Nat.le_of_ble_eq_true rfl, Nat.le_of_ble_eq_true rfl⟩) (pcM_V (ci := 5) (q0 := 0) (fl_at hP 2 rfl) (hK.sub (tys' := [(cI, .int)]) [0] rfl) hn (fl_D1 hD 2 rfl) rfl rfl) rfl rfl hl.1 rfl (lv_room (Nat.le_of_ble_eq_true rfl)) dL_law_1760 ⟨(show cells + 1 + 0 ≤ 601024 by omega), (show slots + 6 + 0 ≤ 7293034 by omega)⟩) hP hD hS (fun _ => rfl) (fun b9 w9 H locs hm9 hP hD hS => ?_)
  have hP : va_P (dC, dI) vwCl (fl [outW cL qo z9.2, fW cI cP a0 aN aT aS t0 t1 t2 h0 h1 pa PN z9.1 PS f u Ps oh vh k, mW cI o q0 q1 w9.1 x w9.2 h]) H := hP
  have hD : va_D A (fl [outW cL qo z9.2, fW cI cP a0 aN aT aS t0 t1 t2 h0 h1 pa PN z9.1 PS f u Ps oh vh k, mW cI o q0 q1 w9.1 x w9.2 h]) := hD
  refine lv_istore (lv' := [(6, .int b9), (5, .int k9), (0, .ref b), (1, .ref a0), (2, .ref o), (3, .ref qo), (4, .int (nI i))]) hx hb dL_law_1763 hl (by decide) rfl (fun ls hl => ?_)
  obtain ⟨s1, s2, s3⟩ := sx_ifSeated (PT := PT) (fo := fo) hI hw9 hm9
  refine law_tail C0 hP hS hl s1 s2 (show cells + 1 ≤ 601024 by omega) (show slots + 6 ≤ 7293034 by omega) dL_law_1765 dL_law_1766 dL_law_1769 dL_law_1771 dL_law_1776 dL_law_1778 dL_law_1781 dL_law_1782 dL_law_1783 dL_law_1784 dL_law_1786 dL_law_1787 dL_law_1788 dL_law_1793 (by decide) (fun ls hl => ?_)
  exact W.widen (show cells + 1 ≤ cells + 3 by omega) (show slots + 6 ≤ slots + 18 by omega) (kk _ _ _ _ _ _ _ _ _ _ _ _ _ _ _ _ _ s3 hP hD hS hl)
end LC423
