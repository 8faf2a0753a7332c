/-! the law's cases. Mine. -/
/-- from a case's end on -/
def NX (p : Program) (l : Launch) (e : Env) (s : State) (m : MethodId) (below : List Frame) (meth : Method) (c : Code) (Q : State → Prop) (b i : Nat) (A : Nat → Prop) (dC : Nat → ClassId) (dI : Nat → Nat → Nat) (cI cP cL : ClassId) (qo a0 : Nat) (aN aT aS : Nat → Nat) (t0 t1 t2 h0 h1 : Nat) (pa : Nat → Nat → Nat) (o q0 q1 cells slots : Nat) : Prop :=
  ∀ (fo : Nat → Int64) (PN PT PS : PV) (f : Nat → Int32) (u : Int32) (Ps : Nat → PV) (oh vh : Nat) (k : Int32) (F x M : Nat → Int32) (h : Int64) (H : Heap) (locs : List Loc) (ls : Array Slot), LI PN PS Ps oh vh k F M f u x → va_P (dC, dI) vwCl (fl [outW cL qo fo, fW cI cP a0 aN aT aS t0 t1 t2 h0 h1 pa PN PT PS f u Ps oh vh k, mW cI o q0 q1 F x M h]) H → va_D A (fl [outW cL qo fo, fW cI cP a0 aN aT aS t0 t1 t2 h0 h1 pa PN PT PS f u Ps oh vh k, mW cI o q0 q1 F x M h]) → va_S A s.heap H locs → lv_has ls 9 [(0, .ref b), (1, .ref a0), (2, .ref o), (3, .ref qo), (4, .int (nI i))] → W p l e room_1 s m #[Value.ref b] below meth c H locs cells slots Q (F0 m 1851 ls [])
section LC421
variable {p : Program} {l : Launch} {e : Env} {s : State} {m : MethodId} {below : List Frame} {meth : Method} {c : Code} {Q : State → Prop} {b L i : Nat} {xs : Nat → Int32} {A : Nat → Prop} {dC : Nat → ClassId} {dI : Nat → Nat → Nat} {cI cP cL : ClassId} {qL qG qo a0 : Nat} {aN aT aS : Nat → Nat} {t0 t1 t2 h0 h1 : Nat} {pa : Nat → Nat → Nat} {o q0 q1 : Nat}
variable {fo : Nat → Int64} {PN PT PS : PV} {f : Nat → Int32} {u : Int32} {Ps : Nat → PV} {oh vh : Nat} {k : Int32} {F x M : Nat → Int32} {h : Int64} {H : Heap} {locs : List Loc} {ls : Array Slot} {cells slots : Nat}
set_option maxHeartbeats 4000000 in
set_option maxRecDepth 100000 in
theorem lc_guest (hst : l.stackTraces = false) (C : LBd p s m c b L xs A dC dI cI cP cL qL qG) (hI : LI PN PS Ps oh vh k F M f u x) (hi : i + 4 ≤ L) (hL : L ≤ 2048) (hP : va_P (dC, dI) vwCl (fl [outW cL qo fo, fW cI cP a0 aN aT aS t0 t1 t2 h0 h1 pa PN PT PS f u Ps oh vh k, mW cI o q0 q1 F x M h]) H) (hD : va_D A (fl [outW cL qo fo, fW cI cP a0 aN aT aS t0 t1 t2 h0 h1 pa PN PT PS f u Ps oh vh k, mW cI o q0 q1 F x M h])) (hS : va_S A s.heap H locs) (hl : lv_has ls 9 [(0, .ref b), (1, .ref a0), (2, .ref o), (3, .ref qo), (4, .int (nI i))]) (hc : cells + 3 ≤ 601024) (hs : slots + 18 ≤ 7293034) (kk : NX p l e s m below meth c Q b i A dC dI cI cP cL qo a0 aN aT aS t0 t1 t2 h0 h1 pa o q0 q1 (cells + 3) (slots + 18)) : W p l e room_1 s m #[Value.ref b] below meth c H locs cells slots Q (F0 m 176 ls []) := by
  have C0 := C
  have hI0 := hI
  obtain ⟨hx, hb, hml, hown, hts, hX, hbl, hbA, hA, hK, hn, hXo, hN, hT⟩ := C
  obtain ⟨⟨⟨G9, T9, L9, hR9⟩, ⟨ho6, hv6, -⟩, hM1, -, -⟩, ⟨n9, hn9, hun, hM9, -⟩⟩ := hI0
  have hRO := hR9.wf.ro
  have hRW := hRO.1
  have hM3 : IN (M 3) 60 := ⟨n9, hn9, hM9⟩
  have hu9 : u = nI u.toNatClampNeg := by rw [hun, nI_clamp (by omega)]
  have hu8 : u.toNatClampNeg ≤ 60 := by rw [hun, nI_clamp (by omega)]; exact hn9
  have hG9 : IN (PN 10 0) 16 := ⟨G9, hR9.wf.G16, hR9.pg⟩
  refine lv_aload_n hx hb dL_law_176 rfl (lv_at hl 1 rfl) ?_
  refine law_arg hx hb hX hbl hbA hS (j := 1) (by omega) hL (lv_at hl 0 rfl) (lv_at hl 4 rfl) rfl dL_law_177 dL_law_178 dL_law_180 dL_law_181 dL_law_182 ?_
  refine law_arg hx hb hX hbl hbA hS (j := 2) (by omega) hL (lv_at hl 0 rfl) (lv_at hl 4 rfl) rfl dL_law_183 dL_law_184 dL_law_186 dL_law_187 dL_law_188 ?_
  refine lv_aload_n hx hb dL_law_189 rfl (lv_at hl 3 rfl) ?_
  refine k_wrap (Wo := fun (z9 : (PV × (Nat → PV) × Nat × Nat) × (Nat → Int64)) => outW cL qo z9.2) (Wf := fun (z9 : (PV × (Nat → PV) × Nat × Nat) × (Nat → Int64)) => fW cI cP a0 aN aT aS t0 t1 t2 h0 h1 pa z9.1.1 PT PS f u z9.1.2.1 z9.1.2.2.1 z9.1.2.2.2 k) (vx_runSX (As := [.ref a0, .int (xs (i + 1)), .int (xs (i + 2)), .ref qo]) (rest := []) ⟨hx, hb, hml, hown, hts⟩ (mL_guest l hst dC dI cI cP cL qL qG qo fo a0 aN aT aS t0 t1 t2 h0 h1 pa PN PT PS f u Ps oh vh k (xs (i + 1)) (xs (i + 2)) ho6 hv6) (vx_cwSW 4 hts (gi_W u_439 u_440 u_0 u_441) rfl rfl rfl (by decide +kernel) ⟨Nat.le_of_ble_eq_true rfl, Nat.le_of_ble_eq_true rfl⟩) (pcW_S (fl_sub (wc := [outW cL qo fo, fW cI cP a0 aN aT aS t0 t1 t2 h0 h1 pa PN PT PS f u Ps oh vh k]) hP [0, 1] rfl) hK hn (fl_D (wc := [outW cL qo fo, fW cI cP a0 aN aT aS t0 t1 t2 h0 h1 pa PN PT PS f u Ps oh vh k]) hD [0, 1] (by decide) rfl) hXo hN hT hS) rfl rfl hl.1 rfl (lv_room (Nat.le_of_ble_eq_true rfl)) dL_law_190 ⟨(show cells + 1 ≤ 601024 by omega), (show slots + 6 ≤ 7293034 by omega)⟩) hP hD hS (fun _ => rfl) (fun _ => rfl) (fun k9 z9 H locs hw9 hP hD hS => ?_)
  have hP : va_P (dC, dI) vwCl (fl [outW cL qo z9.2, fW cI cP a0 aN aT aS t0 t1 t2 h0 h1 pa z9.1.1 PT PS f u z9.1.2.1 z9.1.2.2.1 z9.1.2.2.2 k, mW cI o q0 q1 F x M h]) H := hP
  have hD : va_D A (fl [outW cL qo z9.2, fW cI cP a0 aN aT aS t0 t1 t2 h0 h1 pa z9.1.1 PT PS f u z9.1.2.1 z9.1.2.2.1 z9.1.2.2.2 k, mW cI o q0 q1 F x M h]) := hD
  refine lv_istore (lv' := [(5, .int k9), (0, .ref b), (1, .ref a0), (2, .ref o), (3, .ref qo), (4, .int (nI i))]) hx hb dL_law_193 hl (by decide) rfl (fun ls hl => ?_)
  refine lv_aload_n hx hb dL_law_195 rfl (lv_at hl 3 rfl) ?_
  refine law_arg hx hb hX hbl hbA hS (j := 1) (by omega) hL (lv_at hl 1 rfl) (lv_at hl 5 rfl) rfl dL_law_196 dL_law_197 dL_law_199 dL_law_200 dL_law_201 ?_
  refine law_arg hx hb hX hbl hbA hS (j := 2) (by omega) hL (lv_at hl 1 rfl) (lv_at hl 5 rfl) rfl dL_law_202 dL_law_203 dL_law_205 dL_law_206 dL_law_207 ?_
  refine k_modi (Wm := fun (w9 : (Nat → Int32) × (Nat → Int32)) => mW cI o q0 q1 w9.1 x w9.2 h) (va_runV (As := [.int (xs (i + 1)), .int (xs (i + 2))]) (rest := []) ⟨hx, hb, hml, hown, hts⟩ (mX7_guest l dC dI cI o q0 q1 F x M h (xs (i + 1)) (xs (i + 2)) hRW vh hv6 hM1) (cwV 2 hts (gi_V u_898 u_899 u_900 u_7 u_901) rfl rfl rfl (by decide +kernel) ⟨Nat.le_of_ble_eq_true rfl, Nat.le_of_ble_eq_true rfl⟩) (pcM_V (ci := 5) (q0 := 0) (fl_at hP 2 rfl) (hK.sub (tys' := [(cI, .int)]) [0] rfl) hn (fl_D1 hD 2 rfl) rfl rfl) rfl rfl hl.1 rfl (lv_room (Nat.le_of_ble_eq_true rfl)) dL_law_208 ⟨(show cells + 1 + 0 ≤ 601024 by omega), (show slots + 6 + 0 ≤ 7293034 by omega)⟩) hP hD hS (fun _ => rfl) (fun b9 w9 H locs hm9 hP hD hS => ?_)
  have hP : va_P (dC, dI) vwCl (fl [outW cL qo z9.2, fW cI cP a0 aN aT aS t0 t1 t2 h0 h1 pa z9.1.1 PT PS f u z9.1.2.1 z9.1.2.2.1 z9.1.2.2.2 k, mW cI o q0 q1 w9.1 x w9.2 h]) H := hP
  have hD : va_D A (fl [outW cL qo z9.2, fW cI cP a0 aN aT aS t0 t1 t2 h0 h1 pa z9.1.1 PT PS f u z9.1.2.1 z9.1.2.2.1 z9.1.2.2.2 k, mW cI o q0 q1 w9.1 x w9.2 h]) := hD
  refine lv_istore (lv' := [(6, .int b9), (5, .int k9), (0, .ref b), (1, .ref a0), (2, .ref o), (3, .ref qo), (4, .int (nI i))]) hx hb dL_law_211 hl (by decide) rfl (fun ls hl => ?_)
  obtain ⟨s1, s2, s3⟩ := sx_guest (PT := PT) (fo := fo) hI hw9 hm9
  refine law_tail C0 hP hS hl s1 s2 (show cells + 1 ≤ 601024 by omega) (show slots + 6 ≤ 7293034 by omega) dL_law_213 dL_law_214 dL_law_217 dL_law_219 dL_law_224 dL_law_226 dL_law_229 dL_law_230 dL_law_231 dL_law_232 dL_law_234 dL_law_235 dL_law_236 dL_law_241 (by decide) (fun ls hl => ?_)
  exact W.widen (show cells + 1 ≤ cells + 3 by omega) (show slots + 6 ≤ slots + 18 by omega) (kk _ _ _ _ _ _ _ _ _ _ _ _ _ _ _ _ _ s3 hP hD hS hl)
set_option maxHeartbeats 4000000 in
set_option maxRecDepth 100000 in
theorem lc_wish (hst : l.stackTraces = false) (C : LBd p s m c b L xs A dC dI cI cP cL qL qG) (hI : LI PN PS Ps oh vh k F M f u x) (hi : i + 4 ≤ L) (hL : L ≤ 2048) (hP : va_P (dC, dI) vwCl (fl [outW cL qo fo, fW cI cP a0 aN aT aS t0 t1 t2 h0 h1 pa PN PT PS f u Ps oh vh k, mW cI o q0 q1 F x M h]) H) (hD : va_D A (fl [outW cL qo fo, fW cI cP a0 aN aT aS t0 t1 t2 h0 h1 pa PN PT PS f u Ps oh vh k, mW cI o q0 q1 F x M h])) (hS : va_S A s.heap H locs) (hl : lv_has ls 9 [(0, .ref b), (1, .ref a0), (2, .ref o), (3, .ref qo), (4, .int (nI i))]) (hc : cells + 3 ≤ 601024) (hs : slots + 18 ≤ 7293034) (kk : NX p l e s m below meth c Q b i A dC dI cI cP cL qo a0 aN aT aS t0 t1 t2 h0 h1 pa o q0 q1 (cells + 3) (slots + 18)) : W p l e room_1 s m #[Value.ref b] below meth c H locs cells slots Q (F0 m 244 ls []) := by
  have C0 := C
  have hI0 := hI
  obtain ⟨hx, hb, hml, hown, hts, hX, hbl, hbA, hA, hK, hn, hXo, hN, hT⟩ := C
  obtain ⟨⟨⟨G9, T9, L9, hR9⟩, ⟨ho6, hv6, -⟩, hM1, -, -⟩, ⟨n9, hn9, hun, hM9, -⟩⟩ := hI0
  have hRO := hR9.wf.ro
  have hRW := hRO.1
  have hM3 : IN (M 3) 60 := ⟨n9, hn9, hM9⟩
  have hu9 : u = nI u.toNatClampNeg := by rw [hun, nI_clamp (by omega)]
  have hu8 : u.toNatClampNeg ≤ 60 := by rw [hun, nI_clamp (by omega)]; exact hn9
  have hG9 : IN (PN 10 0) 16 := ⟨G9, hR9.wf.G16, hR9.pg⟩
  refine lv_aload_n hx hb dL_law_244 rfl (lv_at hl 1 rfl) ?_
  refine law_arg hx hb hX hbl hbA hS (j := 1) (by omega) hL (lv_at hl 0 rfl) (lv_at hl 4 rfl) rfl dL_law_245 dL_law_246 dL_law_248 dL_law_249 dL_law_250 ?_
  refine law_arg hx hb hX hbl hbA hS (j := 2) (by omega) hL (lv_at hl 0 rfl) (lv_at hl 4 rfl) rfl dL_law_251 dL_law_252 dL_law_254 dL_law_255 dL_law_256 ?_
  refine lv_aload_n hx hb dL_law_257 rfl (lv_at hl 3 rfl) ?_
  refine k_wrap (Wo := fun (z9 : (PV × (Nat → PV) × Nat × Nat) × (Nat → Int64)) => outW cL qo z9.2) (Wf := fun (z9 : (PV × (Nat → PV) × Nat × Nat) × (Nat → Int64)) => fW cI cP a0 aN aT aS t0 t1 t2 h0 h1 pa z9.1.1 PT PS f u z9.1.2.1 z9.1.2.2.1 z9.1.2.2.2 k) (vx_runSX (As := [.ref a0, .int (xs (i + 1)), .int (xs (i + 2)), .ref qo]) (rest := []) ⟨hx, hb, hml, hown, hts⟩ (mL_wish l hst dC dI cI cP cL qL qG qo fo a0 aN aT aS t0 t1 t2 h0 h1 pa PN PT PS f u Ps oh vh k (xs (i + 1)) (xs (i + 2)) ho6 hv6) (vx_cwSW 4 hts (gi_W u_539 u_540 u_0 u_541) rfl rfl rfl (by decide +kernel) ⟨Nat.le_of_ble_eq_true rfl, Nat.le_of_ble_eq_true rfl⟩) (pcW_S (fl_sub (wc := [outW cL qo fo, fW cI cP a0 aN aT aS t0 t1 t2 h0 h1 pa PN PT PS f u Ps oh vh k]) hP [0, 1] rfl) hK hn (fl_D (wc := [outW cL qo fo, fW cI cP a0 aN aT aS t0 t1 t2 h0 h1 pa PN PT PS f u Ps oh vh k]) hD [0, 1] (by decide) rfl) hXo hN hT hS) rfl rfl hl.1 rfl (lv_room (Nat.le_of_ble_eq_true rfl)) dL_law_258 ⟨(show cells + 3 ≤ 601024 by omega), (show slots + 18 ≤ 7293034 by omega)⟩) hP hD hS (fun _ => rfl) (fun _ => rfl) (fun k9 z9 H locs hw9 hP hD hS => ?_)
  have hP : va_P (dC, dI) vwCl (fl [outW cL qo z9.2, fW cI cP a0 aN aT aS t0 t1 t2 h0 h1 pa z9.1.1 PT PS f u z9.1.2.1 z9.1.2.2.1 z9.1.2.2.2 k, mW cI o q0 q1 F x M h]) H := hP
  have hD : va_D A (fl [outW cL qo z9.2, fW cI cP a0 aN aT aS t0 t1 t2 h0 h1 pa z9.1.1 PT PS f u z9.1.2.1 z9.1.2.2.1 z9.1.2.2.2 k, mW cI o q0 q1 F x M h]) := hD
  refine lv_istore (lv' := [(5, .int k9), (0, .ref b), (1, .ref a0), (2, .ref o), (3, .ref qo), (4, .int (nI i))]) hx hb dL_law_261 hl (by decide) rfl (fun ls hl => ?_)
  refine lv_aload_n hx hb dL_law_263 rfl (lv_at hl 3 rfl) ?_
  refine law_arg hx hb hX hbl hbA hS (j := 1) (by omega) hL (lv_at hl 1 rfl) (lv_at hl 5 rfl) rfl dL_law_264 dL_law_265 dL_law_267 dL_law_268 dL_law_269 ?_
  refine law_arg hx hb hX hbl hbA hS (j := 2) (by omega) hL (lv_at hl 1 rfl) (lv_at hl 5 rfl) rfl dL_law_270 dL_law_271 dL_law_273 dL_law_274 dL_law_275 ?_
  refine k_modi (Wm := fun (w9 : (Nat → Int32) × (Nat → Int32)) => mW cI o q0 q1 w9.1 x w9.2 h) (va_runV (As := [.int (xs (i + 1)), .int (xs (i + 2))]) (rest := []) ⟨hx, hb, hml, hown, hts⟩ (mX7_wish l dC dI cI o q0 q1 F x M h (xs (i + 1)) (xs (i + 2)) hRW vh hv6 hM1) (cwV 2 hts (gi_V u_924 u_925 u_926 u_7 u_927) rfl rfl rfl (by decide +kernel) ⟨Nat.le_of_ble_eq_true rfl, Nat.le_of_ble_eq_true rfl⟩) (pcM_V (ci := 5) (q0 := 0) (fl_at hP 2 rfl) (hK.sub (tys' := [(cI, .int)]) [0] rfl) hn (fl_D1 hD 2 rfl) rfl rfl) rfl rfl hl.1 rfl (lv_room (Nat.le_of_ble_eq_true rfl)) dL_law_276 ⟨(show cells + 3 + 0 ≤ 601024 by omega), (show slots + 18 + 0 ≤ 7293034 by omega)⟩) hP hD hS (fun _ => rfl) (fun b9 w9 H locs hm9 hP hD hS => ?_)
  have hP : va_P (dC, dI) vwCl (fl [outW cL qo z9.2, fW cI cP a0 aN aT aS t0 t1 t2 h0 h1 pa z9.1.1 PT PS f u z9.1.2.1 z9.1.2.2.1 z9.1.2.2.2 k, mW cI o q0 q1 w9.1 x w9.2 h]) H := hP
  have hD : va_D A (fl [outW cL qo z9.2, fW cI cP a0 aN aT aS t0 t1 t2 h0 h1 pa z9.1.1 PT PS f u z9.1.2.1 z9.1.2.2.1 z9.1.2.2.2 k, mW cI o q0 q1 w9.1 x w9.2 h]) := hD
  refine lv_istore (lv' := [(6, .int b9), (5, .int k9), (0, .ref b), (1, .ref a0), (2, .ref o), (3, .ref qo), (4, .int (nI i))]) hx hb dL_law_279 hl (by decide) rfl (fun ls hl => ?_)
  obtain ⟨s1, s2, s3⟩ := sx_wish (PT := PT) (fo := fo) hI hw9 hm9
  refine law_tail C0 hP hS hl s1 s2 (show cells + 3 ≤ 601024 by omega) (show slots + 18 ≤ 7293034 by omega) dL_law_281 dL_law_282 dL_law_285 dL_law_287 dL_law_292 dL_law_294 dL_law_297 dL_law_298 dL_law_299 dL_law_300 dL_law_302 dL_law_303 dL_law_304 dL_law_309 (by decide) (fun ls hl => ?_)
  exact W.widen (show cells + 3 ≤ cells + 3 by omega) (show slots + 18 ≤ slots + 18 by omega) (kk _ _ _ _ _ _ _ _ _ _ _ _ _ _ _ _ _ s3 hP hD hS hl)
set_option maxHeartbeats 4000000 in
set_option maxRecDepth 100000 in
theorem lc_table (hst : l.stackTraces = false) (C : LBd p s m c b L xs A dC dI cI cP cL qL qG) (hI : LI PN PS Ps oh vh k F M f u x) (hi : i + 4 ≤ L) (hL : L ≤ 2048) (hP : va_P (dC, dI) vwCl (fl [outW cL qo fo, fW cI cP a0 aN aT aS t0 t1 t2 h0 h1 pa PN PT PS f u Ps oh vh k, mW cI o q0 q1 F x M h]) H) (hD : va_D A (fl [outW cL qo fo, fW cI cP a0 aN aT aS t0 t1 t2 h0 h1 pa PN PT PS f u Ps oh vh k, mW cI o q0 q1 F x M h])) (hS : va_S A s.heap H locs) (hl : lv_has ls 9 [(0, .ref b), (1, .ref a0), (2, .ref o), (3, .ref qo), (4, .int (nI i))]) (hc : cells + 3 ≤ 601024) (hs : slots + 18 ≤ 7293034) (kk : NX p l e s m below meth c Q b i A dC dI cI cP cL qo a0 aN aT aS t0 t1 t2 h0 h1 pa o q0 q1 (cells + 3) (slots + 18)) : W p l e room_1 s m #[Value.ref b] below meth c H locs cells slots Q (F0 m 312 ls []) := by
  have C0 := C
  have hI0 := hI
  obtain ⟨hx, hb, hml, hown, hts, hX, hbl, hbA, hA, hK, hn, hXo, hN, hT⟩ := C
  obtain ⟨⟨⟨G9, T9, L9, hR9⟩, ⟨ho6, hv6, -⟩, hM1, -, -⟩, ⟨n9, hn9, hun, hM9, -⟩⟩ := hI0
  have hRO := hR9.wf.ro
  have hRW := hRO.1
  have hM3 : IN (M 3) 60 := ⟨n9, hn9, hM9⟩
  have hu9 : u = nI u.toNatClampNeg := by rw [hun, nI_clamp (by omega)]
  have hu8 : u.toNatClampNeg ≤ 60 := by rw [hun, nI_clamp (by omega)]; exact hn9
  have hG9 : IN (PN 10 0) 16 := ⟨G9, hR9.wf.G16, hR9.pg⟩
  refine lv_aload_n hx hb dL_law_312 rfl (lv_at hl 1 rfl) ?_
  refine law_arg hx hb hX hbl hbA hS (j := 1) (by omega) hL (lv_at hl 0 rfl) (lv_at hl 4 rfl) rfl dL_law_313 dL_law_314 dL_law_316 dL_law_317 dL_law_318 ?_
  refine lv_aload_n hx hb dL_law_319 rfl (lv_at hl 3 rfl) ?_
  refine k_wrap (Wo := fun (z9 : (PV × (Nat → PV) × Nat × Nat) × (Nat → Int64)) => outW cL qo z9.2) (Wf := fun (z9 : (PV × (Nat → PV) × Nat × Nat) × (Nat → Int64)) => fW cI cP a0 aN aT aS t0 t1 t2 h0 h1 pa z9.1.1 PT PS f u z9.1.2.1 z9.1.2.2.1 z9.1.2.2.2 k) (vx_runSX (As := [.ref a0, .int (xs (i + 1)), .ref qo]) (rest := []) ⟨hx, hb, hml, hown, hts⟩ (mL_table l hst dC dI cI cP cL qL qG qo fo a0 aN aT aS t0 t1 t2 h0 h1 pa PN PT PS f u Ps oh vh k (xs (i + 1)) ho6 hv6) (vx_cwSW 3 hts (gi_W u_570 u_571 u_0 u_572) rfl rfl rfl (by decide +kernel) ⟨Nat.le_of_ble_eq_true rfl, Nat.le_of_ble_eq_true rfl⟩) (pcW_S (fl_sub (wc := [outW cL qo fo, fW cI cP a0 aN aT aS t0 t1 t2 h0 h1 pa PN PT PS f u Ps oh vh k]) hP [0, 1] rfl) hK hn (fl_D (wc := [outW cL qo fo, fW cI cP a0 aN aT aS t0 t1 t2 h0 h1 pa PN PT PS f u Ps oh vh k]) hD [0, 1] (by decide) rfl) hXo hN hT hS) rfl rfl hl.1 rfl (lv_room (Nat.le_of_ble_eq_true rfl)) dL_law_320 ⟨(show cells + 1 ≤ 601024 by omega), (show slots + 6 ≤ 7293034 by omega)⟩) hP hD hS (fun _ => rfl) (fun _ => rfl) (fun k9 z9 H locs hw9 hP hD hS => ?_)
  have hP : va_P (dC, dI) vwCl (fl [outW cL qo z9.2, fW cI cP a0 aN aT aS t0 t1 t2 h0 h1 pa z9.1.1 PT PS f u z9.1.2.1 z9.1.2.2.1 z9.1.2.2.2 k, mW cI o q0 q1 F x M h]) H := hP
  have hD : va_D A (fl [outW cL qo z9.2, fW cI cP a0 aN aT aS t0 t1 t2 h0 h1 pa z9.1.1 PT PS f u z9.1.2.1 z9.1.2.2.1 z9.1.2.2.2 k, mW cI o q0 q1 F x M h]) := hD
  refine lv_istore (lv' := [(5, .int k9), (0, .ref b), (1, .ref a0), (2, .ref o), (3, .ref qo), (4, .int (nI i))]) hx hb dL_law_323 hl (by decide) rfl (fun ls hl => ?_)
  refine lv_aload_n hx hb dL_law_325 rfl (lv_at hl 3 rfl) ?_
  refine law_arg hx hb hX hbl hbA hS (j := 1) (by omega) hL (lv_at hl 1 rfl) (lv_at hl 5 rfl) rfl dL_law_326 dL_law_327 dL_law_329 dL_law_330 dL_law_331 ?_
  refine k_modi (Wm := fun (w9 : (Nat → Int32) × (Nat → Int32)) => mW cI o q0 q1 w9.1 x w9.2 h) (va_runV (As := [.int (xs (i + 1))]) (rest := []) ⟨hx, hb, hml, hown, hts⟩ (mX7_table l dC dI cI o q0 q1 F x M h (xs (i + 1)) hRW vh hv6 hM1) (cwV 1 hts (gi_V u_936 u_937 u_938 u_7 u_939) rfl rfl rfl (by decide +kernel) ⟨Nat.le_of_ble_eq_true rfl, Nat.le_of_ble_eq_true rfl⟩) (pcM_V (ci := 5) (q0 := 0) (fl_at hP 2 rfl) (hK.sub (tys' := [(cI, .int)]) [0] rfl) hn (fl_D1 hD 2 rfl) rfl rfl) rfl rfl hl.1 rfl (lv_room (Nat.le_of_ble_eq_true rfl)) dL_law_332 ⟨(show cells + 1 + 0 ≤ 601024 by omega), (show slots + 6 + 0 ≤ 7293034 by omega)⟩) hP hD hS (fun _ => rfl) (fun b9 w9 H locs hm9 hP hD hS => ?_)
  have hP : va_P (dC, dI) vwCl (fl [outW cL qo z9.2, fW cI cP a0 aN aT aS t0 t1 t2 h0 h1 pa z9.1.1 PT PS f u z9.1.2.1 z9.1.2.2.1 z9.1.2.2.2 k, mW cI o q0 q1 w9.1 x w9.2 h]) H := hP
  have hD : va_D A (fl [outW cL qo z9.2, fW cI cP a0 aN aT aS t0 t1 t2 h0 h1 pa z9.1.1 PT PS f u z9.1.2.1 z9.1.2.2.1 z9.1.2.2.2 k, mW cI o q0 q1 w9.1 x w9.2 h]) := hD
  refine lv_istore (lv' := [(6, .int b9), (5, .int k9), (0, .ref b), (1, .ref a0), (2, .ref o), (3, .ref qo), (4, .int (nI i))]) hx hb dL_law_335 hl (by decide) rfl (fun ls hl => ?_)
  obtain ⟨s1, s2, s3⟩ := sx_table (PT := PT) (fo := fo) hI hw9 hm9
  refine law_tail C0 hP hS hl s1 s2 (show cells + 1 ≤ 601024 by omega) (show slots + 6 ≤ 7293034 by omega) dL_law_337 dL_law_338 dL_law_341 dL_law_343 dL_law_348 dL_law_350 dL_law_353 dL_law_354 dL_law_355 dL_law_356 dL_law_358 dL_law_359 dL_law_360 dL_law_365 (by decide) (fun ls hl => ?_)
  exact W.widen (show cells + 1 ≤ cells + 3 by omega) (show slots + 6 ≤ slots + 18 by omega) (kk _ _ _ _ _ _ _ _ _ _ _ _ _ _ _ _ _ s3 hP hD hS hl)
set_option maxHeartbeats 4000000 in
set_option maxRecDepth 100000 in
theorem lc_feud (hst : l.stackTraces = false) (C : LBd p s m c b L xs A dC dI cI cP cL qL qG) (hI : LI PN PS Ps oh vh k F M f u x) (hi : i + 4 ≤ L) (hL : L ≤ 2048) (hP : va_P (dC, dI) vwCl (fl [outW cL qo fo, fW cI cP a0 aN aT aS t0 t1 t2 h0 h1 pa PN PT PS f u Ps oh vh k, mW cI o q0 q1 F x M h]) H) (hD : va_D A (fl [outW cL qo fo, fW cI cP a0 aN aT aS t0 t1 t2 h0 h1 pa PN PT PS f u Ps oh vh k, mW cI o q0 q1 F x M h])) (hS : va_S A s.heap H locs) (hl : lv_has ls 9 [(0, .ref b), (1, .ref a0), (2, .ref o), (3, .ref qo), (4, .int (nI i))]) (hc : cells + 3 ≤ 601024) (hs : slots + 18 ≤ 7293034) (kk : NX p l e s m below meth c Q b i A dC dI cI cP cL qo a0 aN aT aS t0 t1 t2 h0 h1 pa o q0 q1 (cells + 3) (slots + 18)) : W p l e room_1 s m #[Value.ref b] below meth c H locs cells slots Q (F0 m 368 ls []) := by
  have C0 := C
  have hI0 := hI
  obtain ⟨hx, hb, hml, hown, hts, hX, hbl, hbA, hA, hK, hn, hXo, hN, hT⟩ := C
  obtain ⟨⟨⟨G9, T9, L9, hR9⟩, ⟨ho6, hv6, -⟩, hM1, -, -⟩, ⟨n9, hn9, hun, hM9, -⟩⟩ := hI0
  have hRO := hR9.wf.ro
  have hRW := hRO.1
  have hM3 : IN (M 3) 60 := ⟨n9, hn9, hM9⟩
  have hu9 : u = nI u.toNatClampNeg := by rw [hun, nI_clamp (by omega)]
  have hu8 : u.toNatClampNeg ≤ 60 := by rw [hun, nI_clamp (by omega)]; exact hn9
  have hG9 : IN (PN 10 0) 16 := ⟨G9, hR9.wf.G16, hR9.pg⟩
  refine lv_aload_n hx hb dL_law_368 rfl (lv_at hl 1 rfl) ?_
  refine law_arg hx hb hX hbl hbA hS (j := 1) (by omega) hL (lv_at hl 0 rfl) (lv_at hl 4 rfl) rfl dL_law_369 dL_law_370 dL_law_372 dL_law_373 dL_law_374 ?_
  refine law_arg hx hb hX hbl hbA hS (j := 2) (by omega) hL (lv_at hl 0 rfl) (lv_at hl 4 rfl) rfl dL_law_375 dL_law_376 dL_law_378 dL_law_379 dL_law_380 ?_
  refine lv_aload_n hx hb dL_law_381 rfl (lv_at hl 3 rfl) ?_
  refine k_wrap (Wo := fun (z9 : (PV × (Nat → PV) × Nat × Nat) × (Nat → Int64)) => outW cL qo z9.2) (Wf := fun (z9 : (PV × (Nat → PV) × Nat × Nat) × (Nat → Int64)) => fW cI cP a0 aN aT aS t0 t1 t2 h0 h1 pa z9.1.1 PT PS f u z9.1.2.1 z9.1.2.2.1 z9.1.2.2.2 k) (vx_runSX (As := [.ref a0, .int (xs (i + 1)), .int (xs (i + 2)), .ref qo]) (rest := []) ⟨hx, hb, hml, hown, hts⟩ (mL_feud l hst dC dI cI cP cL qL qG qo fo a0 aN aT aS t0 t1 t2 h0 h1 pa PN PT PS f u Ps oh vh k (xs (i + 1)) (xs (i + 2)) ho6 hv6) (vx_cwSW 4 hts (gi_W u_583 u_584 u_0 u_585) rfl rfl rfl (by decide +kernel) ⟨Nat.le_of_ble_eq_true rfl, Nat.le_of_ble_eq_true rfl⟩) (pcW_S (fl_sub (wc := [outW cL qo fo, fW cI cP a0 aN aT aS t0 t1 t2 h0 h1 pa PN PT PS f u Ps oh vh k]) hP [0, 1] rfl) hK hn (fl_D (wc := [outW cL qo fo, fW cI cP a0 aN aT aS t0 t1 t2 h0 h1 pa PN PT PS f u Ps oh vh k]) hD [0, 1] (by decide) rfl) hXo hN hT hS) rfl rfl hl.1 rfl (lv_room (Nat.le_of_ble_eq_true rfl)) dL_law_382 ⟨(show cells + 2 ≤ 601024 by omega), (show slots + 12 ≤ 7293034 by omega)⟩) hP hD hS (fun _ => rfl) (fun _ => rfl) (fun k9 z9 H locs hw9 hP hD hS => ?_)
  have hP : va_P (dC, dI) vwCl (fl [outW cL qo z9.2, fW cI cP a0 aN aT aS t0 t1 t2 h0 h1 pa z9.1.1 PT PS f u z9.1.2.1 z9.1.2.2.1 z9.1.2.2.2 k, mW cI o q0 q1 F x M h]) H := hP
  have hD : va_D A (fl [outW cL qo z9.2, fW cI cP a0 aN aT aS t0 t1 t2 h0 h1 pa z9.1.1 PT PS f u z9.1.2.1 z9.1.2.2.1 z9.1.2.2.2 k, mW cI o q0 q1 F x M h]) := hD
  refine lv_istore (lv' := [(5, .int k9), (0, .ref b), (1, .ref a0), (2, .ref o), (3, .ref qo), (4, .int (nI i))]) hx hb dL_law_385 hl (by decide) rfl (fun ls hl => ?_)
  refine lv_aload_n hx hb dL_law_387 rfl (lv_at hl 3 rfl) ?_
  refine law_arg hx hb hX hbl hbA hS (j := 1) (by omega) hL (lv_at hl 1 rfl) (lv_at hl 5 rfl) rfl dL_law_388 dL_law_389 dL_law_391 dL_law_392 dL_law_393 ?_
  refine law_arg hx hb hX hbl hbA hS (j := 2) (by omega) hL (lv_at hl 1 rfl) (lv_at hl 5 rfl) rfl dL_law_394 dL_law_395 dL_law_397 dL_law_398 dL_law_399 ?_
  refine k_modi (Wm := fun (w9 : (Nat → Int32) × (Nat → Int32)) => mW cI o q0 q1 w9.1 x w9.2 h) (va_runV (As := [.int (xs (i + 1)), .int (xs (i + 2))]) (rest := []) ⟨hx, hb, hml, hown, hts⟩ (mX7_feud l dC dI cI o q0 q1 F x M h (xs (i + 1)) (xs (i + 2)) hRW G9 L9 hRO vh hv6 hM1) (cwV 2 hts (gi_V u_940 u_941 u_942 u_7 u_943) rfl rfl rfl (by decide +kernel) ⟨Nat.le_of_ble_eq_true rfl, Nat.le_of_ble_eq_true rfl⟩) (pcM_V (ci := 5) (q0 := 0) (fl_at hP 2 rfl) (hK.sub (tys' := [(cI, .int)]) [0] rfl) hn (fl_D1 hD 2 rfl) rfl rfl) rfl rfl hl.1 rfl (lv_room (Nat.le_of_ble_eq_true rfl)) dL_law_400 ⟨(show cells + 2 + 0 ≤ 601024 by omega), (show slots + 12 + 0 ≤ 7293034 by omega)⟩) hP hD hS (fun _ => rfl) (fun b9 w9 H locs hm9 hP hD hS => ?_)
  have hP : va_P (dC, dI) vwCl (fl [outW cL qo z9.2, fW cI cP a0 aN aT aS t0 t1 t2 h0 h1 pa z9.1.1 PT PS f u z9.1.2.1 z9.1.2.2.1 z9.1.2.2.2 k, mW cI o q0 q1 w9.1 x w9.2 h]) H := hP
  have hD : va_D A (fl [outW cL qo z9.2, fW cI cP a0 aN aT aS t0 t1 t2 h0 h1 pa z9.1.1 PT PS f u z9.1.2.1 z9.1.2.2.1 z9.1.2.2.2 k, mW cI o q0 q1 w9.1 x w9.2 h]) := hD
  refine lv_istore (lv' := [(6, .int b9), (5, .int k9), (0, .ref b), (1, .ref a0), (2, .ref o), (3, .ref qo), (4, .int (nI i))]) hx hb dL_law_403 hl (by decide) rfl (fun ls hl => ?_)
  obtain ⟨s1, s2, s3⟩ := sx_feud (PT := PT) (fo := fo) hI hw9 hm9
  refine law_tail C0 hP hS hl s1 s2 (show cells + 2 ≤ 601024 by omega) (show slots + 12 ≤ 7293034 by omega) dL_law_405 dL_law_406 dL_law_409 dL_law_411 dL_law_416 dL_law_418 dL_law_421 dL_law_422 dL_law_423 dL_law_424 dL_law_426 dL_law_427 dL_law_428 dL_law_433 (by decide) (fun ls hl => ?_)
  exact W.widen (show cells + 2 ≤ cells + 3 by omega) (show slots + 12 ≤ slots + 18 by omega) (kk _ _ _ _ _ _ _ _ _ _ _ _ _ _ _ _ _ s3 hP hD hS hl)
set_option maxHeartbeats 4000000 in
set_option maxRecDepth 100000 in
theorem lc_peace (hst : l.stackTraces = false) (C : LBd p s m c b L xs A dC dI cI cP cL qL qG) (hI : LI PN PS Ps oh vh k F M f u x) (hi : i + 4 ≤ L) (hL : L ≤ 2048) (hP : va_P (dC, dI) vwCl (fl [outW cL qo fo, fW cI cP a0 aN aT aS t0 t1 t2 h0 h1 pa PN PT PS f u Ps oh vh k, mW cI o q0 q1 F x M h]) H) (hD : va_D A (fl [outW cL qo fo, fW cI cP a0 aN aT aS t0 t1 t2 h0 h1 pa PN PT PS f u Ps oh vh k, mW cI o q0 q1 F x M h])) (hS : va_S A s.heap H locs) (hl : lv_has ls 9 [(0, .ref b), (1, .ref a0), (2, .ref o), (3, .ref qo), (4, .int (nI i))]) (hc : cells + 3 ≤ 601024) (hs : slots + 18 ≤ 7293034) (kk : NX p l e s m below meth c Q b i A dC dI cI cP cL qo a0 aN aT aS t0 t1 t2 h0 h1 pa o q0 q1 (cells + 3) (slots + 18)) : W p l e room_1 s m #[Value.ref b] below meth c H locs cells slots Q (F0 m 436 ls []) := by
  have C0 := C
  have hI0 := hI
  obtain ⟨hx, hb, hml, hown, hts, hX, hbl, hbA, hA, hK, hn, hXo, hN, hT⟩ := C
  obtain ⟨⟨⟨G9, T9, L9, hR9⟩, ⟨ho6, hv6, -⟩, hM1, -, -⟩, ⟨n9, hn9, hun, hM9, -⟩⟩ := hI0
  have hRO := hR9.wf.ro
  have hRW := hRO.1
  have hM3 : IN (M 3) 60 := ⟨n9, hn9, hM9⟩
  have hu9 : u = nI u.toNatClampNeg := by rw [hun, nI_clamp (by omega)]
  have hu8 : u.toNatClampNeg ≤ 60 := by rw [hun, nI_clamp (by omega)]; exact hn9
  have hG9 : IN (PN 10 0) 16 := ⟨G9, hR9.wf.G16, hR9.pg⟩
  refine lv_aload_n hx hb dL_law_436 rfl (lv_at hl 1 rfl) ?_
  refine law_arg hx hb hX hbl hbA hS (j := 1) (by omega) hL (lv_at hl 0 rfl) (lv_at hl 4 rfl) rfl dL_law_437 dL_law_438 dL_law_440 dL_law_441 dL_law_442 ?_
  refine law_arg hx hb hX hbl hbA hS (j := 2) (by omega) hL (lv_at hl 0 rfl) (lv_at hl 4 rfl) rfl dL_law_443 dL_law_444 dL_law_446 dL_law_447 dL_law_448 ?_
  refine lv_aload_n hx hb dL_law_449 rfl (lv_at hl 3 rfl) ?_
  refine k_wrap (Wo := fun (z9 : (PV × (Nat → PV) × Nat × Nat) × (Nat → Int64)) => outW cL qo z9.2) (Wf := fun (z9 : (PV × (Nat → PV) × Nat × Nat) × (Nat → Int64)) => fW cI cP a0 aN aT aS t0 t1 t2 h0 h1 pa z9.1.1 PT PS f u z9.1.2.1 z9.1.2.2.1 z9.1.2.2.2 k) (vx_runSX (As := [.ref a0, .int (xs (i + 1)), .int (xs (i + 2)), .ref qo]) (rest := []) ⟨hx, hb, hml, hown, hts⟩ (mL_peace l hst dC dI cI cP cL qL qG qo fo a0 aN aT aS t0 t1 t2 h0 h1 pa PN PT PS f u Ps oh vh k (xs (i + 1)) (xs (i + 2)) ho6 hv6) (vx_cwSW 4 hts (gi_W u_605 u_606 u_0 u_607) rfl rfl rfl (by decide +kernel) ⟨Nat.le_of_ble_eq_true rfl, Nat.le_of_ble_eq_true rfl⟩) (pcW_S (fl_sub (wc := [outW cL qo fo, fW cI cP a0 aN aT aS t0 t1 t2 h0 h1 pa PN PT PS f u Ps oh vh k]) hP [0, 1] rfl) hK hn (fl_D (wc := [outW cL qo fo, fW cI cP a0 aN aT aS t0 t1 t2 h0 h1 pa PN PT PS f u Ps oh vh k]) hD [0, 1] (by decide) rfl) hXo hN hT hS) rfl rfl hl.1 rfl (lv_room (Nat.le_of_ble_eq_true rfl)) dL_law_450 ⟨(show cells + 2 ≤ 601024 by omega), (show slots + 12 ≤ 7293034 by omega)⟩) hP hD hS (fun _ => rfl) (fun _ => rfl) (fun k9 z9 H locs hw9 hP hD hS => ?_)
  have hP : va_P (dC, dI) vwCl (fl [outW cL qo z9.2, fW cI cP a0 aN aT aS t0 t1 t2 h0 h1 pa z9.1.1 PT PS f u z9.1.2.1 z9.1.2.2.1 z9.1.2.2.2 k, mW cI o q0 q1 F x M h]) H := hP
  have hD : va_D A (fl [outW cL qo z9.2, fW cI cP a0 aN aT aS t0 t1 t2 h0 h1 pa z9.1.1 PT PS f u z9.1.2.1 z9.1.2.2.1 z9.1.2.2.2 k, mW cI o q0 q1 F x M h]) := hD
  refine lv_istore (lv' := [(5, .int k9), (0, .ref b), (1, .ref a0), (2, .ref o), (3, .ref qo), (4, .int (nI i))]) hx hb dL_law_453 hl (by decide) rfl (fun ls hl => ?_)
  refine lv_aload_n hx hb dL_law_455 rfl (lv_at hl 3 rfl) ?_
  refine law_arg hx hb hX hbl hbA hS (j := 1) (by omega) hL (lv_at hl 1 rfl) (lv_at hl 5 rfl) rfl dL_law_456 dL_law_457 dL_law_459 dL_law_460 dL_law_461 ?_
  refine law_arg hx hb hX hbl hbA hS (j := 2) (by omega) hL (lv_at hl 1 rfl) (lv_at hl 5 rfl) rfl dL_law_462 dL_law_463 dL_law_465 dL_law_466 dL_law_467 ?_
  refine k_modi (Wm := fun (w9 : (Nat → Int32) × (Nat → Int32)) => mW cI o q0 q1 w9.1 x w9.2 h) (va_runV (As := [.int (xs (i + 1)), .int (xs (i + 2))]) (rest := []) ⟨hx, hb, hml, hown, hts⟩ (mX7_peace l dC dI cI o q0 q1 F x M h (xs (i + 1)) (xs (i + 2)) hRW G9 L9 hRO vh hv6 hM1) (cwV 2 hts (gi_V u_966 u_967 u_968 u_7 u_969) rfl rfl rfl (by decide +kernel) ⟨Nat.le_of_ble_eq_true rfl, Nat.le_of_ble_eq_true rfl⟩) (pcM_V (ci := 5) (q0 := 0) (fl_at hP 2 rfl) (hK.sub (tys' := [(cI, .int)]) [0] rfl) hn (fl_D1 hD 2 rfl) rfl rfl) rfl rfl hl.1 rfl (lv_room (Nat.le_of_ble_eq_true rfl)) dL_law_468 ⟨(show cells + 2 + 0 ≤ 601024 by omega), (show slots + 12 + 0 ≤ 7293034 by omega)⟩) hP hD hS (fun _ => rfl) (fun b9 w9 H locs hm9 hP hD hS => ?_)
  have hP : va_P (dC, dI) vwCl (fl [outW cL qo z9.2, fW cI cP a0 aN aT aS t0 t1 t2 h0 h1 pa z9.1.1 PT PS f u z9.1.2.1 z9.1.2.2.1 z9.1.2.2.2 k, mW cI o q0 q1 w9.1 x w9.2 h]) H := hP
  have hD : va_D A (fl [outW cL qo z9.2, fW cI cP a0 aN aT aS t0 t1 t2 h0 h1 pa z9.1.1 PT PS f u z9.1.2.1 z9.1.2.2.1 z9.1.2.2.2 k, mW cI o q0 q1 w9.1 x w9.2 h]) := hD
  refine lv_istore (lv' := [(6, .int b9), (5, .int k9), (0, .ref b), (1, .ref a0), (2, .ref o), (3, .ref qo), (4, .int (nI i))]) hx hb dL_law_471 hl (by decide) rfl (fun ls hl => ?_)
  obtain ⟨s1, s2, s3⟩ := sx_peace (PT := PT) (fo := fo) hI hw9 hm9
  refine law_tail C0 hP hS hl s1 s2 (show cells + 2 ≤ 601024 by omega) (show slots + 12 ≤ 7293034 by omega) dL_law_473 dL_law_474 dL_law_477 dL_law_479 dL_law_484 dL_law_486 dL_law_489 dL_law_490 dL_law_491 dL_law_492 dL_law_494 dL_law_495 dL_law_496 dL_law_501 (by decide) (fun ls hl => ?_)
  exact W.widen (show cells + 2 ≤ cells + 3 by omega) (show slots + 12 ≤ slots + 18 by omega) (kk _ _ _ _ _ _ _ _ _ _ _ _ _ _ _ _ _ s3 hP hD hS hl)
set_option maxHeartbeats 4000000 in
set_option maxRecDepth 100000 in
theorem lc_set (hst : l.stackTraces = false) (C : LBd p s m c b L xs A dC dI cI cP cL qL qG) (hI : LI PN PS Ps oh vh k F M f u x) (hi : i + 4 ≤ L) (hL : L ≤ 2048) (hP : va_P (dC, dI) vwCl (fl [outW cL qo fo, fW cI cP a0 aN aT aS t0 t1 t2 h0 h1 pa PN PT PS f u Ps oh vh k, mW cI o q0 q1 F x M h]) H) (hD : va_D A (fl [outW cL qo fo, fW cI cP a0 aN aT aS t0 t1 t2 h0 h1 pa PN PT PS f u Ps oh vh k, mW cI o q0 q1 F x M h])) (hS : va_S A s.heap H locs) (hl : lv_has ls 9 [(0, .ref b), (1, .ref a0), (2, .ref o), (3, .ref qo), (4, .int (nI i))]) (hc : cells + 3 ≤ 601024) (hs : slots + 18 ≤ 7293034) (kk : NX p l e s m below meth c Q b i A dC dI cI cP cL qo a0 aN aT aS t0 t1 t2 h0 h1 pa o q0 q1 (cells + 3) (slots + 18)) : W p l e room_1 s m #[Value.ref b] below meth c H locs cells slots Q (F0 m 504 ls []) := by
  have C0 := C
  have hI0 := hI
  obtain ⟨hx, hb, hml, hown, hts, hX, hbl, hbA, hA, hK, hn, hXo, hN, hT⟩ := C
  obtain ⟨⟨⟨G9, T9, L9, hR9⟩, ⟨ho6, hv6, -⟩, hM1, -, -⟩, ⟨n9, hn9, hun, hM9, -⟩⟩ := hI0
  have hRO := hR9.wf.ro
  have hRW := hRO.1
  have hM3 : IN (M 3) 60 := ⟨n9, hn9, hM9⟩
  have hu9 : u = nI u.toNatClampNeg := by rw [hun, nI_clamp (by omega)]
  have hu8 : u.toNatClampNeg ≤ 60 := by rw [hun, nI_clamp (by omega)]; exact hn9
  have hG9 : IN (PN 10 0) 16 := ⟨G9, hR9.wf.G16, hR9.pg⟩
  refine lv_aload_n hx hb dL_law_504 rfl (lv_at hl 1 rfl) ?_
  refine law_arg hx hb hX hbl hbA hS (j := 1) (by omega) hL (lv_at hl 0 rfl) (lv_at hl 4 rfl) rfl dL_law_505 dL_law_506 dL_law_508 dL_law_509 dL_law_510 ?_
  refine law_arg hx hb hX hbl hbA hS (j := 2) (by omega) hL (lv_at hl 0 rfl) (lv_at hl 4 rfl) rfl dL_law_511 dL_law_512 dL_law_514 dL_law_515 dL_law_516 ?_
  refine lv_aload_n hx hb dL_law_517 rfl (lv_at hl 3 rfl) ?_
  refine k_wrap (Wo := fun (z9 : (PV × (Nat → PV) × Nat × Nat) × (Nat → Int64)) => outW cL qo z9.2) (Wf := fun (z9 : (PV × (Nat → PV) × Nat × Nat) × (Nat → Int64)) => fW cI cP a0 aN aT aS t0 t1 t2 h0 h1 pa z9.1.1 PT PS f u z9.1.2.1 z9.1.2.2.1 z9.1.2.2.2 k) (vx_runSX (As := [.ref a0, .int (xs (i + 1)), .int (xs (i + 2)), .ref qo]) (rest := []) ⟨hx, hb, hml, hown, hts⟩ (mL_set l hst dC dI cI cP cL qL qG qo fo a0 aN aT aS t0 t1 t2 h0 h1 pa PN PT PS f u Ps oh vh k (xs (i + 1)) (xs (i + 2)) ho6 hv6) (vx_cwSW 4 hts (gi_W u_615 u_616 u_0 u_617) rfl rfl rfl (by decide +kernel) ⟨Nat.le_of_ble_eq_true rfl, Nat.le_of_ble_eq_true rfl⟩) (pcW_S (fl_sub (wc := [outW cL qo fo, fW cI cP a0 aN aT aS t0 t1 t2 h0 h1 pa PN PT PS f u Ps oh vh k]) hP [0, 1] rfl) hK hn (fl_D (wc := [outW cL qo fo, fW cI cP a0 aN aT aS t0 t1 t2 h0 h1 pa PN PT PS f u Ps oh vh k]) hD [0, 1] (by decide) rfl) hXo hN hT hS) rfl rfl hl.1 rfl (lv_room (Nat.le_of_ble_eq_true rfl)) dL_law_518 ⟨(show cells + 1 ≤ 601024 by omega), (show slots + 6 ≤ 7293034 by omega)⟩) hP hD hS (fun _ => rfl) (fun _ => rfl) (fun k9 z9 H locs hw9 hP hD hS => ?_)
  have hP : va_P (dC, dI) vwCl (fl [outW cL qo z9.2, fW cI cP a0 aN aT aS t0 t1 t2 h0 h1 pa z9.1.1 PT PS f u z9.1.2.1 z9.1.2.2.1 z9.1.2.2.2 k, mW cI o q0 q1 F x M h]) H := hP
  have hD : va_D A (fl [outW cL qo z9.2, fW cI cP a0 aN aT aS t0 t1 t2 h0 h1 pa z9.1.1 PT PS f u z9.1.2.1 z9.1.2.2.1 z9.1.2.2.2 k, mW cI o q0 q1 F x M h]) := hD
  refine lv_istore (lv' := [(5, .int k9), (0, .ref b), (1, .ref a0), (2, .ref o), (3, .ref qo), (4, .int (nI i))]) hx hb dL_law_521 hl (by decide) rfl (fun ls hl => ?_)
  refine lv_aload_n hx hb dL_law_523 rfl (lv_at hl 3 rfl) ?_
  refine law_arg hx hb hX hbl hbA hS (j := 1) (by omega) hL (lv_at hl 1 rfl) (lv_at hl 5 rfl) rfl dL_law_524 dL_law_525 dL_law_527 dL_law_528 dL_law_529 ?_
  refine law_arg hx hb hX hbl hbA hS (j := 2) (by omega) hL (lv_at hl 1 rfl) (lv_at hl 5 rfl) rfl dL_law_530 dL_law_531 dL_law_533 dL_law_534 dL_law_535 ?_
  refine k_modi (Wm := fun (w9 : (Nat → Int32) × (Nat → Int32)) => mW cI o q0 q1 w9.1 x w9.2 h) (va_runV (As := [.int (xs (i + 1)), .int (xs (i + 2))]) (rest := []) ⟨hx, hb, hml, hown, hts⟩ (mX7_set l dC dI cI o q0 q1 F x M h (xs (i + 1)) (xs (i + 2)) hRW vh hv6 hM1) (cwV 2 hts (gi_V u_970 u_971 u_972 u_7 u_973) rfl rfl rfl (by decide +kernel) ⟨Nat.le_of_ble_eq_true rfl, Nat.le_of_ble_eq_true rfl⟩) (pcM_V (ci := 5) (q0 := 0) (fl_at hP 2 rfl) (hK.sub (tys' := [(cI, .int)]) [0] rfl) hn (fl_D1 hD 2 rfl) rfl rfl) rfl rfl hl.1 rfl (lv_room (Nat.le_of_ble_eq_true rfl)) dL_law_536 ⟨(show cells + 1 + 0 ≤ 601024 by omega), (show slots + 6 + 0 ≤ 7293034 by omega)⟩) hP hD hS (fun _ => rfl) (fun b9 w9 H locs hm9 hP hD hS => ?_)
  have hP : va_P (dC, dI) vwCl (fl [outW cL qo z9.2, fW cI cP a0 aN aT aS t0 t1 t2 h0 h1 pa z9.1.1 PT PS f u z9.1.2.1 z9.1.2.2.1 z9.1.2.2.2 k, mW cI o q0 q1 w9.1 x w9.2 h]) H := hP
  have hD : va_D A (fl [outW cL qo z9.2, fW cI cP a0 aN aT aS t0 t1 t2 h0 h1 pa z9.1.1 PT PS f u z9.1.2.1 z9.1.2.2.1 z9.1.2.2.2 k, mW cI o q0 q1 w9.1 x w9.2 h]) := hD
  refine lv_istore (lv' := [(6, .int b9), (5, .int k9), (0, .ref b), (1, .ref a0), (2, .ref o), (3, .ref qo), (4, .int (nI i))]) hx hb dL_law_539 hl (by decide) rfl (fun ls hl => ?_)
  obtain ⟨s1, s2, s3⟩ := sx_set (PT := PT) (fo := fo) hI hw9 hm9
  refine law_tail C0 hP hS hl s1 s2 (show cells + 1 ≤ 601024 by omega) (show slots + 6 ≤ 7293034 by omega) dL_law_541 dL_law_542 dL_law_545 dL_law_547 dL_law_552 dL_law_554 dL_law_557 dL_law_558 dL_law_559 dL_law_560 dL_law_562 dL_law_563 dL_law_564 dL_law_569 (by decide) (fun ls hl => ?_)
  exact W.widen (show cells + 1 ≤ cells + 3 by omega) (show slots + 6 ≤ slots + 18 by omega) (kk _ _ _ _ _ _ _ _ _ _ _ _ _ _ _ _ _ s3 hP hD hS hl)
set_option maxHeartbeats 4000000 in
set_option maxRecDepth 100000 in
theorem lc_sit (hst : l.stackTraces = false) (C : LBd p s m c b L xs A dC dI cI cP cL qL qG) (hI : LI PN PS Ps oh vh k F M f u x) (hi : i + 4 ≤ L) (hL : L ≤ 2048) (hP : va_P (dC, dI) vwCl (fl [outW cL qo fo, fW cI cP a0 aN aT aS t0 t1 t2 h0 h1 pa PN PT PS f u Ps oh vh k, mW cI o q0 q1 F x M h]) H) (hD : va_D A (fl [outW cL qo fo, fW cI cP a0 aN aT aS t0 t1 t2 h0 h1 pa PN PT PS f u Ps oh vh k, mW cI o q0 q1 F x M h])) (hS : va_S A s.heap H locs) (hl : lv_has ls 9 [(0, .ref b), (1, .ref a0), (2, .ref o), (3, .ref qo), (4, .int (nI i))]) (hc : cells + 3 ≤ 601024) (hs : slots + 18 ≤ 7293034) (kk : NX p l e s m below meth c Q b i A dC dI cI cP cL qo a0 aN aT aS t0 t1 t2 h0 h1 pa o q0 q1 (cells + 3) (slots + 18)) : W p l e room_1 s m #[Value.ref b] below meth c H locs cells slots Q (F0 m 572 ls []) := by
  have C0 := C
  have hI0 := hI
  obtain ⟨hx, hb, hml, hown, hts, hX, hbl, hbA, hA, hK, hn, hXo, hN, hT⟩ := C
  obtain ⟨⟨⟨G9, T9, L9, hR9⟩, ⟨ho6, hv6, -⟩, hM1, -, -⟩, ⟨n9, hn9, hun, hM9, -⟩⟩ := hI0
  have hRO := hR9.wf.ro
  have hRW := hRO.1
  have hM3 : IN (M 3) 60 := ⟨n9, hn9, hM9⟩
  have hu9 : u = nI u.toNatClampNeg := by rw [hun, nI_clamp (by omega)]
  have hu8 : u.toNatClampNeg ≤ 60 := by rw [hun, nI_clamp (by omega)]; exact hn9
  have hG9 : IN (PN 10 0) 16 := ⟨G9, hR9.wf.G16, hR9.pg⟩
  refine lv_aload_n hx hb dL_law_572 rfl (lv_at hl 1 rfl) ?_
  refine law_arg hx hb hX hbl hbA hS (j := 1) (by omega) hL (lv_at hl 0 rfl) (lv_at hl 4 rfl) rfl dL_law_573 dL_law_574 dL_law_576 dL_law_577 dL_law_578 ?_
  refine law_arg hx hb hX hbl hbA hS (j := 2) (by omega) hL (lv_at hl 0 rfl) (lv_at hl 4 rfl) rfl dL_law_579 dL_law_580 dL_law_582 dL_law_583 dL_law_584 ?_
  refine law_arg hx hb hX hbl hbA hS (j := 3) (by omega) hL (lv_at hl 0 rfl) (lv_at hl 4 rfl) rfl dL_law_585 dL_law_586 dL_law_588 dL_law_589 dL_law_590 ?_
  refine lv_aload_n hx hb dL_law_591 rfl (lv_at hl 3 rfl) ?_
  refine k_wrap (Wo := fun (z9 : (PV × (Nat → PV) × Nat × Nat) × (Nat → Int64)) => outW cL qo z9.2) (Wf := fun (z9 : (PV × (Nat → PV) × Nat × Nat) × (Nat → Int64)) => fW cI cP a0 aN aT aS t0 t1 t2 h0 h1 pa z9.1.1 PT PS f u z9.1.2.1 z9.1.2.2.1 z9.1.2.2.2 k) (vx_runSX (As := [.ref a0, .int (xs (i + 1)), .int (xs (i + 2)), .int (xs (i + 3)), .ref qo]) (rest := []) ⟨hx, hb, hml, hown, hts⟩ (mL_sit l hst dC dI cI cP cL qL qG qo fo a0 aN aT aS t0 t1 t2 h0 h1 pa PN PT PS f u Ps oh vh k (xs (i + 1)) (xs (i + 2)) (xs (i + 3)) ho6 hv6) (vx_cwSW 5 hts (gi_W u_628 u_629 u_0 u_630) rfl rfl rfl (by decide +kernel) ⟨Nat.le_of_ble_eq_true rfl, Nat.le_of_ble_eq_true rfl⟩) (pcW_S (fl_sub (wc := [outW cL qo fo, fW cI cP a0 aN aT aS t0 t1 t2 h0 h1 pa PN PT PS f u Ps oh vh k]) hP [0, 1] rfl) hK hn (fl_D (wc := [outW cL qo fo, fW cI cP a0 aN aT aS t0 t1 t2 h0 h1 pa PN PT PS f u Ps oh vh k]) hD [0, 1] (by decide) rfl) hXo hN hT hS) rfl rfl hl.1 rfl (lv_room (Nat.le_of_ble_eq_true rfl)) dL_law_592 ⟨(show cells + 3 ≤ 601024 by omega), (show slots + 18 ≤ 7293034 by omega)⟩) hP hD hS (fun _ => rfl) (fun _ => rfl) (fun k9 z9 H locs hw9 hP hD hS => ?_)
  have hP : va_P (dC, dI) vwCl (fl [outW cL qo z9.2, fW cI cP a0 aN aT aS t0 t1 t2 h0 h1 pa z9.1.1 PT PS f u z9.1.2.1 z9.1.2.2.1 z9.1.2.2.2 k, mW cI o q0 q1 F x M h]) H := hP
  have hD : va_D A (fl [outW cL qo z9.2, fW cI cP a0 aN aT aS t0 t1 t2 h0 h1 pa z9.1.1 PT PS f u z9.1.2.1 z9.1.2.2.1 z9.1.2.2.2 k, mW cI o q0 q1 F x M h]) := hD
  refine lv_istore (lv' := [(5, .int k9), (0, .ref b), (1, .ref a0), (2, .ref o), (3, .ref qo), (4, .int (nI i))]) hx hb dL_law_595 hl (by decide) rfl (fun ls hl => ?_)
  refine lv_aload_n hx hb dL_law_597 rfl (lv_at hl 3 rfl) ?_
  refine law_arg hx hb hX hbl hbA hS (j := 1) (by omega) hL (lv_at hl 1 rfl) (lv_at hl 5 rfl) rfl dL_law_598 dL_law_599 dL_law_601 dL_law_602 dL_law_603 ?_
  refine law_arg hx hb hX hbl hbA hS (j := 2) (by omega) hL (lv_at hl 1 rfl) (lv_at hl 5 rfl) rfl dL_law_604 dL_law_605 dL_law_607 dL_law_608 dL_law_609 ?_
  refine law_arg hx hb hX hbl hbA hS (j := 3) (by omega) hL (lv_at hl 1 rfl) (lv_at hl 5 rfl) rfl dL_law_610 dL_law_611 dL_law_613 dL_law_614 dL_law_615 ?_
  refine k_modi (Wm := fun (w9 : (Nat → Int32) × (Nat → Int32)) => mW cI o q0 q1 w9.1 x w9.2 h) (va_runV (As := [.int (xs (i + 1)), .int (xs (i + 2)), .int (xs (i + 3))]) (rest := []) ⟨hx, hb, hml, hown, hts⟩ (mX7_sit l dC dI cI o q0 q1 F x M h (xs (i + 1)) (xs (i + 2)) (xs (i + 3)) hRW G9 L9 hRO vh hv6 hM1) (cwV 3 hts (gi_V u_977 u_978 u_979 u_7 u_980) rfl rfl rfl (by decide +kernel) ⟨Nat.le_of_ble_eq_true rfl, Nat.le_of_ble_eq_true rfl⟩) (pcM_V (ci := 5) (q0 := 0) (fl_at hP 2 rfl) (hK.sub (tys' := [(cI, .int)]) [0] rfl) hn (fl_D1 hD 2 rfl) rfl rfl) rfl rfl hl.1 rfl (lv_room (Nat.le_of_ble_eq_true rfl)) dL_law_616 ⟨(show cells + 3 + 0 ≤ 601024 by omega), (show slots + 18 + 0 ≤ 7293034 by omega)⟩) hP hD hS (fun _ => rfl) (fun b9 w9 H locs hm9 hP hD hS => ?_)
  have hP : va_P (dC, dI) vwCl (fl [outW cL qo z9.2, fW cI cP a0 aN aT aS t0 t1 t2 h0 h1 pa z9.1.1 PT PS f u z9.1.2.1 z9.1.2.2.1 z9.1.2.2.2 k, mW cI o q0 q1 w9.1 x w9.2 h]) H := hP
  have hD : va_D A (fl [outW cL qo z9.2, fW cI cP a0 aN aT aS t0 t1 t2 h0 h1 pa z9.1.1 PT PS f u z9.1.2.1 z9.1.2.2.1 z9.1.2.2.2 k, mW cI o q0 q1 w9.1 x w9.2 h]) := hD
  refine lv_istore (lv' := [(6, .int b9), (5, .int k9), (0, .ref b), (1, .ref a0), (2, .ref o), (3, .ref qo), (4, .int (nI i))]) hx hb dL_law_619 hl (by decide) rfl (fun ls hl => ?_)
  obtain ⟨s1, s2, s3⟩ := sx_sit (PT := PT) (fo := fo) hI hw9 hm9
  refine law_tail C0 hP hS hl s1 s2 (show cells + 3 ≤ 601024 by omega) (show slots + 18 ≤ 7293034 by omega) dL_law_621 dL_law_622 dL_law_625 dL_law_627 dL_law_632 dL_law_634 dL_law_637 dL_law_638 dL_law_639 dL_law_640 dL_law_642 dL_law_643 dL_law_644 dL_law_649 (by decide) (fun ls hl => ?_)
  exact W.widen (show cells + 3 ≤ cells + 3 by omega) (show slots + 18 ≤ slots + 18 by omega) (kk _ _ _ _ _ _ _ _ _ _ _ _ _ _ _ _ _ s3 hP hD hS hl)
set_option maxHeartbeats 4000000 in
set_option maxRecDepth 100000 in
theorem lc_rise (hst : l.stackTraces = false) (C : LBd p s m c b L xs A dC dI cI cP cL qL qG) (hI : LI PN PS Ps oh vh k F M f u x) (hi : i + 4 ≤ L) (hL : L ≤ 2048) (hP : va_P (dC, dI) vwCl (fl [outW cL qo fo, fW cI cP a0 aN aT aS t0 t1 t2 h0 h1 pa PN PT PS f u Ps oh vh k, mW cI o q0 q1 F x M h]) H) (hD : va_D A (fl [outW cL qo fo, fW cI cP a0 aN aT aS t0 t1 t2 h0 h1 pa PN PT PS f u Ps oh vh k, mW cI o q0 q1 F x M h])) (hS : va_S A s.heap H locs) (hl : lv_has ls 9 [(0, .ref b), (1, .ref a0), (2, .ref o), (3, .ref qo), (4, .int (nI i))]) (hc : cells + 3 ≤ 601024) (hs : slots + 18 ≤ 7293034) (kk : NX p l e s m below meth c Q b i A dC dI cI cP cL qo a0 aN aT aS t0 t1 t2 h0 h1 pa o q0 q1 (cells + 3) (slots + 18)) : W p l e room_1 s m #[Value.ref b] below meth c H locs cells slots Q (F0 m 652 ls []) := by
  have C0 := C
  have hI0 := hI
  obtain ⟨hx, hb, hml, hown, hts, hX, hbl, hbA, hA, hK, hn, hXo, hN, hT⟩ := C
  obtain ⟨⟨⟨G9, T9, L9, hR9⟩, ⟨ho6, hv6, -⟩, hM1, -, -⟩, ⟨n9, hn9, hun, hM9, -⟩⟩ := hI0
  have hRO := hR9.wf.ro
  have hRW := hRO.1
  have hM3 : IN (M 3) 60 := ⟨n9, hn9, hM9⟩
  have hu9 : u = nI u.toNatClampNeg := by rw [hun, nI_clamp (by omega)]
  have hu8 : u.toNatClampNeg ≤ 60 := by rw [hun, nI_clamp (by omega)]; exact hn9
  have hG9 : IN (PN 10 0) 16 := ⟨G9, hR9.wf.G16, hR9.pg⟩
  refine lv_aload_n hx hb dL_law_652 rfl (lv_at hl 1 rfl) ?_
  refine law_arg hx hb hX hbl hbA hS (j := 1) (by omega) hL (lv_at hl 0 rfl) (lv_at hl 4 rfl) rfl dL_law_653 dL_law_654 dL_law_656 dL_law_657 dL_law_658 ?_
  refine lv_aload_n hx hb dL_law_659 rfl (lv_at hl 3 rfl) ?_
  refine k_wrap (Wo := fun (z9 : (PV × (Nat → PV) × Nat × Nat) × (Nat → Int64)) => outW cL qo z9.2) (Wf := fun (z9 : (PV × (Nat → PV) × Nat × Nat) × (Nat → Int64)) => fW cI cP a0 aN aT aS t0 t1 t2 h0 h1 pa z9.1.1 PT PS f u z9.1.2.1 z9.1.2.2.1 z9.1.2.2.2 k) (vx_runSX (As := [.ref a0, .int (xs (i + 1)), .ref qo]) (rest := []) ⟨hx, hb, hml, hown, hts⟩ (mL_rise l hst dC dI cI cP cL qL qG qo fo a0 aN aT aS t0 t1 t2 h0 h1 pa PN PT PS f u Ps oh vh k (xs (i + 1)) ho6 hv6) (vx_cwSW 3 hts (gi_W u_655 u_656 u_0 u_657) rfl rfl rfl (by decide +kernel) ⟨Nat.le_of_ble_eq_true rfl, Nat.le_of_ble_eq_true rfl⟩) (pcW_S (fl_sub (wc := [outW cL qo fo, fW cI cP a0 aN aT aS t0 t1 t2 h0 h1 pa PN PT PS f u Ps oh vh k]) hP [0, 1] rfl) hK hn (fl_D (wc := [outW cL qo fo, fW cI cP a0 aN aT aS t0 t1 t2 h0 h1 pa PN PT PS f u Ps oh vh k]) hD [0, 1] (by decide) rfl) hXo hN hT hS) rfl rfl hl.1 rfl (lv_room (Nat.le_of_ble_eq_true rfl)) dL_law_660 ⟨(show cells + 2 ≤ 601024 by omega), (show slots + 12 ≤ 7293034 by omega)⟩) hP hD hS (fun _ => rfl) (fun _ => rfl) (fun k9 z9 H locs hw9 hP hD hS => ?_)
  have hP : va_P (dC, dI) vwCl (fl [outW cL qo z9.2, fW cI cP a0 aN aT aS t0 t1 t2 h0 h1 pa z9.1.1 PT PS f u z9.1.2.1 z9.1.2.2.1 z9.1.2.2.2 k, mW cI o q0 q1 F x M h]) H := hP
  have hD : va_D A (fl [outW cL qo z9.2, fW cI cP a0 aN aT aS t0 t1 t2 h0 h1 pa z9.1.1 PT PS f u z9.1.2.1 z9.1.2.2.1 z9.1.2.2.2 k, mW cI o q0 q1 F x M h]) := hD
  refine lv_istore (lv' := [(5, .int k9), (0, .ref b), (1, .ref a0), (2, .ref o), (3, .ref qo), (4, .int (nI i))]) hx hb dL_law_663 hl (by decide) rfl (fun ls hl => ?_)
  refine lv_aload_n hx hb dL_law_665 rfl (lv_at hl 3 rfl) ?_
  refine law_arg hx hb hX hbl hbA hS (j := 1) (by omega) hL (lv_at hl 1 rfl) (lv_at hl 5 rfl) rfl dL_law_666 dL_law_667 dL_law_669 dL_law_670 dL_law_671 ?_
  refine k_modi (Wm := fun (w9 : (Nat → Int32) × (Nat → Int32)) => mW cI o q0 q1 w9.1 x w9.2 h) (va_runV (As := [.int (xs (i + 1))]) (rest := []) ⟨hx, hb, hml, hown, hts⟩ (mX7_rise l dC dI cI o q0 q1 F x M h (xs (i + 1)) hRW G9 L9 hRO vh hv6 hM1) (cwV 1 hts (gi_V u_1016 u_1017 u_1018 u_7 u_1019) rfl rfl rfl (by decide +kernel) ⟨Nat.le_of_ble_eq_true rfl, Nat.le_of_ble_eq_true rfl⟩) (pcM_V (ci := 5) (q0 := 0) (fl_at hP 2 rfl) (hK.sub (tys' := [(cI, .int)]) [0] rfl) hn (fl_D1 hD 2 rfl) rfl rfl) rfl rfl hl.1 rfl (lv_room (Nat.le_of_ble_eq_true rfl)) dL_law_672 ⟨(show cells + 2 + 0 ≤ 601024 by omega), (show slots + 12 + 0 ≤ 7293034 by omega)⟩) hP hD hS (fun _ => rfl) (fun b9 w9 H locs hm9 hP hD hS => ?_)
  have hP : va_P (dC, dI) vwCl (fl [outW cL qo z9.2, fW cI cP a0 aN aT aS t0 t1 t2 h0 h1 pa z9.1.1 PT PS f u z9.1.2.1 z9.1.2.2.1 z9.1.2.2.2 k, mW cI o q0 q1 w9.1 x w9.2 h]) H := hP
  have hD : va_D A (fl [outW cL qo z9.2, fW cI cP a0 aN aT aS t0 t1 t2 h0 h1 pa z9.1.1 PT PS f u z9.1.2.1 z9.1.2.2.1 z9.1.2.2.2 k, mW cI o q0 q1 w9.1 x w9.2 h]) := hD
  refine lv_istore (lv' := [(6, .int b9), (5, .int k9), (0, .ref b), (1, .ref a0), (2, .ref o), (3, .ref qo), (4, .int (nI i))]) hx hb dL_law_675 hl (by decide) rfl (fun ls hl => ?_)
  obtain ⟨s1, s2, s3⟩ := sx_rise (PT := PT) (fo := fo) hI hw9 hm9
  refine law_tail C0 hP hS hl s1 s2 (show cells + 2 ≤ 601024 by omega) (show slots + 12 ≤ 7293034 by omega) dL_law_677 dL_law_678 dL_law_681 dL_law_683 dL_law_688 dL_law_690 dL_law_693 dL_law_694 dL_law_695 dL_law_696 dL_law_698 dL_law_699 dL_law_700 dL_law_705 (by decide) (fun ls hl => ?_)
  exact W.widen (show cells + 2 ≤ cells + 3 by omega) (show slots + 12 ≤ slots + 18 by omega) (kk _ _ _ _ _ _ _ _ _ _ _ _ _ _ _ _ _ s3 hP hD hS hl)
end LC421
