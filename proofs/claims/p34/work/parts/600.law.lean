/-! the law, turn for turn. Mine (rows laid by program). -/
section LW
variable {p : Program} {l : Launch} {e : Env} {s : State} {m : MethodId} {below : List Frame} {meth : Method} {c : Code} {Q : State → Prop} {b N : Nat} {xs : Nat → Int32} {A : Nat → Prop} {dC : Nat → ClassId} {dI : Nat → Nat → Nat} {cI cP : ClassId} {qL qG a0 : Nat} {aN aT aS : Nat → Nat} {t0 t1 t2 h0 h1 : Nat} {pa : Nat → Nat → Nat}
abbrev rmL_law : Room := room_1
theorem XI_0 : XI F0m 0 [] := ⟨fun g z hg => absurd hg (Nat.not_lt_zero g), fun g h a c hg => absurd hg (Nat.not_lt_zero g), by decide, fun g hg => absurd hg (Nat.not_lt_zero g)⟩
theorem NW_0 : NW P0 := ⟨F0m, 0, 0, [], REL_0, XI_0⟩
set_option maxHeartbeats 4000000 in
set_option maxRecDepth 100000 in
theorem law_loop {f : Nat → Int32} {u : Int32} (C : LBd p s m c b N xs A dC dI cI cP qL qG) (hN : N ≤ 260) (fin : ∀ (H : Heap) (locs : List Loc) (ls : Array Slot), va_S A s.heap H locs → lv_has ls 13 [(2, .int 1), (1, .ref a0), (0, .ref b)] → W p l e rmL_law s m #[Value.ref b] below meth c H locs 200 4000 Q (F0 m 280 ls [])) : ∀ (d : Nat) (PN PT PS : PV) (Ps : Nat → PV) (oh vh jj9 : Nat) (H : Heap) (locs : List Loc) (ls : Array Slot), jj9 + d = 40 → NW PN → NW PS → oh < 6 → vh ≤ 6 → va_P (dC, dI) vwCl (fW cI cP a0 aN aT aS t0 t1 t2 h0 h1 pa PN PT PS f u Ps oh vh 1) H → va_D A (fW cI cP a0 aN aT aS t0 t1 t2 h0 h1 pa PN PT PS f u Ps oh vh 1) → va_S A s.heap H locs → lv_has ls 13 [(3, .int (nI jj9)), (2, .int 1), (1, .ref a0), (0, .ref b)] → W p l e rmL_law s m #[Value.ref b] below meth c H locs 200 4000 Q (F0 m 30 ls []) := by
  obtain ⟨hx, hb, hml, hown, hts0, hXs, hbl, hbA, hA, hK, hn, hT⟩ := C
  intro d
  induction d with
  | zero =>
    intro PN PT PS Ps oh vh jj9 H locs ls hj hN9 hS9 ho6 hv6 hP hD hS hl
    refine lv_iload_n hx hb dL_law_30 rfl (lv_at hl 0 rfl) ?_
    refine lv_bipush (v := 40) hx hb dL_law_31 (by decide) ?_
    refine lv_icmp_ge (tgt := 280) hx hb dL_law_33 (by decide) (fun _ => fin H locs ls hS (lv_sub hl [1, 2, 3] rfl)) (fun c9 => ?_)
    obtain rfl : jj9 = 40 := by omega
    exact absurd (by decide) c9
  | succ d ih =>
    intro PN PT PS Ps oh vh jj9 H locs ls hj hN9 hS9 ho6 hv6 hP hD hS hl
    have hj40 : jj9 < 40 := by omega
    refine lv_iload_n hx hb dL_law_30 rfl (lv_at hl 0 rfl) ?_
    refine lv_bipush (v := 40) hx hb dL_law_31 (by decide) ?_
    refine lv_icmp_ge (tgt := 280) hx hb dL_law_33 (by decide) (fun c9 => ?_) (fun c9 => ?_)
    · have c9 : nI 40 ≤ nI jj9 := c9
      rw [nI_leI (by decide) (by omega)] at c9
      omega
    have K198 : ∀ (xa ya : Int32) (PN : PV) (Ps : Nat → PV) (oh vh : Nat), NW PN → oh < 6 → vh ≤ 6 → ∀ (H : Heap) (locs : List Loc), va_P (dC, dI) vwCl (fW cI cP a0 aN aT aS t0 t1 t2 h0 h1 pa PN PT PS f u Ps oh vh 1) H → va_D A (fW cI cP a0 aN aT aS t0 t1 t2 h0 h1 pa PN PT PS f u Ps oh vh 1) → va_S A s.heap H locs → ∀ (ls : Array Slot), lv_has ls 13 [(5, .int ya), (4, .int xa), (3, .int (nI jj9)), (2, .int 1), (1, .ref a0), (0, .ref b)] → W p l e rmL_law s m #[Value.ref b] below meth c H locs 200 4000 Q (F0 m 198 ls []) := by
      intro xa ya PN Ps oh vh hN9 ho6 hv6 H locs hP hD hS ls hl
      obtain ⟨f9, G, T, L, hR, hX⟩ := hN9
      have K247 : ∀ (PT : PV) (Ps : Nat → PV) (oh vh : Nat), oh < 6 → vh ≤ 6 → ∀ (H : Heap) (locs : List Loc), va_P (dC, dI) vwCl (fW cI cP a0 aN aT aS t0 t1 t2 h0 h1 pa PN PT PS f u Ps oh vh 1) H → va_D A (fW cI cP a0 aN aT aS t0 t1 t2 h0 h1 pa PN PT PS f u Ps oh vh 1) → va_S A s.heap H locs → ∀ (ls : Array Slot), lv_has ls 13 [(3, .int (nI jj9)), (2, .int 1), (1, .ref a0), (0, .ref b)] → W p l e rmL_law s m #[Value.ref b] below meth c H locs 200 4000 Q (F0 m 247 ls []) := by
        intro PT Ps oh vh ho6 hv6 H locs hP hD hS ls hl
        have K268 : ∀ (PS : PV), NW PS → ∀ (H : Heap) (locs : List Loc), va_P (dC, dI) vwCl (fW cI cP a0 aN aT aS t0 t1 t2 h0 h1 pa PN PT PS f u Ps oh vh 1) H → va_D A (fW cI cP a0 aN aT aS t0 t1 t2 h0 h1 pa PN PT PS f u Ps oh vh 1) → va_S A s.heap H locs → ∀ (ls : Array Slot), lv_has ls 13 [(3, .int (nI jj9)), (2, .int 1), (1, .ref a0), (0, .ref b)] → W p l e rmL_law s m #[Value.ref b] below meth c H locs 200 4000 Q (F0 m 268 ls []) := by
          intro PS hS9 H locs hP hD hS ls hl
          refine lv_iconst (v := 1) hx hb dL_law_268 (by decide) ?_
          refine lv_goto (tgt := 273) hx hb dL_law_269 (by decide) ?_
          refine lv_istore_n (lv' := [(2, .int 1), (3, .int (nI jj9)), (1, .ref a0), (0, .ref b)]) hx hb dL_law_273 rfl hl (by decide) rfl (fun ls hl => ?_)
          refine lv_iinc (v := (nI (jj9 + 1))) (lv' := [(3, .int (nI (jj9 + 1))), (2, .int 1), (1, .ref a0), (0, .ref b)]) hx hb dL_law_274 hl (k := 1) rfl (nI_1 _) (by decide) rfl (fun ls hl => ?_)
          refine lv_goto (tgt := 30) hx hb dL_law_277 (by decide) ?_
          exact ih PN PT PS Ps oh vh (jj9 + 1) H locs ls (by omega) ⟨f9, G, T, L, hR, hX⟩ hS9 ho6 hv6 hP hD hS (lv_sub hl [0, 1, 2, 3] rfl)
        refine lv_iload_n hx hb dL_law_247 rfl (lv_at hl 0 rfl) ?_
        refine lv_bipush (v := 13) hx hb dL_law_248 (by decide) ?_
        refine lv_irem hx hb dL_law_250 (by decide) ?_
        refine lv_tope (y := (nI (jj9 % 13))) (pk_rem (a := jj9) (d := 13) (by omega) (by decide) (by decide)) ?_
        refine lv_bipush (v := 10) hx hb dL_law_251 (by decide) ?_
        refine lv_icmp_ne (tgt := 268) hx hb dL_law_253 (by decide) (fun c_253 => ?_) (fun c_253 => ?_)
        · exact K268 PS hS9 _ _ hP hD hS ls (lv_sub hl [0, 1, 2, 3] rfl)
        refine lv_aload_n hx hb dL_law_256 rfl (lv_at hl 2 rfl) ?_
        obtain ⟨S1, eS1⟩ : ∃ y, y = fX2_copyFrom PS PN := ⟨_, rfl⟩
        have e_257 : (fX6_keep PN PS) = ((PN 10 5), (S1, 1)) := (by rw [eS1]; exact keep_is _ _)
        refine k_deed2 (W1 := (fun (v9 : PV × Int32) => fW cI cP a0 aN aT aS t0 t1 t2 h0 h1 pa PN PT v9.1 f u Ps oh vh v9.2)) (r0 := (PN 10 5)) (u0 := (S1, 1)) e_257 (va_runV (As := []) (rest := []) ⟨hx, hb, hml, hown, hts0⟩ (mX6_keep l dC dI cI cP a0 aN aT aS t0 t1 t2 h0 h1 pa PN PT PS f u Ps oh vh 1 ) (cwV 0 hts0 (gi_V u_259 u_260 u_261 u_1 u_262) rfl rfl rfl (by decide +kernel) ⟨Nat.le_of_ble_eq_true rfl, Nat.le_of_ble_eq_true rfl⟩) (pcM_V (ci := 4) (q0 := 0) hP hK hn hD rfl rfl) rfl rfl hl.1 rfl (lv_room (Nat.le_of_ble_eq_true rfl)) dL_law_257 ⟨Nat.le_of_ble_eq_true rfl, Nat.le_of_ble_eq_true rfl⟩) hP hD hS rfl (fun H locs hP hD hS => ?_)
        have hP : va_P (dC, dI) vwCl (fW cI cP a0 aN aT aS t0 t1 t2 h0 h1 pa PN PT S1 f u Ps oh vh 1) H := hP
        have hD : va_D A (fW cI cP a0 aN aT aS t0 t1 t2 h0 h1 pa PN PT S1 f u Ps oh vh 1) := hD
        refine lv_aload_n hx hb dL_law_260 rfl (lv_at hl 2 rfl) ?_
        refine lv_iconst (v := 3) hx hb dL_law_261 (by decide) ?_
        have e_262 : (fX6_count PN Ps oh vh 3) = Sum.inr ((PN 10 5), ()) := count_3
        refine k_calli (W.runV (As := [.int 3]) (rest := [.int (PN 10 5)]) ⟨hx, hb, hml, hown, hts0⟩ (mX6_count l dC dI cI cP a0 aN aT aS t0 t1 t2 h0 h1 pa PN PT S1 f u Ps oh vh 1 3 (ok_inr e_262)) (cwV 1 hts0 (gi_V u_268 u_269 u_270 u_1 u_271) rfl rfl rfl (by decide +kernel) ⟨Nat.le_of_ble_eq_true rfl, Nat.le_of_ble_eq_true rfl⟩) (pcR_V (ci := 4) (q0 := 0) hP hK hn rfl rfl) rfl rfl hl.1 rfl (lv_room (Nat.le_of_ble_eq_true rfl)) dL_law_262 ⟨Nat.le_of_ble_eq_true rfl, Nat.le_of_ble_eq_true rfl⟩) ?_
        refine lv_tope (y := (PN 10 5)) (ok1_inr e_262) ?_
        refine lv_icmp_ne (tgt := 272) hx hb dL_law_265 (by decide) (fun c_265 => ?_) (fun c_265 => ?_)
        · exact absurd rfl c_265
        exact K268 S1 (by rw [eS1]; exact keep_NW ⟨f9, G, T, L, hR, hX⟩) _ _ hP hD hS ls (lv_sub hl [0, 1, 2, 3] rfl)
      refine lv_iload_n hx hb dL_law_198 rfl (lv_at hl 3 rfl) ?_
      refine lv_if_eq (tgt := 272) hx hb dL_law_199 (by decide) (fun c_199 => ?_) (fun c_199 => ?_)
      · exact absurd c_199 (by decide)
      refine lv_aload_n hx hb dL_law_202 rfl (lv_at hl 4 rfl) ?_
      refine k_callb (W.runS (As := [.ref a0]) (rest := []) ⟨hx, hb, hml, hown, hts0⟩ (mL_holds l dC dI cI cP a0 aN aT aS t0 t1 t2 h0 h1 pa PN PT PS f u Ps oh vh 1  f9 G T L hR) (va_cwS 1 hts0 (gi_S u_626 u_627 u_0 u_628) rfl rfl rfl (by decide +kernel) ⟨Nat.le_of_ble_eq_true rfl, Nat.le_of_ble_eq_true rfl⟩) (pcR_S hP hK hn) rfl rfl hl.1 rfl (lv_room (Nat.le_of_ble_eq_true rfl)) dL_law_203 ⟨Nat.le_of_ble_eq_true rfl, Nat.le_of_ble_eq_true rfl⟩) (fun br203 => ?_)
      refine lv_if_eq (tgt := 272) hx hb dL_law_206 (by decide) (fun c_206 => ?_) (fun c_206 => ?_)
      · exact absurd (c_206.symm.trans (holds_1 hR hX)) (by decide)
      refine lv_iload_n hx hb dL_law_209 rfl (lv_at hl 2 rfl) ?_
      refine lv_iconst (v := 4) hx hb dL_law_210 (by decide) ?_
      refine lv_irem hx hb dL_law_211 (by decide) ?_
      refine lv_tope (y := (nI (jj9 % 4))) (pk_rem (a := jj9) (d := 4) (by omega) (by decide) (by decide)) ?_
      refine lv_iconst (v := 2) hx hb dL_law_212 (by decide) ?_
      refine lv_icmp_ne (tgt := 247) hx hb dL_law_213 (by decide) (fun c_213 => ?_) (fun c_213 => ?_)
      · exact K247 PT Ps oh vh ho6 hv6 _ _ hP hD hS ls (lv_sub hl [2, 3, 4, 5] rfl)
      refine lv_aload_n hx hb dL_law_216 rfl (lv_at hl 4 rfl) ?_
      refine lv_iconst (v := 0) hx hb dL_law_217 (by decide) ?_
      have e_218 : (fX6_count PN Ps oh vh 0) = Sum.inr ((PN 10 0), ()) := count_0
      refine k_calli (W.runV (As := [.int 0]) (rest := []) ⟨hx, hb, hml, hown, hts0⟩ (mX6_count l dC dI cI cP a0 aN aT aS t0 t1 t2 h0 h1 pa PN PT PS f u Ps oh vh 1 0 (ok_inr e_218)) (cwV 1 hts0 (gi_V u_268 u_269 u_270 u_1 u_271) rfl rfl rfl (by decide +kernel) ⟨Nat.le_of_ble_eq_true rfl, Nat.le_of_ble_eq_true rfl⟩) (pcR_V (ci := 4) (q0 := 0) hP hK hn rfl rfl) rfl rfl hl.1 rfl (lv_room (Nat.le_of_ble_eq_true rfl)) dL_law_218 ⟨Nat.le_of_ble_eq_true rfl, Nat.le_of_ble_eq_true rfl⟩) ?_
      refine lv_tope (y := (PN 10 0)) (ok1_inr e_218) ?_
      refine lv_if_eq (tgt := 247) hx hb dL_law_221 (by decide) (fun c_221 => ?_) (fun c_221 => ?_)
      · exact K247 PT Ps oh vh ho6 hv6 _ _ hP hD hS ls (lv_sub hl [2, 3, 4, 5] rfl)
      refine lv_aload_n hx hb dL_law_224 rfl (lv_at hl 4 rfl) ?_
      refine lv_iload hx hb dL_law_225 (lv_at hl 1 rfl) ?_
      refine lv_iconst (v := 5) hx hb dL_law_227 (by decide) ?_
      refine lv_ishr hx hb dL_law_228 ?_
      refine lv_aload_n hx hb dL_law_229 rfl (lv_at hl 4 rfl) ?_
      refine lv_iconst (v := 0) hx hb dL_law_230 (by decide) ?_
      have e_231 : (fX6_count PN Ps oh vh 0) = Sum.inr ((PN 10 0), ()) := count_0
      refine k_calli (W.runV (As := [.int 0]) (rest := [.int (xa >>> (5 &&& 31)), .ref a0]) ⟨hx, hb, hml, hown, hts0⟩ (mX6_count l dC dI cI cP a0 aN aT aS t0 t1 t2 h0 h1 pa PN PT PS f u Ps oh vh 1 0 (ok_inr e_231)) (cwV 1 hts0 (gi_V u_268 u_269 u_270 u_1 u_271) rfl rfl rfl (by decide +kernel) ⟨Nat.le_of_ble_eq_true rfl, Nat.le_of_ble_eq_true rfl⟩) (pcR_V (ci := 4) (q0 := 0) hP hK hn rfl rfl) rfl rfl hl.1 rfl (lv_room (Nat.le_of_ble_eq_true rfl)) dL_law_231 ⟨Nat.le_of_ble_eq_true rfl, Nat.le_of_ble_eq_true rfl⟩) ?_
      refine lv_tope (y := (PN 10 0)) (ok1_inr e_231) ?_
      refine k_calli (W.runS (As := [.int (xa >>> (5 &&& 31)), .int (PN 10 0)]) (rest := [.ref a0]) ⟨hx, hb, hml, hown, hts0⟩ (mL_up l dC dI  (xa >>> (5 &&& 31)) (PN 10 0) c_221) (va_cwS 2 hts0 (gi_S u_350 u_351 u_0 u_352) rfl rfl rfl (by decide +kernel) ⟨Nat.le_of_ble_eq_true rfl, Nat.le_of_ble_eq_true rfl⟩) (pcR_S (hP.sub (ws' := []) [] rfl) (hK.sub (tys' := []) [] rfl) hn) rfl rfl hl.1 rfl (lv_room (Nat.le_of_ble_eq_true rfl)) dL_law_234 ⟨Nat.le_of_ble_eq_true rfl, Nat.le_of_ble_eq_true rfl⟩) ?_
      obtain ⟨g9, hg9, eg9⟩ := act_o hR c_221 (xa >>> (5 &&& 31))
      refine lv_tope (y := nI g9) eg9 ?_
      refine lv_iload hx hb dL_law_237 (lv_at hl 0 rfl) ?_
      refine lv_iconst (v := 3) hx hb dL_law_239 (by decide) ?_
      refine lv_ishr hx hb dL_law_240 ?_
      refine k_some (W1 := (fun (u9 : PV × (Nat → PV) × Nat × Nat) => fW cI cP a0 aN aT aS t0 t1 t2 h0 h1 pa PN u9.1 PS f u u9.2.1 u9.2.2.1 u9.2.2.2 1)) (Z := fun u9 => u9.2.2.1 < 6 ∧ u9.2.2.2 ≤ 6) (va_runS (As := [.ref a0, .int (nI g9), .int (ya >>> (3 &&& 31))]) (rest := []) ⟨hx, hb, hml, hown, hts0⟩ (mL_isAhead l dC dI cI cP a0 aN aT aS t0 t1 t2 h0 h1 pa PN PT PS f u Ps oh vh 1 g9 (ya >>> (3 &&& 31)) f9 G T L hR hX hg9 ho6 hv6) (va_cwS 3 hts0 (gi_S u_654 u_655 u_0 u_656) rfl rfl rfl (by decide +kernel) ⟨Nat.le_of_ble_eq_true rfl, Nat.le_of_ble_eq_true rfl⟩) (pcM_S hP hK hn hD) rfl rfl hl.1 rfl (lv_room (Nat.le_of_ble_eq_true rfl)) dL_law_241 ⟨Nat.le_of_ble_eq_true rfl, Nat.le_of_ble_eq_true rfl⟩) hP hD hS (fun _ => rfl) (fun u9 hz9 H locs hP hD hS => ?_)
      obtain ⟨PT9, Q9, o9, v9⟩ := u9
      have ho9 : o9 < 6 := hz9.1
      have hv9 : v9 ≤ 6 := hz9.2
      have hP : va_P (dC, dI) vwCl (fW cI cP a0 aN aT aS t0 t1 t2 h0 h1 pa PN PT9 PS f u Q9 o9 v9 1) H := hP
      have hD : va_D A (fW cI cP a0 aN aT aS t0 t1 t2 h0 h1 pa PN PT9 PS f u Q9 o9 v9 1) := hD
      refine lv_if_eq (tgt := 272) hx hb dL_law_244 (by decide) (fun c_244 => ?_) (fun c_244 => ?_)
      · exact absurd c_244 (by decide)
      exact K247 PT9 Q9 o9 v9 ho9 hv9 _ _ hP hD hS ls (lv_sub hl [2, 3, 4, 5] rfl)
    obtain ⟨f9, G, T, L, hR, hX⟩ := hN9
    refine lv_iload_n hx hb dL_law_36 rfl (lv_at hl 1 rfl) ?_
    refine lv_if_eq (tgt := 280) hx hb dL_law_37 (by decide) (fun c_37 => ?_) (fun c_37 => ?_)
    · exact absurd c_37 (by decide)
    refine lv_aload_n hx hb dL_law_40 rfl (lv_at hl 3 rfl) ?_
    refine lv_iconst (v := 2) hx hb dL_law_41 (by decide) ?_
    refine lv_iload_n hx hb dL_law_42 rfl (lv_at hl 0 rfl) ?_
    refine lv_imul hx hb dL_law_43 ?_
    refine lv_tope (y := (nI (2 * jj9))) (pk_mul 2 jj9) ?_
    refine k_calli (W.runS (As := [.ref b, .int (nI (2 * jj9))]) (rest := []) ⟨hx, hb, hml, hown, hts0⟩ (mL_cell l b N xs ((2 * jj9)) (by omega) (by omega)) (va_cwS 2 hts0 (gi_S u_346 u_347 u_0 u_348) rfl rfl rfl (by decide +kernel) ⟨Nat.le_of_ble_eq_true rfl, Nat.le_of_ble_eq_true rfl⟩) (pcY_S hXs hbl hbA hS) rfl rfl hl.1 rfl (lv_room (Nat.le_of_ble_eq_true rfl)) dL_law_44 ⟨Nat.le_of_ble_eq_true rfl, Nat.le_of_ble_eq_true rfl⟩) ?_
    obtain ⟨xa, hxa⟩ : ∃ y, y = cv N xs ((2 * jj9)) := ⟨_, rfl⟩
    refine lv_tope (y := xa) hxa.symm ?_
    refine lv_istore (lv' := [(4, .int xa), (3, .int (nI jj9)), (2, .int 1), (1, .ref a0), (0, .ref b)]) hx hb dL_law_47 hl (by decide) rfl (fun ls hl => ?_)
    refine lv_aload_n hx hb dL_law_49 rfl (lv_at hl 4 rfl) ?_
    refine lv_iconst (v := 2) hx hb dL_law_50 (by decide) ?_
    refine lv_iload_n hx hb dL_law_51 rfl (lv_at hl 1 rfl) ?_
    refine lv_imul hx hb dL_law_52 ?_
    refine lv_tope (y := (nI (2 * jj9))) (pk_mul 2 jj9) ?_
    refine lv_iconst (v := 1) hx hb dL_law_53 (by decide) ?_
    refine lv_iadd hx hb dL_law_54 ?_
    refine lv_tope (y := (nI ((2 * jj9) + 1))) (nI_add (2 * jj9) 1) ?_
    refine k_calli (W.runS (As := [.ref b, .int (nI ((2 * jj9) + 1))]) (rest := []) ⟨hx, hb, hml, hown, hts0⟩ (mL_cell l b N xs (((2 * jj9) + 1)) (by omega) (by omega)) (va_cwS 2 hts0 (gi_S u_346 u_347 u_0 u_348) rfl rfl rfl (by decide +kernel) ⟨Nat.le_of_ble_eq_true rfl, Nat.le_of_ble_eq_true rfl⟩) (pcY_S hXs hbl hbA hS) rfl rfl hl.1 rfl (lv_room (Nat.le_of_ble_eq_true rfl)) dL_law_55 ⟨Nat.le_of_ble_eq_true rfl, Nat.le_of_ble_eq_true rfl⟩) ?_
    obtain ⟨ya, hya⟩ : ∃ y, y = cv N xs (((2 * jj9) + 1)) := ⟨_, rfl⟩
    refine lv_tope (y := ya) hya.symm ?_
    refine lv_istore (lv' := [(5, .int ya), (4, .int xa), (3, .int (nI jj9)), (2, .int 1), (1, .ref a0), (0, .ref b)]) hx hb dL_law_58 hl (by decide) rfl (fun ls hl => ?_)
    refine lv_aload_n hx hb dL_law_60 rfl (lv_at hl 4 rfl) ?_
    refine k_calll (W.runS (As := [.ref a0]) (rest := []) ⟨hx, hb, hml, hown, hts0⟩ (mL_looks l dC dI cI cP a0 aN aT aS t0 t1 t2 h0 h1 pa PN PT PS f u Ps oh vh 1  f9 G T L hR) (va_cwS 1 hts0 (gi_S u_354 u_355 u_0 u_356) rfl rfl rfl (by decide +kernel) ⟨Nat.le_of_ble_eq_true rfl, Nat.le_of_ble_eq_true rfl⟩) (pcR_S hP hK hn) rfl rfl hl.1 rfl (lv_room (Nat.le_of_ble_eq_true rfl)) dL_law_61 ⟨Nat.le_of_ble_eq_true rfl, Nat.le_of_ble_eq_true rfl⟩) ?_
    refine lv_lstore (lv' := [(6, .long (fL_looks PN)), (5, .int ya), (4, .int xa), (3, .int (nI jj9)), (2, .int 1), (1, .ref a0), (0, .ref b)]) hx hb dL_law_64 hl (by decide) rfl (fun ls hl => ?_)
    refine lv_aload_n hx hb dL_law_66 rfl (lv_at hl 5 rfl) ?_
    refine lv_bipush (v := 13) hx hb dL_law_67 (by decide) ?_
    have e_69 : (fX6_count PN Ps oh vh 13) = Sum.inr ((nI vh), ()) := count_13
    refine k_calli (W.runV (As := [.int 13]) (rest := []) ⟨hx, hb, hml, hown, hts0⟩ (mX6_count l dC dI cI cP a0 aN aT aS t0 t1 t2 h0 h1 pa PN PT PS f u Ps oh vh 1 13 (ok_inr e_69)) (cwV 1 hts0 (gi_V u_268 u_269 u_270 u_1 u_271) rfl rfl rfl (by decide +kernel) ⟨Nat.le_of_ble_eq_true rfl, Nat.le_of_ble_eq_true rfl⟩) (pcR_V (ci := 4) (q0 := 0) hP hK hn rfl rfl) rfl rfl hl.1 rfl (lv_room (Nat.le_of_ble_eq_true rfl)) dL_law_69 ⟨Nat.le_of_ble_eq_true rfl, Nat.le_of_ble_eq_true rfl⟩) ?_
    refine lv_tope (y := (nI vh)) (ok1_inr e_69) ?_
    refine lv_istore (lv' := [(8, .int (nI vh)), (6, .long (fL_looks PN)), (5, .int ya), (4, .int xa), (3, .int (nI jj9)), (2, .int 1), (1, .ref a0), (0, .ref b)]) hx hb dL_law_72 hl (by decide) rfl (fun ls hl => ?_)
    refine lv_aload_n hx hb dL_law_74 rfl (lv_at hl 6 rfl) ?_
    refine lv_iload hx hb dL_law_75 (lv_at hl 3 rfl) ?_
    refine lv_iload hx hb dL_law_77 (lv_at hl 2 rfl) ?_
    obtain ⟨r1, er1⟩ : ∃ y, y = (fL_act PN PS xa ya).1 := ⟨_, rfl⟩
    obtain ⟨P1, eP1⟩ : ∃ y, y = (fL_act PN PS xa ya).2 := ⟨_, rfl⟩
    obtain ⟨Q1, eQ1⟩ : ∃ y, y = (fX0_save Ps oh vh PN).1 := ⟨_, rfl⟩
    obtain ⟨o1, eo1⟩ : ∃ y, y = (fX0_save Ps oh vh PN).2.1 := ⟨_, rfl⟩
    obtain ⟨v1, ev1⟩ : ∃ y, y = (fX0_save Ps oh vh PN).2.2 := ⟨_, rfl⟩
    obtain ⟨ho1, hv1, hve1, hvp1, hQ1⟩ := save_ok (PN := PN) (Ps := Ps) (o := oh) (v := vh) ho6 hv6
    rw [← eo1] at ho1
    rw [← ev1] at hv1 hve1 hvp1
    rw [← eQ1, ← eo1, ← ev1] at hQ1
    have e_79 : SV PN Ps oh vh (fL_act PN PS xa ya) = (r1, (P1, (Q1, (o1, v1)))) := by rw [er1, eP1, eQ1, eo1, ev1]; rfl
    refine k_deed3 (W1 := (fun (v9 : PV × (Nat → PV) × Nat × Nat) => fW cI cP a0 aN aT aS t0 t1 t2 h0 h1 pa v9.1 PT PS f u v9.2.1 v9.2.2.1 v9.2.2.2 1)) (r0 := r1) (u0 := (P1, (Q1, (o1, v1)))) (Z := fun r9 u9 => 0 ≤ r9 ∧ NW u9.1) e_79 (va_runS (As := [.ref a0, .int xa, .int ya]) (rest := []) ⟨hx, hb, hml, hown, hts0⟩ (mL_act l dC dI cI cP a0 aN aT aS t0 t1 t2 h0 h1 pa PN PT PS f u Ps oh vh 1 xa ya qL qG f9 G T L hR hX hS9 rfl ho6 hv6) (va_cwS 3 hts0 (gi_S u_442 u_443 u_0 u_444) rfl rfl rfl (by decide +kernel) ⟨Nat.le_of_ble_eq_true rfl, Nat.le_of_ble_eq_true rfl⟩) (pcZ_S hP hK hn hD hT hS) rfl rfl hl.1 rfl (lv_room (Nat.le_of_ble_eq_true rfl)) dL_law_79 ⟨Nat.le_of_ble_eq_true rfl, Nat.le_of_ble_eq_true rfl⟩) hP hD hS rfl (fun hz9 H locs hP hD hS => ?_)
    have hP : va_P (dC, dI) vwCl (fW cI cP a0 aN aT aS t0 t1 t2 h0 h1 pa P1 PT PS f u Q1 o1 v1 1) H := hP
    have hD : va_D A (fW cI cP a0 aN aT aS t0 t1 t2 h0 h1 pa P1 PT PS f u Q1 o1 v1 1) := hD
    have h01 : 0 ≤ r1 := hz9.1
    have hN1 : NW P1 := hz9.2
    obtain ⟨f1, G1, T1, L1, hR1, hX1⟩ := hN1
    refine lv_istore (lv' := [(9, .int r1), (8, .int (nI vh)), (6, .long (fL_looks PN)), (5, .int ya), (4, .int xa), (3, .int (nI jj9)), (2, .int 1), (1, .ref a0), (0, .ref b)]) hx hb dL_law_82 hl (by decide) rfl (fun ls hl => ?_)
    refine lv_iload hx hb dL_law_84 (lv_at hl 0 rfl) ?_
    refine lv_if_lt (tgt := 118) hx hb dL_law_86 (by decide) (fun c_86 => ?_) (fun c_86 => ?_)
    · exact absurd c_86 (Int32.not_lt.mpr h01)
    refine lv_aload_n hx hb dL_law_89 rfl (lv_at hl 7 rfl) ?_
    refine lv_bipush (v := 13) hx hb dL_law_90 (by decide) ?_
    have e_92 : (fX6_count P1 Q1 o1 v1 13) = Sum.inr ((nI v1), ()) := count_13
    refine k_calli (W.runV (As := [.int 13]) (rest := []) ⟨hx, hb, hml, hown, hts0⟩ (mX6_count l dC dI cI cP a0 aN aT aS t0 t1 t2 h0 h1 pa P1 PT PS f u Q1 o1 v1 1 13 (ok_inr e_92)) (cwV 1 hts0 (gi_V u_268 u_269 u_270 u_1 u_271) rfl rfl rfl (by decide +kernel) ⟨Nat.le_of_ble_eq_true rfl, Nat.le_of_ble_eq_true rfl⟩) (pcR_V (ci := 4) (q0 := 0) hP hK hn rfl rfl) rfl rfl hl.1 rfl (lv_room (Nat.le_of_ble_eq_true rfl)) dL_law_92 ⟨Nat.le_of_ble_eq_true rfl, Nat.le_of_ble_eq_true rfl⟩) ?_
    refine lv_tope (y := (nI v1)) (ok1_inr e_92) ?_
    refine lv_iload hx hb dL_law_95 (lv_at hl 1 rfl) ?_
    refine lv_bipush (v := 6) hx hb dL_law_97 (by decide) ?_
    have K99 : ∀ (v99_0 : Nat), v99_0 = (if 6 ≤ (nI vh) then 6 else (vh + 1)) → ∀ (H : Heap) (locs : List Loc), va_P (dC, dI) vwCl (fW cI cP a0 aN aT aS t0 t1 t2 h0 h1 pa P1 PT PS f u Q1 o1 v1 1) H → va_D A (fW cI cP a0 aN aT aS t0 t1 t2 h0 h1 pa P1 PT PS f u Q1 o1 v1 1) → va_S A s.heap H locs → ∀ (ls : Array Slot), lv_has ls 13 [(9, .int r1), (8, .int (nI vh)), (6, .long (fL_looks PN)), (5, .int ya), (4, .int xa), (3, .int (nI jj9)), (2, .int 1), (1, .ref a0), (0, .ref b)] → W p l e rmL_law s m #[Value.ref b] below meth c H locs 200 4000 Q (F0 m 111 ls [.int (nI v99_0), .int (nI v1)]) := by
      intro v99_0 hz99 H locs hP hD hS ls hl
      have hz := hz99
      refine lv_icmp_ne (tgt := 118) hx hb dL_law_111 (by decide) (fun c_111 => ?_) (fun c_111 => ?_)
      · exact absurd (by rw [hve1, hz99, cap6 hv6]) c_111
      refine lv_iconst (v := 1) hx hb dL_law_114 (by decide) ?_
      refine lv_goto (tgt := 119) hx hb dL_law_115 (by decide) ?_
      refine lv_istore_n (lv' := [(2, .int 1), (9, .int r1), (8, .int (nI vh)), (6, .long (fL_looks PN)), (5, .int ya), (4, .int xa), (3, .int (nI jj9)), (1, .ref a0), (0, .ref b)]) hx hb dL_law_119 rfl hl (by decide) rfl (fun ls hl => ?_)
      refine lv_iload_n hx hb dL_law_120 rfl (lv_at hl 0 rfl) ?_
      refine lv_if_eq (tgt := 198) hx hb dL_law_121 (by decide) (fun c_121 => ?_) (fun c_121 => ?_)
      · exact absurd c_121 (by decide)
      refine lv_iload hx hb dL_law_124 (lv_at hl 5 rfl) ?_
      refine lv_bipush (v := 8) hx hb dL_law_126 (by decide) ?_
      refine lv_ishr hx hb dL_law_128 ?_
      refine lv_iconst (v := 3) hx hb dL_law_129 (by decide) ?_
      refine lv_iand hx hb dL_law_130 ?_
      refine lv_if_ne (tgt := 198) hx hb dL_law_131 (by decide) (fun c_131 => ?_) (fun c_131 => ?_)
      · exact K198 xa ya P1 Q1 o1 v1 ⟨f1, G1, T1, L1, hR1, hX1⟩ ho1 hv1 _ _ hP hD hS ls (lv_sub hl [4, 5, 6, 0, 7, 8] rfl)
      refine lv_aload_n hx hb dL_law_134 rfl (lv_at hl 7 rfl) ?_
      refine k_calll (W.runS (As := [.ref a0]) (rest := []) ⟨hx, hb, hml, hown, hts0⟩ (mL_looks l dC dI cI cP a0 aN aT aS t0 t1 t2 h0 h1 pa P1 PT PS f u Q1 o1 v1 1  f1 G1 T1 L1 hR1) (va_cwS 1 hts0 (gi_S u_354 u_355 u_0 u_356) rfl rfl rfl (by decide +kernel) ⟨Nat.le_of_ble_eq_true rfl, Nat.le_of_ble_eq_true rfl⟩) (pcR_S hP hK hn) rfl rfl hl.1 rfl (lv_room (Nat.le_of_ble_eq_true rfl)) dL_law_135 ⟨Nat.le_of_ble_eq_true rfl, Nat.le_of_ble_eq_true rfl⟩) ?_
      refine lv_lstore (lv' := [(10, .long (fL_looks P1)), (2, .int 1), (9, .int r1), (8, .int (nI vh)), (6, .long (fL_looks PN)), (5, .int ya), (4, .int xa), (3, .int (nI jj9)), (1, .ref a0), (0, .ref b)]) hx hb dL_law_138 hl (by decide) rfl (fun ls hl => ?_)
      refine lv_aload_n hx hb dL_law_140 rfl (lv_at hl 8 rfl) ?_
      refine lv_bipush (v := 13) hx hb dL_law_141 (by decide) ?_
      have e_143 : (fX6_count P1 Q1 o1 v1 13) = Sum.inr ((nI v1), ()) := count_13
      refine k_calli (W.runV (As := [.int 13]) (rest := []) ⟨hx, hb, hml, hown, hts0⟩ (mX6_count l dC dI cI cP a0 aN aT aS t0 t1 t2 h0 h1 pa P1 PT PS f u Q1 o1 v1 1 13 (ok_inr e_143)) (cwV 1 hts0 (gi_V u_268 u_269 u_270 u_1 u_271) rfl rfl rfl (by decide +kernel) ⟨Nat.le_of_ble_eq_true rfl, Nat.le_of_ble_eq_true rfl⟩) (pcR_V (ci := 4) (q0 := 0) hP hK hn rfl rfl) rfl rfl hl.1 rfl (lv_room (Nat.le_of_ble_eq_true rfl)) dL_law_143 ⟨Nat.le_of_ble_eq_true rfl, Nat.le_of_ble_eq_true rfl⟩) ?_
      refine lv_tope (y := (nI v1)) (ok1_inr e_143) ?_
      refine lv_iconst (v := 1) hx hb dL_law_146 (by decide) ?_
      refine lv_isub hx hb dL_law_147 ?_
      refine lv_tope (y := (nI (v1 - 1))) (pk_sub (a := v1) (b := 1) (by omega)) ?_
      refine lv_istore (lv' := [(12, .int (nI (v1 - 1))), (10, .long (fL_looks P1)), (2, .int 1), (9, .int r1), (8, .int (nI vh)), (6, .long (fL_looks PN)), (5, .int ya), (4, .int xa), (3, .int (nI jj9)), (1, .ref a0), (0, .ref b)]) hx hb dL_law_148 hl (by decide) rfl (fun ls hl => ?_)
      refine lv_aload_n hx hb dL_law_150 rfl (lv_at hl 9 rfl) ?_
      obtain ⟨B1, eB1⟩ : ∃ y, y = fX2_copyFrom P1 (Q1 ((o1 + (v1 - 1)) % 6)) := ⟨_, rfl⟩
      have e_151 : (fX6_undo P1 Q1 o1 v1) = Sum.inr ((nI (v1 - 1)), (B1, v1 - 1)) := (by rw [eB1]; exact undo_is hvp1 hv1)
      refine k_deed (W1 := (fun (v9 : PV × Nat) => fW cI cP a0 aN aT aS t0 t1 t2 h0 h1 pa v9.1 PT PS f u Q1 o1 v9.2 1)) (r0 := (nI (v1 - 1))) (u0 := (B1, v1 - 1)) e_151 (va_runV (As := []) (rest := []) ⟨hx, hb, hml, hown, hts0⟩ (mX6_undo l dC dI cI cP a0 aN aT aS t0 t1 t2 h0 h1 pa P1 PT PS f u Q1 o1 v1 1  ho1 hv1 (ok_inr e_151)) (cwV 0 hts0 (gi_V u_160 u_161 u_162 u_1 u_163) rfl rfl rfl (by decide +kernel) ⟨Nat.le_of_ble_eq_true rfl, Nat.le_of_ble_eq_true rfl⟩) (pcM_V (ci := 4) (q0 := 0) hP hK hn hD rfl rfl) rfl rfl hl.1 rfl (lv_room (Nat.le_of_ble_eq_true rfl)) dL_law_151 ⟨Nat.le_of_ble_eq_true rfl, Nat.le_of_ble_eq_true rfl⟩) hP hD hS rfl (fun H locs hP hD hS => ?_)
      have hP : va_P (dC, dI) vwCl (fW cI cP a0 aN aT aS t0 t1 t2 h0 h1 pa B1 PT PS f u Q1 o1 (v1 - 1) 1) H := hP
      have hD : va_D A (fW cI cP a0 aN aT aS t0 t1 t2 h0 h1 pa B1 PT PS f u Q1 o1 (v1 - 1) 1) := hD
      obtain ⟨hP, hD⟩ := fW_PE (by rw [eB1]; exact back_PE hR hQ1) hP hD
      have hP : va_P (dC, dI) vwCl (fW cI cP a0 aN aT aS t0 t1 t2 h0 h1 pa PN PT PS f u Q1 o1 (v1 - 1) 1) H := hP
      have hD : va_D A (fW cI cP a0 aN aT aS t0 t1 t2 h0 h1 pa PN PT PS f u Q1 o1 (v1 - 1) 1) := hD
      refine lv_iload hx hb dL_law_154 (lv_at hl 0 rfl) ?_
      refine lv_icmp_ne (tgt := 196) hx hb dL_law_156 (by decide) (fun c_156 => ?_) (fun c_156 => ?_)
      · exact absurd rfl c_156
      refine lv_aload_n hx hb dL_law_159 rfl (lv_at hl 9 rfl) ?_
      refine k_calll (W.runS (As := [.ref a0]) (rest := []) ⟨hx, hb, hml, hown, hts0⟩ (mL_looks l dC dI cI cP a0 aN aT aS t0 t1 t2 h0 h1 pa PN PT PS f u Q1 o1 (v1 - 1) 1  f9 G T L hR) (va_cwS 1 hts0 (gi_S u_354 u_355 u_0 u_356) rfl rfl rfl (by decide +kernel) ⟨Nat.le_of_ble_eq_true rfl, Nat.le_of_ble_eq_true rfl⟩) (pcR_S hP hK hn) rfl rfl hl.1 rfl (lv_room (Nat.le_of_ble_eq_true rfl)) dL_law_160 ⟨Nat.le_of_ble_eq_true rfl, Nat.le_of_ble_eq_true rfl⟩) ?_
      refine lv_lload hx hb dL_law_163 (lv_at hl 5 rfl) ?_
      refine W.lcmp hx hb dL_law_165 ?_
      refine lv_if_ne (tgt := 196) hx hb dL_law_166 (by decide) (fun c_166 => ?_) (fun c_166 => ?_)
      · exact absurd (lg_same _) c_166
      refine lv_aload_n hx hb dL_law_169 rfl (lv_at hl 9 rfl) ?_
      refine lv_iload hx hb dL_law_170 (lv_at hl 7 rfl) ?_
      refine lv_iload hx hb dL_law_172 (lv_at hl 6 rfl) ?_
      obtain ⟨Q2, eQ2⟩ : ∃ y, y = (fX0_save Q1 o1 (v1 - 1) PN).1 := ⟨_, rfl⟩
      obtain ⟨o2, eo2⟩ : ∃ y, y = (fX0_save Q1 o1 (v1 - 1) PN).2.1 := ⟨_, rfl⟩
      obtain ⟨v2, ev2⟩ : ∃ y, y = (fX0_save Q1 o1 (v1 - 1) PN).2.2 := ⟨_, rfl⟩
      obtain ⟨ho2, hv2, hve2, hvp2, hQ2⟩ := save_ok (PN := PN) (Ps := Q1) (o := o1) (v := (v1 - 1)) ho1 (by omega)
      rw [← eo2] at ho2
      rw [← ev2] at hv2 hve2 hvp2
      rw [← eQ2, ← eo2, ← ev2] at hQ2
      have e_174 : SV PN Q1 o1 (v1 - 1) (fL_act PN PS xa ya) = (r1, (P1, (Q2, (o2, v2)))) := by rw [er1, eP1, eQ2, eo2, ev2]; rfl
      refine k_deed3 (W1 := (fun (v9 : PV × (Nat → PV) × Nat × Nat) => fW cI cP a0 aN aT aS t0 t1 t2 h0 h1 pa v9.1 PT PS f u v9.2.1 v9.2.2.1 v9.2.2.2 1)) (r0 := r1) (u0 := (P1, (Q2, (o2, v2)))) (Z := fun r9 u9 => 0 ≤ r9 ∧ NW u9.1) e_174 (va_runS (As := [.ref a0, .int xa, .int ya]) (rest := []) ⟨hx, hb, hml, hown, hts0⟩ (mL_act l dC dI cI cP a0 aN aT aS t0 t1 t2 h0 h1 pa PN PT PS f u Q1 o1 (v1 - 1) 1 xa ya qL qG f9 G T L hR hX hS9 rfl ho1 (by omega)) (va_cwS 3 hts0 (gi_S u_442 u_443 u_0 u_444) rfl rfl rfl (by decide +kernel) ⟨Nat.le_of_ble_eq_true rfl, Nat.le_of_ble_eq_true rfl⟩) (pcZ_S hP hK hn hD hT hS) rfl rfl hl.1 rfl (lv_room (Nat.le_of_ble_eq_true rfl)) dL_law_174 ⟨Nat.le_of_ble_eq_true rfl, Nat.le_of_ble_eq_true rfl⟩) hP hD hS rfl (fun hz9 H locs hP hD hS => ?_)
      have hP : va_P (dC, dI) vwCl (fW cI cP a0 aN aT aS t0 t1 t2 h0 h1 pa P1 PT PS f u Q2 o2 v2 1) H := hP
      have hD : va_D A (fW cI cP a0 aN aT aS t0 t1 t2 h0 h1 pa P1 PT PS f u Q2 o2 v2 1) := hD
      refine lv_iload hx hb dL_law_177 (lv_at hl 3 rfl) ?_
      refine lv_icmp_ne (tgt := 196) hx hb dL_law_179 (by decide) (fun c_179 => ?_) (fun c_179 => ?_)
      · exact absurd rfl c_179
      refine lv_aload_n hx hb dL_law_182 rfl (lv_at hl 9 rfl) ?_
      refine k_calll (W.runS (As := [.ref a0]) (rest := []) ⟨hx, hb, hml, hown, hts0⟩ (mL_looks l dC dI cI cP a0 aN aT aS t0 t1 t2 h0 h1 pa P1 PT PS f u Q2 o2 v2 1  f1 G1 T1 L1 hR1) (va_cwS 1 hts0 (gi_S u_354 u_355 u_0 u_356) rfl rfl rfl (by decide +kernel) ⟨Nat.le_of_ble_eq_true rfl, Nat.le_of_ble_eq_true rfl⟩) (pcR_S hP hK hn) rfl rfl hl.1 rfl (lv_room (Nat.le_of_ble_eq_true rfl)) dL_law_183 ⟨Nat.le_of_ble_eq_true rfl, Nat.le_of_ble_eq_true rfl⟩) ?_
      refine lv_lload hx hb dL_law_186 (lv_at hl 1 rfl) ?_
      refine W.lcmp hx hb dL_law_188 ?_
      refine lv_if_ne (tgt := 196) hx hb dL_law_189 (by decide) (fun c_189 => ?_) (fun c_189 => ?_)
      · exact absurd (lg_same _) c_189
      refine lv_iconst (v := 1) hx hb dL_law_192 (by decide) ?_
      refine lv_goto (tgt := 197) hx hb dL_law_193 (by decide) ?_
      refine lv_istore_n (lv' := [(2, .int 1), (12, .int (nI (v1 - 1))), (10, .long (fL_looks P1)), (9, .int r1), (8, .int (nI vh)), (6, .long (fL_looks PN)), (5, .int ya), (4, .int xa), (3, .int (nI jj9)), (1, .ref a0), (0, .ref b)]) hx hb dL_law_197 rfl hl (by decide) rfl (fun ls hl => ?_)
      exact K198 xa ya P1 Q2 o2 v2 ⟨f1, G1, T1, L1, hR1, hX1⟩ ho2 hv2 _ _ hP hD hS ls (lv_sub hl [6, 7, 8, 0, 9, 10] rfl)
    have hF : ((if 6 ≤ (nI vh) then 6 else (vh + 1)) : Nat) = (if 6 ≤ (nI vh) then 6 else (vh + 1)) := rfl
    refine lv_icmp_ge (tgt := 109) hx hb dL_law_99 (by decide) (fun c_99 => ?_) (fun c_99 => ?_)
    · have hF := hF.trans (if_pos c_99)
      refine lv_bipush (v := 6) hx hb dL_law_109 (by decide) ?_
      exact K99 _ hF.symm _ _ hP hD hS  ls (lv_sub hl [0, 1, 2, 3, 4, 5, 6, 7, 8] rfl)
    have hF := hF.trans (if_neg c_99)
    refine lv_iload hx hb dL_law_102 (lv_at hl 1 rfl) ?_
    refine lv_iconst (v := 1) hx hb dL_law_104 (by decide) ?_
    refine lv_iadd hx hb dL_law_105 ?_
    refine lv_tope (y := (nI (vh + 1))) (nI_add vh 1) ?_
    refine lv_goto (tgt := 111) hx hb dL_law_106 (by decide) ?_
    exact K99 _ hF.symm _ _ hP hD hS  ls (lv_sub hl [0, 1, 2, 3, 4, 5, 6, 7, 8] rfl)
set_option maxHeartbeats 4000000 in
set_option maxRecDepth 100000 in
theorem law_begin (C : LBd p s m c b N xs A dC dI cI cP qL qG) (hN : N ≤ 260) (fin : ∀ (H : Heap) (locs : List Loc) (ls : Array Slot), va_S A s.heap H locs → lv_has ls 13 [(2, .int 1), (1, .ref a0), (0, .ref b)] → W p l e rmL_law s m #[Value.ref b] below meth c H locs 200 4000 Q (F0 m 280 ls [])) {H : Heap} {locs : List Loc} {ls : Array Slot} (hP : va_P (dC, dI) vwCl (fW cI cP a0 aN aT aS t0 t1 t2 h0 h1 pa P0 P0 P0 (fun _ => 0) 0 (fun _ => P0) 0 0 0) H) (hD : va_D A (fW cI cP a0 aN aT aS t0 t1 t2 h0 h1 pa P0 P0 P0 (fun _ => 0) 0 (fun _ => P0) 0 0 0)) (hS : va_S A s.heap H locs) (hl : lv_has ls 13 [(1, .ref a0), (0, .ref b)]) : W p l e rmL_law s m #[Value.ref b] below meth c H locs 200 4000 Q (F0 m 8 ls []) := by
  have C0 := C
  obtain ⟨hx, hb, hml, hown, hts0, hXs, hbl, hbA, hA, hK, hn, hT⟩ := C0
  refine lv_aload_n hx hb dL_law_8 rfl (lv_at hl 0 rfl) ?_
  obtain ⟨S1, eS1⟩ : ∃ y, y = fX2_copyFrom P0 P0 := ⟨_, rfl⟩
  have e_9 : (fX6_keep P0 P0) = ((P0 10 5), (S1, 1)) := (by rw [eS1]; exact keep_is _ _)
  refine k_deed2 (W1 := (fun (v9 : PV × Int32) => fW cI cP a0 aN aT aS t0 t1 t2 h0 h1 pa P0 P0 v9.1 (fun _ => 0) 0 (fun _ => P0) 0 0 v9.2)) (r0 := (P0 10 5)) (u0 := (S1, 1)) e_9 (va_runV (As := []) (rest := []) ⟨hx, hb, hml, hown, hts0⟩ (mX6_keep l dC dI cI cP a0 aN aT aS t0 t1 t2 h0 h1 pa P0 P0 P0 (fun _ => 0) 0 (fun _ => P0) 0 0 0 ) (cwV 0 hts0 (gi_V u_259 u_260 u_261 u_1 u_262) rfl rfl rfl (by decide +kernel) ⟨Nat.le_of_ble_eq_true rfl, Nat.le_of_ble_eq_true rfl⟩) (pcM_V (ci := 4) (q0 := 0) hP hK hn hD rfl rfl) rfl rfl hl.1 rfl (lv_room (Nat.le_of_ble_eq_true rfl)) dL_law_9 ⟨Nat.le_of_ble_eq_true rfl, Nat.le_of_ble_eq_true rfl⟩) hP hD hS rfl (fun H locs hP hD hS => ?_)
  have hP : va_P (dC, dI) vwCl (fW cI cP a0 aN aT aS t0 t1 t2 h0 h1 pa P0 P0 S1 (fun _ => 0) 0 (fun _ => P0) 0 0 1) H := hP
  have hD : va_D A (fW cI cP a0 aN aT aS t0 t1 t2 h0 h1 pa P0 P0 S1 (fun _ => 0) 0 (fun _ => P0) 0 0 1) := hD
  refine lv_if_ne (tgt := 26) hx hb dL_law_12 (by decide) (fun c_12 => ?_) (fun c_12 => ?_)
  · exact absurd rfl c_12
  refine lv_aload_n hx hb dL_law_15 rfl (lv_at hl 0 rfl) ?_
  refine k_callb (W.runS (As := [.ref a0]) (rest := []) ⟨hx, hb, hml, hown, hts0⟩ (mL_holds l dC dI cI cP a0 aN aT aS t0 t1 t2 h0 h1 pa P0 P0 S1 (fun _ => 0) 0 (fun _ => P0) 0 0 1  F0m 0 0 [] REL_0) (va_cwS 1 hts0 (gi_S u_626 u_627 u_0 u_628) rfl rfl rfl (by decide +kernel) ⟨Nat.le_of_ble_eq_true rfl, Nat.le_of_ble_eq_true rfl⟩) (pcR_S hP hK hn) rfl rfl hl.1 rfl (lv_room (Nat.le_of_ble_eq_true rfl)) dL_law_16 ⟨Nat.le_of_ble_eq_true rfl, Nat.le_of_ble_eq_true rfl⟩) (fun br16 => ?_)
  refine lv_if_eq (tgt := 26) hx hb dL_law_19 (by decide) (fun c_19 => ?_) (fun c_19 => ?_)
  · exact absurd (c_19.symm.trans (holds_1 REL_0 XI_0)) (by decide)
  refine lv_iconst (v := 1) hx hb dL_law_22 (by decide) ?_
  refine lv_goto (tgt := 27) hx hb dL_law_23 (by decide) ?_
  refine lv_istore_n (lv' := [(2, .int 1), (1, .ref a0), (0, .ref b)]) hx hb dL_law_27 rfl hl (by decide) rfl (fun ls hl => ?_)
  refine lv_iconst (v := 0) hx hb dL_law_28 (by decide) ?_
  refine lv_istore_n (lv' := [(3, .int 0), (2, .int 1), (1, .ref a0), (0, .ref b)]) hx hb dL_law_29 rfl hl (by decide) rfl (fun ls hl => ?_)
  exact law_loop C hN fin 40 P0 P0 S1 (fun _ => P0) 0 0 0 H locs ls rfl NW_0 (by rw [eS1]; exact keep_NW NW_0) (by decide) (by decide) hP hD hS (lv_sub hl [0, 1, 2, 3] rfl)
end LW
