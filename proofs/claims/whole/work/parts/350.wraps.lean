theorem inl_guest {PN : PV} {Ps : Nat → PV} {oh : Nat} {vh : Nat} {a b : Int32} {c9 : Nat} (h : fX6_guest PN Ps oh vh a b = Sum.inl c9) : c9 = 0 ∨ c9 = 1 := by
  unfold fX6_guest at h
  try simp only [bd, bd2] at h
  repeat' split at h
  all_goals first | (cases h; done) | (cases h; decide)
abbrev rmL_guest : Room := { frames := 7, cells := 1, slots := 6, locals := 126 }
set_option maxHeartbeats 4000000 in
set_option maxRecDepth 100000 in
theorem mL_guest (l : Launch) (hst : l.stackTraces = false) (dC : Nat → ClassId) (dI : Nat → Nat → Nat) (cI cP cL : ClassId) (qL qG qo : Nat) (fo : Nat → Int64) (a0 : Nat) (aN aT aS : Nat → Nat) (t0 t1 t2 h0 h1 : Nat) (pa : Nat → Nat → Nat) (PN PT PS : PV) (f : Nat → Int32) (u : Int32) (Ps : Nat → PV) (oh vh : Nat) (k : Int32) (a b : Int32) (ho6 : oh < 6) (hv6 : vh ≤ 6) : vx_Met l yL_guest (wsw_ yL_guest cL_guest 5 (some .int) (ltb 10 [(13, 0), (17, 1)])) rmL_guest (pcW (dC, dI) [(cI, .int), (cP, .object "SupperSeats$Plan"), (cL, .long)] (fl [outW cL qo fo, (fW cI cP a0 aN aT aS t0 t1 t2 h0 h1 pa PN PT PS f u Ps oh vh k)]) [.ref a0, .int a, .int b, .ref qo] cI qL qG) (va_Qi (fun (k9 : Int32) (z9 : (PV × (Nat → PV) × Nat × Nat) × (Nat → Int64)) => (∃ c9 : Nat, fX6_guest PN Ps oh vh a b = Sum.inl c9 ∧ k9 = (if c9 = 0 then 1 else (if c9 = 1 then 2 else 9)) ∧ z9 = ((PN, Ps, oh, vh), fo)) ∨ (∃ (r9 : Int32) (u9 : PV × (Nat → PV) × Nat × Nat), fX6_guest PN Ps oh vh a b = Sum.inr (r9, u9) ∧ k9 = 0 ∧ z9 = (u9, vp_updL fo 0 r9.toInt64))) (fun z9 t => va_P (dC, dI) vwCl (fl [outW cL qo z9.2, (fun (v9 : PV × (Nat → PV) × Nat × Nat) => fW cI cP a0 aN aT aS t0 t1 t2 h0 h1 pa v9.1 PT PS f u v9.2.1 v9.2.2.1 v9.2.2.2 k) z9.1]) t.heap) (adr (fl [outW cL qo fo, (fW cI cP a0 aN aT aS t0 t1 t2 h0 h1 pa PN PT PS f u Ps oh vh k)]))) (vx_X (fun _ : Unit => False) (fun _ _ _ => True) (adr (fl [outW cL qo fo, (fW cI cP a0 aN aT aS t0 t1 t2 h0 h1 pa PN PT PS f u Ps oh vh k)]))) 1 6 (adr (fl [outW cL qo fo, (fW cI cP a0 aN aT aS t0 t1 t2 h0 h1 pa PN PT PS f u Ps oh vh k)])) := by
  refine vx_ofWH (cc := cL_guest) (maxL := 5) (ret := some .int) (hh := ltb 10 [(13, 0), (17, 1)]) (by decide) rfl ?_
  intro p e s m args below meth c s₁ B hml hv
  obtain ⟨ha, hP, hK, hn, hD0, hX, hN, hT⟩ := hv
  have hx := B.exec
  have hb := B.bytes
  have hr := B.returns
  have hts0 := atoms_spec (ws := (wsw_ yL_guest cL_guest 5 (some .int) (ltb 10 [(13, 0), (17, 1)]))) B.pre
  have hts : ∀ w ∈ lw_all, w.before args s = true := fun w h => hts0 w (List.mem_cons_of_mem _ h)
  have hown : s.vm.findClass RL = some m.cls := findClass_of_methodNamed B.named
  have hlocks := B.notSynchronized
  have hT9 : c.exceptionTable.toList = tableOf (ltb 10 [(13, 0), (17, 1)]) := vx_table (x := yL_guest) B (hts0 _ List.mem_cons_self)
  have hD := adr_self hD0
  obtain ⟨A, hA⟩ : ∃ A, A = adr (fl [outW cL qo fo, (fW cI cP a0 aN aT aS t0 t1 t2 h0 h1 pa PN PT PS f u Ps oh vh k)]) := ⟨_, rfl⟩
  rw [← hA] at hD hX hT
  have hS : va_S A s.heap s.heap [] := va_S.rf
  obtain ⟨Q, hQ⟩ : ∃ Q, Q = vx_MQ below (va_Qi (fun (k9 : Int32) (z9 : (PV × (Nat → PV) × Nat × Nat) × (Nat → Int64)) => (∃ c9 : Nat, fX6_guest PN Ps oh vh a b = Sum.inl c9 ∧ k9 = (if c9 = 0 then 1 else (if c9 = 1 then 2 else 9)) ∧ z9 = ((PN, Ps, oh, vh), fo)) ∨ (∃ (r9 : Int32) (u9 : PV × (Nat → PV) × Nat × Nat), fX6_guest PN Ps oh vh a b = Sum.inr (r9, u9) ∧ k9 = 0 ∧ z9 = (u9, vp_updL fo 0 r9.toInt64))) (fun z9 t => va_P (dC, dI) vwCl (fl [outW cL qo z9.2, (fun (v9 : PV × (Nat → PV) × Nat × Nat) => fW cI cP a0 aN aT aS t0 t1 t2 h0 h1 pa v9.1 PT PS f u v9.2.1 v9.2.2.1 v9.2.2.2 k) z9.1]) t.heap) (adr (fl [outW cL qo fo, (fW cI cP a0 aN aT aS t0 t1 t2 h0 h1 pa PN PT PS f u Ps oh vh k)]))) (vx_X (fun _ : Unit => False) (fun _ _ _ => True) (adr (fl [outW cL qo fo, (fW cI cP a0 aN aT aS t0 t1 t2 h0 h1 pa PN PT PS f u Ps oh vh k)]))) args s 1 6 (adr (fl [outW cL qo fo, (fW cI cP a0 aN aT aS t0 t1 t2 h0 h1 pa PN PT PS f u Ps oh vh k)])) := ⟨_, rfl⟩
  rw [← hQ]
  rw [← hA] at hQ
  have hl := lv_entry ([.ref a0, .int a, .int b, .ref qo]) (n := 5) (Nat.le_of_ble_eq_true rfl)
  rw [ha, lg_entry_eq, ← ha]
  generalize (lg_sl ([.ref a0, .int a, .int b, .ref qo]) ++ List.replicate (5 - (lg_sl ([.ref a0, .int a, .int b, .ref qo])).length) Slot.unset).toArray = ls at hl ⊢
  have hl : lv_has ls 5 [(0, .ref a0), (1, .int a), (2, .int b), (3, .ref qo)] := hl
  show W p l e rmL_guest s m args below meth c s.heap [] 0 0 Q (F0 m 0 ls [])
  refine lv_aload_n hx hb dL_guest_0 rfl (lv_at hl 3 rfl) ?_
  refine lv_iconst (v := 0) hx hb dL_guest_1 (by decide) ?_
  refine lv_aload_n hx hb dL_guest_2 rfl (lv_at hl 0 rfl) ?_
  refine lv_iload_n hx hb dL_guest_3 rfl (lv_at hl 1 rfl) ?_
  refine lv_iload_n hx hb dL_guest_4 rfl (lv_at hl 2 rfl) ?_
  refine k_cthr (wf := (fW cI cP a0 aN aT aS t0 t1 t2 h0 h1 pa PN PT PS f u Ps oh vh k)) (wo := outW cL qo fo) (W1 := (fun (v9 : PV × (Nat → PV) × Nat × Nat) => fW cI cP a0 aN aT aS t0 t1 t2 h0 h1 pa v9.1 PT PS f u v9.2.1 v9.2.2.1 v9.2.2.2 k)) (vx_runV (As := [.int a, .int b]) (rest := [.int 0, .ref qo]) ⟨hx, hb, hml, hown, hts0⟩ (mX6_guest l hst dC dI cI cP a0 aN aT aS t0 t1 t2 h0 h1 pa PN PT PS f u Ps oh vh k a b ho6 hv6) (cwV 2 hts0 (gi_V u_444 u_445 u_446 u_1 u_447) rfl rfl rfl (by decide +kernel) ⟨Nat.le_of_ble_eq_true rfl, Nat.le_of_ble_eq_true rfl⟩) (pcWX hP hK hn hD hX hS rfl rfl) rfl rfl hl.1 rfl (lv_room (Nat.le_of_ble_eq_true rfl)) dL_guest_5 ⟨Nat.le_of_ble_eq_true rfl, Nat.le_of_ble_eq_true rfl⟩) hP hD hS (fun _ => rfl) (fun c9 ce9 q9 H locs hp9 hP hD hS he9 hv9 hc9 => ?_) (fun r9 u9 H locs hp9 hP hD hS => ?_)
  · rcases inl_guest hp9 with rfl | rfl
    · refine k_catch (cd := 0) (hp := 13) (en := 10) (pre := []) (suf := [(17, 1)]) hT9 (by decide) (by decide) rfl hown hts hX hN he9 hv9 hc9 ?_
      refine lv_astore (lv' := [(4, .ref q9), (0, .ref a0), (1, .int a), (2, .int b), (3, .ref qo)]) hx hb dL_guest_13 hl (by decide) rfl (fun ls hl => ?_)
      refine lv_iconst (v := 1) hx hb dL_guest_15 (by decide) ?_
      rw [hQ]
      refine vx_ret (W.widen (k := 1) (n := 6) (Nat.le_of_ble_eq_true rfl) (Nat.le_of_ble_eq_true rfl) ?_)
      exact W.iret (v := 1) hx hb hr (fun t ht hW => ⟨⟨1, ((PN, Ps, oh, vh), fo), rfl, Or.inl ⟨0, hp9, rfl, rfl⟩, toH ht hP⟩, hS.F ht⟩) hS.2.2 dL_guest_16
    · refine k_catch (cd := 1) (hp := 17) (en := 10) (pre := [(13, 0)]) (suf := []) hT9 (by decide) (by decide) rfl hown hts hX hN he9 hv9 hc9 ?_
      refine lv_astore (lv' := [(4, .ref q9), (0, .ref a0), (1, .int a), (2, .int b), (3, .ref qo)]) hx hb dL_guest_17 hl (by decide) rfl (fun ls hl => ?_)
      refine lv_iconst (v := 2) hx hb dL_guest_19 (by decide) ?_
      rw [hQ]
      refine vx_ret (W.widen (k := 1) (n := 6) (Nat.le_of_ble_eq_true rfl) (Nat.le_of_ble_eq_true rfl) ?_)
      exact W.iret (v := 2) hx hb hr (fun t ht hW => ⟨⟨2, ((PN, Ps, oh, vh), fo), rfl, Or.inl ⟨1, hp9, rfl, rfl⟩, toH ht hP⟩, hS.F ht⟩) hS.2.2 dL_guest_20
  refine lv_i2l (v := r9.toInt64) hx hb dL_guest_8 rfl ?_
  refine va_last hx hb hK hP hD hS 0 2 rfl rfl (vp_in_nI (n := 0) (by decide) (by decide)) dL_guest_9 (fun H locs hP hD hS => ?_)
  rw [show (0 : Int32).toNatClampNeg = 0 from rfl] at hP hD
  have hP : va_P (dC, dI) vwCl (fl [outW cL qo (vp_updL fo 0 r9.toInt64), (fun (v9 : PV × (Nat → PV) × Nat × Nat) => fW cI cP a0 aN aT aS t0 t1 t2 h0 h1 pa v9.1 PT PS f u v9.2.1 v9.2.2.1 v9.2.2.2 k) u9]) H := hP
  refine lv_goto (tgt := 21) hx hb dL_guest_10 (by decide) ?_
  refine lv_iconst (v := 0) hx hb dL_guest_21 (by decide) ?_
  rw [hQ]
  refine vx_ret (W.widen (k := 1) (n := 6) (Nat.le_of_ble_eq_true rfl) (Nat.le_of_ble_eq_true rfl) ?_)
  exact W.iret (v := 0) hx hb hr (fun t ht hW => ⟨⟨0, (u9, vp_updL fo 0 r9.toInt64), rfl, Or.inr ⟨r9, u9, hp9, rfl, rfl⟩, toH ht hP⟩, hS.F ht⟩) hS.2.2 dL_guest_22

theorem inl_wish {PN : PV} {Ps : Nat → PV} {oh : Nat} {vh : Nat} {g h : Int32} {c9 : Nat} (h : fX6_wish PN Ps oh vh g h = Sum.inl c9) : c9 = 0 ∨ c9 = 2 := by
  unfold fX6_wish at h
  try simp only [bd, bd2] at h
  repeat' split at h
  all_goals first | (cases h; done) | (cases h; decide)
abbrev rmL_wish : Room := { frames := 8, cells := 3, slots := 18, locals := 134 }
set_option maxHeartbeats 4000000 in
set_option maxRecDepth 100000 in
theorem mL_wish (l : Launch) (hst : l.stackTraces = false) (dC : Nat → ClassId) (dI : Nat → Nat → Nat) (cI cP cL : ClassId) (qL qG qo : Nat) (fo : Nat → Int64) (a0 : Nat) (aN aT aS : Nat → Nat) (t0 t1 t2 h0 h1 : Nat) (pa : Nat → Nat → Nat) (PN PT PS : PV) (f : Nat → Int32) (u : Int32) (Ps : Nat → PV) (oh vh : Nat) (k : Int32) (g h : Int32) (ho6 : oh < 6) (hv6 : vh ≤ 6) : vx_Met l yL_wish (wsw_ yL_wish cL_wish 5 (some .int) (ltb 10 [(13, 2), (17, 0)])) rmL_wish (pcW (dC, dI) [(cI, .int), (cP, .object "SupperSeats$Plan"), (cL, .long)] (fl [outW cL qo fo, (fW cI cP a0 aN aT aS t0 t1 t2 h0 h1 pa PN PT PS f u Ps oh vh k)]) [.ref a0, .int g, .int h, .ref qo] cI qL qG) (va_Qi (fun (k9 : Int32) (z9 : (PV × (Nat → PV) × Nat × Nat) × (Nat → Int64)) => (∃ c9 : Nat, fX6_wish PN Ps oh vh g h = Sum.inl c9 ∧ k9 = (if c9 = 2 then 1 else (if c9 = 0 then 2 else 9)) ∧ z9 = ((PN, Ps, oh, vh), fo)) ∨ (∃ (r9 : Int32) (u9 : PV × (Nat → PV) × Nat × Nat), fX6_wish PN Ps oh vh g h = Sum.inr (r9, u9) ∧ k9 = 0 ∧ z9 = (u9, vp_updL fo 0 r9.toInt64))) (fun z9 t => va_P (dC, dI) vwCl (fl [outW cL qo z9.2, (fun (v9 : PV × (Nat → PV) × Nat × Nat) => fW cI cP a0 aN aT aS t0 t1 t2 h0 h1 pa v9.1 PT PS f u v9.2.1 v9.2.2.1 v9.2.2.2 k) z9.1]) t.heap) (adr (fl [outW cL qo fo, (fW cI cP a0 aN aT aS t0 t1 t2 h0 h1 pa PN PT PS f u Ps oh vh k)]))) (vx_X (fun _ : Unit => False) (fun _ _ _ => True) (adr (fl [outW cL qo fo, (fW cI cP a0 aN aT aS t0 t1 t2 h0 h1 pa PN PT PS f u Ps oh vh k)]))) 3 18 (adr (fl [outW cL qo fo, (fW cI cP a0 aN aT aS t0 t1 t2 h0 h1 pa PN PT PS f u Ps oh vh k)])) := by
  refine vx_ofWH (cc := cL_wish) (maxL := 5) (ret := some .int) (hh := ltb 10 [(13, 2), (17, 0)]) (by decide) rfl ?_
  intro p e s m args below meth c s₁ B hml hv
  obtain ⟨ha, hP, hK, hn, hD0, hX, hN, hT⟩ := hv
  have hx := B.exec
  have hb := B.bytes
  have hr := B.returns
  have hts0 := atoms_spec (ws := (wsw_ yL_wish cL_wish 5 (some .int) (ltb 10 [(13, 2), (17, 0)]))) B.pre
  have hts : ∀ w ∈ lw_all, w.before args s = true := fun w h => hts0 w (List.mem_cons_of_mem _ h)
  have hown : s.vm.findClass RL = some m.cls := findClass_of_methodNamed B.named
  have hlocks := B.notSynchronized
  have hT9 : c.exceptionTable.toList = tableOf (ltb 10 [(13, 2), (17, 0)]) := vx_table (x := yL_wish) B (hts0 _ List.mem_cons_self)
  have hD := adr_self hD0
  obtain ⟨A, hA⟩ : ∃ A, A = adr (fl [outW cL qo fo, (fW cI cP a0 aN aT aS t0 t1 t2 h0 h1 pa PN PT PS f u Ps oh vh k)]) := ⟨_, rfl⟩
  rw [← hA] at hD hX hT
  have hS : va_S A s.heap s.heap [] := va_S.rf
  obtain ⟨Q, hQ⟩ : ∃ Q, Q = vx_MQ below (va_Qi (fun (k9 : Int32) (z9 : (PV × (Nat → PV) × Nat × Nat) × (Nat → Int64)) => (∃ c9 : Nat, fX6_wish PN Ps oh vh g h = Sum.inl c9 ∧ k9 = (if c9 = 2 then 1 else (if c9 = 0 then 2 else 9)) ∧ z9 = ((PN, Ps, oh, vh), fo)) ∨ (∃ (r9 : Int32) (u9 : PV × (Nat → PV) × Nat × Nat), fX6_wish PN Ps oh vh g h = Sum.inr (r9, u9) ∧ k9 = 0 ∧ z9 = (u9, vp_updL fo 0 r9.toInt64))) (fun z9 t => va_P (dC, dI) vwCl (fl [outW cL qo z9.2, (fun (v9 : PV × (Nat → PV) × Nat × Nat) => fW cI cP a0 aN aT aS t0 t1 t2 h0 h1 pa v9.1 PT PS f u v9.2.1 v9.2.2.1 v9.2.2.2 k) z9.1]) t.heap) (adr (fl [outW cL qo fo, (fW cI cP a0 aN aT aS t0 t1 t2 h0 h1 pa PN PT PS f u Ps oh vh k)]))) (vx_X (fun _ : Unit => False) (fun _ _ _ => True) (adr (fl [outW cL qo fo, (fW cI cP a0 aN aT aS t0 t1 t2 h0 h1 pa PN PT PS f u Ps oh vh k)]))) args s 3 18 (adr (fl [outW cL qo fo, (fW cI cP a0 aN aT aS t0 t1 t2 h0 h1 pa PN PT PS f u Ps oh vh k)])) := ⟨_, rfl⟩
  rw [← hQ]
  rw [← hA] at hQ
  have hl := lv_entry ([.ref a0, .int g, .int h, .ref qo]) (n := 5) (Nat.le_of_ble_eq_true rfl)
  rw [ha, lg_entry_eq, ← ha]
  generalize (lg_sl ([.ref a0, .int g, .int h, .ref qo]) ++ List.replicate (5 - (lg_sl ([.ref a0, .int g, .int h, .ref qo])).length) Slot.unset).toArray = ls at hl ⊢
  have hl : lv_has ls 5 [(0, .ref a0), (1, .int g), (2, .int h), (3, .ref qo)] := hl
  show W p l e rmL_wish s m args below meth c s.heap [] 0 0 Q (F0 m 0 ls [])
  refine lv_aload_n hx hb dL_wish_0 rfl (lv_at hl 3 rfl) ?_
  refine lv_iconst (v := 0) hx hb dL_wish_1 (by decide) ?_
  refine lv_aload_n hx hb dL_wish_2 rfl (lv_at hl 0 rfl) ?_
  refine lv_iload_n hx hb dL_wish_3 rfl (lv_at hl 1 rfl) ?_
  refine lv_iload_n hx hb dL_wish_4 rfl (lv_at hl 2 rfl) ?_
  refine k_cthr (wf := (fW cI cP a0 aN aT aS t0 t1 t2 h0 h1 pa PN PT PS f u Ps oh vh k)) (wo := outW cL qo fo) (W1 := (fun (v9 : PV × (Nat → PV) × Nat × Nat) => fW cI cP a0 aN aT aS t0 t1 t2 h0 h1 pa v9.1 PT PS f u v9.2.1 v9.2.2.1 v9.2.2.2 k)) (vx_runV (As := [.int g, .int h]) (rest := [.int 0, .ref qo]) ⟨hx, hb, hml, hown, hts0⟩ (mX6_wish l hst dC dI cI cP a0 aN aT aS t0 t1 t2 h0 h1 pa PN PT PS f u Ps oh vh k g h ho6 hv6) (cwV 2 hts0 (gi_V u_543 u_544 u_545 u_1 u_546) rfl rfl rfl (by decide +kernel) ⟨Nat.le_of_ble_eq_true rfl, Nat.le_of_ble_eq_true rfl⟩) (pcWX hP hK hn hD hX hS rfl rfl) rfl rfl hl.1 rfl (lv_room (Nat.le_of_ble_eq_true rfl)) dL_wish_5 ⟨Nat.le_of_ble_eq_true rfl, Nat.le_of_ble_eq_true rfl⟩) hP hD hS (fun _ => rfl) (fun c9 ce9 q9 H locs hp9 hP hD hS he9 hv9 hc9 => ?_) (fun r9 u9 H locs hp9 hP hD hS => ?_)
  · rcases inl_wish hp9 with rfl | rfl
    · refine k_catch (cd := 0) (hp := 17) (en := 10) (pre := [(13, 2)]) (suf := []) hT9 (by decide) (by decide) rfl hown hts hX hN he9 hv9 hc9 ?_
      refine lv_astore (lv' := [(4, .ref q9), (0, .ref a0), (1, .int g), (2, .int h), (3, .ref qo)]) hx hb dL_wish_17 hl (by decide) rfl (fun ls hl => ?_)
      refine lv_iconst (v := 2) hx hb dL_wish_19 (by decide) ?_
      rw [hQ]
      refine vx_ret (W.widen (k := 3) (n := 18) (Nat.le_of_ble_eq_true rfl) (Nat.le_of_ble_eq_true rfl) ?_)
      exact W.iret (v := 2) hx hb hr (fun t ht hW => ⟨⟨2, ((PN, Ps, oh, vh), fo), rfl, Or.inl ⟨0, hp9, rfl, rfl⟩, toH ht hP⟩, hS.F ht⟩) hS.2.2 dL_wish_20
    · refine k_catch (cd := 2) (hp := 13) (en := 10) (pre := []) (suf := [(17, 0)]) hT9 (by decide) (by decide) rfl hown hts hX hN he9 hv9 hc9 ?_
      refine lv_astore (lv' := [(4, .ref q9), (0, .ref a0), (1, .int g), (2, .int h), (3, .ref qo)]) hx hb dL_wish_13 hl (by decide) rfl (fun ls hl => ?_)
      refine lv_iconst (v := 1) hx hb dL_wish_15 (by decide) ?_
      rw [hQ]
      refine vx_ret (W.widen (k := 3) (n := 18) (Nat.le_of_ble_eq_true rfl) (Nat.le_of_ble_eq_true rfl) ?_)
      exact W.iret (v := 1) hx hb hr (fun t ht hW => ⟨⟨1, ((PN, Ps, oh, vh), fo), rfl, Or.inl ⟨2, hp9, rfl, rfl⟩, toH ht hP⟩, hS.F ht⟩) hS.2.2 dL_wish_16
  refine lv_i2l (v := r9.toInt64) hx hb dL_wish_8 rfl ?_
  refine va_last hx hb hK hP hD hS 0 2 rfl rfl (vp_in_nI (n := 0) (by decide) (by decide)) dL_wish_9 (fun H locs hP hD hS => ?_)
  rw [show (0 : Int32).toNatClampNeg = 0 from rfl] at hP hD
  have hP : va_P (dC, dI) vwCl (fl [outW cL qo (vp_updL fo 0 r9.toInt64), (fun (v9 : PV × (Nat → PV) × Nat × Nat) => fW cI cP a0 aN aT aS t0 t1 t2 h0 h1 pa v9.1 PT PS f u v9.2.1 v9.2.2.1 v9.2.2.2 k) u9]) H := hP
  refine lv_goto (tgt := 21) hx hb dL_wish_10 (by decide) ?_
  refine lv_iconst (v := 0) hx hb dL_wish_21 (by decide) ?_
  rw [hQ]
  refine vx_ret (W.widen (k := 3) (n := 18) (Nat.le_of_ble_eq_true rfl) (Nat.le_of_ble_eq_true rfl) ?_)
  exact W.iret (v := 0) hx hb hr (fun t ht hW => ⟨⟨0, (u9, vp_updL fo 0 r9.toInt64), rfl, Or.inr ⟨r9, u9, hp9, rfl, rfl⟩, toH ht hP⟩, hS.F ht⟩) hS.2.2 dL_wish_22

theorem inl_table {PN : PV} {Ps : Nat → PV} {oh : Nat} {vh : Nat} {n5 : Int32} {c9 : Nat} (h : fX6_table PN Ps oh vh n5 = Sum.inl c9) : c9 = 0 ∨ c9 = 1 := by
  unfold fX6_table at h
  try simp only [bd, bd2] at h
  repeat' split at h
  all_goals first | (cases h; done) | (cases h; decide)
abbrev rmL_table : Room := { frames := 7, cells := 1, slots := 6, locals := 125 }
set_option maxHeartbeats 4000000 in
set_option maxRecDepth 100000 in
theorem mL_table (l : Launch) (hst : l.stackTraces = false) (dC : Nat → ClassId) (dI : Nat → Nat → Nat) (cI cP cL : ClassId) (qL qG qo : Nat) (fo : Nat → Int64) (a0 : Nat) (aN aT aS : Nat → Nat) (t0 t1 t2 h0 h1 : Nat) (pa : Nat → Nat → Nat) (PN PT PS : PV) (f : Nat → Int32) (u : Int32) (Ps : Nat → PV) (oh vh : Nat) (k : Int32) (n5 : Int32) (ho6 : oh < 6) (hv6 : vh ≤ 6) : vx_Met l yL_table (wsw_ yL_table cL_table 4 (some .int) (ltb 9 [(12, 0), (15, 1)])) rmL_table (pcW (dC, dI) [(cI, .int), (cP, .object "SupperSeats$Plan"), (cL, .long)] (fl [outW cL qo fo, (fW cI cP a0 aN aT aS t0 t1 t2 h0 h1 pa PN PT PS f u Ps oh vh k)]) [.ref a0, .int n5, .ref qo] cI qL qG) (va_Qi (fun (k9 : Int32) (z9 : (PV × (Nat → PV) × Nat × Nat) × (Nat → Int64)) => (∃ c9 : Nat, fX6_table PN Ps oh vh n5 = Sum.inl c9 ∧ k9 = (if c9 = 0 then 1 else (if c9 = 1 then 2 else 9)) ∧ z9 = ((PN, Ps, oh, vh), fo)) ∨ (∃ (r9 : Int32) (u9 : PV × (Nat → PV) × Nat × Nat), fX6_table PN Ps oh vh n5 = Sum.inr (r9, u9) ∧ k9 = 0 ∧ z9 = (u9, vp_updL fo 0 r9.toInt64))) (fun z9 t => va_P (dC, dI) vwCl (fl [outW cL qo z9.2, (fun (v9 : PV × (Nat → PV) × Nat × Nat) => fW cI cP a0 aN aT aS t0 t1 t2 h0 h1 pa v9.1 PT PS f u v9.2.1 v9.2.2.1 v9.2.2.2 k) z9.1]) t.heap) (adr (fl [outW cL qo fo, (fW cI cP a0 aN aT aS t0 t1 t2 h0 h1 pa PN PT PS f u Ps oh vh k)]))) (vx_X (fun _ : Unit => False) (fun _ _ _ => True) (adr (fl [outW cL qo fo, (fW cI cP a0 aN aT aS t0 t1 t2 h0 h1 pa PN PT PS f u Ps oh vh k)]))) 1 6 (adr (fl [outW cL qo fo, (fW cI cP a0 aN aT aS t0 t1 t2 h0 h1 pa PN PT PS f u Ps oh vh k)])) := by
  refine vx_ofWH (cc := cL_table) (maxL := 4) (ret := some .int) (hh := ltb 9 [(12, 0), (15, 1)]) (by decide) rfl ?_
  intro p e s m args below meth c s₁ B hml hv
  obtain ⟨ha, hP, hK, hn, hD0, hX, hN, hT⟩ := hv
  have hx := B.exec
  have hb := B.bytes
  have hr := B.returns
  have hts0 := atoms_spec (ws := (wsw_ yL_table cL_table 4 (some .int) (ltb 9 [(12, 0), (15, 1)]))) B.pre
  have hts : ∀ w ∈ lw_all, w.before args s = true := fun w h => hts0 w (List.mem_cons_of_mem _ h)
  have hown : s.vm.findClass RL = some m.cls := findClass_of_methodNamed B.named
  have hlocks := B.notSynchronized
  have hT9 : c.exceptionTable.toList = tableOf (ltb 9 [(12, 0), (15, 1)]) := vx_table (x := yL_table) B (hts0 _ List.mem_cons_self)
  have hD := adr_self hD0
  obtain ⟨A, hA⟩ : ∃ A, A = adr (fl [outW cL qo fo, (fW cI cP a0 aN aT aS t0 t1 t2 h0 h1 pa PN PT PS f u Ps oh vh k)]) := ⟨_, rfl⟩
  rw [← hA] at hD hX hT
  have hS : va_S A s.heap s.heap [] := va_S.rf
  obtain ⟨Q, hQ⟩ : ∃ Q, Q = vx_MQ below (va_Qi (fun (k9 : Int32) (z9 : (PV × (Nat → PV) × Nat × Nat) × (Nat → Int64)) => (∃ c9 : Nat, fX6_table PN Ps oh vh n5 = Sum.inl c9 ∧ k9 = (if c9 = 0 then 1 else (if c9 = 1 then 2 else 9)) ∧ z9 = ((PN, Ps, oh, vh), fo)) ∨ (∃ (r9 : Int32) (u9 : PV × (Nat → PV) × Nat × Nat), fX6_table PN Ps oh vh n5 = Sum.inr (r9, u9) ∧ k9 = 0 ∧ z9 = (u9, vp_updL fo 0 r9.toInt64))) (fun z9 t => va_P (dC, dI) vwCl (fl [outW cL qo z9.2, (fun (v9 : PV × (Nat → PV) × Nat × Nat) => fW cI cP a0 aN aT aS t0 t1 t2 h0 h1 pa v9.1 PT PS f u v9.2.1 v9.2.2.1 v9.2.2.2 k) z9.1]) t.heap) (adr (fl [outW cL qo fo, (fW cI cP a0 aN aT aS t0 t1 t2 h0 h1 pa PN PT PS f u Ps oh vh k)]))) (vx_X (fun _ : Unit => False) (fun _ _ _ => True) (adr (fl [outW cL qo fo, (fW cI cP a0 aN aT aS t0 t1 t2 h0 h1 pa PN PT PS f u Ps oh vh k)]))) args s 1 6 (adr (fl [outW cL qo fo, (fW cI cP a0 aN aT aS t0 t1 t2 h0 h1 pa PN PT PS f u Ps oh vh k)])) := ⟨_, rfl⟩
  rw [← hQ]
  rw [← hA] at hQ
  have hl := lv_entry ([.ref a0, .int n5, .ref qo]) (n := 4) (Nat.le_of_ble_eq_true rfl)
  rw [ha, lg_entry_eq, ← ha]
  generalize (lg_sl ([.ref a0, .int n5, .ref qo]) ++ List.replicate (4 - (lg_sl ([.ref a0, .int n5, .ref qo])).length) Slot.unset).toArray = ls at hl ⊢
  have hl : lv_has ls 4 [(0, .ref a0), (1, .int n5), (2, .ref qo)] := hl
  show W p l e rmL_table s m args below meth c s.heap [] 0 0 Q (F0 m 0 ls [])
  refine lv_aload_n hx hb dL_table_0 rfl (lv_at hl 2 rfl) ?_
  refine lv_iconst (v := 0) hx hb dL_table_1 (by decide) ?_
  refine lv_aload_n hx hb dL_table_2 rfl (lv_at hl 0 rfl) ?_
  refine lv_iload_n hx hb dL_table_3 rfl (lv_at hl 1 rfl) ?_
  refine k_cthr (wf := (fW cI cP a0 aN aT aS t0 t1 t2 h0 h1 pa PN PT PS f u Ps oh vh k)) (wo := outW cL qo fo) (W1 := (fun (v9 : PV × (Nat → PV) × Nat × Nat) => fW cI cP a0 aN aT aS t0 t1 t2 h0 h1 pa v9.1 PT PS f u v9.2.1 v9.2.2.1 v9.2.2.2 k)) (vx_runV (As := [.int n5]) (rest := [.int 0, .ref qo]) ⟨hx, hb, hml, hown, hts0⟩ (mX6_table l hst dC dI cI cP a0 aN aT aS t0 t1 t2 h0 h1 pa PN PT PS f u Ps oh vh k n5 ho6 hv6) (cwV 1 hts0 (gi_V u_573 u_574 u_575 u_1 u_576) rfl rfl rfl (by decide +kernel) ⟨Nat.le_of_ble_eq_true rfl, Nat.le_of_ble_eq_true rfl⟩) (pcWX hP hK hn hD hX hS rfl rfl) rfl rfl hl.1 rfl (lv_room (Nat.le_of_ble_eq_true rfl)) dL_table_4 ⟨Nat.le_of_ble_eq_true rfl, Nat.le_of_ble_eq_true rfl⟩) hP hD hS (fun _ => rfl) (fun c9 ce9 q9 H locs hp9 hP hD hS he9 hv9 hc9 => ?_) (fun r9 u9 H locs hp9 hP hD hS => ?_)
  · rcases inl_table hp9 with rfl | rfl
    · refine k_catch (cd := 0) (hp := 12) (en := 9) (pre := []) (suf := [(15, 1)]) hT9 (by decide) (by decide) rfl hown hts hX hN he9 hv9 hc9 ?_
      refine lv_astore_n (lv' := [(3, .ref q9), (0, .ref a0), (1, .int n5), (2, .ref qo)]) hx hb dL_table_12 rfl hl (by decide) rfl (fun ls hl => ?_)
      refine lv_iconst (v := 1) hx hb dL_table_13 (by decide) ?_
      rw [hQ]
      refine vx_ret (W.widen (k := 1) (n := 6) (Nat.le_of_ble_eq_true rfl) (Nat.le_of_ble_eq_true rfl) ?_)
      exact W.iret (v := 1) hx hb hr (fun t ht hW => ⟨⟨1, ((PN, Ps, oh, vh), fo), rfl, Or.inl ⟨0, hp9, rfl, rfl⟩, toH ht hP⟩, hS.F ht⟩) hS.2.2 dL_table_14
    · refine k_catch (cd := 1) (hp := 15) (en := 9) (pre := [(12, 0)]) (suf := []) hT9 (by decide) (by decide) rfl hown hts hX hN he9 hv9 hc9 ?_
      refine lv_astore_n (lv' := [(3, .ref q9), (0, .ref a0), (1, .int n5), (2, .ref qo)]) hx hb dL_table_15 rfl hl (by decide) rfl (fun ls hl => ?_)
      refine lv_iconst (v := 2) hx hb dL_table_16 (by decide) ?_
      rw [hQ]
      refine vx_ret (W.widen (k := 1) (n := 6) (Nat.le_of_ble_eq_true rfl) (Nat.le_of_ble_eq_true rfl) ?_)
      exact W.iret (v := 2) hx hb hr (fun t ht hW => ⟨⟨2, ((PN, Ps, oh, vh), fo), rfl, Or.inl ⟨1, hp9, rfl, rfl⟩, toH ht hP⟩, hS.F ht⟩) hS.2.2 dL_table_17
  refine lv_i2l (v := r9.toInt64) hx hb dL_table_7 rfl ?_
  refine va_last hx hb hK hP hD hS 0 2 rfl rfl (vp_in_nI (n := 0) (by decide) (by decide)) dL_table_8 (fun H locs hP hD hS => ?_)
  rw [show (0 : Int32).toNatClampNeg = 0 from rfl] at hP hD
  have hP : va_P (dC, dI) vwCl (fl [outW cL qo (vp_updL fo 0 r9.toInt64), (fun (v9 : PV × (Nat → PV) × Nat × Nat) => fW cI cP a0 aN aT aS t0 t1 t2 h0 h1 pa v9.1 PT PS f u v9.2.1 v9.2.2.1 v9.2.2.2 k) u9]) H := hP
  refine lv_goto (tgt := 18) hx hb dL_table_9 (by decide) ?_
  refine lv_iconst (v := 0) hx hb dL_table_18 (by decide) ?_
  rw [hQ]
  refine vx_ret (W.widen (k := 1) (n := 6) (Nat.le_of_ble_eq_true rfl) (Nat.le_of_ble_eq_true rfl) ?_)
  exact W.iret (v := 0) hx hb hr (fun t ht hW => ⟨⟨0, (u9, vp_updL fo 0 r9.toInt64), rfl, Or.inr ⟨r9, u9, hp9, rfl, rfl⟩, toH ht hP⟩, hS.F ht⟩) hS.2.2 dL_table_19

theorem inl_feud {PN : PV} {Ps : Nat → PV} {oh : Nat} {vh : Nat} {a b : Int32} {c9 : Nat} (h : fX6_feud PN Ps oh vh a b = Sum.inl c9) : c9 = 0 ∨ c9 = 1 := by
  unfold fX6_feud at h
  try simp only [bd, bd2] at h
  repeat' split at h
  all_goals first | (cases h; done) | (cases h; decide)
abbrev rmL_feud : Room := { frames := 8, cells := 2, slots := 12, locals := 141 }
set_option maxHeartbeats 4000000 in
set_option maxRecDepth 100000 in
theorem mL_feud (l : Launch) (hst : l.stackTraces = false) (dC : Nat → ClassId) (dI : Nat → Nat → Nat) (cI cP cL : ClassId) (qL qG qo : Nat) (fo : Nat → Int64) (a0 : Nat) (aN aT aS : Nat → Nat) (t0 t1 t2 h0 h1 : Nat) (pa : Nat → Nat → Nat) (PN PT PS : PV) (f : Nat → Int32) (u : Int32) (Ps : Nat → PV) (oh vh : Nat) (k : Int32) (a b : Int32) (ho6 : oh < 6) (hv6 : vh ≤ 6) : vx_Met l yL_feud (wsw_ yL_feud cL_feud 5 (some .int) (ltb 10 [(13, 0), (17, 1)])) rmL_feud (pcW (dC, dI) [(cI, .int), (cP, .object "SupperSeats$Plan"), (cL, .long)] (fl [outW cL qo fo, (fW cI cP a0 aN aT aS t0 t1 t2 h0 h1 pa PN PT PS f u Ps oh vh k)]) [.ref a0, .int a, .int b, .ref qo] cI qL qG) (va_Qi (fun (k9 : Int32) (z9 : (PV × (Nat → PV) × Nat × Nat) × (Nat → Int64)) => (∃ c9 : Nat, fX6_feud PN Ps oh vh a b = Sum.inl c9 ∧ k9 = (if c9 = 0 then 1 else (if c9 = 1 then 2 else 9)) ∧ z9 = ((PN, Ps, oh, vh), fo)) ∨ (∃ (r9 : Int32) (u9 : PV × (Nat → PV) × Nat × Nat), fX6_feud PN Ps oh vh a b = Sum.inr (r9, u9) ∧ k9 = 0 ∧ z9 = (u9, vp_updL fo 0 r9.toInt64))) (fun z9 t => va_P (dC, dI) vwCl (fl [outW cL qo z9.2, (fun (v9 : PV × (Nat → PV) × Nat × Nat) => fW cI cP a0 aN aT aS t0 t1 t2 h0 h1 pa v9.1 PT PS f u v9.2.1 v9.2.2.1 v9.2.2.2 k) z9.1]) t.heap) (adr (fl [outW cL qo fo, (fW cI cP a0 aN aT aS t0 t1 t2 h0 h1 pa PN PT PS f u Ps oh vh k)]))) (vx_X (fun _ : Unit => False) (fun _ _ _ => True) (adr (fl [outW cL qo fo, (fW cI cP a0 aN aT aS t0 t1 t2 h0 h1 pa PN PT PS f u Ps oh vh k)]))) 2 12 (adr (fl [outW cL qo fo, (fW cI cP a0 aN aT aS t0 t1 t2 h0 h1 pa PN PT PS f u Ps oh vh k)])) := by
  refine vx_ofWH (cc := cL_feud) (maxL := 5) (ret := some .int) (hh := ltb 10 [(13, 0), (17, 1)]) (by decide) rfl ?_
  intro p e s m args below meth c s₁ B hml hv
  obtain ⟨ha, hP, hK, hn, hD0, hX, hN, hT⟩ := hv
  have hx := B.exec
  have hb := B.bytes
  have hr := B.returns
  have hts0 := atoms_spec (ws := (wsw_ yL_feud cL_feud 5 (some .int) (ltb 10 [(13, 0), (17, 1)]))) B.pre
  have hts : ∀ w ∈ lw_all, w.before args s = true := fun w h => hts0 w (List.mem_cons_of_mem _ h)
  have hown : s.vm.findClass RL = some m.cls := findClass_of_methodNamed B.named
  have hlocks := B.notSynchronized
  have hT9 : c.exceptionTable.toList = tableOf (ltb 10 [(13, 0), (17, 1)]) := vx_table (x := yL_feud) B (hts0 _ List.mem_cons_self)
  have hD := adr_self hD0
  obtain ⟨A, hA⟩ : ∃ A, A = adr (fl [outW cL qo fo, (fW cI cP a0 aN aT aS t0 t1 t2 h0 h1 pa PN PT PS f u Ps oh vh k)]) := ⟨_, rfl⟩
  rw [← hA] at hD hX hT
  have hS : va_S A s.heap s.heap [] := va_S.rf
  obtain ⟨Q, hQ⟩ : ∃ Q, Q = vx_MQ below (va_Qi (fun (k9 : Int32) (z9 : (PV × (Nat → PV) × Nat × Nat) × (Nat → Int64)) => (∃ c9 : Nat, fX6_feud PN Ps oh vh a b = Sum.inl c9 ∧ k9 = (if c9 = 0 then 1 else (if c9 = 1 then 2 else 9)) ∧ z9 = ((PN, Ps, oh, vh), fo)) ∨ (∃ (r9 : Int32) (u9 : PV × (Nat → PV) × Nat × Nat), fX6_feud PN Ps oh vh a b = Sum.inr (r9, u9) ∧ k9 = 0 ∧ z9 = (u9, vp_updL fo 0 r9.toInt64))) (fun z9 t => va_P (dC, dI) vwCl (fl [outW cL qo z9.2, (fun (v9 : PV × (Nat → PV) × Nat × Nat) => fW cI cP a0 aN aT aS t0 t1 t2 h0 h1 pa v9.1 PT PS f u v9.2.1 v9.2.2.1 v9.2.2.2 k) z9.1]) t.heap) (adr (fl [outW cL qo fo, (fW cI cP a0 aN aT aS t0 t1 t2 h0 h1 pa PN PT PS f u Ps oh vh k)]))) (vx_X (fun _ : Unit => False) (fun _ _ _ => True) (adr (fl [outW cL qo fo, (fW cI cP a0 aN aT aS t0 t1 t2 h0 h1 pa PN PT PS f u Ps oh vh k)]))) args s 2 12 (adr (fl [outW cL qo fo, (fW cI cP a0 aN aT aS t0 t1 t2 h0 h1 pa PN PT PS f u Ps oh vh k)])) := ⟨_, rfl⟩
  rw [← hQ]
  rw [← hA] at hQ
  have hl := lv_entry ([.ref a0, .int a, .int b, .ref qo]) (n := 5) (Nat.le_of_ble_eq_true rfl)
  rw [ha, lg_entry_eq, ← ha]
  generalize (lg_sl ([.ref a0, .int a, .int b, .ref qo]) ++ List.replicate (5 - (lg_sl ([.ref a0, .int a, .int b, .ref qo])).length) Slot.unset).toArray = ls at hl ⊢
  have hl : lv_has ls 5 [(0, .ref a0), (1, .int a), (2, .int b), (3, .ref qo)] := hl
  show W p l e rmL_feud s m args below meth c s.heap [] 0 0 Q (F0 m 0 ls [])
  refine lv_aload_n hx hb dL_feud_0 rfl (lv_at hl 3 rfl) ?_
  refine lv_iconst (v := 0) hx hb dL_feud_1 (by decide) ?_
  refine lv_aload_n hx hb dL_feud_2 rfl (lv_at hl 0 rfl) ?_
  refine lv_iload_n hx hb dL_feud_3 rfl (lv_at hl 1 rfl) ?_
  refine lv_iload_n hx hb dL_feud_4 rfl (lv_at hl 2 rfl) ?_
  refine k_cthr (wf := (fW cI cP a0 aN aT aS t0 t1 t2 h0 h1 pa PN PT PS f u Ps oh vh k)) (wo := outW cL qo fo) (W1 := (fun (v9 : PV × (Nat → PV) × Nat × Nat) => fW cI cP a0 aN aT aS t0 t1 t2 h0 h1 pa v9.1 PT PS f u v9.2.1 v9.2.2.1 v9.2.2.2 k)) (vx_runV (As := [.int a, .int b]) (rest := [.int 0, .ref qo]) ⟨hx, hb, hml, hown, hts0⟩ (mX6_feud l hst dC dI cI cP a0 aN aT aS t0 t1 t2 h0 h1 pa PN PT PS f u Ps oh vh k a b ho6 hv6) (cwV 2 hts0 (gi_V u_586 u_587 u_588 u_1 u_589) rfl rfl rfl (by decide +kernel) ⟨Nat.le_of_ble_eq_true rfl, Nat.le_of_ble_eq_true rfl⟩) (pcWX hP hK hn hD hX hS rfl rfl) rfl rfl hl.1 rfl (lv_room (Nat.le_of_ble_eq_true rfl)) dL_feud_5 ⟨Nat.le_of_ble_eq_true rfl, Nat.le_of_ble_eq_true rfl⟩) hP hD hS (fun _ => rfl) (fun c9 ce9 q9 H locs hp9 hP hD hS he9 hv9 hc9 => ?_) (fun r9 u9 H locs hp9 hP hD hS => ?_)
  · rcases inl_feud hp9 with rfl | rfl
    · refine k_catch (cd := 0) (hp := 13) (en := 10) (pre := []) (suf := [(17, 1)]) hT9 (by decide) (by decide) rfl hown hts hX hN he9 hv9 hc9 ?_
      refine lv_astore (lv' := [(4, .ref q9), (0, .ref a0), (1, .int a), (2, .int b), (3, .ref qo)]) hx hb dL_feud_13 hl (by decide) rfl (fun ls hl => ?_)
      refine lv_iconst (v := 1) hx hb dL_feud_15 (by decide) ?_
      rw [hQ]
      refine vx_ret (W.widen (k := 2) (n := 12) (Nat.le_of_ble_eq_true rfl) (Nat.le_of_ble_eq_true rfl) ?_)
      exact W.iret (v := 1) hx hb hr (fun t ht hW => ⟨⟨1, ((PN, Ps, oh, vh), fo), rfl, Or.inl ⟨0, hp9, rfl, rfl⟩, toH ht hP⟩, hS.F ht⟩) hS.2.2 dL_feud_16
    · refine k_catch (cd := 1) (hp := 17) (en := 10) (pre := [(13, 0)]) (suf := []) hT9 (by decide) (by decide) rfl hown hts hX hN he9 hv9 hc9 ?_
      refine lv_astore (lv' := [(4, .ref q9), (0, .ref a0), (1, .int a), (2, .int b), (3, .ref qo)]) hx hb dL_feud_17 hl (by decide) rfl (fun ls hl => ?_)
      refine lv_iconst (v := 2) hx hb dL_feud_19 (by decide) ?_
      rw [hQ]
      refine vx_ret (W.widen (k := 2) (n := 12) (Nat.le_of_ble_eq_true rfl) (Nat.le_of_ble_eq_true rfl) ?_)
      exact W.iret (v := 2) hx hb hr (fun t ht hW => ⟨⟨2, ((PN, Ps, oh, vh), fo), rfl, Or.inl ⟨1, hp9, rfl, rfl⟩, toH ht hP⟩, hS.F ht⟩) hS.2.2 dL_feud_20
  refine lv_i2l (v := r9.toInt64) hx hb dL_feud_8 rfl ?_
  refine va_last hx hb hK hP hD hS 0 2 rfl rfl (vp_in_nI (n := 0) (by decide) (by decide)) dL_feud_9 (fun H locs hP hD hS => ?_)
  rw [show (0 : Int32).toNatClampNeg = 0 from rfl] at hP hD
  have hP : va_P (dC, dI) vwCl (fl [outW cL qo (vp_updL fo 0 r9.toInt64), (fun (v9 : PV × (Nat → PV) × Nat × Nat) => fW cI cP a0 aN aT aS t0 t1 t2 h0 h1 pa v9.1 PT PS f u v9.2.1 v9.2.2.1 v9.2.2.2 k) u9]) H := hP
  refine lv_goto (tgt := 21) hx hb dL_feud_10 (by decide) ?_
  refine lv_iconst (v := 0) hx hb dL_feud_21 (by decide) ?_
  rw [hQ]
  refine vx_ret (W.widen (k := 2) (n := 12) (Nat.le_of_ble_eq_true rfl) (Nat.le_of_ble_eq_true rfl) ?_)
  exact W.iret (v := 0) hx hb hr (fun t ht hW => ⟨⟨0, (u9, vp_updL fo 0 r9.toInt64), rfl, Or.inr ⟨r9, u9, hp9, rfl, rfl⟩, toH ht hP⟩, hS.F ht⟩) hS.2.2 dL_feud_22

theorem inl_peace {PN : PV} {Ps : Nat → PV} {oh : Nat} {vh : Nat} {a b : Int32} {c9 : Nat} (h : fX6_peace PN Ps oh vh a b = Sum.inl c9) : c9 = 0 ∨ c9 = 1 := by
  unfold fX6_peace at h
  try simp only [bd, bd2] at h
  repeat' split at h
  all_goals first | (cases h; done) | (cases h; decide)
abbrev rmL_peace : Room := { frames := 8, cells := 2, slots := 12, locals := 133 }
set_option maxHeartbeats 4000000 in
set_option maxRecDepth 100000 in
theorem mL_peace (l : Launch) (hst : l.stackTraces = false) (dC : Nat → ClassId) (dI : Nat → Nat → Nat) (cI cP cL : ClassId) (qL qG qo : Nat) (fo : Nat → Int64) (a0 : Nat) (aN aT aS : Nat → Nat) (t0 t1 t2 h0 h1 : Nat) (pa : Nat → Nat → Nat) (PN PT PS : PV) (f : Nat → Int32) (u : Int32) (Ps : Nat → PV) (oh vh : Nat) (k : Int32) (a b : Int32) (ho6 : oh < 6) (hv6 : vh ≤ 6) : vx_Met l yL_peace (wsw_ yL_peace cL_peace 5 (some .int) (ltb 10 [(13, 0), (17, 1)])) rmL_peace (pcW (dC, dI) [(cI, .int), (cP, .object "SupperSeats$Plan"), (cL, .long)] (fl [outW cL qo fo, (fW cI cP a0 aN aT aS t0 t1 t2 h0 h1 pa PN PT PS f u Ps oh vh k)]) [.ref a0, .int a, .int b, .ref qo] cI qL qG) (va_Qi (fun (k9 : Int32) (z9 : (PV × (Nat → PV) × Nat × Nat) × (Nat → Int64)) => (∃ c9 : Nat, fX6_peace PN Ps oh vh a b = Sum.inl c9 ∧ k9 = (if c9 = 0 then 1 else (if c9 = 1 then 2 else 9)) ∧ z9 = ((PN, Ps, oh, vh), fo)) ∨ (∃ (r9 : Int32) (u9 : PV × (Nat → PV) × Nat × Nat), fX6_peace PN Ps oh vh a b = Sum.inr (r9, u9) ∧ k9 = 0 ∧ z9 = (u9, vp_updL fo 0 r9.toInt64))) (fun z9 t => va_P (dC, dI) vwCl (fl [outW cL qo z9.2, (fun (v9 : PV × (Nat → PV) × Nat × Nat) => fW cI cP a0 aN aT aS t0 t1 t2 h0 h1 pa v9.1 PT PS f u v9.2.1 v9.2.2.1 v9.2.2.2 k) z9.1]) t.heap) (adr (fl [outW cL qo fo, (fW cI cP a0 aN aT aS t0 t1 t2 h0 h1 pa PN PT PS f u Ps oh vh k)]))) (vx_X (fun _ : Unit => False) (fun _ _ _ => True) (adr (fl [outW cL qo fo, (fW cI cP a0 aN aT aS t0 t1 t2 h0 h1 pa PN PT PS f u Ps oh vh k)]))) 2 12 (adr (fl [outW cL qo fo, (fW cI cP a0 aN aT aS t0 t1 t2 h0 h1 pa PN PT PS f u Ps oh vh k)])) := by
  refine vx_ofWH (cc := cL_peace) (maxL := 5) (ret := some .int) (hh := ltb 10 [(13, 0), (17, 1)]) (by decide) rfl ?_
  intro p e s m args below meth c s₁ B hml hv
  obtain ⟨ha, hP, hK, hn, hD0, hX, hN, hT⟩ := hv
  have hx := B.exec
  have hb := B.bytes
  have hr := B.returns
  have hts0 := atoms_spec (ws := (wsw_ yL_peace cL_peace 5 (some .int) (ltb 10 [(13, 0), (17, 1)]))) B.pre
  have hts : ∀ w ∈ lw_all, w.before args s = true := fun w h => hts0 w (List.mem_cons_of_mem _ h)
  have hown : s.vm.findClass RL = some m.cls := findClass_of_methodNamed B.named
  have hlocks := B.notSynchronized
  have hT9 : c.exceptionTable.toList = tableOf (ltb 10 [(13, 0), (17, 1)]) := vx_table (x := yL_peace) B (hts0 _ List.mem_cons_self)
  have hD := adr_self hD0
  obtain ⟨A, hA⟩ : ∃ A, A = adr (fl [outW cL qo fo, (fW cI cP a0 aN aT aS t0 t1 t2 h0 h1 pa PN PT PS f u Ps oh vh k)]) := ⟨_, rfl⟩
  rw [← hA] at hD hX hT
  have hS : va_S A s.heap s.heap [] := va_S.rf
  obtain ⟨Q, hQ⟩ : ∃ Q, Q = vx_MQ below (va_Qi (fun (k9 : Int32) (z9 : (PV × (Nat → PV) × Nat × Nat) × (Nat → Int64)) => (∃ c9 : Nat, fX6_peace PN Ps oh vh a b = Sum.inl c9 ∧ k9 = (if c9 = 0 then 1 else (if c9 = 1 then 2 else 9)) ∧ z9 = ((PN, Ps, oh, vh), fo)) ∨ (∃ (r9 : Int32) (u9 : PV × (Nat → PV) × Nat × Nat), fX6_peace PN Ps oh vh a b = Sum.inr (r9, u9) ∧ k9 = 0 ∧ z9 = (u9, vp_updL fo 0 r9.toInt64))) (fun z9 t => va_P (dC, dI) vwCl (fl [outW cL qo z9.2, (fun (v9 : PV × (Nat → PV) × Nat × Nat) => fW cI cP a0 aN aT aS t0 t1 t2 h0 h1 pa v9.1 PT PS f u v9.2.1 v9.2.2.1 v9.2.2.2 k) z9.1]) t.heap) (adr (fl [outW cL qo fo, (fW cI cP a0 aN aT aS t0 t1 t2 h0 h1 pa PN PT PS f u Ps oh vh k)]))) (vx_X (fun _ : Unit => False) (fun _ _ _ => True) (adr (fl [outW cL qo fo, (fW cI cP a0 aN aT aS t0 t1 t2 h0 h1 pa PN PT PS f u Ps oh vh k)]))) args s 2 12 (adr (fl [outW cL qo fo, (fW cI cP a0 aN aT aS t0 t1 t2 h0 h1 pa PN PT PS f u Ps oh vh k)])) := ⟨_, rfl⟩
  rw [← hQ]
  rw [← hA] at hQ
  have hl := lv_entry ([.ref a0, .int a, .int b, .ref qo]) (n := 5) (Nat.le_of_ble_eq_true rfl)
  rw [ha, lg_entry_eq, ← ha]
  generalize (lg_sl ([.ref a0, .int a, .int b, .ref qo]) ++ List.replicate (5 - (lg_sl ([.ref a0, .int a, .int b, .ref qo])).length) Slot.unset).toArray = ls at hl ⊢
  have hl : lv_has ls 5 [(0, .ref a0), (1, .int a), (2, .int b), (3, .ref qo)] := hl
  show W p l e rmL_peace s m args below meth c s.heap [] 0 0 Q (F0 m 0 ls [])
  refine lv_aload_n hx hb dL_peace_0 rfl (lv_at hl 3 rfl) ?_
  refine lv_iconst (v := 0) hx hb dL_peace_1 (by decide) ?_
  refine lv_aload_n hx hb dL_peace_2 rfl (lv_at hl 0 rfl) ?_
  refine lv_iload_n hx hb dL_peace_3 rfl (lv_at hl 1 rfl) ?_
  refine lv_iload_n hx hb dL_peace_4 rfl (lv_at hl 2 rfl) ?_
  refine k_cthr (wf := (fW cI cP a0 aN aT aS t0 t1 t2 h0 h1 pa PN PT PS f u Ps oh vh k)) (wo := outW cL qo fo) (W1 := (fun (v9 : PV × (Nat → PV) × Nat × Nat) => fW cI cP a0 aN aT aS t0 t1 t2 h0 h1 pa v9.1 PT PS f u v9.2.1 v9.2.2.1 v9.2.2.2 k)) (vx_runV (As := [.int a, .int b]) (rest := [.int 0, .ref qo]) ⟨hx, hb, hml, hown, hts0⟩ (mX6_peace l hst dC dI cI cP a0 aN aT aS t0 t1 t2 h0 h1 pa PN PT PS f u Ps oh vh k a b ho6 hv6) (cwV 2 hts0 (gi_V u_608 u_609 u_610 u_1 u_611) rfl rfl rfl (by decide +kernel) ⟨Nat.le_of_ble_eq_true rfl, Nat.le_of_ble_eq_true rfl⟩) (pcWX hP hK hn hD hX hS rfl rfl) rfl rfl hl.1 rfl (lv_room (Nat.le_of_ble_eq_true rfl)) dL_peace_5 ⟨Nat.le_of_ble_eq_true rfl, Nat.le_of_ble_eq_true rfl⟩) hP hD hS (fun _ => rfl) (fun c9 ce9 q9 H locs hp9 hP hD hS he9 hv9 hc9 => ?_) (fun r9 u9 H locs hp9 hP hD hS => ?_)
  · rcases inl_peace hp9 with rfl | rfl
    · refine k_catch (cd := 0) (hp := 13) (en := 10) (pre := []) (suf := [(17, 1)]) hT9 (by decide) (by decide) rfl hown hts hX hN he9 hv9 hc9 ?_
      refine lv_astore (lv' := [(4, .ref q9), (0, .ref a0), (1, .int a), (2, .int b), (3, .ref qo)]) hx hb dL_peace_13 hl (by decide) rfl (fun ls hl => ?_)
      refine lv_iconst (v := 1) hx hb dL_peace_15 (by decide) ?_
      rw [hQ]
      refine vx_ret (W.widen (k := 2) (n := 12) (Nat.le_of_ble_eq_true rfl) (Nat.le_of_ble_eq_true rfl) ?_)
      exact W.iret (v := 1) hx hb hr (fun t ht hW => ⟨⟨1, ((PN, Ps, oh, vh), fo), rfl, Or.inl ⟨0, hp9, rfl, rfl⟩, toH ht hP⟩, hS.F ht⟩) hS.2.2 dL_peace_16
    · refine k_catch (cd := 1) (hp := 17) (en := 10) (pre := [(13, 0)]) (suf := []) hT9 (by decide) (by decide) rfl hown hts hX hN he9 hv9 hc9 ?_
      refine lv_astore (lv' := [(4, .ref q9), (0, .ref a0), (1, .int a), (2, .int b), (3, .ref qo)]) hx hb dL_peace_17 hl (by decide) rfl (fun ls hl => ?_)
      refine lv_iconst (v := 2) hx hb dL_peace_19 (by decide) ?_
      rw [hQ]
      refine vx_ret (W.widen (k := 2) (n := 12) (Nat.le_of_ble_eq_true rfl) (Nat.le_of_ble_eq_true rfl) ?_)
      exact W.iret (v := 2) hx hb hr (fun t ht hW => ⟨⟨2, ((PN, Ps, oh, vh), fo), rfl, Or.inl ⟨1, hp9, rfl, rfl⟩, toH ht hP⟩, hS.F ht⟩) hS.2.2 dL_peace_20
  refine lv_i2l (v := r9.toInt64) hx hb dL_peace_8 rfl ?_
  refine va_last hx hb hK hP hD hS 0 2 rfl rfl (vp_in_nI (n := 0) (by decide) (by decide)) dL_peace_9 (fun H locs hP hD hS => ?_)
  rw [show (0 : Int32).toNatClampNeg = 0 from rfl] at hP hD
  have hP : va_P (dC, dI) vwCl (fl [outW cL qo (vp_updL fo 0 r9.toInt64), (fun (v9 : PV × (Nat → PV) × Nat × Nat) => fW cI cP a0 aN aT aS t0 t1 t2 h0 h1 pa v9.1 PT PS f u v9.2.1 v9.2.2.1 v9.2.2.2 k) u9]) H := hP
  refine lv_goto (tgt := 21) hx hb dL_peace_10 (by decide) ?_
  refine lv_iconst (v := 0) hx hb dL_peace_21 (by decide) ?_
  rw [hQ]
  refine vx_ret (W.widen (k := 2) (n := 12) (Nat.le_of_ble_eq_true rfl) (Nat.le_of_ble_eq_true rfl) ?_)
  exact W.iret (v := 0) hx hb hr (fun t ht hW => ⟨⟨0, (u9, vp_updL fo 0 r9.toInt64), rfl, Or.inr ⟨r9, u9, hp9, rfl, rfl⟩, toH ht hP⟩, hS.F ht⟩) hS.2.2 dL_peace_22

theorem inl_set {PN : PV} {Ps : Nat → PV} {oh : Nat} {vh : Nat} {a b : Int32} {c9 : Nat} (h : fX6_set PN Ps oh vh a b = Sum.inl c9) : c9 = 0 ∨ c9 = 2 := by
  unfold fX6_set at h
  try simp only [bd, bd2] at h
  repeat' split at h
  all_goals first | (cases h; done) | (cases h; decide)
abbrev rmL_set : Room := { frames := 7, cells := 1, slots := 6, locals := 127 }
set_option maxHeartbeats 4000000 in
set_option maxRecDepth 100000 in
theorem mL_set (l : Launch) (hst : l.stackTraces = false) (dC : Nat → ClassId) (dI : Nat → Nat → Nat) (cI cP cL : ClassId) (qL qG qo : Nat) (fo : Nat → Int64) (a0 : Nat) (aN aT aS : Nat → Nat) (t0 t1 t2 h0 h1 : Nat) (pa : Nat → Nat → Nat) (PN PT PS : PV) (f : Nat → Int32) (u : Int32) (Ps : Nat → PV) (oh vh : Nat) (k : Int32) (a b : Int32) (ho6 : oh < 6) (hv6 : vh ≤ 6) : vx_Met l yL_set (wsw_ yL_set cL_set 5 (some .int) (ltb 10 [(13, 2), (17, 0)])) rmL_set (pcW (dC, dI) [(cI, .int), (cP, .object "SupperSeats$Plan"), (cL, .long)] (fl [outW cL qo fo, (fW cI cP a0 aN aT aS t0 t1 t2 h0 h1 pa PN PT PS f u Ps oh vh k)]) [.ref a0, .int a, .int b, .ref qo] cI qL qG) (va_Qi (fun (k9 : Int32) (z9 : (PV × (Nat → PV) × Nat × Nat) × (Nat → Int64)) => (∃ c9 : Nat, fX6_set PN Ps oh vh a b = Sum.inl c9 ∧ k9 = (if c9 = 2 then 1 else (if c9 = 0 then 2 else 9)) ∧ z9 = ((PN, Ps, oh, vh), fo)) ∨ (∃ (r9 : Int32) (u9 : PV × (Nat → PV) × Nat × Nat), fX6_set PN Ps oh vh a b = Sum.inr (r9, u9) ∧ k9 = 0 ∧ z9 = (u9, vp_updL fo 0 r9.toInt64))) (fun z9 t => va_P (dC, dI) vwCl (fl [outW cL qo z9.2, (fun (v9 : PV × (Nat → PV) × Nat × Nat) => fW cI cP a0 aN aT aS t0 t1 t2 h0 h1 pa v9.1 PT PS f u v9.2.1 v9.2.2.1 v9.2.2.2 k) z9.1]) t.heap) (adr (fl [outW cL qo fo, (fW cI cP a0 aN aT aS t0 t1 t2 h0 h1 pa PN PT PS f u Ps oh vh k)]))) (vx_X (fun _ : Unit => False) (fun _ _ _ => True) (adr (fl [outW cL qo fo, (fW cI cP a0 aN aT aS t0 t1 t2 h0 h1 pa PN PT PS f u Ps oh vh k)]))) 1 6 (adr (fl [outW cL qo fo, (fW cI cP a0 aN aT aS t0 t1 t2 h0 h1 pa PN PT PS f u Ps oh vh k)])) := by
  refine vx_ofWH (cc := cL_set) (maxL := 5) (ret := some .int) (hh := ltb 10 [(13, 2), (17, 0)]) (by decide) rfl ?_
  intro p e s m args below meth c s₁ B hml hv
  obtain ⟨ha, hP, hK, hn, hD0, hX, hN, hT⟩ := hv
  have hx := B.exec
  have hb := B.bytes
  have hr := B.returns
  have hts0 := atoms_spec (ws := (wsw_ yL_set cL_set 5 (some .int) (ltb 10 [(13, 2), (17, 0)]))) B.pre
  have hts : ∀ w ∈ lw_all, w.before args s = true := fun w h => hts0 w (List.mem_cons_of_mem _ h)
  have hown : s.vm.findClass RL = some m.cls := findClass_of_methodNamed B.named
  have hlocks := B.notSynchronized
  have hT9 : c.exceptionTable.toList = tableOf (ltb 10 [(13, 2), (17, 0)]) := vx_table (x := yL_set) B (hts0 _ List.mem_cons_self)
  have hD := adr_self hD0
  obtain ⟨A, hA⟩ : ∃ A, A = adr (fl [outW cL qo fo, (fW cI cP a0 aN aT aS t0 t1 t2 h0 h1 pa PN PT PS f u Ps oh vh k)]) := ⟨_, rfl⟩
  rw [← hA] at hD hX hT
  have hS : va_S A s.heap s.heap [] := va_S.rf
  obtain ⟨Q, hQ⟩ : ∃ Q, Q = vx_MQ below (va_Qi (fun (k9 : Int32) (z9 : (PV × (Nat → PV) × Nat × Nat) × (Nat → Int64)) => (∃ c9 : Nat, fX6_set PN Ps oh vh a b = Sum.inl c9 ∧ k9 = (if c9 = 2 then 1 else (if c9 = 0 then 2 else 9)) ∧ z9 = ((PN, Ps, oh, vh), fo)) ∨ (∃ (r9 : Int32) (u9 : PV × (Nat → PV) × Nat × Nat), fX6_set PN Ps oh vh a b = Sum.inr (r9, u9) ∧ k9 = 0 ∧ z9 = (u9, vp_updL fo 0 r9.toInt64))) (fun z9 t => va_P (dC, dI) vwCl (fl [outW cL qo z9.2, (fun (v9 : PV × (Nat → PV) × Nat × Nat) => fW cI cP a0 aN aT aS t0 t1 t2 h0 h1 pa v9.1 PT PS f u v9.2.1 v9.2.2.1 v9.2.2.2 k) z9.1]) t.heap) (adr (fl [outW cL qo fo, (fW cI cP a0 aN aT aS t0 t1 t2 h0 h1 pa PN PT PS f u Ps oh vh k)]))) (vx_X (fun _ : Unit => False) (fun _ _ _ => True) (adr (fl [outW cL qo fo, (fW cI cP a0 aN aT aS t0 t1 t2 h0 h1 pa PN PT PS f u Ps oh vh k)]))) args s 1 6 (adr (fl [outW cL qo fo, (fW cI cP a0 aN aT aS t0 t1 t2 h0 h1 pa PN PT PS f u Ps oh vh k)])) := ⟨_, rfl⟩
  rw [← hQ]
  rw [← hA] at hQ
  have hl := lv_entry ([.ref a0, .int a, .int b, .ref qo]) (n := 5) (Nat.le_of_ble_eq_true rfl)
  rw [ha, lg_entry_eq, ← ha]
  generalize (lg_sl ([.ref a0, .int a, .int b, .ref qo]) ++ List.replicate (5 - (lg_sl ([.ref a0, .int a, .int b, .ref qo])).length) Slot.unset).toArray = ls at hl ⊢
  have hl : lv_has ls 5 [(0, .ref a0), (1, .int a), (2, .int b), (3, .ref qo)] := hl
  show W p l e rmL_set s m args below meth c s.heap [] 0 0 Q (F0 m 0 ls [])
  refine lv_aload_n hx hb dL_set_0 rfl (lv_at hl 3 rfl) ?_
  refine lv_iconst (v := 0) hx hb dL_set_1 (by decide) ?_
  refine lv_aload_n hx hb dL_set_2 rfl (lv_at hl 0 rfl) ?_
  refine lv_iload_n hx hb dL_set_3 rfl (lv_at hl 1 rfl) ?_
  refine lv_iload_n hx hb dL_set_4 rfl (lv_at hl 2 rfl) ?_
  refine k_cthr (wf := (fW cI cP a0 aN aT aS t0 t1 t2 h0 h1 pa PN PT PS f u Ps oh vh k)) (wo := outW cL qo fo) (W1 := (fun (v9 : PV × (Nat → PV) × Nat × Nat) => fW cI cP a0 aN aT aS t0 t1 t2 h0 h1 pa v9.1 PT PS f u v9.2.1 v9.2.2.1 v9.2.2.2 k)) (vx_runV (As := [.int a, .int b]) (rest := [.int 0, .ref qo]) ⟨hx, hb, hml, hown, hts0⟩ (mX6_set l hst dC dI cI cP a0 aN aT aS t0 t1 t2 h0 h1 pa PN PT PS f u Ps oh vh k a b qL qG ho6 hv6) (cwV 2 hts0 (gi_V u_618 u_619 u_620 u_1 u_621) rfl rfl rfl (by decide +kernel) ⟨Nat.le_of_ble_eq_true rfl, Nat.le_of_ble_eq_true rfl⟩) (pcWY hP hK hn hD hX hT hS rfl rfl) rfl rfl hl.1 rfl (lv_room (Nat.le_of_ble_eq_true rfl)) dL_set_5 ⟨Nat.le_of_ble_eq_true rfl, Nat.le_of_ble_eq_true rfl⟩) hP hD hS (fun _ => rfl) (fun c9 ce9 q9 H locs hp9 hP hD hS he9 hv9 hc9 => ?_) (fun r9 u9 H locs hp9 hP hD hS => ?_)
  · rcases inl_set hp9 with rfl | rfl
    · refine k_catch (cd := 0) (hp := 17) (en := 10) (pre := [(13, 2)]) (suf := []) hT9 (by decide) (by decide) rfl hown hts hX hN he9 hv9 hc9 ?_
      refine lv_astore (lv' := [(4, .ref q9), (0, .ref a0), (1, .int a), (2, .int b), (3, .ref qo)]) hx hb dL_set_17 hl (by decide) rfl (fun ls hl => ?_)
      refine lv_iconst (v := 2) hx hb dL_set_19 (by decide) ?_
      rw [hQ]
      refine vx_ret (W.widen (k := 1) (n := 6) (Nat.le_of_ble_eq_true rfl) (Nat.le_of_ble_eq_true rfl) ?_)
      exact W.iret (v := 2) hx hb hr (fun t ht hW => ⟨⟨2, ((PN, Ps, oh, vh), fo), rfl, Or.inl ⟨0, hp9, rfl, rfl⟩, toH ht hP⟩, hS.F ht⟩) hS.2.2 dL_set_20
    · refine k_catch (cd := 2) (hp := 13) (en := 10) (pre := []) (suf := [(17, 0)]) hT9 (by decide) (by decide) rfl hown hts hX hN he9 hv9 hc9 ?_
      refine lv_astore (lv' := [(4, .ref q9), (0, .ref a0), (1, .int a), (2, .int b), (3, .ref qo)]) hx hb dL_set_13 hl (by decide) rfl (fun ls hl => ?_)
      refine lv_iconst (v := 1) hx hb dL_set_15 (by decide) ?_
      rw [hQ]
      refine vx_ret (W.widen (k := 1) (n := 6) (Nat.le_of_ble_eq_true rfl) (Nat.le_of_ble_eq_true rfl) ?_)
      exact W.iret (v := 1) hx hb hr (fun t ht hW => ⟨⟨1, ((PN, Ps, oh, vh), fo), rfl, Or.inl ⟨2, hp9, rfl, rfl⟩, toH ht hP⟩, hS.F ht⟩) hS.2.2 dL_set_16
  refine lv_i2l (v := r9.toInt64) hx hb dL_set_8 rfl ?_
  refine va_last hx hb hK hP hD hS 0 2 rfl rfl (vp_in_nI (n := 0) (by decide) (by decide)) dL_set_9 (fun H locs hP hD hS => ?_)
  rw [show (0 : Int32).toNatClampNeg = 0 from rfl] at hP hD
  have hP : va_P (dC, dI) vwCl (fl [outW cL qo (vp_updL fo 0 r9.toInt64), (fun (v9 : PV × (Nat → PV) × Nat × Nat) => fW cI cP a0 aN aT aS t0 t1 t2 h0 h1 pa v9.1 PT PS f u v9.2.1 v9.2.2.1 v9.2.2.2 k) u9]) H := hP
  refine lv_goto (tgt := 21) hx hb dL_set_10 (by decide) ?_
  refine lv_iconst (v := 0) hx hb dL_set_21 (by decide) ?_
  rw [hQ]
  refine vx_ret (W.widen (k := 1) (n := 6) (Nat.le_of_ble_eq_true rfl) (Nat.le_of_ble_eq_true rfl) ?_)
  exact W.iret (v := 0) hx hb hr (fun t ht hW => ⟨⟨0, (u9, vp_updL fo 0 r9.toInt64), rfl, Or.inr ⟨r9, u9, hp9, rfl, rfl⟩, toH ht hP⟩, hS.F ht⟩) hS.2.2 dL_set_22

theorem inl_sit {PN : PV} {Ps : Nat → PV} {oh : Nat} {vh : Nat} {g tb z : Int32} {c9 : Nat} (h : fX6_sit PN Ps oh vh g tb z = Sum.inl c9) : c9 = 1 ∨ c9 = 2 := by
  unfold fX6_sit at h
  try simp only [bd, bd2] at h
  repeat' split at h
  all_goals first | (cases h; done) | (cases h; decide)
abbrev rmL_sit : Room := { frames := 9, cells := 3, slots := 18, locals := 158 }
set_option maxHeartbeats 4000000 in
set_option maxRecDepth 100000 in
theorem mL_sit (l : Launch) (hst : l.stackTraces = false) (dC : Nat → ClassId) (dI : Nat → Nat → Nat) (cI cP cL : ClassId) (qL qG qo : Nat) (fo : Nat → Int64) (a0 : Nat) (aN aT aS : Nat → Nat) (t0 t1 t2 h0 h1 : Nat) (pa : Nat → Nat → Nat) (PN PT PS : PV) (f : Nat → Int32) (u : Int32) (Ps : Nat → PV) (oh vh : Nat) (k : Int32) (g tb z : Int32) (ho6 : oh < 6) (hv6 : vh ≤ 6) : vx_Met l yL_sit (wsw_ yL_sit cL_sit 6 (some .int) (ltb 12 [(15, 2), (19, 1)])) rmL_sit (pcW (dC, dI) [(cI, .int), (cP, .object "SupperSeats$Plan"), (cL, .long)] (fl [outW cL qo fo, (fW cI cP a0 aN aT aS t0 t1 t2 h0 h1 pa PN PT PS f u Ps oh vh k)]) [.ref a0, .int g, .int tb, .int z, .ref qo] cI qL qG) (va_Qi (fun (k9 : Int32) (z9 : (PV × (Nat → PV) × Nat × Nat) × (Nat → Int64)) => (∃ c9 : Nat, fX6_sit PN Ps oh vh g tb z = Sum.inl c9 ∧ k9 = (if c9 = 2 then 1 else (if c9 = 1 then 2 else 9)) ∧ z9 = ((PN, Ps, oh, vh), fo)) ∨ (∃ (r9 : Int32) (u9 : PV × (Nat → PV) × Nat × Nat), fX6_sit PN Ps oh vh g tb z = Sum.inr (r9, u9) ∧ k9 = 0 ∧ z9 = (u9, vp_updL fo 0 r9.toInt64))) (fun z9 t => va_P (dC, dI) vwCl (fl [outW cL qo z9.2, (fun (v9 : PV × (Nat → PV) × Nat × Nat) => fW cI cP a0 aN aT aS t0 t1 t2 h0 h1 pa v9.1 PT PS f u v9.2.1 v9.2.2.1 v9.2.2.2 k) z9.1]) t.heap) (adr (fl [outW cL qo fo, (fW cI cP a0 aN aT aS t0 t1 t2 h0 h1 pa PN PT PS f u Ps oh vh k)]))) (vx_X (fun _ : Unit => False) (fun _ _ _ => True) (adr (fl [outW cL qo fo, (fW cI cP a0 aN aT aS t0 t1 t2 h0 h1 pa PN PT PS f u Ps oh vh k)]))) 3 18 (adr (fl [outW cL qo fo, (fW cI cP a0 aN aT aS t0 t1 t2 h0 h1 pa PN PT PS f u Ps oh vh k)])) := by
  refine vx_ofWH (cc := cL_sit) (maxL := 6) (ret := some .int) (hh := ltb 12 [(15, 2), (19, 1)]) (by decide) rfl ?_
  intro p e s m args below meth c s₁ B hml hv
  obtain ⟨ha, hP, hK, hn, hD0, hX, hN, hT⟩ := hv
  have hx := B.exec
  have hb := B.bytes
  have hr := B.returns
  have hts0 := atoms_spec (ws := (wsw_ yL_sit cL_sit 6 (some .int) (ltb 12 [(15, 2), (19, 1)]))) B.pre
  have hts : ∀ w ∈ lw_all, w.before args s = true := fun w h => hts0 w (List.mem_cons_of_mem _ h)
  have hown : s.vm.findClass RL = some m.cls := findClass_of_methodNamed B.named
  have hlocks := B.notSynchronized
  have hT9 : c.exceptionTable.toList = tableOf (ltb 12 [(15, 2), (19, 1)]) := vx_table (x := yL_sit) B (hts0 _ List.mem_cons_self)
  have hD := adr_self hD0
  obtain ⟨A, hA⟩ : ∃ A, A = adr (fl [outW cL qo fo, (fW cI cP a0 aN aT aS t0 t1 t2 h0 h1 pa PN PT PS f u Ps oh vh k)]) := ⟨_, rfl⟩
  rw [← hA] at hD hX hT
  have hS : va_S A s.heap s.heap [] := va_S.rf
  obtain ⟨Q, hQ⟩ : ∃ Q, Q = vx_MQ below (va_Qi (fun (k9 : Int32) (z9 : (PV × (Nat → PV) × Nat × Nat) × (Nat → Int64)) => (∃ c9 : Nat, fX6_sit PN Ps oh vh g tb z = Sum.inl c9 ∧ k9 = (if c9 = 2 then 1 else (if c9 = 1 then 2 else 9)) ∧ z9 = ((PN, Ps, oh, vh), fo)) ∨ (∃ (r9 : Int32) (u9 : PV × (Nat → PV) × Nat × Nat), fX6_sit PN Ps oh vh g tb z = Sum.inr (r9, u9) ∧ k9 = 0 ∧ z9 = (u9, vp_updL fo 0 r9.toInt64))) (fun z9 t => va_P (dC, dI) vwCl (fl [outW cL qo z9.2, (fun (v9 : PV × (Nat → PV) × Nat × Nat) => fW cI cP a0 aN aT aS t0 t1 t2 h0 h1 pa v9.1 PT PS f u v9.2.1 v9.2.2.1 v9.2.2.2 k) z9.1]) t.heap) (adr (fl [outW cL qo fo, (fW cI cP a0 aN aT aS t0 t1 t2 h0 h1 pa PN PT PS f u Ps oh vh k)]))) (vx_X (fun _ : Unit => False) (fun _ _ _ => True) (adr (fl [outW cL qo fo, (fW cI cP a0 aN aT aS t0 t1 t2 h0 h1 pa PN PT PS f u Ps oh vh k)]))) args s 3 18 (adr (fl [outW cL qo fo, (fW cI cP a0 aN aT aS t0 t1 t2 h0 h1 pa PN PT PS f u Ps oh vh k)])) := ⟨_, rfl⟩
  rw [← hQ]
  rw [← hA] at hQ
  have hl := lv_entry ([.ref a0, .int g, .int tb, .int z, .ref qo]) (n := 6) (Nat.le_of_ble_eq_true rfl)
  rw [ha, lg_entry_eq, ← ha]
  generalize (lg_sl ([.ref a0, .int g, .int tb, .int z, .ref qo]) ++ List.replicate (6 - (lg_sl ([.ref a0, .int g, .int tb, .int z, .ref qo])).length) Slot.unset).toArray = ls at hl ⊢
  have hl : lv_has ls 6 [(0, .ref a0), (1, .int g), (2, .int tb), (3, .int z), (4, .ref qo)] := hl
  show W p l e rmL_sit s m args below meth c s.heap [] 0 0 Q (F0 m 0 ls [])
  refine lv_aload hx hb dL_sit_0 (lv_at hl 4 rfl) ?_
  refine lv_iconst (v := 0) hx hb dL_sit_2 (by decide) ?_
  refine lv_aload_n hx hb dL_sit_3 rfl (lv_at hl 0 rfl) ?_
  refine lv_iload_n hx hb dL_sit_4 rfl (lv_at hl 1 rfl) ?_
  refine lv_iload_n hx hb dL_sit_5 rfl (lv_at hl 2 rfl) ?_
  refine lv_iload_n hx hb dL_sit_6 rfl (lv_at hl 3 rfl) ?_
  refine k_cthr (wf := (fW cI cP a0 aN aT aS t0 t1 t2 h0 h1 pa PN PT PS f u Ps oh vh k)) (wo := outW cL qo fo) (W1 := (fun (v9 : PV × (Nat → PV) × Nat × Nat) => fW cI cP a0 aN aT aS t0 t1 t2 h0 h1 pa v9.1 PT PS f u v9.2.1 v9.2.2.1 v9.2.2.2 k)) (vx_runV (As := [.int g, .int tb, .int z]) (rest := [.int 0, .ref qo]) ⟨hx, hb, hml, hown, hts0⟩ (mX6_sit l hst dC dI cI cP a0 aN aT aS t0 t1 t2 h0 h1 pa PN PT PS f u Ps oh vh k g tb z ho6 hv6) (cwV 3 hts0 (gi_V u_631 u_632 u_633 u_1 u_634) rfl rfl rfl (by decide +kernel) ⟨Nat.le_of_ble_eq_true rfl, Nat.le_of_ble_eq_true rfl⟩) (pcWX hP hK hn hD hX hS rfl rfl) rfl rfl hl.1 rfl (lv_room (Nat.le_of_ble_eq_true rfl)) dL_sit_7 ⟨Nat.le_of_ble_eq_true rfl, Nat.le_of_ble_eq_true rfl⟩) hP hD hS (fun _ => rfl) (fun c9 ce9 q9 H locs hp9 hP hD hS he9 hv9 hc9 => ?_) (fun r9 u9 H locs hp9 hP hD hS => ?_)
  · rcases inl_sit hp9 with rfl | rfl
    · refine k_catch (cd := 1) (hp := 19) (en := 12) (pre := [(15, 2)]) (suf := []) hT9 (by decide) (by decide) rfl hown hts hX hN he9 hv9 hc9 ?_
      refine lv_astore (lv' := [(5, .ref q9), (0, .ref a0), (1, .int g), (2, .int tb), (3, .int z), (4, .ref qo)]) hx hb dL_sit_19 hl (by decide) rfl (fun ls hl => ?_)
      refine lv_iconst (v := 2) hx hb dL_sit_21 (by decide) ?_
      rw [hQ]
      refine vx_ret (W.widen (k := 3) (n := 18) (Nat.le_of_ble_eq_true rfl) (Nat.le_of_ble_eq_true rfl) ?_)
      exact W.iret (v := 2) hx hb hr (fun t ht hW => ⟨⟨2, ((PN, Ps, oh, vh), fo), rfl, Or.inl ⟨1, hp9, rfl, rfl⟩, toH ht hP⟩, hS.F ht⟩) hS.2.2 dL_sit_22
    · refine k_catch (cd := 2) (hp := 15) (en := 12) (pre := []) (suf := [(19, 1)]) hT9 (by decide) (by decide) rfl hown hts hX hN he9 hv9 hc9 ?_
      refine lv_astore (lv' := [(5, .ref q9), (0, .ref a0), (1, .int g), (2, .int tb), (3, .int z), (4, .ref qo)]) hx hb dL_sit_15 hl (by decide) rfl (fun ls hl => ?_)
      refine lv_iconst (v := 1) hx hb dL_sit_17 (by decide) ?_
      rw [hQ]
      refine vx_ret (W.widen (k := 3) (n := 18) (Nat.le_of_ble_eq_true rfl) (Nat.le_of_ble_eq_true rfl) ?_)
      exact W.iret (v := 1) hx hb hr (fun t ht hW => ⟨⟨1, ((PN, Ps, oh, vh), fo), rfl, Or.inl ⟨2, hp9, rfl, rfl⟩, toH ht hP⟩, hS.F ht⟩) hS.2.2 dL_sit_18
  refine lv_i2l (v := r9.toInt64) hx hb dL_sit_10 rfl ?_
  refine va_last hx hb hK hP hD hS 0 2 rfl rfl (vp_in_nI (n := 0) (by decide) (by decide)) dL_sit_11 (fun H locs hP hD hS => ?_)
  rw [show (0 : Int32).toNatClampNeg = 0 from rfl] at hP hD
  have hP : va_P (dC, dI) vwCl (fl [outW cL qo (vp_updL fo 0 r9.toInt64), (fun (v9 : PV × (Nat → PV) × Nat × Nat) => fW cI cP a0 aN aT aS t0 t1 t2 h0 h1 pa v9.1 PT PS f u v9.2.1 v9.2.2.1 v9.2.2.2 k) u9]) H := hP
  refine lv_goto (tgt := 23) hx hb dL_sit_12 (by decide) ?_
  refine lv_iconst (v := 0) hx hb dL_sit_23 (by decide) ?_
  rw [hQ]
  refine vx_ret (W.widen (k := 3) (n := 18) (Nat.le_of_ble_eq_true rfl) (Nat.le_of_ble_eq_true rfl) ?_)
  exact W.iret (v := 0) hx hb hr (fun t ht hW => ⟨⟨0, (u9, vp_updL fo 0 r9.toInt64), rfl, Or.inr ⟨r9, u9, hp9, rfl, rfl⟩, toH ht hP⟩, hS.F ht⟩) hS.2.2 dL_sit_24

theorem inl_rise {PN : PV} {Ps : Nat → PV} {oh : Nat} {vh : Nat} {g : Int32} {c9 : Nat} (h : fX6_rise PN Ps oh vh g = Sum.inl c9) : c9 = 1 ∨ c9 = 2 := by
  unfold fX6_rise at h
  try simp only [bd, bd2] at h
  repeat' split at h
  all_goals first | (cases h; done) | (cases h; decide)
abbrev rmL_rise : Room := { frames := 8, cells := 2, slots := 12, locals := 151 }
set_option maxHeartbeats 4000000 in
set_option maxRecDepth 100000 in
theorem mL_rise (l : Launch) (hst : l.stackTraces = false) (dC : Nat → ClassId) (dI : Nat → Nat → Nat) (cI cP cL : ClassId) (qL qG qo : Nat) (fo : Nat → Int64) (a0 : Nat) (aN aT aS : Nat → Nat) (t0 t1 t2 h0 h1 : Nat) (pa : Nat → Nat → Nat) (PN PT PS : PV) (f : Nat → Int32) (u : Int32) (Ps : Nat → PV) (oh vh : Nat) (k : Int32) (g : Int32) (ho6 : oh < 6) (hv6 : vh ≤ 6) : vx_Met l yL_rise (wsw_ yL_rise cL_rise 4 (some .int) (ltb 9 [(12, 2), (15, 1)])) rmL_rise (pcW (dC, dI) [(cI, .int), (cP, .object "SupperSeats$Plan"), (cL, .long)] (fl [outW cL qo fo, (fW cI cP a0 aN aT aS t0 t1 t2 h0 h1 pa PN PT PS f u Ps oh vh k)]) [.ref a0, .int g, .ref qo] cI qL qG) (va_Qi (fun (k9 : Int32) (z9 : (PV × (Nat → PV) × Nat × Nat) × (Nat → Int64)) => (∃ c9 : Nat, fX6_rise PN Ps oh vh g = Sum.inl c9 ∧ k9 = (if c9 = 2 then 1 else (if c9 = 1 then 2 else 9)) ∧ z9 = ((PN, Ps, oh, vh), fo)) ∨ (∃ (r9 : Int32) (u9 : PV × (Nat → PV) × Nat × Nat), fX6_rise PN Ps oh vh g = Sum.inr (r9, u9) ∧ k9 = 0 ∧ z9 = (u9, vp_updL fo 0 r9.toInt64))) (fun z9 t => va_P (dC, dI) vwCl (fl [outW cL qo z9.2, (fun (v9 : PV × (Nat → PV) × Nat × Nat) => fW cI cP a0 aN aT aS t0 t1 t2 h0 h1 pa v9.1 PT PS f u v9.2.1 v9.2.2.1 v9.2.2.2 k) z9.1]) t.heap) (adr (fl [outW cL qo fo, (fW cI cP a0 aN aT aS t0 t1 t2 h0 h1 pa PN PT PS f u Ps oh vh k)]))) (vx_X (fun _ : Unit => False) (fun _ _ _ => True) (adr (fl [outW cL qo fo, (fW cI cP a0 aN aT aS t0 t1 t2 h0 h1 pa PN PT PS f u Ps oh vh k)]))) 2 12 (adr (fl [outW cL qo fo, (fW cI cP a0 aN aT aS t0 t1 t2 h0 h1 pa PN PT PS f u Ps oh vh k)])) := by
  refine vx_ofWH (cc := cL_rise) (maxL := 4) (ret := some .int) (hh := ltb 9 [(12, 2), (15, 1)]) (by decide) rfl ?_
  intro p e s m args below meth c s₁ B hml hv
  obtain ⟨ha, hP, hK, hn, hD0, hX, hN, hT⟩ := hv
  have hx := B.exec
  have hb := B.bytes
  have hr := B.returns
  have hts0 := atoms_spec (ws := (wsw_ yL_rise cL_rise 4 (some .int) (ltb 9 [(12, 2), (15, 1)]))) B.pre
  have hts : ∀ w ∈ lw_all, w.before args s = true := fun w h => hts0 w (List.mem_cons_of_mem _ h)
  have hown : s.vm.findClass RL = some m.cls := findClass_of_methodNamed B.named
  have hlocks := B.notSynchronized
  have hT9 : c.exceptionTable.toList = tableOf (ltb 9 [(12, 2), (15, 1)]) := vx_table (x := yL_rise) B (hts0 _ List.mem_cons_self)
  have hD := adr_self hD0
  obtain ⟨A, hA⟩ : ∃ A, A = adr (fl [outW cL qo fo, (fW cI cP a0 aN aT aS t0 t1 t2 h0 h1 pa PN PT PS f u Ps oh vh k)]) := ⟨_, rfl⟩
  rw [← hA] at hD hX hT
  have hS : va_S A s.heap s.heap [] := va_S.rf
  obtain ⟨Q, hQ⟩ : ∃ Q, Q = vx_MQ below (va_Qi (fun (k9 : Int32) (z9 : (PV × (Nat → PV) × Nat × Nat) × (Nat → Int64)) => (∃ c9 : Nat, fX6_rise PN Ps oh vh g = Sum.inl c9 ∧ k9 = (if c9 = 2 then 1 else (if c9 = 1 then 2 else 9)) ∧ z9 = ((PN, Ps, oh, vh), fo)) ∨ (∃ (r9 : Int32) (u9 : PV × (Nat → PV) × Nat × Nat), fX6_rise PN Ps oh vh g = Sum.inr (r9, u9) ∧ k9 = 0 ∧ z9 = (u9, vp_updL fo 0 r9.toInt64))) (fun z9 t => va_P (dC, dI) vwCl (fl [outW cL qo z9.2, (fun (v9 : PV × (Nat → PV) × Nat × Nat) => fW cI cP a0 aN aT aS t0 t1 t2 h0 h1 pa v9.1 PT PS f u v9.2.1 v9.2.2.1 v9.2.2.2 k) z9.1]) t.heap) (adr (fl [outW cL qo fo, (fW cI cP a0 aN aT aS t0 t1 t2 h0 h1 pa PN PT PS f u Ps oh vh k)]))) (vx_X (fun _ : Unit => False) (fun _ _ _ => True) (adr (fl [outW cL qo fo, (fW cI cP a0 aN aT aS t0 t1 t2 h0 h1 pa PN PT PS f u Ps oh vh k)]))) args s 2 12 (adr (fl [outW cL qo fo, (fW cI cP a0 aN aT aS t0 t1 t2 h0 h1 pa PN PT PS f u Ps oh vh k)])) := ⟨_, rfl⟩
  rw [← hQ]
  rw [← hA] at hQ
  have hl := lv_entry ([.ref a0, .int g, .ref qo]) (n := 4) (Nat.le_of_ble_eq_true rfl)
  rw [ha, lg_entry_eq, ← ha]
  generalize (lg_sl ([.ref a0, .int g, .ref qo]) ++ List.replicate (4 - (lg_sl ([.ref a0, .int g, .ref qo])).length) Slot.unset).toArray = ls at hl ⊢
  have hl : lv_has ls 4 [(0, .ref a0), (1, .int g), (2, .ref qo)] := hl
  show W p l e rmL_rise s m args below meth c s.heap [] 0 0 Q (F0 m 0 ls [])
  refine lv_aload_n hx hb dL_rise_0 rfl (lv_at hl 2 rfl) ?_
  refine lv_iconst (v := 0) hx hb dL_rise_1 (by decide) ?_
  refine lv_aload_n hx hb dL_rise_2 rfl (lv_at hl 0 rfl) ?_
  refine lv_iload_n hx hb dL_rise_3 rfl (lv_at hl 1 rfl) ?_
  refine k_cthr (wf := (fW cI cP a0 aN aT aS t0 t1 t2 h0 h1 pa PN PT PS f u Ps oh vh k)) (wo := outW cL qo fo) (W1 := (fun (v9 : PV × (Nat → PV) × Nat × Nat) => fW cI cP a0 aN aT aS t0 t1 t2 h0 h1 pa v9.1 PT PS f u v9.2.1 v9.2.2.1 v9.2.2.2 k)) (vx_runV (As := [.int g]) (rest := [.int 0, .ref qo]) ⟨hx, hb, hml, hown, hts0⟩ (mX6_rise l hst dC dI cI cP a0 aN aT aS t0 t1 t2 h0 h1 pa PN PT PS f u Ps oh vh k g ho6 hv6) (cwV 1 hts0 (gi_V u_658 u_659 u_660 u_1 u_661) rfl rfl rfl (by decide +kernel) ⟨Nat.le_of_ble_eq_true rfl, Nat.le_of_ble_eq_true rfl⟩) (pcWX hP hK hn hD hX hS rfl rfl) rfl rfl hl.1 rfl (lv_room (Nat.le_of_ble_eq_true rfl)) dL_rise_4 ⟨Nat.le_of_ble_eq_true rfl, Nat.le_of_ble_eq_true rfl⟩) hP hD hS (fun _ => rfl) (fun c9 ce9 q9 H locs hp9 hP hD hS he9 hv9 hc9 => ?_) (fun r9 u9 H locs hp9 hP hD hS => ?_)
  · rcases inl_rise hp9 with rfl | rfl
    · refine k_catch (cd := 1) (hp := 15) (en := 9) (pre := [(12, 2)]) (suf := []) hT9 (by decide) (by decide) rfl hown hts hX hN he9 hv9 hc9 ?_
      refine lv_astore_n (lv' := [(3, .ref q9), (0, .ref a0), (1, .int g), (2, .ref qo)]) hx hb dL_rise_15 rfl hl (by decide) rfl (fun ls hl => ?_)
      refine lv_iconst (v := 2) hx hb dL_rise_16 (by decide) ?_
      rw [hQ]
      refine vx_ret (W.widen (k := 2) (n := 12) (Nat.le_of_ble_eq_true rfl) (Nat.le_of_ble_eq_true rfl) ?_)
      exact W.iret (v := 2) hx hb hr (fun t ht hW => ⟨⟨2, ((PN, Ps, oh, vh), fo), rfl, Or.inl ⟨1, hp9, rfl, rfl⟩, toH ht hP⟩, hS.F ht⟩) hS.2.2 dL_rise_17
    · refine k_catch (cd := 2) (hp := 12) (en := 9) (pre := []) (suf := [(15, 1)]) hT9 (by decide) (by decide) rfl hown hts hX hN he9 hv9 hc9 ?_
      refine lv_astore_n (lv' := [(3, .ref q9), (0, .ref a0), (1, .int g), (2, .ref qo)]) hx hb dL_rise_12 rfl hl (by decide) rfl (fun ls hl => ?_)
      refine lv_iconst (v := 1) hx hb dL_rise_13 (by decide) ?_
      rw [hQ]
      refine vx_ret (W.widen (k := 2) (n := 12) (Nat.le_of_ble_eq_true rfl) (Nat.le_of_ble_eq_true rfl) ?_)
      exact W.iret (v := 1) hx hb hr (fun t ht hW => ⟨⟨1, ((PN, Ps, oh, vh), fo), rfl, Or.inl ⟨2, hp9, rfl, rfl⟩, toH ht hP⟩, hS.F ht⟩) hS.2.2 dL_rise_14
  refine lv_i2l (v := r9.toInt64) hx hb dL_rise_7 rfl ?_
  refine va_last hx hb hK hP hD hS 0 2 rfl rfl (vp_in_nI (n := 0) (by decide) (by decide)) dL_rise_8 (fun H locs hP hD hS => ?_)
  rw [show (0 : Int32).toNatClampNeg = 0 from rfl] at hP hD
  have hP : va_P (dC, dI) vwCl (fl [outW cL qo (vp_updL fo 0 r9.toInt64), (fun (v9 : PV × (Nat → PV) × Nat × Nat) => fW cI cP a0 aN aT aS t0 t1 t2 h0 h1 pa v9.1 PT PS f u v9.2.1 v9.2.2.1 v9.2.2.2 k) u9]) H := hP
  refine lv_goto (tgt := 18) hx hb dL_rise_9 (by decide) ?_
  refine lv_iconst (v := 0) hx hb dL_rise_18 (by decide) ?_
  rw [hQ]
  refine vx_ret (W.widen (k := 2) (n := 12) (Nat.le_of_ble_eq_true rfl) (Nat.le_of_ble_eq_true rfl) ?_)
  exact W.iret (v := 0) hx hb hr (fun t ht hW => ⟨⟨0, (u9, vp_updL fo 0 r9.toInt64), rfl, Or.inr ⟨r9, u9, hp9, rfl, rfl⟩, toH ht hP⟩, hS.F ht⟩) hS.2.2 dL_rise_19

theorem inl_swap {PN : PV} {PT : PV} {Ps : Nat → PV} {oh : Nat} {vh : Nat} {g h : Int32} {c9 : Nat} (h : fX6_swap PN PT Ps oh vh g h = Sum.inl c9) : c9 = 0 ∨ c9 = 1 ∨ c9 = 2 := by
  unfold fX6_swap at h
  try simp only [bd, bd2] at h
  repeat' split at h
  all_goals first | (cases h; done) | (cases h; decide)
abbrev rmL_swap : Room := { frames := 8, cells := 3, slots := 18, locals := 152 }
set_option maxHeartbeats 4000000 in
set_option maxRecDepth 100000 in
theorem mL_swap (l : Launch) (hst : l.stackTraces = false) (dC : Nat → ClassId) (dI : Nat → Nat → Nat) (cI cP cL : ClassId) (qL qG qo : Nat) (fo : Nat → Int64) (a0 : Nat) (aN aT aS : Nat → Nat) (t0 t1 t2 h0 h1 : Nat) (pa : Nat → Nat → Nat) (PN PT PS : PV) (f : Nat → Int32) (u : Int32) (Ps : Nat → PV) (oh vh : Nat) (k : Int32) (g h : Int32) (ho6 : oh < 6) (hv6 : vh ≤ 6) : vx_Met l yL_swap (wsw_ yL_swap cL_swap 5 (some .int) (ltb 10 [(13, 2), (17, 0), (21, 1)])) rmL_swap (pcW (dC, dI) [(cI, .int), (cP, .object "SupperSeats$Plan"), (cL, .long)] (fl [outW cL qo fo, (fW cI cP a0 aN aT aS t0 t1 t2 h0 h1 pa PN PT PS f u Ps oh vh k)]) [.ref a0, .int g, .int h, .ref qo] cI qL qG) (va_Qi (fun (k9 : Int32) (z9 : (PV × PV × (Nat → PV) × Nat × Nat) × (Nat → Int64)) => (∃ c9 : Nat, fX6_swap PN PT Ps oh vh g h = Sum.inl c9 ∧ k9 = (if c9 = 2 then 1 else (if c9 = 0 then 2 else (if c9 = 1 then 3 else 9))) ∧ ∃ P9 : PV, z9 = ((PN, P9, Ps, oh, vh), fo)) ∨ (∃ (r9 : Int32) (u9 : PV × PV × (Nat → PV) × Nat × Nat), fX6_swap PN PT Ps oh vh g h = Sum.inr (r9, u9) ∧ k9 = 0 ∧ z9 = (u9, vp_updL fo 0 r9.toInt64))) (fun z9 t => va_P (dC, dI) vwCl (fl [outW cL qo z9.2, (fun (v9 : PV × PV × (Nat → PV) × Nat × Nat) => fW cI cP a0 aN aT aS t0 t1 t2 h0 h1 pa v9.1 v9.2.1 PS f u v9.2.2.1 v9.2.2.2.1 v9.2.2.2.2 k) z9.1]) t.heap) (adr (fl [outW cL qo fo, (fW cI cP a0 aN aT aS t0 t1 t2 h0 h1 pa PN PT PS f u Ps oh vh k)]))) (vx_X (fun _ : Unit => False) (fun _ _ _ => True) (adr (fl [outW cL qo fo, (fW cI cP a0 aN aT aS t0 t1 t2 h0 h1 pa PN PT PS f u Ps oh vh k)]))) 3 18 (adr (fl [outW cL qo fo, (fW cI cP a0 aN aT aS t0 t1 t2 h0 h1 pa PN PT PS f u Ps oh vh k)])) := by
  refine vx_ofWH (cc := cL_swap) (maxL := 5) (ret := some .int) (hh := ltb 10 [(13, 2), (17, 0), (21, 1)]) (by decide) rfl ?_
  intro p e s m args below meth c s₁ B hml hv
  obtain ⟨ha, hP, hK, hn, hD0, hX, hN, hT⟩ := hv
  have hx := B.exec
  have hb := B.bytes
  have hr := B.returns
  have hts0 := atoms_spec (ws := (wsw_ yL_swap cL_swap 5 (some .int) (ltb 10 [(13, 2), (17, 0), (21, 1)]))) B.pre
  have hts : ∀ w ∈ lw_all, w.before args s = true := fun w h => hts0 w (List.mem_cons_of_mem _ h)
  have hown : s.vm.findClass RL = some m.cls := findClass_of_methodNamed B.named
  have hlocks := B.notSynchronized
  have hT9 : c.exceptionTable.toList = tableOf (ltb 10 [(13, 2), (17, 0), (21, 1)]) := vx_table (x := yL_swap) B (hts0 _ List.mem_cons_self)
  have hD := adr_self hD0
  obtain ⟨A, hA⟩ : ∃ A, A = adr (fl [outW cL qo fo, (fW cI cP a0 aN aT aS t0 t1 t2 h0 h1 pa PN PT PS f u Ps oh vh k)]) := ⟨_, rfl⟩
  rw [← hA] at hD hX hT
  have hS : va_S A s.heap s.heap [] := va_S.rf
  obtain ⟨Q, hQ⟩ : ∃ Q, Q = vx_MQ below (va_Qi (fun (k9 : Int32) (z9 : (PV × PV × (Nat → PV) × Nat × Nat) × (Nat → Int64)) => (∃ c9 : Nat, fX6_swap PN PT Ps oh vh g h = Sum.inl c9 ∧ k9 = (if c9 = 2 then 1 else (if c9 = 0 then 2 else (if c9 = 1 then 3 else 9))) ∧ ∃ P9 : PV, z9 = ((PN, P9, Ps, oh, vh), fo)) ∨ (∃ (r9 : Int32) (u9 : PV × PV × (Nat → PV) × Nat × Nat), fX6_swap PN PT Ps oh vh g h = Sum.inr (r9, u9) ∧ k9 = 0 ∧ z9 = (u9, vp_updL fo 0 r9.toInt64))) (fun z9 t => va_P (dC, dI) vwCl (fl [outW cL qo z9.2, (fun (v9 : PV × PV × (Nat → PV) × Nat × Nat) => fW cI cP a0 aN aT aS t0 t1 t2 h0 h1 pa v9.1 v9.2.1 PS f u v9.2.2.1 v9.2.2.2.1 v9.2.2.2.2 k) z9.1]) t.heap) (adr (fl [outW cL qo fo, (fW cI cP a0 aN aT aS t0 t1 t2 h0 h1 pa PN PT PS f u Ps oh vh k)]))) (vx_X (fun _ : Unit => False) (fun _ _ _ => True) (adr (fl [outW cL qo fo, (fW cI cP a0 aN aT aS t0 t1 t2 h0 h1 pa PN PT PS f u Ps oh vh k)]))) args s 3 18 (adr (fl [outW cL qo fo, (fW cI cP a0 aN aT aS t0 t1 t2 h0 h1 pa PN PT PS f u Ps oh vh k)])) := ⟨_, rfl⟩
  rw [← hQ]
  rw [← hA] at hQ
  have hl := lv_entry ([.ref a0, .int g, .int h, .ref qo]) (n := 5) (Nat.le_of_ble_eq_true rfl)
  rw [ha, lg_entry_eq, ← ha]
  generalize (lg_sl ([.ref a0, .int g, .int h, .ref qo]) ++ List.replicate (5 - (lg_sl ([.ref a0, .int g, .int h, .ref qo])).length) Slot.unset).toArray = ls at hl ⊢
  have hl : lv_has ls 5 [(0, .ref a0), (1, .int g), (2, .int h), (3, .ref qo)] := hl
  show W p l e rmL_swap s m args below meth c s.heap [] 0 0 Q (F0 m 0 ls [])
  refine lv_aload_n hx hb dL_swap_0 rfl (lv_at hl 3 rfl) ?_
  refine lv_iconst (v := 0) hx hb dL_swap_1 (by decide) ?_
  refine lv_aload_n hx hb dL_swap_2 rfl (lv_at hl 0 rfl) ?_
  refine lv_iload_n hx hb dL_swap_3 rfl (lv_at hl 1 rfl) ?_
  refine lv_iload_n hx hb dL_swap_4 rfl (lv_at hl 2 rfl) ?_
  refine k_cthrT (wf := (fW cI cP a0 aN aT aS t0 t1 t2 h0 h1 pa PN PT PS f u Ps oh vh k)) (wo := outW cL qo fo) (W1 := (fun (v9 : PV × PV × (Nat → PV) × Nat × Nat) => fW cI cP a0 aN aT aS t0 t1 t2 h0 h1 pa v9.1 v9.2.1 PS f u v9.2.2.1 v9.2.2.2.1 v9.2.2.2.2 k)) (WX := (fun P9 : PV => fW cI cP a0 aN aT aS t0 t1 t2 h0 h1 pa PN P9 PS f u Ps oh vh k)) (vx_runV (As := [.int g, .int h]) (rest := [.int 0, .ref qo]) ⟨hx, hb, hml, hown, hts0⟩ (mX6_swap l hst dC dI cI cP a0 aN aT aS t0 t1 t2 h0 h1 pa PN PT PS f u Ps oh vh k g h ho6 hv6) (cwV 2 hts0 (gi_V u_668 u_669 u_670 u_1 u_671) rfl rfl rfl (by decide +kernel) ⟨Nat.le_of_ble_eq_true rfl, Nat.le_of_ble_eq_true rfl⟩) (pcWX hP hK hn hD hX hS rfl rfl) rfl rfl hl.1 rfl (lv_room (Nat.le_of_ble_eq_true rfl)) dL_swap_5 ⟨Nat.le_of_ble_eq_true rfl, Nat.le_of_ble_eq_true rfl⟩) hP hD hS (fun _ => rfl) (fun _ => rfl) (fun c9 v8 ce9 q9 H locs hp9 hP hD hS he9 hv9 hc9 => ?_) (fun r9 u9 H locs hp9 hP hD hS => ?_)
  · rcases inl_swap hp9 with rfl | rfl | rfl
    · refine k_catch (cd := 0) (hp := 17) (en := 10) (pre := [(13, 2)]) (suf := [(21, 1)]) hT9 (by decide) (by decide) rfl hown hts hX hN he9 hv9 hc9 ?_
      refine lv_astore (lv' := [(4, .ref q9), (0, .ref a0), (1, .int g), (2, .int h), (3, .ref qo)]) hx hb dL_swap_17 hl (by decide) rfl (fun ls hl => ?_)
      refine lv_iconst (v := 2) hx hb dL_swap_19 (by decide) ?_
      rw [hQ]
      refine vx_ret (W.widen (k := 3) (n := 18) (Nat.le_of_ble_eq_true rfl) (Nat.le_of_ble_eq_true rfl) ?_)
      exact W.iret (v := 2) hx hb hr (fun t ht hW => ⟨⟨2, ((PN, v8, Ps, oh, vh), fo), rfl, Or.inl ⟨0, hp9, rfl, v8, rfl⟩, toH ht hP⟩, hS.F ht⟩) hS.2.2 dL_swap_20
    · refine k_catch (cd := 1) (hp := 21) (en := 10) (pre := [(13, 2), (17, 0)]) (suf := []) hT9 (by decide) (by decide) rfl hown hts hX hN he9 hv9 hc9 ?_
      refine lv_astore (lv' := [(4, .ref q9), (0, .ref a0), (1, .int g), (2, .int h), (3, .ref qo)]) hx hb dL_swap_21 hl (by decide) rfl (fun ls hl => ?_)
      refine lv_iconst (v := 3) hx hb dL_swap_23 (by decide) ?_
      rw [hQ]
      refine vx_ret (W.widen (k := 3) (n := 18) (Nat.le_of_ble_eq_true rfl) (Nat.le_of_ble_eq_true rfl) ?_)
      exact W.iret (v := 3) hx hb hr (fun t ht hW => ⟨⟨3, ((PN, v8, Ps, oh, vh), fo), rfl, Or.inl ⟨1, hp9, rfl, v8, rfl⟩, toH ht hP⟩, hS.F ht⟩) hS.2.2 dL_swap_24
    · refine k_catch (cd := 2) (hp := 13) (en := 10) (pre := []) (suf := [(17, 0), (21, 1)]) hT9 (by decide) (by decide) rfl hown hts hX hN he9 hv9 hc9 ?_
      refine lv_astore (lv' := [(4, .ref q9), (0, .ref a0), (1, .int g), (2, .int h), (3, .ref qo)]) hx hb dL_swap_13 hl (by decide) rfl (fun ls hl => ?_)
      refine lv_iconst (v := 1) hx hb dL_swap_15 (by decide) ?_
      rw [hQ]
      refine vx_ret (W.widen (k := 3) (n := 18) (Nat.le_of_ble_eq_true rfl) (Nat.le_of_ble_eq_true rfl) ?_)
      exact W.iret (v := 1) hx hb hr (fun t ht hW => ⟨⟨1, ((PN, v8, Ps, oh, vh), fo), rfl, Or.inl ⟨2, hp9, rfl, v8, rfl⟩, toH ht hP⟩, hS.F ht⟩) hS.2.2 dL_swap_16
  refine lv_i2l (v := r9.toInt64) hx hb dL_swap_8 rfl ?_
  refine va_last hx hb hK hP hD hS 0 2 rfl rfl (vp_in_nI (n := 0) (by decide) (by decide)) dL_swap_9 (fun H locs hP hD hS => ?_)
  rw [show (0 : Int32).toNatClampNeg = 0 from rfl] at hP hD
  have hP : va_P (dC, dI) vwCl (fl [outW cL qo (vp_updL fo 0 r9.toInt64), (fun (v9 : PV × PV × (Nat → PV) × Nat × Nat) => fW cI cP a0 aN aT aS t0 t1 t2 h0 h1 pa v9.1 v9.2.1 PS f u v9.2.2.1 v9.2.2.2.1 v9.2.2.2.2 k) u9]) H := hP
  refine lv_goto (tgt := 25) hx hb dL_swap_10 (by decide) ?_
  refine lv_iconst (v := 0) hx hb dL_swap_25 (by decide) ?_
  rw [hQ]
  refine vx_ret (W.widen (k := 3) (n := 18) (Nat.le_of_ble_eq_true rfl) (Nat.le_of_ble_eq_true rfl) ?_)
  exact W.iret (v := 0) hx hb hr (fun t ht hW => ⟨⟨0, (u9, vp_updL fo 0 r9.toInt64), rfl, Or.inr ⟨r9, u9, hp9, rfl, rfl⟩, toH ht hP⟩, hS.F ht⟩) hS.2.2 dL_swap_26

theorem inl_append {f : Nat → Int32} {u : Int32} {a : Int32} {c9 : Nat} (h : fX6_append f u a = Sum.inl c9) : c9 = 0 ∨ c9 = 1 := by
  unfold fX6_append at h
  try simp only [bd, bd2] at h
  repeat' split at h
  all_goals first | (cases h; done) | (cases h; decide)
abbrev rmL_append : Room := { frames := 7, cells := 1, slots := 6, locals := 111 }
set_option maxHeartbeats 4000000 in
set_option maxRecDepth 100000 in
theorem mL_append (l : Launch) (hst : l.stackTraces = false) (dC : Nat → ClassId) (dI : Nat → Nat → Nat) (cI cP cL : ClassId) (qL qG qo : Nat) (fo : Nat → Int64) (a0 : Nat) (aN aT aS : Nat → Nat) (t0 t1 t2 h0 h1 : Nat) (pa : Nat → Nat → Nat) (PN PT PS : PV) (f : Nat → Int32) (u : Int32) (Ps : Nat → PV) (oh vh : Nat) (k : Int32) (a : Int32)  : vx_Met l yL_append (wsw_ yL_append cL_append 4 (some .int) (ltb 9 [(12, 0), (15, 1)])) rmL_append (pcW (dC, dI) [(cI, .int), (cP, .object "SupperSeats$Plan"), (cL, .long)] (fl [outW cL qo fo, (fW cI cP a0 aN aT aS t0 t1 t2 h0 h1 pa PN PT PS f u Ps oh vh k)]) [.ref a0, .int a, .ref qo] cI qL qG) (va_Qi (fun (k9 : Int32) (z9 : ((Nat → Int32) × Int32) × (Nat → Int64)) => (∃ c9 : Nat, fX6_append f u a = Sum.inl c9 ∧ k9 = (if c9 = 0 then 1 else (if c9 = 1 then 2 else 9)) ∧ z9 = ((f, u), fo)) ∨ (∃ (r9 : Int32) (u9 : (Nat → Int32) × Int32), fX6_append f u a = Sum.inr (r9, u9) ∧ k9 = 0 ∧ z9 = (u9, vp_updL fo 0 r9.toInt64))) (fun z9 t => va_P (dC, dI) vwCl (fl [outW cL qo z9.2, (fun (v9 : (Nat → Int32) × Int32) => fW cI cP a0 aN aT aS t0 t1 t2 h0 h1 pa PN PT PS v9.1 v9.2 Ps oh vh k) z9.1]) t.heap) (adr (fl [outW cL qo fo, (fW cI cP a0 aN aT aS t0 t1 t2 h0 h1 pa PN PT PS f u Ps oh vh k)]))) (vx_X (fun _ : Unit => False) (fun _ _ _ => True) (adr (fl [outW cL qo fo, (fW cI cP a0 aN aT aS t0 t1 t2 h0 h1 pa PN PT PS f u Ps oh vh k)]))) 1 6 (adr (fl [outW cL qo fo, (fW cI cP a0 aN aT aS t0 t1 t2 h0 h1 pa PN PT PS f u Ps oh vh k)])) := by
  refine vx_ofWH (cc := cL_append) (maxL := 4) (ret := some .int) (hh := ltb 9 [(12, 0), (15, 1)]) (by decide) rfl ?_
  intro p e s m args below meth c s₁ B hml hv
  obtain ⟨ha, hP, hK, hn, hD0, hX, hN, hT⟩ := hv
  have hx := B.exec
  have hb := B.bytes
  have hr := B.returns
  have hts0 := atoms_spec (ws := (wsw_ yL_append cL_append 4 (some .int) (ltb 9 [(12, 0), (15, 1)]))) B.pre
  have hts : ∀ w ∈ lw_all, w.before args s = true := fun w h => hts0 w (List.mem_cons_of_mem _ h)
  have hown : s.vm.findClass RL = some m.cls := findClass_of_methodNamed B.named
  have hlocks := B.notSynchronized
  have hT9 : c.exceptionTable.toList = tableOf (ltb 9 [(12, 0), (15, 1)]) := vx_table (x := yL_append) B (hts0 _ List.mem_cons_self)
  have hD := adr_self hD0
  obtain ⟨A, hA⟩ : ∃ A, A = adr (fl [outW cL qo fo, (fW cI cP a0 aN aT aS t0 t1 t2 h0 h1 pa PN PT PS f u Ps oh vh k)]) := ⟨_, rfl⟩
  rw [← hA] at hD hX hT
  have hS : va_S A s.heap s.heap [] := va_S.rf
  obtain ⟨Q, hQ⟩ : ∃ Q, Q = vx_MQ below (va_Qi (fun (k9 : Int32) (z9 : ((Nat → Int32) × Int32) × (Nat → Int64)) => (∃ c9 : Nat, fX6_append f u a = Sum.inl c9 ∧ k9 = (if c9 = 0 then 1 else (if c9 = 1 then 2 else 9)) ∧ z9 = ((f, u), fo)) ∨ (∃ (r9 : Int32) (u9 : (Nat → Int32) × Int32), fX6_append f u a = Sum.inr (r9, u9) ∧ k9 = 0 ∧ z9 = (u9, vp_updL fo 0 r9.toInt64))) (fun z9 t => va_P (dC, dI) vwCl (fl [outW cL qo z9.2, (fun (v9 : (Nat → Int32) × Int32) => fW cI cP a0 aN aT aS t0 t1 t2 h0 h1 pa PN PT PS v9.1 v9.2 Ps oh vh k) z9.1]) t.heap) (adr (fl [outW cL qo fo, (fW cI cP a0 aN aT aS t0 t1 t2 h0 h1 pa PN PT PS f u Ps oh vh k)]))) (vx_X (fun _ : Unit => False) (fun _ _ _ => True) (adr (fl [outW cL qo fo, (fW cI cP a0 aN aT aS t0 t1 t2 h0 h1 pa PN PT PS f u Ps oh vh k)]))) args s 1 6 (adr (fl [outW cL qo fo, (fW cI cP a0 aN aT aS t0 t1 t2 h0 h1 pa PN PT PS f u Ps oh vh k)])) := ⟨_, rfl⟩
  rw [← hQ]
  rw [← hA] at hQ
  have hl := lv_entry ([.ref a0, .int a, .ref qo]) (n := 4) (Nat.le_of_ble_eq_true rfl)
  rw [ha, lg_entry_eq, ← ha]
  generalize (lg_sl ([.ref a0, .int a, .ref qo]) ++ List.replicate (4 - (lg_sl ([.ref a0, .int a, .ref qo])).length) Slot.unset).toArray = ls at hl ⊢
  have hl : lv_has ls 4 [(0, .ref a0), (1, .int a), (2, .ref qo)] := hl
  show W p l e rmL_append s m args below meth c s.heap [] 0 0 Q (F0 m 0 ls [])
  refine lv_aload_n hx hb dL_append_0 rfl (lv_at hl 2 rfl) ?_
  refine lv_iconst (v := 0) hx hb dL_append_1 (by decide) ?_
  refine lv_aload_n hx hb dL_append_2 rfl (lv_at hl 0 rfl) ?_
  refine lv_iload_n hx hb dL_append_3 rfl (lv_at hl 1 rfl) ?_
  refine k_cthr (wf := (fW cI cP a0 aN aT aS t0 t1 t2 h0 h1 pa PN PT PS f u Ps oh vh k)) (wo := outW cL qo fo) (W1 := (fun (v9 : (Nat → Int32) × Int32) => fW cI cP a0 aN aT aS t0 t1 t2 h0 h1 pa PN PT PS v9.1 v9.2 Ps oh vh k)) (vx_runV (As := [.int a]) (rest := [.int 0, .ref qo]) ⟨hx, hb, hml, hown, hts0⟩ (mX6_append l hst dC dI cI cP a0 aN aT aS t0 t1 t2 h0 h1 pa PN PT PS f u Ps oh vh k a) (cwV 1 hts0 (gi_V u_687 u_688 u_689 u_1 u_690) rfl rfl rfl (by decide +kernel) ⟨Nat.le_of_ble_eq_true rfl, Nat.le_of_ble_eq_true rfl⟩) (pcWX hP hK hn hD hX hS rfl rfl) rfl rfl hl.1 rfl (lv_room (Nat.le_of_ble_eq_true rfl)) dL_append_4 ⟨Nat.le_of_ble_eq_true rfl, Nat.le_of_ble_eq_true rfl⟩) hP hD hS (fun _ => rfl) (fun c9 ce9 q9 H locs hp9 hP hD hS he9 hv9 hc9 => ?_) (fun r9 u9 H locs hp9 hP hD hS => ?_)
  · rcases inl_append hp9 with rfl | rfl
    · refine k_catch (cd := 0) (hp := 12) (en := 9) (pre := []) (suf := [(15, 1)]) hT9 (by decide) (by decide) rfl hown hts hX hN he9 hv9 hc9 ?_
      refine lv_astore_n (lv' := [(3, .ref q9), (0, .ref a0), (1, .int a), (2, .ref qo)]) hx hb dL_append_12 rfl hl (by decide) rfl (fun ls hl => ?_)
      refine lv_iconst (v := 1) hx hb dL_append_13 (by decide) ?_
      rw [hQ]
      refine vx_ret (W.widen (k := 1) (n := 6) (Nat.le_of_ble_eq_true rfl) (Nat.le_of_ble_eq_true rfl) ?_)
      exact W.iret (v := 1) hx hb hr (fun t ht hW => ⟨⟨1, ((f, u), fo), rfl, Or.inl ⟨0, hp9, rfl, rfl⟩, toH ht hP⟩, hS.F ht⟩) hS.2.2 dL_append_14
    · refine k_catch (cd := 1) (hp := 15) (en := 9) (pre := [(12, 0)]) (suf := []) hT9 (by decide) (by decide) rfl hown hts hX hN he9 hv9 hc9 ?_
      refine lv_astore_n (lv' := [(3, .ref q9), (0, .ref a0), (1, .int a), (2, .ref qo)]) hx hb dL_append_15 rfl hl (by decide) rfl (fun ls hl => ?_)
      refine lv_iconst (v := 2) hx hb dL_append_16 (by decide) ?_
      rw [hQ]
      refine vx_ret (W.widen (k := 1) (n := 6) (Nat.le_of_ble_eq_true rfl) (Nat.le_of_ble_eq_true rfl) ?_)
      exact W.iret (v := 2) hx hb hr (fun t ht hW => ⟨⟨2, ((f, u), fo), rfl, Or.inl ⟨1, hp9, rfl, rfl⟩, toH ht hP⟩, hS.F ht⟩) hS.2.2 dL_append_17
  refine lv_i2l (v := r9.toInt64) hx hb dL_append_7 rfl ?_
  refine va_last hx hb hK hP hD hS 0 2 rfl rfl (vp_in_nI (n := 0) (by decide) (by decide)) dL_append_8 (fun H locs hP hD hS => ?_)
  rw [show (0 : Int32).toNatClampNeg = 0 from rfl] at hP hD
  have hP : va_P (dC, dI) vwCl (fl [outW cL qo (vp_updL fo 0 r9.toInt64), (fun (v9 : (Nat → Int32) × Int32) => fW cI cP a0 aN aT aS t0 t1 t2 h0 h1 pa PN PT PS v9.1 v9.2 Ps oh vh k) u9]) H := hP
  refine lv_goto (tgt := 18) hx hb dL_append_9 (by decide) ?_
  refine lv_iconst (v := 0) hx hb dL_append_18 (by decide) ?_
  rw [hQ]
  refine vx_ret (W.widen (k := 1) (n := 6) (Nat.le_of_ble_eq_true rfl) (Nat.le_of_ble_eq_true rfl) ?_)
  exact W.iret (v := 0) hx hb hr (fun t ht hW => ⟨⟨0, (u9, vp_updL fo 0 r9.toInt64), rfl, Or.inr ⟨r9, u9, hp9, rfl, rfl⟩, toH ht hP⟩, hS.F ht⟩) hS.2.2 dL_append_19

theorem inl_seats {PN : PV} {f : Nat → Int32} {u : Int32} {Ps : Nat → PV} {oh : Nat} {vh : Nat} {c9 : Nat} (h : fX6_seats PN f u Ps oh vh = Sum.inl c9) : c9 = 0 := by
  unfold fX6_seats at h
  try simp only [bd, bd2] at h
  repeat' split at h
  all_goals first | (cases h; done) | (cases h; decide)
abbrev rmL_seats : Room := { frames := 7, cells := 1, slots := 6, locals := 169 }
set_option maxHeartbeats 4000000 in
set_option maxRecDepth 100000 in
theorem mL_seats (l : Launch) (hst : l.stackTraces = false) (dC : Nat → ClassId) (dI : Nat → Nat → Nat) (cI cP cL : ClassId) (qL qG qo : Nat) (fo : Nat → Int64) (a0 : Nat) (aN aT aS : Nat → Nat) (t0 t1 t2 h0 h1 : Nat) (pa : Nat → Nat → Nat) (PN PT PS : PV) (f : Nat → Int32) (u : Int32) (Ps : Nat → PV) (oh vh : Nat) (k : Int32) (ho6 : oh < 6) (hv6 : vh ≤ 6) (hu : u = nI u.toNatClampNeg) (hu2 : u.toNatClampNeg ≤ 60) : vx_Met l yL_seats (wsw_ yL_seats cL_seats 3 (some .int) (ltb 8 [(11, 0)])) rmL_seats (pcW (dC, dI) [(cI, .int), (cP, .object "SupperSeats$Plan"), (cL, .long)] (fl [outW cL qo fo, (fW cI cP a0 aN aT aS t0 t1 t2 h0 h1 pa PN PT PS f u Ps oh vh k)]) [.ref a0, .ref qo] cI qL qG) (va_Qi (fun (k9 : Int32) (z9 : (PV × (Nat → Int32) × Int32 × (Nat → PV) × Nat × Nat) × (Nat → Int64)) => (∃ c9 : Nat, fX6_seats PN f u Ps oh vh = Sum.inl c9 ∧ k9 = (if c9 = 0 then 1 else 9) ∧ z9 = ((PN, f, u, Ps, oh, vh), fo)) ∨ (∃ (r9 : Int32) (u9 : PV × (Nat → Int32) × Int32 × (Nat → PV) × Nat × Nat), fX6_seats PN f u Ps oh vh = Sum.inr (r9, u9) ∧ k9 = 0 ∧ z9 = (u9, vp_updL fo 0 r9.toInt64))) (fun z9 t => va_P (dC, dI) vwCl (fl [outW cL qo z9.2, (fun (v9 : PV × (Nat → Int32) × Int32 × (Nat → PV) × Nat × Nat) => fW cI cP a0 aN aT aS t0 t1 t2 h0 h1 pa v9.1 PT PS v9.2.1 v9.2.2.1 v9.2.2.2.1 v9.2.2.2.2.1 v9.2.2.2.2.2 k) z9.1]) t.heap) (adr (fl [outW cL qo fo, (fW cI cP a0 aN aT aS t0 t1 t2 h0 h1 pa PN PT PS f u Ps oh vh k)]))) (vx_X (fun _ : Unit => False) (fun _ _ _ => True) (adr (fl [outW cL qo fo, (fW cI cP a0 aN aT aS t0 t1 t2 h0 h1 pa PN PT PS f u Ps oh vh k)]))) 1 6 (adr (fl [outW cL qo fo, (fW cI cP a0 aN aT aS t0 t1 t2 h0 h1 pa PN PT PS f u Ps oh vh k)])) := by
  refine vx_ofWH (cc := cL_seats) (maxL := 3) (ret := some .int) (hh := ltb 8 [(11, 0)]) (by decide) rfl ?_
  intro p e s m args below meth c s₁ B hml hv
  obtain ⟨ha, hP, hK, hn, hD0, hX, hN, hT⟩ := hv
  have hx := B.exec
  have hb := B.bytes
  have hr := B.returns
  have hts0 := atoms_spec (ws := (wsw_ yL_seats cL_seats 3 (some .int) (ltb 8 [(11, 0)]))) B.pre
  have hts : ∀ w ∈ lw_all, w.before args s = true := fun w h => hts0 w (List.mem_cons_of_mem _ h)
  have hown : s.vm.findClass RL = some m.cls := findClass_of_methodNamed B.named
  have hlocks := B.notSynchronized
  have hT9 : c.exceptionTable.toList = tableOf (ltb 8 [(11, 0)]) := vx_table (x := yL_seats) B (hts0 _ List.mem_cons_self)
  have hD := adr_self hD0
  obtain ⟨A, hA⟩ : ∃ A, A = adr (fl [outW cL qo fo, (fW cI cP a0 aN aT aS t0 t1 t2 h0 h1 pa PN PT PS f u Ps oh vh k)]) := ⟨_, rfl⟩
  rw [← hA] at hD hX hT
  have hS : va_S A s.heap s.heap [] := va_S.rf
  obtain ⟨Q, hQ⟩ : ∃ Q, Q = vx_MQ below (va_Qi (fun (k9 : Int32) (z9 : (PV × (Nat → Int32) × Int32 × (Nat → PV) × Nat × Nat) × (Nat → Int64)) => (∃ c9 : Nat, fX6_seats PN f u Ps oh vh = Sum.inl c9 ∧ k9 = (if c9 = 0 then 1 else 9) ∧ z9 = ((PN, f, u, Ps, oh, vh), fo)) ∨ (∃ (r9 : Int32) (u9 : PV × (Nat → Int32) × Int32 × (Nat → PV) × Nat × Nat), fX6_seats PN f u Ps oh vh = Sum.inr (r9, u9) ∧ k9 = 0 ∧ z9 = (u9, vp_updL fo 0 r9.toInt64))) (fun z9 t => va_P (dC, dI) vwCl (fl [outW cL qo z9.2, (fun (v9 : PV × (Nat → Int32) × Int32 × (Nat → PV) × Nat × Nat) => fW cI cP a0 aN aT aS t0 t1 t2 h0 h1 pa v9.1 PT PS v9.2.1 v9.2.2.1 v9.2.2.2.1 v9.2.2.2.2.1 v9.2.2.2.2.2 k) z9.1]) t.heap) (adr (fl [outW cL qo fo, (fW cI cP a0 aN aT aS t0 t1 t2 h0 h1 pa PN PT PS f u Ps oh vh k)]))) (vx_X (fun _ : Unit => False) (fun _ _ _ => True) (adr (fl [outW cL qo fo, (fW cI cP a0 aN aT aS t0 t1 t2 h0 h1 pa PN PT PS f u Ps oh vh k)]))) args s 1 6 (adr (fl [outW cL qo fo, (fW cI cP a0 aN aT aS t0 t1 t2 h0 h1 pa PN PT PS f u Ps oh vh k)])) := ⟨_, rfl⟩
  rw [← hQ]
  rw [← hA] at hQ
  have hl := lv_entry ([.ref a0, .ref qo]) (n := 3) (Nat.le_of_ble_eq_true rfl)
  rw [ha, lg_entry_eq, ← ha]
  generalize (lg_sl ([.ref a0, .ref qo]) ++ List.replicate (3 - (lg_sl ([.ref a0, .ref qo])).length) Slot.unset).toArray = ls at hl ⊢
  have hl : lv_has ls 3 [(0, .ref a0), (1, .ref qo)] := hl
  show W p l e rmL_seats s m args below meth c s.heap [] 0 0 Q (F0 m 0 ls [])
  refine lv_aload_n hx hb dL_seats_0 rfl (lv_at hl 1 rfl) ?_
  refine lv_iconst (v := 0) hx hb dL_seats_1 (by decide) ?_
  refine lv_aload_n hx hb dL_seats_2 rfl (lv_at hl 0 rfl) ?_
  refine k_cthr (wf := (fW cI cP a0 aN aT aS t0 t1 t2 h0 h1 pa PN PT PS f u Ps oh vh k)) (wo := outW cL qo fo) (W1 := (fun (v9 : PV × (Nat → Int32) × Int32 × (Nat → PV) × Nat × Nat) => fW cI cP a0 aN aT aS t0 t1 t2 h0 h1 pa v9.1 PT PS v9.2.1 v9.2.2.1 v9.2.2.2.1 v9.2.2.2.2.1 v9.2.2.2.2.2 k)) (vx_runV (As := []) (rest := [.int 0, .ref qo]) ⟨hx, hb, hml, hown, hts0⟩ (mX6_seats l hst dC dI cI cP a0 aN aT aS t0 t1 t2 h0 h1 pa PN PT PS f u Ps oh vh k  ho6 hv6 hu hu2) (cwV 0 hts0 (gi_V u_697 u_698 u_699 u_1 u_700) rfl rfl rfl (by decide +kernel) ⟨Nat.le_of_ble_eq_true rfl, Nat.le_of_ble_eq_true rfl⟩) (pcWX hP hK hn hD hX hS rfl rfl) rfl rfl hl.1 rfl (lv_room (Nat.le_of_ble_eq_true rfl)) dL_seats_3 ⟨Nat.le_of_ble_eq_true rfl, Nat.le_of_ble_eq_true rfl⟩) hP hD hS (fun _ => rfl) (fun c9 ce9 q9 H locs hp9 hP hD hS he9 hv9 hc9 => ?_) (fun r9 u9 H locs hp9 hP hD hS => ?_)
  · rcases inl_seats hp9 with rfl
    · refine k_catch (cd := 0) (hp := 11) (en := 8) (pre := []) (suf := []) hT9 (by decide) (by decide) rfl hown hts hX hN he9 hv9 hc9 ?_
      refine lv_astore_n (lv' := [(2, .ref q9), (0, .ref a0), (1, .ref qo)]) hx hb dL_seats_11 rfl hl (by decide) rfl (fun ls hl => ?_)
      refine lv_iconst (v := 1) hx hb dL_seats_12 (by decide) ?_
      rw [hQ]
      refine vx_ret (W.widen (k := 1) (n := 6) (Nat.le_of_ble_eq_true rfl) (Nat.le_of_ble_eq_true rfl) ?_)
      exact W.iret (v := 1) hx hb hr (fun t ht hW => ⟨⟨1, ((PN, f, u, Ps, oh, vh), fo), rfl, Or.inl ⟨0, hp9, rfl, rfl⟩, toH ht hP⟩, hS.F ht⟩) hS.2.2 dL_seats_13
  refine lv_i2l (v := r9.toInt64) hx hb dL_seats_6 rfl ?_
  refine va_last hx hb hK hP hD hS 0 2 rfl rfl (vp_in_nI (n := 0) (by decide) (by decide)) dL_seats_7 (fun H locs hP hD hS => ?_)
  rw [show (0 : Int32).toNatClampNeg = 0 from rfl] at hP hD
  have hP : va_P (dC, dI) vwCl (fl [outW cL qo (vp_updL fo 0 r9.toInt64), (fun (v9 : PV × (Nat → Int32) × Int32 × (Nat → PV) × Nat × Nat) => fW cI cP a0 aN aT aS t0 t1 t2 h0 h1 pa v9.1 PT PS v9.2.1 v9.2.2.1 v9.2.2.2.1 v9.2.2.2.2.1 v9.2.2.2.2.2 k) u9]) H := hP
  refine lv_goto (tgt := 14) hx hb dL_seats_8 (by decide) ?_
  refine lv_iconst (v := 0) hx hb dL_seats_14 (by decide) ?_
  rw [hQ]
  refine vx_ret (W.widen (k := 1) (n := 6) (Nat.le_of_ble_eq_true rfl) (Nat.le_of_ble_eq_true rfl) ?_)
  exact W.iret (v := 0) hx hb hr (fun t ht hW => ⟨⟨0, (u9, vp_updL fo 0 r9.toInt64), rfl, Or.inr ⟨r9, u9, hp9, rfl, rfl⟩, toH ht hP⟩, hS.F ht⟩) hS.2.2 dL_seats_15

theorem inl_told {PN : PV} {tb i : Int32} {c9 : Nat} (h : fX6_told PN tb i = Sum.inl c9) : c9 = 0 ∨ c9 = 2 := by
  unfold fX6_told at h
  try simp only [bd, bd2] at h
  repeat' split at h
  all_goals first | (cases h; done) | (cases h; decide)
abbrev rmL_told : Room := { frames := 8, cells := 2, slots := 12, locals := 133 }
set_option maxHeartbeats 4000000 in
set_option maxRecDepth 100000 in
theorem mL_told (l : Launch) (hst : l.stackTraces = false) (dC : Nat → ClassId) (dI : Nat → Nat → Nat) (cI cP cL : ClassId) (qL qG qo : Nat) (fo : Nat → Int64) (a0 : Nat) (aN aT aS : Nat → Nat) (t0 t1 t2 h0 h1 : Nat) (pa : Nat → Nat → Nat) (PN PT PS : PV) (f : Nat → Int32) (u : Int32) (Ps : Nat → PV) (oh vh : Nat) (k : Int32) (tb i : Int32)  : vx_Met l yL_told (wsw_ yL_told cL_told 5 (some .int) (ltb 10 [(13, 2), (17, 0)])) rmL_told (pcW (dC, dI) [(cI, .int), (cP, .object "SupperSeats$Plan"), (cL, .long)] (fl [outW cL qo fo, (fW cI cP a0 aN aT aS t0 t1 t2 h0 h1 pa PN PT PS f u Ps oh vh k)]) [.ref a0, .int tb, .int i, .ref qo] cI qL qG) (va_Qi (fun (k9 : Int32) (z9 : (Unit) × (Nat → Int64)) => (∃ c9 : Nat, fX6_told PN tb i = Sum.inl c9 ∧ k9 = (if c9 = 2 then 1 else (if c9 = 0 then 2 else 9)) ∧ z9 = ((), fo)) ∨ (∃ (r9 : Int32) (u9 : Unit), fX6_told PN tb i = Sum.inr (r9, u9) ∧ k9 = 0 ∧ z9 = (u9, vp_updL fo 0 r9.toInt64))) (fun z9 t => va_P (dC, dI) vwCl (fl [outW cL qo z9.2, (fun (v9 : Unit) => fW cI cP a0 aN aT aS t0 t1 t2 h0 h1 pa PN PT PS f u Ps oh vh k) z9.1]) t.heap) (adr (fl [outW cL qo fo, (fW cI cP a0 aN aT aS t0 t1 t2 h0 h1 pa PN PT PS f u Ps oh vh k)]))) (vx_X (fun _ : Unit => False) (fun _ _ _ => True) (adr (fl [outW cL qo fo, (fW cI cP a0 aN aT aS t0 t1 t2 h0 h1 pa PN PT PS f u Ps oh vh k)]))) 2 12 (adr (fl [outW cL qo fo, (fW cI cP a0 aN aT aS t0 t1 t2 h0 h1 pa PN PT PS f u Ps oh vh k)])) := by
  refine vx_ofWH (cc := cL_told) (maxL := 5) (ret := some .int) (hh := ltb 10 [(13, 2), (17, 0)]) (by decide) rfl ?_
  intro p e s m args below meth c s₁ B hml hv
  obtain ⟨ha, hP, hK, hn, hD0, hX, hN, hT⟩ := hv
  have hx := B.exec
  have hb := B.bytes
  have hr := B.returns
  have hts0 := atoms_spec (ws := (wsw_ yL_told cL_told 5 (some .int) (ltb 10 [(13, 2), (17, 0)]))) B.pre
  have hts : ∀ w ∈ lw_all, w.before args s = true := fun w h => hts0 w (List.mem_cons_of_mem _ h)
  have hown : s.vm.findClass RL = some m.cls := findClass_of_methodNamed B.named
  have hlocks := B.notSynchronized
  have hT9 : c.exceptionTable.toList = tableOf (ltb 10 [(13, 2), (17, 0)]) := vx_table (x := yL_told) B (hts0 _ List.mem_cons_self)
  have hD := adr_self hD0
  obtain ⟨A, hA⟩ : ∃ A, A = adr (fl [outW cL qo fo, (fW cI cP a0 aN aT aS t0 t1 t2 h0 h1 pa PN PT PS f u Ps oh vh k)]) := ⟨_, rfl⟩
  rw [← hA] at hD hX hT
  have hS : va_S A s.heap s.heap [] := va_S.rf
  obtain ⟨Q, hQ⟩ : ∃ Q, Q = vx_MQ below (va_Qi (fun (k9 : Int32) (z9 : (Unit) × (Nat → Int64)) => (∃ c9 : Nat, fX6_told PN tb i = Sum.inl c9 ∧ k9 = (if c9 = 2 then 1 else (if c9 = 0 then 2 else 9)) ∧ z9 = ((), fo)) ∨ (∃ (r9 : Int32) (u9 : Unit), fX6_told PN tb i = Sum.inr (r9, u9) ∧ k9 = 0 ∧ z9 = (u9, vp_updL fo 0 r9.toInt64))) (fun z9 t => va_P (dC, dI) vwCl (fl [outW cL qo z9.2, (fun (v9 : Unit) => fW cI cP a0 aN aT aS t0 t1 t2 h0 h1 pa PN PT PS f u Ps oh vh k) z9.1]) t.heap) (adr (fl [outW cL qo fo, (fW cI cP a0 aN aT aS t0 t1 t2 h0 h1 pa PN PT PS f u Ps oh vh k)]))) (vx_X (fun _ : Unit => False) (fun _ _ _ => True) (adr (fl [outW cL qo fo, (fW cI cP a0 aN aT aS t0 t1 t2 h0 h1 pa PN PT PS f u Ps oh vh k)]))) args s 2 12 (adr (fl [outW cL qo fo, (fW cI cP a0 aN aT aS t0 t1 t2 h0 h1 pa PN PT PS f u Ps oh vh k)])) := ⟨_, rfl⟩
  rw [← hQ]
  rw [← hA] at hQ
  have hl := lv_entry ([.ref a0, .int tb, .int i, .ref qo]) (n := 5) (Nat.le_of_ble_eq_true rfl)
  rw [ha, lg_entry_eq, ← ha]
  generalize (lg_sl ([.ref a0, .int tb, .int i, .ref qo]) ++ List.replicate (5 - (lg_sl ([.ref a0, .int tb, .int i, .ref qo])).length) Slot.unset).toArray = ls at hl ⊢
  have hl : lv_has ls 5 [(0, .ref a0), (1, .int tb), (2, .int i), (3, .ref qo)] := hl
  show W p l e rmL_told s m args below meth c s.heap [] 0 0 Q (F0 m 0 ls [])
  refine lv_aload_n hx hb dL_told_0 rfl (lv_at hl 3 rfl) ?_
  refine lv_iconst (v := 0) hx hb dL_told_1 (by decide) ?_
  refine lv_aload_n hx hb dL_told_2 rfl (lv_at hl 0 rfl) ?_
  refine lv_iload_n hx hb dL_told_3 rfl (lv_at hl 1 rfl) ?_
  refine lv_iload_n hx hb dL_told_4 rfl (lv_at hl 2 rfl) ?_
  refine k_cthr (wf := (fW cI cP a0 aN aT aS t0 t1 t2 h0 h1 pa PN PT PS f u Ps oh vh k)) (wo := outW cL qo fo) (W1 := (fun (v9 : Unit) => fW cI cP a0 aN aT aS t0 t1 t2 h0 h1 pa PN PT PS f u Ps oh vh k)) (vx_runV (As := [.int tb, .int i]) (rest := [.int 0, .ref qo]) ⟨hx, hb, hml, hown, hts0⟩ (mX6_told l hst dC dI cI cP a0 aN aT aS t0 t1 t2 h0 h1 pa PN PT PS f u Ps oh vh k tb i) (cwV 2 hts0 (gi_V u_730 u_731 u_732 u_1 u_733) rfl rfl rfl (by decide +kernel) ⟨Nat.le_of_ble_eq_true rfl, Nat.le_of_ble_eq_true rfl⟩) (pcWX hP hK hn hD hX hS rfl rfl) rfl rfl hl.1 rfl (lv_room (Nat.le_of_ble_eq_true rfl)) dL_told_5 ⟨Nat.le_of_ble_eq_true rfl, Nat.le_of_ble_eq_true rfl⟩) hP hD hS (fun _ => rfl) (fun c9 ce9 q9 H locs hp9 hP hD hS he9 hv9 hc9 => ?_) (fun r9 u9 H locs hp9 hP hD hS => ?_)
  · rcases inl_told hp9 with rfl | rfl
    · refine k_catch (cd := 0) (hp := 17) (en := 10) (pre := [(13, 2)]) (suf := []) hT9 (by decide) (by decide) rfl hown hts hX hN he9 hv9 hc9 ?_
      refine lv_astore (lv' := [(4, .ref q9), (0, .ref a0), (1, .int tb), (2, .int i), (3, .ref qo)]) hx hb dL_told_17 hl (by decide) rfl (fun ls hl => ?_)
      refine lv_iconst (v := 2) hx hb dL_told_19 (by decide) ?_
      rw [hQ]
      refine vx_ret (W.widen (k := 2) (n := 12) (Nat.le_of_ble_eq_true rfl) (Nat.le_of_ble_eq_true rfl) ?_)
      exact W.iret (v := 2) hx hb hr (fun t ht hW => ⟨⟨2, ((), fo), rfl, Or.inl ⟨0, hp9, rfl, rfl⟩, toH ht hP⟩, hS.F ht⟩) hS.2.2 dL_told_20
    · refine k_catch (cd := 2) (hp := 13) (en := 10) (pre := []) (suf := [(17, 0)]) hT9 (by decide) (by decide) rfl hown hts hX hN he9 hv9 hc9 ?_
      refine lv_astore (lv' := [(4, .ref q9), (0, .ref a0), (1, .int tb), (2, .int i), (3, .ref qo)]) hx hb dL_told_13 hl (by decide) rfl (fun ls hl => ?_)
      refine lv_iconst (v := 1) hx hb dL_told_15 (by decide) ?_
      rw [hQ]
      refine vx_ret (W.widen (k := 2) (n := 12) (Nat.le_of_ble_eq_true rfl) (Nat.le_of_ble_eq_true rfl) ?_)
      exact W.iret (v := 1) hx hb hr (fun t ht hW => ⟨⟨1, ((), fo), rfl, Or.inl ⟨2, hp9, rfl, rfl⟩, toH ht hP⟩, hS.F ht⟩) hS.2.2 dL_told_16
  refine lv_i2l (v := r9.toInt64) hx hb dL_told_8 rfl ?_
  refine va_last hx hb hK hP hD hS 0 2 rfl rfl (vp_in_nI (n := 0) (by decide) (by decide)) dL_told_9 (fun H locs hP hD hS => ?_)
  rw [show (0 : Int32).toNatClampNeg = 0 from rfl] at hP hD
  have hP : va_P (dC, dI) vwCl (fl [outW cL qo (vp_updL fo 0 r9.toInt64), (fun (v9 : Unit) => fW cI cP a0 aN aT aS t0 t1 t2 h0 h1 pa PN PT PS f u Ps oh vh k) u9]) H := hP
  refine lv_goto (tgt := 21) hx hb dL_told_10 (by decide) ?_
  refine lv_iconst (v := 0) hx hb dL_told_21 (by decide) ?_
  rw [hQ]
  refine vx_ret (W.widen (k := 2) (n := 12) (Nat.le_of_ble_eq_true rfl) (Nat.le_of_ble_eq_true rfl) ?_)
  exact W.iret (v := 0) hx hb hr (fun t ht hW => ⟨⟨0, (u9, vp_updL fo 0 r9.toInt64), rfl, Or.inr ⟨r9, u9, hp9, rfl, rfl⟩, toH ht hP⟩, hS.F ht⟩) hS.2.2 dL_told_22

theorem inl_undo {PN : PV} {Ps : Nat → PV} {oh : Nat} {vh : Nat} {c9 : Nat} (h : fX6_undo PN Ps oh vh = Sum.inl c9) : c9 = 1 := by
  unfold fX6_undo at h
  try simp only [bd, bd2] at h
  repeat' split at h
  all_goals first | (cases h; done) | (cases h; decide)
abbrev rmL_undo : Room := { frames := 7, cells := 1, slots := 6, locals := 124 }
set_option maxHeartbeats 4000000 in
set_option maxRecDepth 100000 in
theorem mL_undo (l : Launch) (hst : l.stackTraces = false) (dC : Nat → ClassId) (dI : Nat → Nat → Nat) (cI cP cL : ClassId) (qL qG qo : Nat) (fo : Nat → Int64) (a0 : Nat) (aN aT aS : Nat → Nat) (t0 t1 t2 h0 h1 : Nat) (pa : Nat → Nat → Nat) (PN PT PS : PV) (f : Nat → Int32) (u : Int32) (Ps : Nat → PV) (oh vh : Nat) (k : Int32) (ho6 : oh < 6) (hv6 : vh ≤ 6) : vx_Met l yL_undo (wsw_ yL_undo cL_undo 3 (some .int) (ltb 8 [(11, 1)])) rmL_undo (pcW (dC, dI) [(cI, .int), (cP, .object "SupperSeats$Plan"), (cL, .long)] (fl [outW cL qo fo, (fW cI cP a0 aN aT aS t0 t1 t2 h0 h1 pa PN PT PS f u Ps oh vh k)]) [.ref a0, .ref qo] cI qL qG) (va_Qi (fun (k9 : Int32) (z9 : (PV × Nat) × (Nat → Int64)) => (∃ c9 : Nat, fX6_undo PN Ps oh vh = Sum.inl c9 ∧ k9 = (if c9 = 1 then 1 else 9) ∧ z9 = ((PN, vh), fo)) ∨ (∃ (r9 : Int32) (u9 : PV × Nat), fX6_undo PN Ps oh vh = Sum.inr (r9, u9) ∧ k9 = 0 ∧ z9 = (u9, vp_updL fo 0 r9.toInt64))) (fun z9 t => va_P (dC, dI) vwCl (fl [outW cL qo z9.2, (fun (v9 : PV × Nat) => fW cI cP a0 aN aT aS t0 t1 t2 h0 h1 pa v9.1 PT PS f u Ps oh v9.2 k) z9.1]) t.heap) (adr (fl [outW cL qo fo, (fW cI cP a0 aN aT aS t0 t1 t2 h0 h1 pa PN PT PS f u Ps oh vh k)]))) (vx_X (fun _ : Unit => False) (fun _ _ _ => True) (adr (fl [outW cL qo fo, (fW cI cP a0 aN aT aS t0 t1 t2 h0 h1 pa PN PT PS f u Ps oh vh k)]))) 1 6 (adr (fl [outW cL qo fo, (fW cI cP a0 aN aT aS t0 t1 t2 h0 h1 pa PN PT PS f u Ps oh vh k)])) := by
  refine vx_ofWH (cc := cL_undo) (maxL := 3) (ret := some .int) (hh := ltb 8 [(11, 1)]) (by decide) rfl ?_
  intro p e s m args below meth c s₁ B hml hv
  obtain ⟨ha, hP, hK, hn, hD0, hX, hN, hT⟩ := hv
  have hx := B.exec
  have hb := B.bytes
  have hr := B.returns
  have hts0 := atoms_spec (ws := (wsw_ yL_undo cL_undo 3 (some .int) (ltb 8 [(11, 1)]))) B.pre
  have hts : ∀ w ∈ lw_all, w.before args s = true := fun w h => hts0 w (List.mem_cons_of_mem _ h)
  have hown : s.vm.findClass RL = some m.cls := findClass_of_methodNamed B.named
  have hlocks := B.notSynchronized
  have hT9 : c.exceptionTable.toList = tableOf (ltb 8 [(11, 1)]) := vx_table (x := yL_undo) B (hts0 _ List.mem_cons_self)
  have hD := adr_self hD0
  obtain ⟨A, hA⟩ : ∃ A, A = adr (fl [outW cL qo fo, (fW cI cP a0 aN aT aS t0 t1 t2 h0 h1 pa PN PT PS f u Ps oh vh k)]) := ⟨_, rfl⟩
  rw [← hA] at hD hX hT
  have hS : va_S A s.heap s.heap [] := va_S.rf
  obtain ⟨Q, hQ⟩ : ∃ Q, Q = vx_MQ below (va_Qi (fun (k9 : Int32) (z9 : (PV × Nat) × (Nat → Int64)) => (∃ c9 : Nat, fX6_undo PN Ps oh vh = Sum.inl c9 ∧ k9 = (if c9 = 1 then 1 else 9) ∧ z9 = ((PN, vh), fo)) ∨ (∃ (r9 : Int32) (u9 : PV × Nat), fX6_undo PN Ps oh vh = Sum.inr (r9, u9) ∧ k9 = 0 ∧ z9 = (u9, vp_updL fo 0 r9.toInt64))) (fun z9 t => va_P (dC, dI) vwCl (fl [outW cL qo z9.2, (fun (v9 : PV × Nat) => fW cI cP a0 aN aT aS t0 t1 t2 h0 h1 pa v9.1 PT PS f u Ps oh v9.2 k) z9.1]) t.heap) (adr (fl [outW cL qo fo, (fW cI cP a0 aN aT aS t0 t1 t2 h0 h1 pa PN PT PS f u Ps oh vh k)]))) (vx_X (fun _ : Unit => False) (fun _ _ _ => True) (adr (fl [outW cL qo fo, (fW cI cP a0 aN aT aS t0 t1 t2 h0 h1 pa PN PT PS f u Ps oh vh k)]))) args s 1 6 (adr (fl [outW cL qo fo, (fW cI cP a0 aN aT aS t0 t1 t2 h0 h1 pa PN PT PS f u Ps oh vh k)])) := ⟨_, rfl⟩
  rw [← hQ]
  rw [← hA] at hQ
  have hl := lv_entry ([.ref a0, .ref qo]) (n := 3) (Nat.le_of_ble_eq_true rfl)
  rw [ha, lg_entry_eq, ← ha]
  generalize (lg_sl ([.ref a0, .ref qo]) ++ List.replicate (3 - (lg_sl ([.ref a0, .ref qo])).length) Slot.unset).toArray = ls at hl ⊢
  have hl : lv_has ls 3 [(0, .ref a0), (1, .ref qo)] := hl
  show W p l e rmL_undo s m args below meth c s.heap [] 0 0 Q (F0 m 0 ls [])
  refine lv_aload_n hx hb dL_undo_0 rfl (lv_at hl 1 rfl) ?_
  refine lv_iconst (v := 0) hx hb dL_undo_1 (by decide) ?_
  refine lv_aload_n hx hb dL_undo_2 rfl (lv_at hl 0 rfl) ?_
  refine k_cthr (wf := (fW cI cP a0 aN aT aS t0 t1 t2 h0 h1 pa PN PT PS f u Ps oh vh k)) (wo := outW cL qo fo) (W1 := (fun (v9 : PV × Nat) => fW cI cP a0 aN aT aS t0 t1 t2 h0 h1 pa v9.1 PT PS f u Ps oh v9.2 k)) (vx_runV (As := []) (rest := [.int 0, .ref qo]) ⟨hx, hb, hml, hown, hts0⟩ (mX6_undo l hst dC dI cI cP a0 aN aT aS t0 t1 t2 h0 h1 pa PN PT PS f u Ps oh vh k  ho6 hv6) (cwV 0 hts0 (gi_V u_744 u_745 u_746 u_1 u_747) rfl rfl rfl (by decide +kernel) ⟨Nat.le_of_ble_eq_true rfl, Nat.le_of_ble_eq_true rfl⟩) (pcWX hP hK hn hD hX hS rfl rfl) rfl rfl hl.1 rfl (lv_room (Nat.le_of_ble_eq_true rfl)) dL_undo_3 ⟨Nat.le_of_ble_eq_true rfl, Nat.le_of_ble_eq_true rfl⟩) hP hD hS (fun _ => rfl) (fun c9 ce9 q9 H locs hp9 hP hD hS he9 hv9 hc9 => ?_) (fun r9 u9 H locs hp9 hP hD hS => ?_)
  · rcases inl_undo hp9 with rfl
    · refine k_catch (cd := 1) (hp := 11) (en := 8) (pre := []) (suf := []) hT9 (by decide) (by decide) rfl hown hts hX hN he9 hv9 hc9 ?_
      refine lv_astore_n (lv' := [(2, .ref q9), (0, .ref a0), (1, .ref qo)]) hx hb dL_undo_11 rfl hl (by decide) rfl (fun ls hl => ?_)
      refine lv_iconst (v := 1) hx hb dL_undo_12 (by decide) ?_
      rw [hQ]
      refine vx_ret (W.widen (k := 1) (n := 6) (Nat.le_of_ble_eq_true rfl) (Nat.le_of_ble_eq_true rfl) ?_)
      exact W.iret (v := 1) hx hb hr (fun t ht hW => ⟨⟨1, ((PN, vh), fo), rfl, Or.inl ⟨1, hp9, rfl, rfl⟩, toH ht hP⟩, hS.F ht⟩) hS.2.2 dL_undo_13
  refine lv_i2l (v := r9.toInt64) hx hb dL_undo_6 rfl ?_
  refine va_last hx hb hK hP hD hS 0 2 rfl rfl (vp_in_nI (n := 0) (by decide) (by decide)) dL_undo_7 (fun H locs hP hD hS => ?_)
  rw [show (0 : Int32).toNatClampNeg = 0 from rfl] at hP hD
  have hP : va_P (dC, dI) vwCl (fl [outW cL qo (vp_updL fo 0 r9.toInt64), (fun (v9 : PV × Nat) => fW cI cP a0 aN aT aS t0 t1 t2 h0 h1 pa v9.1 PT PS f u Ps oh v9.2 k) u9]) H := hP
  refine lv_goto (tgt := 14) hx hb dL_undo_8 (by decide) ?_
  refine lv_iconst (v := 0) hx hb dL_undo_14 (by decide) ?_
  rw [hQ]
  refine vx_ret (W.widen (k := 1) (n := 6) (Nat.le_of_ble_eq_true rfl) (Nat.le_of_ble_eq_true rfl) ?_)
  exact W.iret (v := 0) hx hb hr (fun t ht hW => ⟨⟨0, (u9, vp_updL fo 0 r9.toInt64), rfl, Or.inr ⟨r9, u9, hp9, rfl, rfl⟩, toH ht hP⟩, hS.F ht⟩) hS.2.2 dL_undo_15

theorem inl_restore {PN : PV} {PS : PV} {Ps : Nat → PV} {oh : Nat} {vh : Nat} {k : Int32} {c9 : Nat} (h : fX6_restore PN PS Ps oh vh k = Sum.inl c9) : c9 = 1 := by
  unfold fX6_restore at h
  try simp only [bd, bd2] at h
  repeat' split at h
  all_goals first | (cases h; done) | (cases h; decide)
abbrev rmL_restore : Room := { frames := 7, cells := 1, slots := 6, locals := 124 }
set_option maxHeartbeats 4000000 in
set_option maxRecDepth 100000 in
theorem mL_restore (l : Launch) (hst : l.stackTraces = false) (dC : Nat → ClassId) (dI : Nat → Nat → Nat) (cI cP cL : ClassId) (qL qG qo : Nat) (fo : Nat → Int64) (a0 : Nat) (aN aT aS : Nat → Nat) (t0 t1 t2 h0 h1 : Nat) (pa : Nat → Nat → Nat) (PN PT PS : PV) (f : Nat → Int32) (u : Int32) (Ps : Nat → PV) (oh vh : Nat) (k : Int32) (ho6 : oh < 6) (hv6 : vh ≤ 6) : vx_Met l yL_restore (wsw_ yL_restore cL_restore 3 (some .int) (ltb 8 [(11, 1)])) rmL_restore (pcW (dC, dI) [(cI, .int), (cP, .object "SupperSeats$Plan"), (cL, .long)] (fl [outW cL qo fo, (fW cI cP a0 aN aT aS t0 t1 t2 h0 h1 pa PN PT PS f u Ps oh vh k)]) [.ref a0, .ref qo] cI qL qG) (va_Qi (fun (k9 : Int32) (z9 : (PV × (Nat → PV) × Nat × Nat) × (Nat → Int64)) => (∃ c9 : Nat, fX6_restore PN PS Ps oh vh k = Sum.inl c9 ∧ k9 = (if c9 = 1 then 1 else 9) ∧ z9 = ((PN, Ps, oh, vh), fo)) ∨ (∃ (r9 : Int32) (u9 : PV × (Nat → PV) × Nat × Nat), fX6_restore PN PS Ps oh vh k = Sum.inr (r9, u9) ∧ k9 = 0 ∧ z9 = (u9, vp_updL fo 0 r9.toInt64))) (fun z9 t => va_P (dC, dI) vwCl (fl [outW cL qo z9.2, (fun (v9 : PV × (Nat → PV) × Nat × Nat) => fW cI cP a0 aN aT aS t0 t1 t2 h0 h1 pa v9.1 PT PS f u v9.2.1 v9.2.2.1 v9.2.2.2 k) z9.1]) t.heap) (adr (fl [outW cL qo fo, (fW cI cP a0 aN aT aS t0 t1 t2 h0 h1 pa PN PT PS f u Ps oh vh k)]))) (vx_X (fun _ : Unit => False) (fun _ _ _ => True) (adr (fl [outW cL qo fo, (fW cI cP a0 aN aT aS t0 t1 t2 h0 h1 pa PN PT PS f u Ps oh vh k)]))) 1 6 (adr (fl [outW cL qo fo, (fW cI cP a0 aN aT aS t0 t1 t2 h0 h1 pa PN PT PS f u Ps oh vh k)])) := by
  refine vx_ofWH (cc := cL_restore) (maxL := 3) (ret := some .int) (hh := ltb 8 [(11, 1)]) (by decide) rfl ?_
  intro p e s m args below meth c s₁ B hml hv
  obtain ⟨ha, hP, hK, hn, hD0, hX, hN, hT⟩ := hv
  have hx := B.exec
  have hb := B.bytes
  have hr := B.returns
  have hts0 := atoms_spec (ws := (wsw_ yL_restore cL_restore 3 (some .int) (ltb 8 [(11, 1)]))) B.pre
  have hts : ∀ w ∈ lw_all, w.before args s = true := fun w h => hts0 w (List.mem_cons_of_mem _ h)
  have hown : s.vm.findClass RL = some m.cls := findClass_of_methodNamed B.named
  have hlocks := B.notSynchronized
  have hT9 : c.exceptionTable.toList = tableOf (ltb 8 [(11, 1)]) := vx_table (x := yL_restore) B (hts0 _ List.mem_cons_self)
  have hD := adr_self hD0
  obtain ⟨A, hA⟩ : ∃ A, A = adr (fl [outW cL qo fo, (fW cI cP a0 aN aT aS t0 t1 t2 h0 h1 pa PN PT PS f u Ps oh vh k)]) := ⟨_, rfl⟩
  rw [← hA] at hD hX hT
  have hS : va_S A s.heap s.heap [] := va_S.rf
  obtain ⟨Q, hQ⟩ : ∃ Q, Q = vx_MQ below (va_Qi (fun (k9 : Int32) (z9 : (PV × (Nat → PV) × Nat × Nat) × (Nat → Int64)) => (∃ c9 : Nat, fX6_restore PN PS Ps oh vh k = Sum.inl c9 ∧ k9 = (if c9 = 1 then 1 else 9) ∧ z9 = ((PN, Ps, oh, vh), fo)) ∨ (∃ (r9 : Int32) (u9 : PV × (Nat → PV) × Nat × Nat), fX6_restore PN PS Ps oh vh k = Sum.inr (r9, u9) ∧ k9 = 0 ∧ z9 = (u9, vp_updL fo 0 r9.toInt64))) (fun z9 t => va_P (dC, dI) vwCl (fl [outW cL qo z9.2, (fun (v9 : PV × (Nat → PV) × Nat × Nat) => fW cI cP a0 aN aT aS t0 t1 t2 h0 h1 pa v9.1 PT PS f u v9.2.1 v9.2.2.1 v9.2.2.2 k) z9.1]) t.heap) (adr (fl [outW cL qo fo, (fW cI cP a0 aN aT aS t0 t1 t2 h0 h1 pa PN PT PS f u Ps oh vh k)]))) (vx_X (fun _ : Unit => False) (fun _ _ _ => True) (adr (fl [outW cL qo fo, (fW cI cP a0 aN aT aS t0 t1 t2 h0 h1 pa PN PT PS f u Ps oh vh k)]))) args s 1 6 (adr (fl [outW cL qo fo, (fW cI cP a0 aN aT aS t0 t1 t2 h0 h1 pa PN PT PS f u Ps oh vh k)])) := ⟨_, rfl⟩
  rw [← hQ]
  rw [← hA] at hQ
  have hl := lv_entry ([.ref a0, .ref qo]) (n := 3) (Nat.le_of_ble_eq_true rfl)
  rw [ha, lg_entry_eq, ← ha]
  generalize (lg_sl ([.ref a0, .ref qo]) ++ List.replicate (3 - (lg_sl ([.ref a0, .ref qo])).length) Slot.unset).toArray = ls at hl ⊢
  have hl : lv_has ls 3 [(0, .ref a0), (1, .ref qo)] := hl
  show W p l e rmL_restore s m args below meth c s.heap [] 0 0 Q (F0 m 0 ls [])
  refine lv_aload_n hx hb dL_restore_0 rfl (lv_at hl 1 rfl) ?_
  refine lv_iconst (v := 0) hx hb dL_restore_1 (by decide) ?_
  refine lv_aload_n hx hb dL_restore_2 rfl (lv_at hl 0 rfl) ?_
  refine k_cthr (wf := (fW cI cP a0 aN aT aS t0 t1 t2 h0 h1 pa PN PT PS f u Ps oh vh k)) (wo := outW cL qo fo) (W1 := (fun (v9 : PV × (Nat → PV) × Nat × Nat) => fW cI cP a0 aN aT aS t0 t1 t2 h0 h1 pa v9.1 PT PS f u v9.2.1 v9.2.2.1 v9.2.2.2 k)) (vx_runV (As := []) (rest := [.int 0, .ref qo]) ⟨hx, hb, hml, hown, hts0⟩ (mX6_restore l hst dC dI cI cP a0 aN aT aS t0 t1 t2 h0 h1 pa PN PT PS f u Ps oh vh k  ho6 hv6) (cwV 0 hts0 (gi_V u_756 u_757 u_758 u_1 u_759) rfl rfl rfl (by decide +kernel) ⟨Nat.le_of_ble_eq_true rfl, Nat.le_of_ble_eq_true rfl⟩) (pcWX hP hK hn hD hX hS rfl rfl) rfl rfl hl.1 rfl (lv_room (Nat.le_of_ble_eq_true rfl)) dL_restore_3 ⟨Nat.le_of_ble_eq_true rfl, Nat.le_of_ble_eq_true rfl⟩) hP hD hS (fun _ => rfl) (fun c9 ce9 q9 H locs hp9 hP hD hS he9 hv9 hc9 => ?_) (fun r9 u9 H locs hp9 hP hD hS => ?_)
  · rcases inl_restore hp9 with rfl
    · refine k_catch (cd := 1) (hp := 11) (en := 8) (pre := []) (suf := []) hT9 (by decide) (by decide) rfl hown hts hX hN he9 hv9 hc9 ?_
      refine lv_astore_n (lv' := [(2, .ref q9), (0, .ref a0), (1, .ref qo)]) hx hb dL_restore_11 rfl hl (by decide) rfl (fun ls hl => ?_)
      refine lv_iconst (v := 1) hx hb dL_restore_12 (by decide) ?_
      rw [hQ]
      refine vx_ret (W.widen (k := 1) (n := 6) (Nat.le_of_ble_eq_true rfl) (Nat.le_of_ble_eq_true rfl) ?_)
      exact W.iret (v := 1) hx hb hr (fun t ht hW => ⟨⟨1, ((PN, Ps, oh, vh), fo), rfl, Or.inl ⟨1, hp9, rfl, rfl⟩, toH ht hP⟩, hS.F ht⟩) hS.2.2 dL_restore_13
  refine lv_i2l (v := r9.toInt64) hx hb dL_restore_6 rfl ?_
  refine va_last hx hb hK hP hD hS 0 2 rfl rfl (vp_in_nI (n := 0) (by decide) (by decide)) dL_restore_7 (fun H locs hP hD hS => ?_)
  rw [show (0 : Int32).toNatClampNeg = 0 from rfl] at hP hD
  have hP : va_P (dC, dI) vwCl (fl [outW cL qo (vp_updL fo 0 r9.toInt64), (fun (v9 : PV × (Nat → PV) × Nat × Nat) => fW cI cP a0 aN aT aS t0 t1 t2 h0 h1 pa v9.1 PT PS f u v9.2.1 v9.2.2.1 v9.2.2.2 k) u9]) H := hP
  refine lv_goto (tgt := 14) hx hb dL_restore_8 (by decide) ?_
  refine lv_iconst (v := 0) hx hb dL_restore_14 (by decide) ?_
  rw [hQ]
  refine vx_ret (W.widen (k := 1) (n := 6) (Nat.le_of_ble_eq_true rfl) (Nat.le_of_ble_eq_true rfl) ?_)
  exact W.iret (v := 0) hx hb hr (fun t ht hW => ⟨⟨0, (u9, vp_updL fo 0 r9.toInt64), rfl, Or.inr ⟨r9, u9, hp9, rfl, rfl⟩, toH ht hP⟩, hS.F ht⟩) hS.2.2 dL_restore_15

theorem inl_guestOf {PN : PV} {g w : Int32} {c9 : Nat} (h : fX6_guestOf PN g w = Sum.inl c9) : c9 = 0 ∨ c9 = 2 := by
  unfold fX6_guestOf at h
  try simp only [bd, bd2] at h
  repeat' split at h
  all_goals first | (cases h; done) | (cases h; decide)
abbrev rmL_guestOf : Room := { frames := 8, cells := 2, slots := 12, locals := 152 }
set_option maxHeartbeats 4000000 in
set_option maxRecDepth 100000 in
theorem mL_guestOf (l : Launch) (hst : l.stackTraces = false) (dC : Nat → ClassId) (dI : Nat → Nat → Nat) (cI cP cL : ClassId) (qL qG qo : Nat) (fo : Nat → Int64) (a0 : Nat) (aN aT aS : Nat → Nat) (t0 t1 t2 h0 h1 : Nat) (pa : Nat → Nat → Nat) (PN PT PS : PV) (f : Nat → Int32) (u : Int32) (Ps : Nat → PV) (oh vh : Nat) (k : Int32) (g w : Int32)  : vx_Met l yL_guestOf (wsw_ yL_guestOf cL_guestOf 5 (some .int) (ltb 10 [(13, 2), (17, 0)])) rmL_guestOf (pcW (dC, dI) [(cI, .int), (cP, .object "SupperSeats$Plan"), (cL, .long)] (fl [outW cL qo fo, (fW cI cP a0 aN aT aS t0 t1 t2 h0 h1 pa PN PT PS f u Ps oh vh k)]) [.ref a0, .int g, .int w, .ref qo] cI qL qG) (va_Qi (fun (k9 : Int32) (z9 : (Unit) × (Nat → Int64)) => (∃ c9 : Nat, fX6_guestOf PN g w = Sum.inl c9 ∧ k9 = (if c9 = 2 then 1 else (if c9 = 0 then 2 else 9)) ∧ z9 = ((), fo)) ∨ (∃ (r9 : Int32) (u9 : Unit), fX6_guestOf PN g w = Sum.inr (r9, u9) ∧ k9 = 0 ∧ z9 = (u9, vp_updL fo 0 r9.toInt64))) (fun z9 t => va_P (dC, dI) vwCl (fl [outW cL qo z9.2, (fun (v9 : Unit) => fW cI cP a0 aN aT aS t0 t1 t2 h0 h1 pa PN PT PS f u Ps oh vh k) z9.1]) t.heap) (adr (fl [outW cL qo fo, (fW cI cP a0 aN aT aS t0 t1 t2 h0 h1 pa PN PT PS f u Ps oh vh k)]))) (vx_X (fun _ : Unit => False) (fun _ _ _ => True) (adr (fl [outW cL qo fo, (fW cI cP a0 aN aT aS t0 t1 t2 h0 h1 pa PN PT PS f u Ps oh vh k)]))) 2 12 (adr (fl [outW cL qo fo, (fW cI cP a0 aN aT aS t0 t1 t2 h0 h1 pa PN PT PS f u Ps oh vh k)])) := by
  refine vx_ofWH (cc := cL_guestOf) (maxL := 5) (ret := some .int) (hh := ltb 10 [(13, 2), (17, 0)]) (by decide) rfl ?_
  intro p e s m args below meth c s₁ B hml hv
  obtain ⟨ha, hP, hK, hn, hD0, hX, hN, hT⟩ := hv
  have hx := B.exec
  have hb := B.bytes
  have hr := B.returns
  have hts0 := atoms_spec (ws := (wsw_ yL_guestOf cL_guestOf 5 (some .int) (ltb 10 [(13, 2), (17, 0)]))) B.pre
  have hts : ∀ w ∈ lw_all, w.before args s = true := fun w h => hts0 w (List.mem_cons_of_mem _ h)
  have hown : s.vm.findClass RL = some m.cls := findClass_of_methodNamed B.named
  have hlocks := B.notSynchronized
  have hT9 : c.exceptionTable.toList = tableOf (ltb 10 [(13, 2), (17, 0)]) := vx_table (x := yL_guestOf) B (hts0 _ List.mem_cons_self)
  have hD := adr_self hD0
  obtain ⟨A, hA⟩ : ∃ A, A = adr (fl [outW cL qo fo, (fW cI cP a0 aN aT aS t0 t1 t2 h0 h1 pa PN PT PS f u Ps oh vh k)]) := ⟨_, rfl⟩
  rw [← hA] at hD hX hT
  have hS : va_S A s.heap s.heap [] := va_S.rf
  obtain ⟨Q, hQ⟩ : ∃ Q, Q = vx_MQ below (va_Qi (fun (k9 : Int32) (z9 : (Unit) × (Nat → Int64)) => (∃ c9 : Nat, fX6_guestOf PN g w = Sum.inl c9 ∧ k9 = (if c9 = 2 then 1 else (if c9 = 0 then 2 else 9)) ∧ z9 = ((), fo)) ∨ (∃ (r9 : Int32) (u9 : Unit), fX6_guestOf PN g w = Sum.inr (r9, u9) ∧ k9 = 0 ∧ z9 = (u9, vp_updL fo 0 r9.toInt64))) (fun z9 t => va_P (dC, dI) vwCl (fl [outW cL qo z9.2, (fun (v9 : Unit) => fW cI cP a0 aN aT aS t0 t1 t2 h0 h1 pa PN PT PS f u Ps oh vh k) z9.1]) t.heap) (adr (fl [outW cL qo fo, (fW cI cP a0 aN aT aS t0 t1 t2 h0 h1 pa PN PT PS f u Ps oh vh k)]))) (vx_X (fun _ : Unit => False) (fun _ _ _ => True) (adr (fl [outW cL qo fo, (fW cI cP a0 aN aT aS t0 t1 t2 h0 h1 pa PN PT PS f u Ps oh vh k)]))) args s 2 12 (adr (fl [outW cL qo fo, (fW cI cP a0 aN aT aS t0 t1 t2 h0 h1 pa PN PT PS f u Ps oh vh k)])) := ⟨_, rfl⟩
  rw [← hQ]
  rw [← hA] at hQ
  have hl := lv_entry ([.ref a0, .int g, .int w, .ref qo]) (n := 5) (Nat.le_of_ble_eq_true rfl)
  rw [ha, lg_entry_eq, ← ha]
  generalize (lg_sl ([.ref a0, .int g, .int w, .ref qo]) ++ List.replicate (5 - (lg_sl ([.ref a0, .int g, .int w, .ref qo])).length) Slot.unset).toArray = ls at hl ⊢
  have hl : lv_has ls 5 [(0, .ref a0), (1, .int g), (2, .int w), (3, .ref qo)] := hl
  show W p l e rmL_guestOf s m args below meth c s.heap [] 0 0 Q (F0 m 0 ls [])
  refine lv_aload_n hx hb dL_guestOf_0 rfl (lv_at hl 3 rfl) ?_
  refine lv_iconst (v := 0) hx hb dL_guestOf_1 (by decide) ?_
  refine lv_aload_n hx hb dL_guestOf_2 rfl (lv_at hl 0 rfl) ?_
  refine lv_iload_n hx hb dL_guestOf_3 rfl (lv_at hl 1 rfl) ?_
  refine lv_iload_n hx hb dL_guestOf_4 rfl (lv_at hl 2 rfl) ?_
  refine k_cthr (wf := (fW cI cP a0 aN aT aS t0 t1 t2 h0 h1 pa PN PT PS f u Ps oh vh k)) (wo := outW cL qo fo) (W1 := (fun (v9 : Unit) => fW cI cP a0 aN aT aS t0 t1 t2 h0 h1 pa PN PT PS f u Ps oh vh k)) (vx_runV (As := [.int g, .int w]) (rest := [.int 0, .ref qo]) ⟨hx, hb, hml, hown, hts0⟩ (mX6_guestOf l hst dC dI cI cP a0 aN aT aS t0 t1 t2 h0 h1 pa PN PT PS f u Ps oh vh k g w) (cwV 2 hts0 (gi_V u_764 u_765 u_766 u_1 u_767) rfl rfl rfl (by decide +kernel) ⟨Nat.le_of_ble_eq_true rfl, Nat.le_of_ble_eq_true rfl⟩) (pcWX hP hK hn hD hX hS rfl rfl) rfl rfl hl.1 rfl (lv_room (Nat.le_of_ble_eq_true rfl)) dL_guestOf_5 ⟨Nat.le_of_ble_eq_true rfl, Nat.le_of_ble_eq_true rfl⟩) hP hD hS (fun _ => rfl) (fun c9 ce9 q9 H locs hp9 hP hD hS he9 hv9 hc9 => ?_) (fun r9 u9 H locs hp9 hP hD hS => ?_)
  · rcases inl_guestOf hp9 with rfl | rfl
    · refine k_catch (cd := 0) (hp := 17) (en := 10) (pre := [(13, 2)]) (suf := []) hT9 (by decide) (by decide) rfl hown hts hX hN he9 hv9 hc9 ?_
      refine lv_astore (lv' := [(4, .ref q9), (0, .ref a0), (1, .int g), (2, .int w), (3, .ref qo)]) hx hb dL_guestOf_17 hl (by decide) rfl (fun ls hl => ?_)
      refine lv_iconst (v := 2) hx hb dL_guestOf_19 (by decide) ?_
      rw [hQ]
      refine vx_ret (W.widen (k := 2) (n := 12) (Nat.le_of_ble_eq_true rfl) (Nat.le_of_ble_eq_true rfl) ?_)
      exact W.iret (v := 2) hx hb hr (fun t ht hW => ⟨⟨2, ((), fo), rfl, Or.inl ⟨0, hp9, rfl, rfl⟩, toH ht hP⟩, hS.F ht⟩) hS.2.2 dL_guestOf_20
    · refine k_catch (cd := 2) (hp := 13) (en := 10) (pre := []) (suf := [(17, 0)]) hT9 (by decide) (by decide) rfl hown hts hX hN he9 hv9 hc9 ?_
      refine lv_astore (lv' := [(4, .ref q9), (0, .ref a0), (1, .int g), (2, .int w), (3, .ref qo)]) hx hb dL_guestOf_13 hl (by decide) rfl (fun ls hl => ?_)
      refine lv_iconst (v := 1) hx hb dL_guestOf_15 (by decide) ?_
      rw [hQ]
      refine vx_ret (W.widen (k := 2) (n := 12) (Nat.le_of_ble_eq_true rfl) (Nat.le_of_ble_eq_true rfl) ?_)
      exact W.iret (v := 1) hx hb hr (fun t ht hW => ⟨⟨1, ((), fo), rfl, Or.inl ⟨2, hp9, rfl, rfl⟩, toH ht hP⟩, hS.F ht⟩) hS.2.2 dL_guestOf_16
  refine lv_i2l (v := r9.toInt64) hx hb dL_guestOf_8 rfl ?_
  refine va_last hx hb hK hP hD hS 0 2 rfl rfl (vp_in_nI (n := 0) (by decide) (by decide)) dL_guestOf_9 (fun H locs hP hD hS => ?_)
  rw [show (0 : Int32).toNatClampNeg = 0 from rfl] at hP hD
  have hP : va_P (dC, dI) vwCl (fl [outW cL qo (vp_updL fo 0 r9.toInt64), (fun (v9 : Unit) => fW cI cP a0 aN aT aS t0 t1 t2 h0 h1 pa PN PT PS f u Ps oh vh k) u9]) H := hP
  refine lv_goto (tgt := 21) hx hb dL_guestOf_10 (by decide) ?_
  refine lv_iconst (v := 0) hx hb dL_guestOf_21 (by decide) ?_
  rw [hQ]
  refine vx_ret (W.widen (k := 2) (n := 12) (Nat.le_of_ble_eq_true rfl) (Nat.le_of_ble_eq_true rfl) ?_)
  exact W.iret (v := 0) hx hb hr (fun t ht hW => ⟨⟨0, (u9, vp_updL fo 0 r9.toInt64), rfl, Or.inr ⟨r9, u9, hp9, rfl, rfl⟩, toH ht hP⟩, hS.F ht⟩) hS.2.2 dL_guestOf_22

theorem inl_tableOf {PN : PV} {tb w : Int32} {c9 : Nat} (h : fX6_tableOf PN tb w = Sum.inl c9) : c9 = 0 ∨ c9 = 2 := by
  unfold fX6_tableOf at h
  try simp only [bd, bd2] at h
  repeat' split at h
  all_goals first | (cases h; done) | (cases h; decide)
abbrev rmL_tableOf : Room := { frames := 8, cells := 2, slots := 12, locals := 134 }
set_option maxHeartbeats 4000000 in
set_option maxRecDepth 100000 in
theorem mL_tableOf (l : Launch) (hst : l.stackTraces = false) (dC : Nat → ClassId) (dI : Nat → Nat → Nat) (cI cP cL : ClassId) (qL qG qo : Nat) (fo : Nat → Int64) (a0 : Nat) (aN aT aS : Nat → Nat) (t0 t1 t2 h0 h1 : Nat) (pa : Nat → Nat → Nat) (PN PT PS : PV) (f : Nat → Int32) (u : Int32) (Ps : Nat → PV) (oh vh : Nat) (k : Int32) (tb w : Int32)  : vx_Met l yL_tableOf (wsw_ yL_tableOf cL_tableOf 5 (some .int) (ltb 10 [(13, 2), (17, 0)])) rmL_tableOf (pcW (dC, dI) [(cI, .int), (cP, .object "SupperSeats$Plan"), (cL, .long)] (fl [outW cL qo fo, (fW cI cP a0 aN aT aS t0 t1 t2 h0 h1 pa PN PT PS f u Ps oh vh k)]) [.ref a0, .int tb, .int w, .ref qo] cI qL qG) (va_Qi (fun (k9 : Int32) (z9 : (Unit) × (Nat → Int64)) => (∃ c9 : Nat, fX6_tableOf PN tb w = Sum.inl c9 ∧ k9 = (if c9 = 2 then 1 else (if c9 = 0 then 2 else 9)) ∧ z9 = ((), fo)) ∨ (∃ (r9 : Int32) (u9 : Unit), fX6_tableOf PN tb w = Sum.inr (r9, u9) ∧ k9 = 0 ∧ z9 = (u9, vp_updL fo 0 r9.toInt64))) (fun z9 t => va_P (dC, dI) vwCl (fl [outW cL qo z9.2, (fun (v9 : Unit) => fW cI cP a0 aN aT aS t0 t1 t2 h0 h1 pa PN PT PS f u Ps oh vh k) z9.1]) t.heap) (adr (fl [outW cL qo fo, (fW cI cP a0 aN aT aS t0 t1 t2 h0 h1 pa PN PT PS f u Ps oh vh k)]))) (vx_X (fun _ : Unit => False) (fun _ _ _ => True) (adr (fl [outW cL qo fo, (fW cI cP a0 aN aT aS t0 t1 t2 h0 h1 pa PN PT PS f u Ps oh vh k)]))) 2 12 (adr (fl [outW cL qo fo, (fW cI cP a0 aN aT aS t0 t1 t2 h0 h1 pa PN PT PS f u Ps oh vh k)])) := by
  refine vx_ofWH (cc := cL_tableOf) (maxL := 5) (ret := some .int) (hh := ltb 10 [(13, 2), (17, 0)]) (by decide) rfl ?_
  intro p e s m args below meth c s₁ B hml hv
  obtain ⟨ha, hP, hK, hn, hD0, hX, hN, hT⟩ := hv
  have hx := B.exec
  have hb := B.bytes
  have hr := B.returns
  have hts0 := atoms_spec (ws := (wsw_ yL_tableOf cL_tableOf 5 (some .int) (ltb 10 [(13, 2), (17, 0)]))) B.pre
  have hts : ∀ w ∈ lw_all, w.before args s = true := fun w h => hts0 w (List.mem_cons_of_mem _ h)
  have hown : s.vm.findClass RL = some m.cls := findClass_of_methodNamed B.named
  have hlocks := B.notSynchronized
  have hT9 : c.exceptionTable.toList = tableOf (ltb 10 [(13, 2), (17, 0)]) := vx_table (x := yL_tableOf) B (hts0 _ List.mem_cons_self)
  have hD := adr_self hD0
  obtain ⟨A, hA⟩ : ∃ A, A = adr (fl [outW cL qo fo, (fW cI cP a0 aN aT aS t0 t1 t2 h0 h1 pa PN PT PS f u Ps oh vh k)]) := ⟨_, rfl⟩
  rw [← hA] at hD hX hT
  have hS : va_S A s.heap s.heap [] := va_S.rf
  obtain ⟨Q, hQ⟩ : ∃ Q, Q = vx_MQ below (va_Qi (fun (k9 : Int32) (z9 : (Unit) × (Nat → Int64)) => (∃ c9 : Nat, fX6_tableOf PN tb w = Sum.inl c9 ∧ k9 = (if c9 = 2 then 1 else (if c9 = 0 then 2 else 9)) ∧ z9 = ((), fo)) ∨ (∃ (r9 : Int32) (u9 : Unit), fX6_tableOf PN tb w = Sum.inr (r9, u9) ∧ k9 = 0 ∧ z9 = (u9, vp_updL fo 0 r9.toInt64))) (fun z9 t => va_P (dC, dI) vwCl (fl [outW cL qo z9.2, (fun (v9 : Unit) => fW cI cP a0 aN aT aS t0 t1 t2 h0 h1 pa PN PT PS f u Ps oh vh k) z9.1]) t.heap) (adr (fl [outW cL qo fo, (fW cI cP a0 aN aT aS t0 t1 t2 h0 h1 pa PN PT PS f u Ps oh vh k)]))) (vx_X (fun _ : Unit => False) (fun _ _ _ => True) (adr (fl [outW cL qo fo, (fW cI cP a0 aN aT aS t0 t1 t2 h0 h1 pa PN PT PS f u Ps oh vh k)]))) args s 2 12 (adr (fl [outW cL qo fo, (fW cI cP a0 aN aT aS t0 t1 t2 h0 h1 pa PN PT PS f u Ps oh vh k)])) := ⟨_, rfl⟩
  rw [← hQ]
  rw [← hA] at hQ
  have hl := lv_entry ([.ref a0, .int tb, .int w, .ref qo]) (n := 5) (Nat.le_of_ble_eq_true rfl)
  rw [ha, lg_entry_eq, ← ha]
  generalize (lg_sl ([.ref a0, .int tb, .int w, .ref qo]) ++ List.replicate (5 - (lg_sl ([.ref a0, .int tb, .int w, .ref qo])).length) Slot.unset).toArray = ls at hl ⊢
  have hl : lv_has ls 5 [(0, .ref a0), (1, .int tb), (2, .int w), (3, .ref qo)] := hl
  show W p l e rmL_tableOf s m args below meth c s.heap [] 0 0 Q (F0 m 0 ls [])
  refine lv_aload_n hx hb dL_tableOf_0 rfl (lv_at hl 3 rfl) ?_
  refine lv_iconst (v := 0) hx hb dL_tableOf_1 (by decide) ?_
  refine lv_aload_n hx hb dL_tableOf_2 rfl (lv_at hl 0 rfl) ?_
  refine lv_iload_n hx hb dL_tableOf_3 rfl (lv_at hl 1 rfl) ?_
  refine lv_iload_n hx hb dL_tableOf_4 rfl (lv_at hl 2 rfl) ?_
  refine k_cthr (wf := (fW cI cP a0 aN aT aS t0 t1 t2 h0 h1 pa PN PT PS f u Ps oh vh k)) (wo := outW cL qo fo) (W1 := (fun (v9 : Unit) => fW cI cP a0 aN aT aS t0 t1 t2 h0 h1 pa PN PT PS f u Ps oh vh k)) (vx_runV (As := [.int tb, .int w]) (rest := [.int 0, .ref qo]) ⟨hx, hb, hml, hown, hts0⟩ (mX6_tableOf l hst dC dI cI cP a0 aN aT aS t0 t1 t2 h0 h1 pa PN PT PS f u Ps oh vh k tb w) (cwV 2 hts0 (gi_V u_772 u_773 u_774 u_1 u_775) rfl rfl rfl (by decide +kernel) ⟨Nat.le_of_ble_eq_true rfl, Nat.le_of_ble_eq_true rfl⟩) (pcWX hP hK hn hD hX hS rfl rfl) rfl rfl hl.1 rfl (lv_room (Nat.le_of_ble_eq_true rfl)) dL_tableOf_5 ⟨Nat.le_of_ble_eq_true rfl, Nat.le_of_ble_eq_true rfl⟩) hP hD hS (fun _ => rfl) (fun c9 ce9 q9 H locs hp9 hP hD hS he9 hv9 hc9 => ?_) (fun r9 u9 H locs hp9 hP hD hS => ?_)
  · rcases inl_tableOf hp9 with rfl | rfl
    · refine k_catch (cd := 0) (hp := 17) (en := 10) (pre := [(13, 2)]) (suf := []) hT9 (by decide) (by decide) rfl hown hts hX hN he9 hv9 hc9 ?_
      refine lv_astore (lv' := [(4, .ref q9), (0, .ref a0), (1, .int tb), (2, .int w), (3, .ref qo)]) hx hb dL_tableOf_17 hl (by decide) rfl (fun ls hl => ?_)
      refine lv_iconst (v := 2) hx hb dL_tableOf_19 (by decide) ?_
      rw [hQ]
      refine vx_ret (W.widen (k := 2) (n := 12) (Nat.le_of_ble_eq_true rfl) (Nat.le_of_ble_eq_true rfl) ?_)
      exact W.iret (v := 2) hx hb hr (fun t ht hW => ⟨⟨2, ((), fo), rfl, Or.inl ⟨0, hp9, rfl, rfl⟩, toH ht hP⟩, hS.F ht⟩) hS.2.2 dL_tableOf_20
    · refine k_catch (cd := 2) (hp := 13) (en := 10) (pre := []) (suf := [(17, 0)]) hT9 (by decide) (by decide) rfl hown hts hX hN he9 hv9 hc9 ?_
      refine lv_astore (lv' := [(4, .ref q9), (0, .ref a0), (1, .int tb), (2, .int w), (3, .ref qo)]) hx hb dL_tableOf_13 hl (by decide) rfl (fun ls hl => ?_)
      refine lv_iconst (v := 1) hx hb dL_tableOf_15 (by decide) ?_
      rw [hQ]
      refine vx_ret (W.widen (k := 2) (n := 12) (Nat.le_of_ble_eq_true rfl) (Nat.le_of_ble_eq_true rfl) ?_)
      exact W.iret (v := 1) hx hb hr (fun t ht hW => ⟨⟨1, ((), fo), rfl, Or.inl ⟨2, hp9, rfl, rfl⟩, toH ht hP⟩, hS.F ht⟩) hS.2.2 dL_tableOf_16
  refine lv_i2l (v := r9.toInt64) hx hb dL_tableOf_8 rfl ?_
  refine va_last hx hb hK hP hD hS 0 2 rfl rfl (vp_in_nI (n := 0) (by decide) (by decide)) dL_tableOf_9 (fun H locs hP hD hS => ?_)
  rw [show (0 : Int32).toNatClampNeg = 0 from rfl] at hP hD
  have hP : va_P (dC, dI) vwCl (fl [outW cL qo (vp_updL fo 0 r9.toInt64), (fun (v9 : Unit) => fW cI cP a0 aN aT aS t0 t1 t2 h0 h1 pa PN PT PS f u Ps oh vh k) u9]) H := hP
  refine lv_goto (tgt := 21) hx hb dL_tableOf_10 (by decide) ?_
  refine lv_iconst (v := 0) hx hb dL_tableOf_21 (by decide) ?_
  rw [hQ]
  refine vx_ret (W.widen (k := 2) (n := 12) (Nat.le_of_ble_eq_true rfl) (Nat.le_of_ble_eq_true rfl) ?_)
  exact W.iret (v := 0) hx hb hr (fun t ht hW => ⟨⟨0, (u9, vp_updL fo 0 r9.toInt64), rfl, Or.inr ⟨r9, u9, hp9, rfl, rfl⟩, toH ht hP⟩, hS.F ht⟩) hS.2.2 dL_tableOf_22

theorem inl_who {PN : PV} {tb z : Int32} {c9 : Nat} (h : fX6_who PN tb z = Sum.inl c9) : c9 = 2 := by
  unfold fX6_who at h
  try simp only [bd, bd2] at h
  repeat' split at h
  all_goals first | (cases h; done) | (cases h; decide)
abbrev rmL_who : Room := { frames := 8, cells := 1, slots := 6, locals := 134 }
set_option maxHeartbeats 4000000 in
set_option maxRecDepth 100000 in
theorem mL_who (l : Launch) (hst : l.stackTraces = false) (dC : Nat → ClassId) (dI : Nat → Nat → Nat) (cI cP cL : ClassId) (qL qG qo : Nat) (fo : Nat → Int64) (a0 : Nat) (aN aT aS : Nat → Nat) (t0 t1 t2 h0 h1 : Nat) (pa : Nat → Nat → Nat) (PN PT PS : PV) (f : Nat → Int32) (u : Int32) (Ps : Nat → PV) (oh vh : Nat) (k : Int32) (tb z : Int32)  : vx_Met l yL_who (wsw_ yL_who cL_who 5 (some .int) (ltb 10 [(13, 2)])) rmL_who (pcW (dC, dI) [(cI, .int), (cP, .object "SupperSeats$Plan"), (cL, .long)] (fl [outW cL qo fo, (fW cI cP a0 aN aT aS t0 t1 t2 h0 h1 pa PN PT PS f u Ps oh vh k)]) [.ref a0, .int tb, .int z, .ref qo] cI qL qG) (va_Qi (fun (k9 : Int32) (z9 : (Unit) × (Nat → Int64)) => (∃ c9 : Nat, fX6_who PN tb z = Sum.inl c9 ∧ k9 = (if c9 = 2 then 1 else 9) ∧ z9 = ((), fo)) ∨ (∃ (r9 : Int32) (u9 : Unit), fX6_who PN tb z = Sum.inr (r9, u9) ∧ k9 = 0 ∧ z9 = (u9, vp_updL fo 0 r9.toInt64))) (fun z9 t => va_P (dC, dI) vwCl (fl [outW cL qo z9.2, (fun (v9 : Unit) => fW cI cP a0 aN aT aS t0 t1 t2 h0 h1 pa PN PT PS f u Ps oh vh k) z9.1]) t.heap) (adr (fl [outW cL qo fo, (fW cI cP a0 aN aT aS t0 t1 t2 h0 h1 pa PN PT PS f u Ps oh vh k)]))) (vx_X (fun _ : Unit => False) (fun _ _ _ => True) (adr (fl [outW cL qo fo, (fW cI cP a0 aN aT aS t0 t1 t2 h0 h1 pa PN PT PS f u Ps oh vh k)]))) 1 6 (adr (fl [outW cL qo fo, (fW cI cP a0 aN aT aS t0 t1 t2 h0 h1 pa PN PT PS f u Ps oh vh k)])) := by
  refine vx_ofWH (cc := cL_who) (maxL := 5) (ret := some .int) (hh := ltb 10 [(13, 2)]) (by decide) rfl ?_
  intro p e s m args below meth c s₁ B hml hv
  obtain ⟨ha, hP, hK, hn, hD0, hX, hN, hT⟩ := hv
  have hx := B.exec
  have hb := B.bytes
  have hr := B.returns
  have hts0 := atoms_spec (ws := (wsw_ yL_who cL_who 5 (some .int) (ltb 10 [(13, 2)]))) B.pre
  have hts : ∀ w ∈ lw_all, w.before args s = true := fun w h => hts0 w (List.mem_cons_of_mem _ h)
  have hown : s.vm.findClass RL = some m.cls := findClass_of_methodNamed B.named
  have hlocks := B.notSynchronized
  have hT9 : c.exceptionTable.toList = tableOf (ltb 10 [(13, 2)]) := vx_table (x := yL_who) B (hts0 _ List.mem_cons_self)
  have hD := adr_self hD0
  obtain ⟨A, hA⟩ : ∃ A, A = adr (fl [outW cL qo fo, (fW cI cP a0 aN aT aS t0 t1 t2 h0 h1 pa PN PT PS f u Ps oh vh k)]) := ⟨_, rfl⟩
  rw [← hA] at hD hX hT
  have hS : va_S A s.heap s.heap [] := va_S.rf
  obtain ⟨Q, hQ⟩ : ∃ Q, Q = vx_MQ below (va_Qi (fun (k9 : Int32) (z9 : (Unit) × (Nat → Int64)) => (∃ c9 : Nat, fX6_who PN tb z = Sum.inl c9 ∧ k9 = (if c9 = 2 then 1 else 9) ∧ z9 = ((), fo)) ∨ (∃ (r9 : Int32) (u9 : Unit), fX6_who PN tb z = Sum.inr (r9, u9) ∧ k9 = 0 ∧ z9 = (u9, vp_updL fo 0 r9.toInt64))) (fun z9 t => va_P (dC, dI) vwCl (fl [outW cL qo z9.2, (fun (v9 : Unit) => fW cI cP a0 aN aT aS t0 t1 t2 h0 h1 pa PN PT PS f u Ps oh vh k) z9.1]) t.heap) (adr (fl [outW cL qo fo, (fW cI cP a0 aN aT aS t0 t1 t2 h0 h1 pa PN PT PS f u Ps oh vh k)]))) (vx_X (fun _ : Unit => False) (fun _ _ _ => True) (adr (fl [outW cL qo fo, (fW cI cP a0 aN aT aS t0 t1 t2 h0 h1 pa PN PT PS f u Ps oh vh k)]))) args s 1 6 (adr (fl [outW cL qo fo, (fW cI cP a0 aN aT aS t0 t1 t2 h0 h1 pa PN PT PS f u Ps oh vh k)])) := ⟨_, rfl⟩
  rw [← hQ]
  rw [← hA] at hQ
  have hl := lv_entry ([.ref a0, .int tb, .int z, .ref qo]) (n := 5) (Nat.le_of_ble_eq_true rfl)
  rw [ha, lg_entry_eq, ← ha]
  generalize (lg_sl ([.ref a0, .int tb, .int z, .ref qo]) ++ List.replicate (5 - (lg_sl ([.ref a0, .int tb, .int z, .ref qo])).length) Slot.unset).toArray = ls at hl ⊢
  have hl : lv_has ls 5 [(0, .ref a0), (1, .int tb), (2, .int z), (3, .ref qo)] := hl
  show W p l e rmL_who s m args below meth c s.heap [] 0 0 Q (F0 m 0 ls [])
  refine lv_aload_n hx hb dL_who_0 rfl (lv_at hl 3 rfl) ?_
  refine lv_iconst (v := 0) hx hb dL_who_1 (by decide) ?_
  refine lv_aload_n hx hb dL_who_2 rfl (lv_at hl 0 rfl) ?_
  refine lv_iload_n hx hb dL_who_3 rfl (lv_at hl 1 rfl) ?_
  refine lv_iload_n hx hb dL_who_4 rfl (lv_at hl 2 rfl) ?_
  refine k_cthr (wf := (fW cI cP a0 aN aT aS t0 t1 t2 h0 h1 pa PN PT PS f u Ps oh vh k)) (wo := outW cL qo fo) (W1 := (fun (v9 : Unit) => fW cI cP a0 aN aT aS t0 t1 t2 h0 h1 pa PN PT PS f u Ps oh vh k)) (vx_runV (As := [.int tb, .int z]) (rest := [.int 0, .ref qo]) ⟨hx, hb, hml, hown, hts0⟩ (mX6_who l hst dC dI cI cP a0 aN aT aS t0 t1 t2 h0 h1 pa PN PT PS f u Ps oh vh k tb z) (cwV 2 hts0 (gi_V u_780 u_781 u_782 u_1 u_783) rfl rfl rfl (by decide +kernel) ⟨Nat.le_of_ble_eq_true rfl, Nat.le_of_ble_eq_true rfl⟩) (pcWX hP hK hn hD hX hS rfl rfl) rfl rfl hl.1 rfl (lv_room (Nat.le_of_ble_eq_true rfl)) dL_who_5 ⟨Nat.le_of_ble_eq_true rfl, Nat.le_of_ble_eq_true rfl⟩) hP hD hS (fun _ => rfl) (fun c9 ce9 q9 H locs hp9 hP hD hS he9 hv9 hc9 => ?_) (fun r9 u9 H locs hp9 hP hD hS => ?_)
  · rcases inl_who hp9 with rfl
    · refine k_catch (cd := 2) (hp := 13) (en := 10) (pre := []) (suf := []) hT9 (by decide) (by decide) rfl hown hts hX hN he9 hv9 hc9 ?_
      refine lv_astore (lv' := [(4, .ref q9), (0, .ref a0), (1, .int tb), (2, .int z), (3, .ref qo)]) hx hb dL_who_13 hl (by decide) rfl (fun ls hl => ?_)
      refine lv_iconst (v := 1) hx hb dL_who_15 (by decide) ?_
      rw [hQ]
      refine vx_ret (W.widen (k := 1) (n := 6) (Nat.le_of_ble_eq_true rfl) (Nat.le_of_ble_eq_true rfl) ?_)
      exact W.iret (v := 1) hx hb hr (fun t ht hW => ⟨⟨1, ((), fo), rfl, Or.inl ⟨2, hp9, rfl, rfl⟩, toH ht hP⟩, hS.F ht⟩) hS.2.2 dL_who_16
  refine lv_i2l (v := r9.toInt64) hx hb dL_who_8 rfl ?_
  refine va_last hx hb hK hP hD hS 0 2 rfl rfl (vp_in_nI (n := 0) (by decide) (by decide)) dL_who_9 (fun H locs hP hD hS => ?_)
  rw [show (0 : Int32).toNatClampNeg = 0 from rfl] at hP hD
  have hP : va_P (dC, dI) vwCl (fl [outW cL qo (vp_updL fo 0 r9.toInt64), (fun (v9 : Unit) => fW cI cP a0 aN aT aS t0 t1 t2 h0 h1 pa PN PT PS f u Ps oh vh k) u9]) H := hP
  refine lv_goto (tgt := 17) hx hb dL_who_10 (by decide) ?_
  refine lv_iconst (v := 0) hx hb dL_who_17 (by decide) ?_
  rw [hQ]
  refine vx_ret (W.widen (k := 1) (n := 6) (Nat.le_of_ble_eq_true rfl) (Nat.le_of_ble_eq_true rfl) ?_)
  exact W.iret (v := 0) hx hb hr (fun t ht hW => ⟨⟨0, (u9, vp_updL fo 0 r9.toInt64), rfl, Or.inr ⟨r9, u9, hp9, rfl, rfl⟩, toH ht hP⟩, hS.F ht⟩) hS.2.2 dL_who_18

theorem inl_seated {PN : PV} {a : Int32} {c9 : Nat} (h : fX6_seated PN a = Sum.inl c9) : c9 = 0 := by
  unfold fX6_seated at h
  try simp only [bd, bd2] at h
  repeat' split at h
  all_goals first | (cases h; done) | (cases h; decide)
abbrev rmL_seated : Room := { frames := 8, cells := 1, slots := 6, locals := 131 }
set_option maxHeartbeats 4000000 in
set_option maxRecDepth 100000 in
theorem mL_seated (l : Launch) (hst : l.stackTraces = false) (dC : Nat → ClassId) (dI : Nat → Nat → Nat) (cI cP cL : ClassId) (qL qG qo : Nat) (fo : Nat → Int64) (a0 : Nat) (aN aT aS : Nat → Nat) (t0 t1 t2 h0 h1 : Nat) (pa : Nat → Nat → Nat) (PN PT PS : PV) (f : Nat → Int32) (u : Int32) (Ps : Nat → PV) (oh vh : Nat) (k : Int32) (a : Int32)  : vx_Met l yL_seated (wsw_ yL_seated cL_seated 4 (some .int) (ltb 9 [(12, 0)])) rmL_seated (pcW (dC, dI) [(cI, .int), (cP, .object "SupperSeats$Plan"), (cL, .long)] (fl [outW cL qo fo, (fW cI cP a0 aN aT aS t0 t1 t2 h0 h1 pa PN PT PS f u Ps oh vh k)]) [.ref a0, .int a, .ref qo] cI qL qG) (va_Qi (fun (k9 : Int32) (z9 : (Unit) × (Nat → Int64)) => (∃ c9 : Nat, fX6_seated PN a = Sum.inl c9 ∧ k9 = (if c9 = 0 then 1 else 9) ∧ z9 = ((), fo)) ∨ (∃ (r9 : Int32) (u9 : Unit), fX6_seated PN a = Sum.inr (r9, u9) ∧ k9 = 0 ∧ z9 = (u9, vp_updL fo 0 r9.toInt64))) (fun z9 t => va_P (dC, dI) vwCl (fl [outW cL qo z9.2, (fun (v9 : Unit) => fW cI cP a0 aN aT aS t0 t1 t2 h0 h1 pa PN PT PS f u Ps oh vh k) z9.1]) t.heap) (adr (fl [outW cL qo fo, (fW cI cP a0 aN aT aS t0 t1 t2 h0 h1 pa PN PT PS f u Ps oh vh k)]))) (vx_X (fun _ : Unit => False) (fun _ _ _ => True) (adr (fl [outW cL qo fo, (fW cI cP a0 aN aT aS t0 t1 t2 h0 h1 pa PN PT PS f u Ps oh vh k)]))) 1 6 (adr (fl [outW cL qo fo, (fW cI cP a0 aN aT aS t0 t1 t2 h0 h1 pa PN PT PS f u Ps oh vh k)])) := by
  refine vx_ofWH (cc := cL_seated) (maxL := 4) (ret := some .int) (hh := ltb 9 [(12, 0)]) (by decide) rfl ?_
  intro p e s m args below meth c s₁ B hml hv
  obtain ⟨ha, hP, hK, hn, hD0, hX, hN, hT⟩ := hv
  have hx := B.exec
  have hb := B.bytes
  have hr := B.returns
  have hts0 := atoms_spec (ws := (wsw_ yL_seated cL_seated 4 (some .int) (ltb 9 [(12, 0)]))) B.pre
  have hts : ∀ w ∈ lw_all, w.before args s = true := fun w h => hts0 w (List.mem_cons_of_mem _ h)
  have hown : s.vm.findClass RL = some m.cls := findClass_of_methodNamed B.named
  have hlocks := B.notSynchronized
  have hT9 : c.exceptionTable.toList = tableOf (ltb 9 [(12, 0)]) := vx_table (x := yL_seated) B (hts0 _ List.mem_cons_self)
  have hD := adr_self hD0
  obtain ⟨A, hA⟩ : ∃ A, A = adr (fl [outW cL qo fo, (fW cI cP a0 aN aT aS t0 t1 t2 h0 h1 pa PN PT PS f u Ps oh vh k)]) := ⟨_, rfl⟩
  rw [← hA] at hD hX hT
  have hS : va_S A s.heap s.heap [] := va_S.rf
  obtain ⟨Q, hQ⟩ : ∃ Q, Q = vx_MQ below (va_Qi (fun (k9 : Int32) (z9 : (Unit) × (Nat → Int64)) => (∃ c9 : Nat, fX6_seated PN a = Sum.inl c9 ∧ k9 = (if c9 = 0 then 1 else 9) ∧ z9 = ((), fo)) ∨ (∃ (r9 : Int32) (u9 : Unit), fX6_seated PN a = Sum.inr (r9, u9) ∧ k9 = 0 ∧ z9 = (u9, vp_updL fo 0 r9.toInt64))) (fun z9 t => va_P (dC, dI) vwCl (fl [outW cL qo z9.2, (fun (v9 : Unit) => fW cI cP a0 aN aT aS t0 t1 t2 h0 h1 pa PN PT PS f u Ps oh vh k) z9.1]) t.heap) (adr (fl [outW cL qo fo, (fW cI cP a0 aN aT aS t0 t1 t2 h0 h1 pa PN PT PS f u Ps oh vh k)]))) (vx_X (fun _ : Unit => False) (fun _ _ _ => True) (adr (fl [outW cL qo fo, (fW cI cP a0 aN aT aS t0 t1 t2 h0 h1 pa PN PT PS f u Ps oh vh k)]))) args s 1 6 (adr (fl [outW cL qo fo, (fW cI cP a0 aN aT aS t0 t1 t2 h0 h1 pa PN PT PS f u Ps oh vh k)])) := ⟨_, rfl⟩
  rw [← hQ]
  rw [← hA] at hQ
  have hl := lv_entry ([.ref a0, .int a, .ref qo]) (n := 4) (Nat.le_of_ble_eq_true rfl)
  rw [ha, lg_entry_eq, ← ha]
  generalize (lg_sl ([.ref a0, .int a, .ref qo]) ++ List.replicate (4 - (lg_sl ([.ref a0, .int a, .ref qo])).length) Slot.unset).toArray = ls at hl ⊢
  have hl : lv_has ls 4 [(0, .ref a0), (1, .int a), (2, .ref qo)] := hl
  show W p l e rmL_seated s m args below meth c s.heap [] 0 0 Q (F0 m 0 ls [])
  refine lv_aload_n hx hb dL_seated_0 rfl (lv_at hl 2 rfl) ?_
  refine lv_iconst (v := 0) hx hb dL_seated_1 (by decide) ?_
  refine lv_aload_n hx hb dL_seated_2 rfl (lv_at hl 0 rfl) ?_
  refine lv_iload_n hx hb dL_seated_3 rfl (lv_at hl 1 rfl) ?_
  refine k_cthr (wf := (fW cI cP a0 aN aT aS t0 t1 t2 h0 h1 pa PN PT PS f u Ps oh vh k)) (wo := outW cL qo fo) (W1 := (fun (v9 : Unit) => fW cI cP a0 aN aT aS t0 t1 t2 h0 h1 pa PN PT PS f u Ps oh vh k)) (vx_runV (As := [.int a]) (rest := [.int 0, .ref qo]) ⟨hx, hb, hml, hown, hts0⟩ (mX6_seated l hst dC dI cI cP a0 aN aT aS t0 t1 t2 h0 h1 pa PN PT PS f u Ps oh vh k a) (cwV 1 hts0 (gi_V u_787 u_788 u_789 u_1 u_790) rfl rfl rfl (by decide +kernel) ⟨Nat.le_of_ble_eq_true rfl, Nat.le_of_ble_eq_true rfl⟩) (pcWX hP hK hn hD hX hS rfl rfl) rfl rfl hl.1 rfl (lv_room (Nat.le_of_ble_eq_true rfl)) dL_seated_4 ⟨Nat.le_of_ble_eq_true rfl, Nat.le_of_ble_eq_true rfl⟩) hP hD hS (fun _ => rfl) (fun c9 ce9 q9 H locs hp9 hP hD hS he9 hv9 hc9 => ?_) (fun r9 u9 H locs hp9 hP hD hS => ?_)
  · rcases inl_seated hp9 with rfl
    · refine k_catch (cd := 0) (hp := 12) (en := 9) (pre := []) (suf := []) hT9 (by decide) (by decide) rfl hown hts hX hN he9 hv9 hc9 ?_
      refine lv_astore_n (lv' := [(3, .ref q9), (0, .ref a0), (1, .int a), (2, .ref qo)]) hx hb dL_seated_12 rfl hl (by decide) rfl (fun ls hl => ?_)
      refine lv_iconst (v := 1) hx hb dL_seated_13 (by decide) ?_
      rw [hQ]
      refine vx_ret (W.widen (k := 1) (n := 6) (Nat.le_of_ble_eq_true rfl) (Nat.le_of_ble_eq_true rfl) ?_)
      exact W.iret (v := 1) hx hb hr (fun t ht hW => ⟨⟨1, ((), fo), rfl, Or.inl ⟨0, hp9, rfl, rfl⟩, toH ht hP⟩, hS.F ht⟩) hS.2.2 dL_seated_14
  refine lv_i2l (v := r9.toInt64) hx hb dL_seated_7 rfl ?_
  refine va_last hx hb hK hP hD hS 0 2 rfl rfl (vp_in_nI (n := 0) (by decide) (by decide)) dL_seated_8 (fun H locs hP hD hS => ?_)
  rw [show (0 : Int32).toNatClampNeg = 0 from rfl] at hP hD
  have hP : va_P (dC, dI) vwCl (fl [outW cL qo (vp_updL fo 0 r9.toInt64), (fun (v9 : Unit) => fW cI cP a0 aN aT aS t0 t1 t2 h0 h1 pa PN PT PS f u Ps oh vh k) u9]) H := hP
  refine lv_goto (tgt := 15) hx hb dL_seated_9 (by decide) ?_
  refine lv_iconst (v := 0) hx hb dL_seated_15 (by decide) ?_
  rw [hQ]
  refine vx_ret (W.widen (k := 1) (n := 6) (Nat.le_of_ble_eq_true rfl) (Nat.le_of_ble_eq_true rfl) ?_)
  exact W.iret (v := 0) hx hb hr (fun t ht hW => ⟨⟨0, (u9, vp_updL fo 0 r9.toInt64), rfl, Or.inr ⟨r9, u9, hp9, rfl, rfl⟩, toH ht hP⟩, hS.F ht⟩) hS.2.2 dL_seated_16

theorem inl_feudAt {PN : PV} {a : Int32} {c9 : Nat} (h : fX6_feudAt PN a = Sum.inl c9) : c9 = 0 := by
  unfold fX6_feudAt at h
  try simp only [bd, bd2] at h
  repeat' split at h
  all_goals first | (cases h; done) | (cases h; decide)
abbrev rmL_feudAt : Room := { frames := 8, cells := 1, slots := 6, locals := 131 }
set_option maxHeartbeats 4000000 in
set_option maxRecDepth 100000 in
theorem mL_feudAt (l : Launch) (hst : l.stackTraces = false) (dC : Nat → ClassId) (dI : Nat → Nat → Nat) (cI cP cL : ClassId) (qL qG qo : Nat) (fo : Nat → Int64) (a0 : Nat) (aN aT aS : Nat → Nat) (t0 t1 t2 h0 h1 : Nat) (pa : Nat → Nat → Nat) (PN PT PS : PV) (f : Nat → Int32) (u : Int32) (Ps : Nat → PV) (oh vh : Nat) (k : Int32) (a : Int32)  : vx_Met l yL_feudAt (wsw_ yL_feudAt cL_feudAt 4 (some .int) (ltb 9 [(12, 0)])) rmL_feudAt (pcW (dC, dI) [(cI, .int), (cP, .object "SupperSeats$Plan"), (cL, .long)] (fl [outW cL qo fo, (fW cI cP a0 aN aT aS t0 t1 t2 h0 h1 pa PN PT PS f u Ps oh vh k)]) [.ref a0, .int a, .ref qo] cI qL qG) (va_Qi (fun (k9 : Int32) (z9 : (Unit) × (Nat → Int64)) => (∃ c9 : Nat, fX6_feudAt PN a = Sum.inl c9 ∧ k9 = (if c9 = 0 then 1 else 9) ∧ z9 = ((), fo)) ∨ (∃ (r9 : Int32) (u9 : Unit), fX6_feudAt PN a = Sum.inr (r9, u9) ∧ k9 = 0 ∧ z9 = (u9, vp_updL fo 0 r9.toInt64))) (fun z9 t => va_P (dC, dI) vwCl (fl [outW cL qo z9.2, (fun (v9 : Unit) => fW cI cP a0 aN aT aS t0 t1 t2 h0 h1 pa PN PT PS f u Ps oh vh k) z9.1]) t.heap) (adr (fl [outW cL qo fo, (fW cI cP a0 aN aT aS t0 t1 t2 h0 h1 pa PN PT PS f u Ps oh vh k)]))) (vx_X (fun _ : Unit => False) (fun _ _ _ => True) (adr (fl [outW cL qo fo, (fW cI cP a0 aN aT aS t0 t1 t2 h0 h1 pa PN PT PS f u Ps oh vh k)]))) 1 6 (adr (fl [outW cL qo fo, (fW cI cP a0 aN aT aS t0 t1 t2 h0 h1 pa PN PT PS f u Ps oh vh k)])) := by
  refine vx_ofWH (cc := cL_feudAt) (maxL := 4) (ret := some .int) (hh := ltb 9 [(12, 0)]) (by decide) rfl ?_
  intro p e s m args below meth c s₁ B hml hv
  obtain ⟨ha, hP, hK, hn, hD0, hX, hN, hT⟩ := hv
  have hx := B.exec
  have hb := B.bytes
  have hr := B.returns
  have hts0 := atoms_spec (ws := (wsw_ yL_feudAt cL_feudAt 4 (some .int) (ltb 9 [(12, 0)]))) B.pre
  have hts : ∀ w ∈ lw_all, w.before args s = true := fun w h => hts0 w (List.mem_cons_of_mem _ h)
  have hown : s.vm.findClass RL = some m.cls := findClass_of_methodNamed B.named
  have hlocks := B.notSynchronized
  have hT9 : c.exceptionTable.toList = tableOf (ltb 9 [(12, 0)]) := vx_table (x := yL_feudAt) B (hts0 _ List.mem_cons_self)
  have hD := adr_self hD0
  obtain ⟨A, hA⟩ : ∃ A, A = adr (fl [outW cL qo fo, (fW cI cP a0 aN aT aS t0 t1 t2 h0 h1 pa PN PT PS f u Ps oh vh k)]) := ⟨_, rfl⟩
  rw [← hA] at hD hX hT
  have hS : va_S A s.heap s.heap [] := va_S.rf
  obtain ⟨Q, hQ⟩ : ∃ Q, Q = vx_MQ below (va_Qi (fun (k9 : Int32) (z9 : (Unit) × (Nat → Int64)) => (∃ c9 : Nat, fX6_feudAt PN a = Sum.inl c9 ∧ k9 = (if c9 = 0 then 1 else 9) ∧ z9 = ((), fo)) ∨ (∃ (r9 : Int32) (u9 : Unit), fX6_feudAt PN a = Sum.inr (r9, u9) ∧ k9 = 0 ∧ z9 = (u9, vp_updL fo 0 r9.toInt64))) (fun z9 t => va_P (dC, dI) vwCl (fl [outW cL qo z9.2, (fun (v9 : Unit) => fW cI cP a0 aN aT aS t0 t1 t2 h0 h1 pa PN PT PS f u Ps oh vh k) z9.1]) t.heap) (adr (fl [outW cL qo fo, (fW cI cP a0 aN aT aS t0 t1 t2 h0 h1 pa PN PT PS f u Ps oh vh k)]))) (vx_X (fun _ : Unit => False) (fun _ _ _ => True) (adr (fl [outW cL qo fo, (fW cI cP a0 aN aT aS t0 t1 t2 h0 h1 pa PN PT PS f u Ps oh vh k)]))) args s 1 6 (adr (fl [outW cL qo fo, (fW cI cP a0 aN aT aS t0 t1 t2 h0 h1 pa PN PT PS f u Ps oh vh k)])) := ⟨_, rfl⟩
  rw [← hQ]
  rw [← hA] at hQ
  have hl := lv_entry ([.ref a0, .int a, .ref qo]) (n := 4) (Nat.le_of_ble_eq_true rfl)
  rw [ha, lg_entry_eq, ← ha]
  generalize (lg_sl ([.ref a0, .int a, .ref qo]) ++ List.replicate (4 - (lg_sl ([.ref a0, .int a, .ref qo])).length) Slot.unset).toArray = ls at hl ⊢
  have hl : lv_has ls 4 [(0, .ref a0), (1, .int a), (2, .ref qo)] := hl
  show W p l e rmL_feudAt s m args below meth c s.heap [] 0 0 Q (F0 m 0 ls [])
  refine lv_aload_n hx hb dL_feudAt_0 rfl (lv_at hl 2 rfl) ?_
  refine lv_iconst (v := 0) hx hb dL_feudAt_1 (by decide) ?_
  refine lv_aload_n hx hb dL_feudAt_2 rfl (lv_at hl 0 rfl) ?_
  refine lv_iload_n hx hb dL_feudAt_3 rfl (lv_at hl 1 rfl) ?_
  refine k_cthr (wf := (fW cI cP a0 aN aT aS t0 t1 t2 h0 h1 pa PN PT PS f u Ps oh vh k)) (wo := outW cL qo fo) (W1 := (fun (v9 : Unit) => fW cI cP a0 aN aT aS t0 t1 t2 h0 h1 pa PN PT PS f u Ps oh vh k)) (vx_runV (As := [.int a]) (rest := [.int 0, .ref qo]) ⟨hx, hb, hml, hown, hts0⟩ (mX6_feudAt l hst dC dI cI cP a0 aN aT aS t0 t1 t2 h0 h1 pa PN PT PS f u Ps oh vh k a) (cwV 1 hts0 (gi_V u_798 u_799 u_800 u_1 u_801) rfl rfl rfl (by decide +kernel) ⟨Nat.le_of_ble_eq_true rfl, Nat.le_of_ble_eq_true rfl⟩) (pcWX hP hK hn hD hX hS rfl rfl) rfl rfl hl.1 rfl (lv_room (Nat.le_of_ble_eq_true rfl)) dL_feudAt_4 ⟨Nat.le_of_ble_eq_true rfl, Nat.le_of_ble_eq_true rfl⟩) hP hD hS (fun _ => rfl) (fun c9 ce9 q9 H locs hp9 hP hD hS he9 hv9 hc9 => ?_) (fun r9 u9 H locs hp9 hP hD hS => ?_)
  · rcases inl_feudAt hp9 with rfl
    · refine k_catch (cd := 0) (hp := 12) (en := 9) (pre := []) (suf := []) hT9 (by decide) (by decide) rfl hown hts hX hN he9 hv9 hc9 ?_
      refine lv_astore_n (lv' := [(3, .ref q9), (0, .ref a0), (1, .int a), (2, .ref qo)]) hx hb dL_feudAt_12 rfl hl (by decide) rfl (fun ls hl => ?_)
      refine lv_iconst (v := 1) hx hb dL_feudAt_13 (by decide) ?_
      rw [hQ]
      refine vx_ret (W.widen (k := 1) (n := 6) (Nat.le_of_ble_eq_true rfl) (Nat.le_of_ble_eq_true rfl) ?_)
      exact W.iret (v := 1) hx hb hr (fun t ht hW => ⟨⟨1, ((), fo), rfl, Or.inl ⟨0, hp9, rfl, rfl⟩, toH ht hP⟩, hS.F ht⟩) hS.2.2 dL_feudAt_14
  refine lv_i2l (v := r9.toInt64) hx hb dL_feudAt_7 rfl ?_
  refine va_last hx hb hK hP hD hS 0 2 rfl rfl (vp_in_nI (n := 0) (by decide) (by decide)) dL_feudAt_8 (fun H locs hP hD hS => ?_)
  rw [show (0 : Int32).toNatClampNeg = 0 from rfl] at hP hD
  have hP : va_P (dC, dI) vwCl (fl [outW cL qo (vp_updL fo 0 r9.toInt64), (fun (v9 : Unit) => fW cI cP a0 aN aT aS t0 t1 t2 h0 h1 pa PN PT PS f u Ps oh vh k) u9]) H := hP
  refine lv_goto (tgt := 15) hx hb dL_feudAt_9 (by decide) ?_
  refine lv_iconst (v := 0) hx hb dL_feudAt_15 (by decide) ?_
  rw [hQ]
  refine vx_ret (W.widen (k := 1) (n := 6) (Nat.le_of_ble_eq_true rfl) (Nat.le_of_ble_eq_true rfl) ?_)
  exact W.iret (v := 0) hx hb hr (fun t ht hW => ⟨⟨0, (u9, vp_updL fo 0 r9.toInt64), rfl, Or.inr ⟨r9, u9, hp9, rfl, rfl⟩, toH ht hP⟩, hS.F ht⟩) hS.2.2 dL_feudAt_16

theorem inl_count {PN : PV} {Ps : Nat → PV} {oh : Nat} {vh : Nat} {w : Int32} {c9 : Nat} (h : fX6_count PN Ps oh vh w = Sum.inl c9) : c9 = 0 := by
  unfold fX6_count at h
  try simp only [bd, bd2] at h
  repeat' split at h
  all_goals first | (cases h; done) | (cases h; decide)
abbrev rmL_count : Room := { frames := 7, cells := 1, slots := 6, locals := 172 }
set_option maxHeartbeats 4000000 in
set_option maxRecDepth 100000 in
theorem mL_count (l : Launch) (hst : l.stackTraces = false) (dC : Nat → ClassId) (dI : Nat → Nat → Nat) (cI cP cL : ClassId) (qL qG qo : Nat) (fo : Nat → Int64) (a0 : Nat) (aN aT aS : Nat → Nat) (t0 t1 t2 h0 h1 : Nat) (pa : Nat → Nat → Nat) (PN PT PS : PV) (f : Nat → Int32) (u : Int32) (Ps : Nat → PV) (oh vh : Nat) (k : Int32) (w : Int32)  : vx_Met l yL_count (wsw_ yL_count cL_count 4 (some .int) (ltb 9 [(12, 0)])) rmL_count (pcW (dC, dI) [(cI, .int), (cP, .object "SupperSeats$Plan"), (cL, .long)] (fl [outW cL qo fo, (fW cI cP a0 aN aT aS t0 t1 t2 h0 h1 pa PN PT PS f u Ps oh vh k)]) [.ref a0, .int w, .ref qo] cI qL qG) (va_Qi (fun (k9 : Int32) (z9 : (Unit) × (Nat → Int64)) => (∃ c9 : Nat, fX6_count PN Ps oh vh w = Sum.inl c9 ∧ k9 = (if c9 = 0 then 1 else 9) ∧ z9 = ((), fo)) ∨ (∃ (r9 : Int32) (u9 : Unit), fX6_count PN Ps oh vh w = Sum.inr (r9, u9) ∧ k9 = 0 ∧ z9 = (u9, vp_updL fo 0 r9.toInt64))) (fun z9 t => va_P (dC, dI) vwCl (fl [outW cL qo z9.2, (fun (v9 : Unit) => fW cI cP a0 aN aT aS t0 t1 t2 h0 h1 pa PN PT PS f u Ps oh vh k) z9.1]) t.heap) (adr (fl [outW cL qo fo, (fW cI cP a0 aN aT aS t0 t1 t2 h0 h1 pa PN PT PS f u Ps oh vh k)]))) (vx_X (fun _ : Unit => False) (fun _ _ _ => True) (adr (fl [outW cL qo fo, (fW cI cP a0 aN aT aS t0 t1 t2 h0 h1 pa PN PT PS f u Ps oh vh k)]))) 1 6 (adr (fl [outW cL qo fo, (fW cI cP a0 aN aT aS t0 t1 t2 h0 h1 pa PN PT PS f u Ps oh vh k)])) := by
  refine vx_ofWH (cc := cL_count) (maxL := 4) (ret := some .int) (hh := ltb 9 [(12, 0)]) (by decide) rfl ?_
  intro p e s m args below meth c s₁ B hml hv
  obtain ⟨ha, hP, hK, hn, hD0, hX, hN, hT⟩ := hv
  have hx := B.exec
  have hb := B.bytes
  have hr := B.returns
  have hts0 := atoms_spec (ws := (wsw_ yL_count cL_count 4 (some .int) (ltb 9 [(12, 0)]))) B.pre
  have hts : ∀ w ∈ lw_all, w.before args s = true := fun w h => hts0 w (List.mem_cons_of_mem _ h)
  have hown : s.vm.findClass RL = some m.cls := findClass_of_methodNamed B.named
  have hlocks := B.notSynchronized
  have hT9 : c.exceptionTable.toList = tableOf (ltb 9 [(12, 0)]) := vx_table (x := yL_count) B (hts0 _ List.mem_cons_self)
  have hD := adr_self hD0
  obtain ⟨A, hA⟩ : ∃ A, A = adr (fl [outW cL qo fo, (fW cI cP a0 aN aT aS t0 t1 t2 h0 h1 pa PN PT PS f u Ps oh vh k)]) := ⟨_, rfl⟩
  rw [← hA] at hD hX hT
  have hS : va_S A s.heap s.heap [] := va_S.rf
  obtain ⟨Q, hQ⟩ : ∃ Q, Q = vx_MQ below (va_Qi (fun (k9 : Int32) (z9 : (Unit) × (Nat → Int64)) => (∃ c9 : Nat, fX6_count PN Ps oh vh w = Sum.inl c9 ∧ k9 = (if c9 = 0 then 1 else 9) ∧ z9 = ((), fo)) ∨ (∃ (r9 : Int32) (u9 : Unit), fX6_count PN Ps oh vh w = Sum.inr (r9, u9) ∧ k9 = 0 ∧ z9 = (u9, vp_updL fo 0 r9.toInt64))) (fun z9 t => va_P (dC, dI) vwCl (fl [outW cL qo z9.2, (fun (v9 : Unit) => fW cI cP a0 aN aT aS t0 t1 t2 h0 h1 pa PN PT PS f u Ps oh vh k) z9.1]) t.heap) (adr (fl [outW cL qo fo, (fW cI cP a0 aN aT aS t0 t1 t2 h0 h1 pa PN PT PS f u Ps oh vh k)]))) (vx_X (fun _ : Unit => False) (fun _ _ _ => True) (adr (fl [outW cL qo fo, (fW cI cP a0 aN aT aS t0 t1 t2 h0 h1 pa PN PT PS f u Ps oh vh k)]))) args s 1 6 (adr (fl [outW cL qo fo, (fW cI cP a0 aN aT aS t0 t1 t2 h0 h1 pa PN PT PS f u Ps oh vh k)])) := ⟨_, rfl⟩
  rw [← hQ]
  rw [← hA] at hQ
  have hl := lv_entry ([.ref a0, .int w, .ref qo]) (n := 4) (Nat.le_of_ble_eq_true rfl)
  rw [ha, lg_entry_eq, ← ha]
  generalize (lg_sl ([.ref a0, .int w, .ref qo]) ++ List.replicate (4 - (lg_sl ([.ref a0, .int w, .ref qo])).length) Slot.unset).toArray = ls at hl ⊢
  have hl : lv_has ls 4 [(0, .ref a0), (1, .int w), (2, .ref qo)] := hl
  show W p l e rmL_count s m args below meth c s.heap [] 0 0 Q (F0 m 0 ls [])
  refine lv_aload_n hx hb dL_count_0 rfl (lv_at hl 2 rfl) ?_
  refine lv_iconst (v := 0) hx hb dL_count_1 (by decide) ?_
  refine lv_aload_n hx hb dL_count_2 rfl (lv_at hl 0 rfl) ?_
  refine lv_iload_n hx hb dL_count_3 rfl (lv_at hl 1 rfl) ?_
  refine k_cthr (wf := (fW cI cP a0 aN aT aS t0 t1 t2 h0 h1 pa PN PT PS f u Ps oh vh k)) (wo := outW cL qo fo) (W1 := (fun (v9 : Unit) => fW cI cP a0 aN aT aS t0 t1 t2 h0 h1 pa PN PT PS f u Ps oh vh k)) (vx_runV (As := [.int w]) (rest := [.int 0, .ref qo]) ⟨hx, hb, hml, hown, hts0⟩ (mX6_count l hst dC dI cI cP a0 aN aT aS t0 t1 t2 h0 h1 pa PN PT PS f u Ps oh vh k w) (cwV 1 hts0 (gi_V u_805 u_806 u_807 u_1 u_808) rfl rfl rfl (by decide +kernel) ⟨Nat.le_of_ble_eq_true rfl, Nat.le_of_ble_eq_true rfl⟩) (pcWX hP hK hn hD hX hS rfl rfl) rfl rfl hl.1 rfl (lv_room (Nat.le_of_ble_eq_true rfl)) dL_count_4 ⟨Nat.le_of_ble_eq_true rfl, Nat.le_of_ble_eq_true rfl⟩) hP hD hS (fun _ => rfl) (fun c9 ce9 q9 H locs hp9 hP hD hS he9 hv9 hc9 => ?_) (fun r9 u9 H locs hp9 hP hD hS => ?_)
  · rcases inl_count hp9 with rfl
    · refine k_catch (cd := 0) (hp := 12) (en := 9) (pre := []) (suf := []) hT9 (by decide) (by decide) rfl hown hts hX hN he9 hv9 hc9 ?_
      refine lv_astore_n (lv' := [(3, .ref q9), (0, .ref a0), (1, .int w), (2, .ref qo)]) hx hb dL_count_12 rfl hl (by decide) rfl (fun ls hl => ?_)
      refine lv_iconst (v := 1) hx hb dL_count_13 (by decide) ?_
      rw [hQ]
      refine vx_ret (W.widen (k := 1) (n := 6) (Nat.le_of_ble_eq_true rfl) (Nat.le_of_ble_eq_true rfl) ?_)
      exact W.iret (v := 1) hx hb hr (fun t ht hW => ⟨⟨1, ((), fo), rfl, Or.inl ⟨0, hp9, rfl, rfl⟩, toH ht hP⟩, hS.F ht⟩) hS.2.2 dL_count_14
  refine lv_i2l (v := r9.toInt64) hx hb dL_count_7 rfl ?_
  refine va_last hx hb hK hP hD hS 0 2 rfl rfl (vp_in_nI (n := 0) (by decide) (by decide)) dL_count_8 (fun H locs hP hD hS => ?_)
  rw [show (0 : Int32).toNatClampNeg = 0 from rfl] at hP hD
  have hP : va_P (dC, dI) vwCl (fl [outW cL qo (vp_updL fo 0 r9.toInt64), (fun (v9 : Unit) => fW cI cP a0 aN aT aS t0 t1 t2 h0 h1 pa PN PT PS f u Ps oh vh k) u9]) H := hP
  refine lv_goto (tgt := 15) hx hb dL_count_9 (by decide) ?_
  refine lv_iconst (v := 0) hx hb dL_count_15 (by decide) ?_
  rw [hQ]
  refine vx_ret (W.widen (k := 1) (n := 6) (Nat.le_of_ble_eq_true rfl) (Nat.le_of_ble_eq_true rfl) ?_)
  exact W.iret (v := 0) hx hb hr (fun t ht hW => ⟨⟨0, (u9, vp_updL fo 0 r9.toInt64), rfl, Or.inr ⟨r9, u9, hp9, rfl, rfl⟩, toH ht hP⟩, hS.F ht⟩) hS.2.2 dL_count_16

theorem inl_whyNot {PN : PV} {g tb z : Int32} {c9 : Nat} (h : fX6_whyNot PN g tb z = Sum.inl c9) : c9 = 2 := by
  unfold fX6_whyNot at h
  try simp only [bd, bd2] at h
  repeat' split at h
  all_goals first | (cases h; done) | (cases h; decide)
abbrev rmL_whyNot : Room := { frames := 9, cells := 2, slots := 12, locals := 158 }
set_option maxHeartbeats 4000000 in
set_option maxRecDepth 100000 in
theorem mL_whyNot (l : Launch) (hst : l.stackTraces = false) (dC : Nat → ClassId) (dI : Nat → Nat → Nat) (cI cP cL : ClassId) (qL qG qo : Nat) (fo : Nat → Int64) (a0 : Nat) (aN aT aS : Nat → Nat) (t0 t1 t2 h0 h1 : Nat) (pa : Nat → Nat → Nat) (PN PT PS : PV) (f : Nat → Int32) (u : Int32) (Ps : Nat → PV) (oh vh : Nat) (k : Int32) (g tb z : Int32)  : vx_Met l yL_whyNot (wsw_ yL_whyNot cL_whyNot 6 (some .int) (ltb 12 [(15, 2)])) rmL_whyNot (pcW (dC, dI) [(cI, .int), (cP, .object "SupperSeats$Plan"), (cL, .long)] (fl [outW cL qo fo, (fW cI cP a0 aN aT aS t0 t1 t2 h0 h1 pa PN PT PS f u Ps oh vh k)]) [.ref a0, .int g, .int tb, .int z, .ref qo] cI qL qG) (va_Qi (fun (k9 : Int32) (z9 : (Unit) × (Nat → Int64)) => (∃ c9 : Nat, fX6_whyNot PN g tb z = Sum.inl c9 ∧ k9 = (if c9 = 2 then 1 else 9) ∧ z9 = ((), fo)) ∨ (∃ (r9 : Int32) (u9 : Unit), fX6_whyNot PN g tb z = Sum.inr (r9, u9) ∧ k9 = 0 ∧ z9 = (u9, vp_updL fo 0 r9.toInt64))) (fun z9 t => va_P (dC, dI) vwCl (fl [outW cL qo z9.2, (fun (v9 : Unit) => fW cI cP a0 aN aT aS t0 t1 t2 h0 h1 pa PN PT PS f u Ps oh vh k) z9.1]) t.heap) (adr (fl [outW cL qo fo, (fW cI cP a0 aN aT aS t0 t1 t2 h0 h1 pa PN PT PS f u Ps oh vh k)]))) (vx_X (fun _ : Unit => False) (fun _ _ _ => True) (adr (fl [outW cL qo fo, (fW cI cP a0 aN aT aS t0 t1 t2 h0 h1 pa PN PT PS f u Ps oh vh k)]))) 2 12 (adr (fl [outW cL qo fo, (fW cI cP a0 aN aT aS t0 t1 t2 h0 h1 pa PN PT PS f u Ps oh vh k)])) := by
  refine vx_ofWH (cc := cL_whyNot) (maxL := 6) (ret := some .int) (hh := ltb 12 [(15, 2)]) (by decide) rfl ?_
  intro p e s m args below meth c s₁ B hml hv
  obtain ⟨ha, hP, hK, hn, hD0, hX, hN, hT⟩ := hv
  have hx := B.exec
  have hb := B.bytes
  have hr := B.returns
  have hts0 := atoms_spec (ws := (wsw_ yL_whyNot cL_whyNot 6 (some .int) (ltb 12 [(15, 2)]))) B.pre
  have hts : ∀ w ∈ lw_all, w.before args s = true := fun w h => hts0 w (List.mem_cons_of_mem _ h)
  have hown : s.vm.findClass RL = some m.cls := findClass_of_methodNamed B.named
  have hlocks := B.notSynchronized
  have hT9 : c.exceptionTable.toList = tableOf (ltb 12 [(15, 2)]) := vx_table (x := yL_whyNot) B (hts0 _ List.mem_cons_self)
  have hD := adr_self hD0
  obtain ⟨A, hA⟩ : ∃ A, A = adr (fl [outW cL qo fo, (fW cI cP a0 aN aT aS t0 t1 t2 h0 h1 pa PN PT PS f u Ps oh vh k)]) := ⟨_, rfl⟩
  rw [← hA] at hD hX hT
  have hS : va_S A s.heap s.heap [] := va_S.rf
  obtain ⟨Q, hQ⟩ : ∃ Q, Q = vx_MQ below (va_Qi (fun (k9 : Int32) (z9 : (Unit) × (Nat → Int64)) => (∃ c9 : Nat, fX6_whyNot PN g tb z = Sum.inl c9 ∧ k9 = (if c9 = 2 then 1 else 9) ∧ z9 = ((), fo)) ∨ (∃ (r9 : Int32) (u9 : Unit), fX6_whyNot PN g tb z = Sum.inr (r9, u9) ∧ k9 = 0 ∧ z9 = (u9, vp_updL fo 0 r9.toInt64))) (fun z9 t => va_P (dC, dI) vwCl (fl [outW cL qo z9.2, (fun (v9 : Unit) => fW cI cP a0 aN aT aS t0 t1 t2 h0 h1 pa PN PT PS f u Ps oh vh k) z9.1]) t.heap) (adr (fl [outW cL qo fo, (fW cI cP a0 aN aT aS t0 t1 t2 h0 h1 pa PN PT PS f u Ps oh vh k)]))) (vx_X (fun _ : Unit => False) (fun _ _ _ => True) (adr (fl [outW cL qo fo, (fW cI cP a0 aN aT aS t0 t1 t2 h0 h1 pa PN PT PS f u Ps oh vh k)]))) args s 2 12 (adr (fl [outW cL qo fo, (fW cI cP a0 aN aT aS t0 t1 t2 h0 h1 pa PN PT PS f u Ps oh vh k)])) := ⟨_, rfl⟩
  rw [← hQ]
  rw [← hA] at hQ
  have hl := lv_entry ([.ref a0, .int g, .int tb, .int z, .ref qo]) (n := 6) (Nat.le_of_ble_eq_true rfl)
  rw [ha, lg_entry_eq, ← ha]
  generalize (lg_sl ([.ref a0, .int g, .int tb, .int z, .ref qo]) ++ List.replicate (6 - (lg_sl ([.ref a0, .int g, .int tb, .int z, .ref qo])).length) Slot.unset).toArray = ls at hl ⊢
  have hl : lv_has ls 6 [(0, .ref a0), (1, .int g), (2, .int tb), (3, .int z), (4, .ref qo)] := hl
  show W p l e rmL_whyNot s m args below meth c s.heap [] 0 0 Q (F0 m 0 ls [])
  refine lv_aload hx hb dL_whyNot_0 (lv_at hl 4 rfl) ?_
  refine lv_iconst (v := 0) hx hb dL_whyNot_2 (by decide) ?_
  refine lv_aload_n hx hb dL_whyNot_3 rfl (lv_at hl 0 rfl) ?_
  refine lv_iload_n hx hb dL_whyNot_4 rfl (lv_at hl 1 rfl) ?_
  refine lv_iload_n hx hb dL_whyNot_5 rfl (lv_at hl 2 rfl) ?_
  refine lv_iload_n hx hb dL_whyNot_6 rfl (lv_at hl 3 rfl) ?_
  refine k_cthr (wf := (fW cI cP a0 aN aT aS t0 t1 t2 h0 h1 pa PN PT PS f u Ps oh vh k)) (wo := outW cL qo fo) (W1 := (fun (v9 : Unit) => fW cI cP a0 aN aT aS t0 t1 t2 h0 h1 pa PN PT PS f u Ps oh vh k)) (vx_runV (As := [.int g, .int tb, .int z]) (rest := [.int 0, .ref qo]) ⟨hx, hb, hml, hown, hts0⟩ (mX6_whyNot l hst dC dI cI cP a0 aN aT aS t0 t1 t2 h0 h1 pa PN PT PS f u Ps oh vh k g tb z) (cwV 3 hts0 (gi_V u_813 u_814 u_815 u_1 u_816) rfl rfl rfl (by decide +kernel) ⟨Nat.le_of_ble_eq_true rfl, Nat.le_of_ble_eq_true rfl⟩) (pcWX hP hK hn hD hX hS rfl rfl) rfl rfl hl.1 rfl (lv_room (Nat.le_of_ble_eq_true rfl)) dL_whyNot_7 ⟨Nat.le_of_ble_eq_true rfl, Nat.le_of_ble_eq_true rfl⟩) hP hD hS (fun _ => rfl) (fun c9 ce9 q9 H locs hp9 hP hD hS he9 hv9 hc9 => ?_) (fun r9 u9 H locs hp9 hP hD hS => ?_)
  · rcases inl_whyNot hp9 with rfl
    · refine k_catch (cd := 2) (hp := 15) (en := 12) (pre := []) (suf := []) hT9 (by decide) (by decide) rfl hown hts hX hN he9 hv9 hc9 ?_
      refine lv_astore (lv' := [(5, .ref q9), (0, .ref a0), (1, .int g), (2, .int tb), (3, .int z), (4, .ref qo)]) hx hb dL_whyNot_15 hl (by decide) rfl (fun ls hl => ?_)
      refine lv_iconst (v := 1) hx hb dL_whyNot_17 (by decide) ?_
      rw [hQ]
      refine vx_ret (W.widen (k := 2) (n := 12) (Nat.le_of_ble_eq_true rfl) (Nat.le_of_ble_eq_true rfl) ?_)
      exact W.iret (v := 1) hx hb hr (fun t ht hW => ⟨⟨1, ((), fo), rfl, Or.inl ⟨2, hp9, rfl, rfl⟩, toH ht hP⟩, hS.F ht⟩) hS.2.2 dL_whyNot_18
  refine lv_i2l (v := r9.toInt64) hx hb dL_whyNot_10 rfl ?_
  refine va_last hx hb hK hP hD hS 0 2 rfl rfl (vp_in_nI (n := 0) (by decide) (by decide)) dL_whyNot_11 (fun H locs hP hD hS => ?_)
  rw [show (0 : Int32).toNatClampNeg = 0 from rfl] at hP hD
  have hP : va_P (dC, dI) vwCl (fl [outW cL qo (vp_updL fo 0 r9.toInt64), (fun (v9 : Unit) => fW cI cP a0 aN aT aS t0 t1 t2 h0 h1 pa PN PT PS f u Ps oh vh k) u9]) H := hP
  refine lv_goto (tgt := 19) hx hb dL_whyNot_12 (by decide) ?_
  refine lv_iconst (v := 0) hx hb dL_whyNot_19 (by decide) ?_
  rw [hQ]
  refine vx_ret (W.widen (k := 2) (n := 12) (Nat.le_of_ble_eq_true rfl) (Nat.le_of_ble_eq_true rfl) ?_)
  exact W.iret (v := 0) hx hb hr (fun t ht hW => ⟨⟨0, (u9, vp_updL fo 0 r9.toInt64), rfl, Or.inr ⟨r9, u9, hp9, rfl, rfl⟩, toH ht hP⟩, hS.F ht⟩) hS.2.2 dL_whyNot_20

theorem inl_ifSat {PN : PV} {g tb z : Int32} {c9 : Nat} (h : fX6_ifSat PN g tb z = Sum.inl c9) : c9 = 2 := by
  unfold fX6_ifSat at h
  try simp only [bd, bd2] at h
  repeat' split at h
  all_goals first | (cases h; done) | (cases h; decide)
abbrev rmL_ifSat : Room := { frames := 9, cells := 2, slots := 12, locals := 177 }
set_option maxHeartbeats 4000000 in
set_option maxRecDepth 100000 in
theorem mL_ifSat (l : Launch) (hst : l.stackTraces = false) (dC : Nat → ClassId) (dI : Nat → Nat → Nat) (cI cP cL : ClassId) (qL qG qo : Nat) (fo : Nat → Int64) (a0 : Nat) (aN aT aS : Nat → Nat) (t0 t1 t2 h0 h1 : Nat) (pa : Nat → Nat → Nat) (PN PT PS : PV) (f : Nat → Int32) (u : Int32) (Ps : Nat → PV) (oh vh : Nat) (k : Int32) (g tb z : Int32)  : vx_Met l yL_ifSat (wsw_ yL_ifSat cL_ifSat 6 (some .int) (ltb 12 [(15, 2)])) rmL_ifSat (pcW (dC, dI) [(cI, .int), (cP, .object "SupperSeats$Plan"), (cL, .long)] (fl [outW cL qo fo, (fW cI cP a0 aN aT aS t0 t1 t2 h0 h1 pa PN PT PS f u Ps oh vh k)]) [.ref a0, .int g, .int tb, .int z, .ref qo] cI qL qG) (va_Qi (fun (k9 : Int32) (z9 : (Unit) × (Nat → Int64)) => (∃ c9 : Nat, fX6_ifSat PN g tb z = Sum.inl c9 ∧ k9 = (if c9 = 2 then 1 else 9) ∧ z9 = ((), fo)) ∨ (∃ (r9 : Int32) (u9 : Unit), fX6_ifSat PN g tb z = Sum.inr (r9, u9) ∧ k9 = 0 ∧ z9 = (u9, vp_updL fo 0 r9.toInt64))) (fun z9 t => va_P (dC, dI) vwCl (fl [outW cL qo z9.2, (fun (v9 : Unit) => fW cI cP a0 aN aT aS t0 t1 t2 h0 h1 pa PN PT PS f u Ps oh vh k) z9.1]) t.heap) (adr (fl [outW cL qo fo, (fW cI cP a0 aN aT aS t0 t1 t2 h0 h1 pa PN PT PS f u Ps oh vh k)]))) (vx_X (fun _ : Unit => False) (fun _ _ _ => True) (adr (fl [outW cL qo fo, (fW cI cP a0 aN aT aS t0 t1 t2 h0 h1 pa PN PT PS f u Ps oh vh k)]))) 2 12 (adr (fl [outW cL qo fo, (fW cI cP a0 aN aT aS t0 t1 t2 h0 h1 pa PN PT PS f u Ps oh vh k)])) := by
  refine vx_ofWH (cc := cL_ifSat) (maxL := 6) (ret := some .int) (hh := ltb 12 [(15, 2)]) (by decide) rfl ?_
  intro p e s m args below meth c s₁ B hml hv
  obtain ⟨ha, hP, hK, hn, hD0, hX, hN, hT⟩ := hv
  have hx := B.exec
  have hb := B.bytes
  have hr := B.returns
  have hts0 := atoms_spec (ws := (wsw_ yL_ifSat cL_ifSat 6 (some .int) (ltb 12 [(15, 2)]))) B.pre
  have hts : ∀ w ∈ lw_all, w.before args s = true := fun w h => hts0 w (List.mem_cons_of_mem _ h)
  have hown : s.vm.findClass RL = some m.cls := findClass_of_methodNamed B.named
  have hlocks := B.notSynchronized
  have hT9 : c.exceptionTable.toList = tableOf (ltb 12 [(15, 2)]) := vx_table (x := yL_ifSat) B (hts0 _ List.mem_cons_self)
  have hD := adr_self hD0
  obtain ⟨A, hA⟩ : ∃ A, A = adr (fl [outW cL qo fo, (fW cI cP a0 aN aT aS t0 t1 t2 h0 h1 pa PN PT PS f u Ps oh vh k)]) := ⟨_, rfl⟩
  rw [← hA] at hD hX hT
  have hS : va_S A s.heap s.heap [] := va_S.rf
  obtain ⟨Q, hQ⟩ : ∃ Q, Q = vx_MQ below (va_Qi (fun (k9 : Int32) (z9 : (Unit) × (Nat → Int64)) => (∃ c9 : Nat, fX6_ifSat PN g tb z = Sum.inl c9 ∧ k9 = (if c9 = 2 then 1 else 9) ∧ z9 = ((), fo)) ∨ (∃ (r9 : Int32) (u9 : Unit), fX6_ifSat PN g tb z = Sum.inr (r9, u9) ∧ k9 = 0 ∧ z9 = (u9, vp_updL fo 0 r9.toInt64))) (fun z9 t => va_P (dC, dI) vwCl (fl [outW cL qo z9.2, (fun (v9 : Unit) => fW cI cP a0 aN aT aS t0 t1 t2 h0 h1 pa PN PT PS f u Ps oh vh k) z9.1]) t.heap) (adr (fl [outW cL qo fo, (fW cI cP a0 aN aT aS t0 t1 t2 h0 h1 pa PN PT PS f u Ps oh vh k)]))) (vx_X (fun _ : Unit => False) (fun _ _ _ => True) (adr (fl [outW cL qo fo, (fW cI cP a0 aN aT aS t0 t1 t2 h0 h1 pa PN PT PS f u Ps oh vh k)]))) args s 2 12 (adr (fl [outW cL qo fo, (fW cI cP a0 aN aT aS t0 t1 t2 h0 h1 pa PN PT PS f u Ps oh vh k)])) := ⟨_, rfl⟩
  rw [← hQ]
  rw [← hA] at hQ
  have hl := lv_entry ([.ref a0, .int g, .int tb, .int z, .ref qo]) (n := 6) (Nat.le_of_ble_eq_true rfl)
  rw [ha, lg_entry_eq, ← ha]
  generalize (lg_sl ([.ref a0, .int g, .int tb, .int z, .ref qo]) ++ List.replicate (6 - (lg_sl ([.ref a0, .int g, .int tb, .int z, .ref qo])).length) Slot.unset).toArray = ls at hl ⊢
  have hl : lv_has ls 6 [(0, .ref a0), (1, .int g), (2, .int tb), (3, .int z), (4, .ref qo)] := hl
  show W p l e rmL_ifSat s m args below meth c s.heap [] 0 0 Q (F0 m 0 ls [])
  refine lv_aload hx hb dL_ifSat_0 (lv_at hl 4 rfl) ?_
  refine lv_iconst (v := 0) hx hb dL_ifSat_2 (by decide) ?_
  refine lv_aload_n hx hb dL_ifSat_3 rfl (lv_at hl 0 rfl) ?_
  refine lv_iload_n hx hb dL_ifSat_4 rfl (lv_at hl 1 rfl) ?_
  refine lv_iload_n hx hb dL_ifSat_5 rfl (lv_at hl 2 rfl) ?_
  refine lv_iload_n hx hb dL_ifSat_6 rfl (lv_at hl 3 rfl) ?_
  refine k_cthr (wf := (fW cI cP a0 aN aT aS t0 t1 t2 h0 h1 pa PN PT PS f u Ps oh vh k)) (wo := outW cL qo fo) (W1 := (fun (v9 : Unit) => fW cI cP a0 aN aT aS t0 t1 t2 h0 h1 pa PN PT PS f u Ps oh vh k)) (vx_runV (As := [.int g, .int tb, .int z]) (rest := [.int 0, .ref qo]) ⟨hx, hb, hml, hown, hts0⟩ (mX6_ifSat l hst dC dI cI cP a0 aN aT aS t0 t1 t2 h0 h1 pa PN PT PS f u Ps oh vh k g tb z) (cwV 3 hts0 (gi_V u_820 u_821 u_822 u_1 u_823) rfl rfl rfl (by decide +kernel) ⟨Nat.le_of_ble_eq_true rfl, Nat.le_of_ble_eq_true rfl⟩) (pcWX hP hK hn hD hX hS rfl rfl) rfl rfl hl.1 rfl (lv_room (Nat.le_of_ble_eq_true rfl)) dL_ifSat_7 ⟨Nat.le_of_ble_eq_true rfl, Nat.le_of_ble_eq_true rfl⟩) hP hD hS (fun _ => rfl) (fun c9 ce9 q9 H locs hp9 hP hD hS he9 hv9 hc9 => ?_) (fun r9 u9 H locs hp9 hP hD hS => ?_)
  · rcases inl_ifSat hp9 with rfl
    · refine k_catch (cd := 2) (hp := 15) (en := 12) (pre := []) (suf := []) hT9 (by decide) (by decide) rfl hown hts hX hN he9 hv9 hc9 ?_
      refine lv_astore (lv' := [(5, .ref q9), (0, .ref a0), (1, .int g), (2, .int tb), (3, .int z), (4, .ref qo)]) hx hb dL_ifSat_15 hl (by decide) rfl (fun ls hl => ?_)
      refine lv_iconst (v := 1) hx hb dL_ifSat_17 (by decide) ?_
      rw [hQ]
      refine vx_ret (W.widen (k := 2) (n := 12) (Nat.le_of_ble_eq_true rfl) (Nat.le_of_ble_eq_true rfl) ?_)
      exact W.iret (v := 1) hx hb hr (fun t ht hW => ⟨⟨1, ((), fo), rfl, Or.inl ⟨2, hp9, rfl, rfl⟩, toH ht hP⟩, hS.F ht⟩) hS.2.2 dL_ifSat_18
  refine lv_i2l (v := r9.toInt64) hx hb dL_ifSat_10 rfl ?_
  refine va_last hx hb hK hP hD hS 0 2 rfl rfl (vp_in_nI (n := 0) (by decide) (by decide)) dL_ifSat_11 (fun H locs hP hD hS => ?_)
  rw [show (0 : Int32).toNatClampNeg = 0 from rfl] at hP hD
  have hP : va_P (dC, dI) vwCl (fl [outW cL qo (vp_updL fo 0 r9.toInt64), (fun (v9 : Unit) => fW cI cP a0 aN aT aS t0 t1 t2 h0 h1 pa PN PT PS f u Ps oh vh k) u9]) H := hP
  refine lv_goto (tgt := 19) hx hb dL_ifSat_12 (by decide) ?_
  refine lv_iconst (v := 0) hx hb dL_ifSat_19 (by decide) ?_
  rw [hQ]
  refine vx_ret (W.widen (k := 2) (n := 12) (Nat.le_of_ble_eq_true rfl) (Nat.le_of_ble_eq_true rfl) ?_)
  exact W.iret (v := 0) hx hb hr (fun t ht hW => ⟨⟨0, (u9, vp_updL fo 0 r9.toInt64), rfl, Or.inr ⟨r9, u9, hp9, rfl, rfl⟩, toH ht hP⟩, hS.F ht⟩) hS.2.2 dL_ifSat_20

theorem inl_bestSeat {PN : PV} {g : Int32} {c9 : Nat} (h : fX6_bestSeat PN g = Sum.inl c9) : c9 = 2 := by
  unfold fX6_bestSeat at h
  try simp only [bd, bd2] at h
  repeat' split at h
  all_goals first | (cases h; done) | (cases h; decide)
abbrev rmL_bestSeat : Room := { frames := 8, cells := 1, slots := 6, locals := 137 }
set_option maxHeartbeats 4000000 in
set_option maxRecDepth 100000 in
theorem mL_bestSeat (l : Launch) (hst : l.stackTraces = false) (dC : Nat → ClassId) (dI : Nat → Nat → Nat) (cI cP cL : ClassId) (qL qG qo : Nat) (fo : Nat → Int64) (a0 : Nat) (aN aT aS : Nat → Nat) (t0 t1 t2 h0 h1 : Nat) (pa : Nat → Nat → Nat) (PN PT PS : PV) (f : Nat → Int32) (u : Int32) (Ps : Nat → PV) (oh vh : Nat) (k : Int32) (g : Int32)  : vx_Met l yL_bestSeat (wsw_ yL_bestSeat cL_bestSeat 4 (some .int) (ltb 9 [(12, 2)])) rmL_bestSeat (pcW (dC, dI) [(cI, .int), (cP, .object "SupperSeats$Plan"), (cL, .long)] (fl [outW cL qo fo, (fW cI cP a0 aN aT aS t0 t1 t2 h0 h1 pa PN PT PS f u Ps oh vh k)]) [.ref a0, .int g, .ref qo] cI qL qG) (va_Qi (fun (k9 : Int32) (z9 : (Unit) × (Nat → Int64)) => (∃ c9 : Nat, fX6_bestSeat PN g = Sum.inl c9 ∧ k9 = (if c9 = 2 then 1 else 9) ∧ z9 = ((), fo)) ∨ (∃ (r9 : Int32) (u9 : Unit), fX6_bestSeat PN g = Sum.inr (r9, u9) ∧ k9 = 0 ∧ z9 = (u9, vp_updL fo 0 r9.toInt64))) (fun z9 t => va_P (dC, dI) vwCl (fl [outW cL qo z9.2, (fun (v9 : Unit) => fW cI cP a0 aN aT aS t0 t1 t2 h0 h1 pa PN PT PS f u Ps oh vh k) z9.1]) t.heap) (adr (fl [outW cL qo fo, (fW cI cP a0 aN aT aS t0 t1 t2 h0 h1 pa PN PT PS f u Ps oh vh k)]))) (vx_X (fun _ : Unit => False) (fun _ _ _ => True) (adr (fl [outW cL qo fo, (fW cI cP a0 aN aT aS t0 t1 t2 h0 h1 pa PN PT PS f u Ps oh vh k)]))) 1 6 (adr (fl [outW cL qo fo, (fW cI cP a0 aN aT aS t0 t1 t2 h0 h1 pa PN PT PS f u Ps oh vh k)])) := by
  refine vx_ofWH (cc := cL_bestSeat) (maxL := 4) (ret := some .int) (hh := ltb 9 [(12, 2)]) (by decide) rfl ?_
  intro p e s m args below meth c s₁ B hml hv
  obtain ⟨ha, hP, hK, hn, hD0, hX, hN, hT⟩ := hv
  have hx := B.exec
  have hb := B.bytes
  have hr := B.returns
  have hts0 := atoms_spec (ws := (wsw_ yL_bestSeat cL_bestSeat 4 (some .int) (ltb 9 [(12, 2)]))) B.pre
  have hts : ∀ w ∈ lw_all, w.before args s = true := fun w h => hts0 w (List.mem_cons_of_mem _ h)
  have hown : s.vm.findClass RL = some m.cls := findClass_of_methodNamed B.named
  have hlocks := B.notSynchronized
  have hT9 : c.exceptionTable.toList = tableOf (ltb 9 [(12, 2)]) := vx_table (x := yL_bestSeat) B (hts0 _ List.mem_cons_self)
  have hD := adr_self hD0
  obtain ⟨A, hA⟩ : ∃ A, A = adr (fl [outW cL qo fo, (fW cI cP a0 aN aT aS t0 t1 t2 h0 h1 pa PN PT PS f u Ps oh vh k)]) := ⟨_, rfl⟩
  rw [← hA] at hD hX hT
  have hS : va_S A s.heap s.heap [] := va_S.rf
  obtain ⟨Q, hQ⟩ : ∃ Q, Q = vx_MQ below (va_Qi (fun (k9 : Int32) (z9 : (Unit) × (Nat → Int64)) => (∃ c9 : Nat, fX6_bestSeat PN g = Sum.inl c9 ∧ k9 = (if c9 = 2 then 1 else 9) ∧ z9 = ((), fo)) ∨ (∃ (r9 : Int32) (u9 : Unit), fX6_bestSeat PN g = Sum.inr (r9, u9) ∧ k9 = 0 ∧ z9 = (u9, vp_updL fo 0 r9.toInt64))) (fun z9 t => va_P (dC, dI) vwCl (fl [outW cL qo z9.2, (fun (v9 : Unit) => fW cI cP a0 aN aT aS t0 t1 t2 h0 h1 pa PN PT PS f u Ps oh vh k) z9.1]) t.heap) (adr (fl [outW cL qo fo, (fW cI cP a0 aN aT aS t0 t1 t2 h0 h1 pa PN PT PS f u Ps oh vh k)]))) (vx_X (fun _ : Unit => False) (fun _ _ _ => True) (adr (fl [outW cL qo fo, (fW cI cP a0 aN aT aS t0 t1 t2 h0 h1 pa PN PT PS f u Ps oh vh k)]))) args s 1 6 (adr (fl [outW cL qo fo, (fW cI cP a0 aN aT aS t0 t1 t2 h0 h1 pa PN PT PS f u Ps oh vh k)])) := ⟨_, rfl⟩
  rw [← hQ]
  rw [← hA] at hQ
  have hl := lv_entry ([.ref a0, .int g, .ref qo]) (n := 4) (Nat.le_of_ble_eq_true rfl)
  rw [ha, lg_entry_eq, ← ha]
  generalize (lg_sl ([.ref a0, .int g, .ref qo]) ++ List.replicate (4 - (lg_sl ([.ref a0, .int g, .ref qo])).length) Slot.unset).toArray = ls at hl ⊢
  have hl : lv_has ls 4 [(0, .ref a0), (1, .int g), (2, .ref qo)] := hl
  show W p l e rmL_bestSeat s m args below meth c s.heap [] 0 0 Q (F0 m 0 ls [])
  refine lv_aload_n hx hb dL_bestSeat_0 rfl (lv_at hl 2 rfl) ?_
  refine lv_iconst (v := 0) hx hb dL_bestSeat_1 (by decide) ?_
  refine lv_aload_n hx hb dL_bestSeat_2 rfl (lv_at hl 0 rfl) ?_
  refine lv_iload_n hx hb dL_bestSeat_3 rfl (lv_at hl 1 rfl) ?_
  refine k_cthr (wf := (fW cI cP a0 aN aT aS t0 t1 t2 h0 h1 pa PN PT PS f u Ps oh vh k)) (wo := outW cL qo fo) (W1 := (fun (v9 : Unit) => fW cI cP a0 aN aT aS t0 t1 t2 h0 h1 pa PN PT PS f u Ps oh vh k)) (vx_runV (As := [.int g]) (rest := [.int 0, .ref qo]) ⟨hx, hb, hml, hown, hts0⟩ (mX6_bestSeat l hst dC dI cI cP a0 aN aT aS t0 t1 t2 h0 h1 pa PN PT PS f u Ps oh vh k g) (cwV 1 hts0 (gi_V u_832 u_833 u_834 u_1 u_835) rfl rfl rfl (by decide +kernel) ⟨Nat.le_of_ble_eq_true rfl, Nat.le_of_ble_eq_true rfl⟩) (pcWX hP hK hn hD hX hS rfl rfl) rfl rfl hl.1 rfl (lv_room (Nat.le_of_ble_eq_true rfl)) dL_bestSeat_4 ⟨Nat.le_of_ble_eq_true rfl, Nat.le_of_ble_eq_true rfl⟩) hP hD hS (fun _ => rfl) (fun c9 ce9 q9 H locs hp9 hP hD hS he9 hv9 hc9 => ?_) (fun r9 u9 H locs hp9 hP hD hS => ?_)
  · rcases inl_bestSeat hp9 with rfl
    · refine k_catch (cd := 2) (hp := 12) (en := 9) (pre := []) (suf := []) hT9 (by decide) (by decide) rfl hown hts hX hN he9 hv9 hc9 ?_
      refine lv_astore_n (lv' := [(3, .ref q9), (0, .ref a0), (1, .int g), (2, .ref qo)]) hx hb dL_bestSeat_12 rfl hl (by decide) rfl (fun ls hl => ?_)
      refine lv_iconst (v := 1) hx hb dL_bestSeat_13 (by decide) ?_
      rw [hQ]
      refine vx_ret (W.widen (k := 1) (n := 6) (Nat.le_of_ble_eq_true rfl) (Nat.le_of_ble_eq_true rfl) ?_)
      exact W.iret (v := 1) hx hb hr (fun t ht hW => ⟨⟨1, ((), fo), rfl, Or.inl ⟨2, hp9, rfl, rfl⟩, toH ht hP⟩, hS.F ht⟩) hS.2.2 dL_bestSeat_14
  refine lv_i2l (v := r9.toInt64) hx hb dL_bestSeat_7 rfl ?_
  refine va_last hx hb hK hP hD hS 0 2 rfl rfl (vp_in_nI (n := 0) (by decide) (by decide)) dL_bestSeat_8 (fun H locs hP hD hS => ?_)
  rw [show (0 : Int32).toNatClampNeg = 0 from rfl] at hP hD
  have hP : va_P (dC, dI) vwCl (fl [outW cL qo (vp_updL fo 0 r9.toInt64), (fun (v9 : Unit) => fW cI cP a0 aN aT aS t0 t1 t2 h0 h1 pa PN PT PS f u Ps oh vh k) u9]) H := hP
  refine lv_goto (tgt := 15) hx hb dL_bestSeat_9 (by decide) ?_
  refine lv_iconst (v := 0) hx hb dL_bestSeat_15 (by decide) ?_
  rw [hQ]
  refine vx_ret (W.widen (k := 1) (n := 6) (Nat.le_of_ble_eq_true rfl) (Nat.le_of_ble_eq_true rfl) ?_)
  exact W.iret (v := 0) hx hb hr (fun t ht hW => ⟨⟨0, (u9, vp_updL fo 0 r9.toInt64), rfl, Or.inr ⟨r9, u9, hp9, rfl, rfl⟩, toH ht hP⟩, hS.F ht⟩) hS.2.2 dL_bestSeat_16

theorem inl_ifFeud {PN : PV} {a b : Int32} {c9 : Nat} (h : fX6_ifFeud PN a b = Sum.inl c9) : c9 = 0 := by
  unfold fX6_ifFeud at h
  try simp only [bd, bd2] at h
  repeat' split at h
  all_goals first | (cases h; done) | (cases h; decide)
abbrev rmL_ifFeud : Room := { frames := 8, cells := 1, slots := 6, locals := 133 }
set_option maxHeartbeats 4000000 in
set_option maxRecDepth 100000 in
theorem mL_ifFeud (l : Launch) (hst : l.stackTraces = false) (dC : Nat → ClassId) (dI : Nat → Nat → Nat) (cI cP cL : ClassId) (qL qG qo : Nat) (fo : Nat → Int64) (a0 : Nat) (aN aT aS : Nat → Nat) (t0 t1 t2 h0 h1 : Nat) (pa : Nat → Nat → Nat) (PN PT PS : PV) (f : Nat → Int32) (u : Int32) (Ps : Nat → PV) (oh vh : Nat) (k : Int32) (a b : Int32)  : vx_Met l yL_ifFeud (wsw_ yL_ifFeud cL_ifFeud 5 (some .int) (ltb 10 [(13, 0)])) rmL_ifFeud (pcW (dC, dI) [(cI, .int), (cP, .object "SupperSeats$Plan"), (cL, .long)] (fl [outW cL qo fo, (fW cI cP a0 aN aT aS t0 t1 t2 h0 h1 pa PN PT PS f u Ps oh vh k)]) [.ref a0, .int a, .int b, .ref qo] cI qL qG) (va_Qi (fun (k9 : Int32) (z9 : (Unit) × (Nat → Int64)) => (∃ c9 : Nat, fX6_ifFeud PN a b = Sum.inl c9 ∧ k9 = (if c9 = 0 then 1 else 9) ∧ z9 = ((), fo)) ∨ (∃ (r9 : Int32) (u9 : Unit), fX6_ifFeud PN a b = Sum.inr (r9, u9) ∧ k9 = 0 ∧ z9 = (u9, vp_updL fo 0 r9.toInt64))) (fun z9 t => va_P (dC, dI) vwCl (fl [outW cL qo z9.2, (fun (v9 : Unit) => fW cI cP a0 aN aT aS t0 t1 t2 h0 h1 pa PN PT PS f u Ps oh vh k) z9.1]) t.heap) (adr (fl [outW cL qo fo, (fW cI cP a0 aN aT aS t0 t1 t2 h0 h1 pa PN PT PS f u Ps oh vh k)]))) (vx_X (fun _ : Unit => False) (fun _ _ _ => True) (adr (fl [outW cL qo fo, (fW cI cP a0 aN aT aS t0 t1 t2 h0 h1 pa PN PT PS f u Ps oh vh k)]))) 1 6 (adr (fl [outW cL qo fo, (fW cI cP a0 aN aT aS t0 t1 t2 h0 h1 pa PN PT PS f u Ps oh vh k)])) := by
  refine vx_ofWH (cc := cL_ifFeud) (maxL := 5) (ret := some .int) (hh := ltb 10 [(13, 0)]) (by decide) rfl ?_
  intro p e s m args below meth c s₁ B hml hv
  obtain ⟨ha, hP, hK, hn, hD0, hX, hN, hT⟩ := hv
  have hx := B.exec
  have hb := B.bytes
  have hr := B.returns
  have hts0 := atoms_spec (ws := (wsw_ yL_ifFeud cL_ifFeud 5 (some .int) (ltb 10 [(13, 0)]))) B.pre
  have hts : ∀ w ∈ lw_all, w.before args s = true := fun w h => hts0 w (List.mem_cons_of_mem _ h)
  have hown : s.vm.findClass RL = some m.cls := findClass_of_methodNamed B.named
  have hlocks := B.notSynchronized
  have hT9 : c.exceptionTable.toList = tableOf (ltb 10 [(13, 0)]) := vx_table (x := yL_ifFeud) B (hts0 _ List.mem_cons_self)
  have hD := adr_self hD0
  obtain ⟨A, hA⟩ : ∃ A, A = adr (fl [outW cL qo fo, (fW cI cP a0 aN aT aS t0 t1 t2 h0 h1 pa PN PT PS f u Ps oh vh k)]) := ⟨_, rfl⟩
  rw [← hA] at hD hX hT
  have hS : va_S A s.heap s.heap [] := va_S.rf
  obtain ⟨Q, hQ⟩ : ∃ Q, Q = vx_MQ below (va_Qi (fun (k9 : Int32) (z9 : (Unit) × (Nat → Int64)) => (∃ c9 : Nat, fX6_ifFeud PN a b = Sum.inl c9 ∧ k9 = (if c9 = 0 then 1 else 9) ∧ z9 = ((), fo)) ∨ (∃ (r9 : Int32) (u9 : Unit), fX6_ifFeud PN a b = Sum.inr (r9, u9) ∧ k9 = 0 ∧ z9 = (u9, vp_updL fo 0 r9.toInt64))) (fun z9 t => va_P (dC, dI) vwCl (fl [outW cL qo z9.2, (fun (v9 : Unit) => fW cI cP a0 aN aT aS t0 t1 t2 h0 h1 pa PN PT PS f u Ps oh vh k) z9.1]) t.heap) (adr (fl [outW cL qo fo, (fW cI cP a0 aN aT aS t0 t1 t2 h0 h1 pa PN PT PS f u Ps oh vh k)]))) (vx_X (fun _ : Unit => False) (fun _ _ _ => True) (adr (fl [outW cL qo fo, (fW cI cP a0 aN aT aS t0 t1 t2 h0 h1 pa PN PT PS f u Ps oh vh k)]))) args s 1 6 (adr (fl [outW cL qo fo, (fW cI cP a0 aN aT aS t0 t1 t2 h0 h1 pa PN PT PS f u Ps oh vh k)])) := ⟨_, rfl⟩
  rw [← hQ]
  rw [← hA] at hQ
  have hl := lv_entry ([.ref a0, .int a, .int b, .ref qo]) (n := 5) (Nat.le_of_ble_eq_true rfl)
  rw [ha, lg_entry_eq, ← ha]
  generalize (lg_sl ([.ref a0, .int a, .int b, .ref qo]) ++ List.replicate (5 - (lg_sl ([.ref a0, .int a, .int b, .ref qo])).length) Slot.unset).toArray = ls at hl ⊢
  have hl : lv_has ls 5 [(0, .ref a0), (1, .int a), (2, .int b), (3, .ref qo)] := hl
  show W p l e rmL_ifFeud s m args below meth c s.heap [] 0 0 Q (F0 m 0 ls [])
  refine lv_aload_n hx hb dL_ifFeud_0 rfl (lv_at hl 3 rfl) ?_
  refine lv_iconst (v := 0) hx hb dL_ifFeud_1 (by decide) ?_
  refine lv_aload_n hx hb dL_ifFeud_2 rfl (lv_at hl 0 rfl) ?_
  refine lv_iload_n hx hb dL_ifFeud_3 rfl (lv_at hl 1 rfl) ?_
  refine lv_iload_n hx hb dL_ifFeud_4 rfl (lv_at hl 2 rfl) ?_
  refine k_cthr (wf := (fW cI cP a0 aN aT aS t0 t1 t2 h0 h1 pa PN PT PS f u Ps oh vh k)) (wo := outW cL qo fo) (W1 := (fun (v9 : Unit) => fW cI cP a0 aN aT aS t0 t1 t2 h0 h1 pa PN PT PS f u Ps oh vh k)) (vx_runV (As := [.int a, .int b]) (rest := [.int 0, .ref qo]) ⟨hx, hb, hml, hown, hts0⟩ (mX6_ifFeud l hst dC dI cI cP a0 aN aT aS t0 t1 t2 h0 h1 pa PN PT PS f u Ps oh vh k a b) (cwV 2 hts0 (gi_V u_839 u_840 u_841 u_1 u_842) rfl rfl rfl (by decide +kernel) ⟨Nat.le_of_ble_eq_true rfl, Nat.le_of_ble_eq_true rfl⟩) (pcWX hP hK hn hD hX hS rfl rfl) rfl rfl hl.1 rfl (lv_room (Nat.le_of_ble_eq_true rfl)) dL_ifFeud_5 ⟨Nat.le_of_ble_eq_true rfl, Nat.le_of_ble_eq_true rfl⟩) hP hD hS (fun _ => rfl) (fun c9 ce9 q9 H locs hp9 hP hD hS he9 hv9 hc9 => ?_) (fun r9 u9 H locs hp9 hP hD hS => ?_)
  · rcases inl_ifFeud hp9 with rfl
    · refine k_catch (cd := 0) (hp := 13) (en := 10) (pre := []) (suf := []) hT9 (by decide) (by decide) rfl hown hts hX hN he9 hv9 hc9 ?_
      refine lv_astore (lv' := [(4, .ref q9), (0, .ref a0), (1, .int a), (2, .int b), (3, .ref qo)]) hx hb dL_ifFeud_13 hl (by decide) rfl (fun ls hl => ?_)
      refine lv_iconst (v := 1) hx hb dL_ifFeud_15 (by decide) ?_
      rw [hQ]
      refine vx_ret (W.widen (k := 1) (n := 6) (Nat.le_of_ble_eq_true rfl) (Nat.le_of_ble_eq_true rfl) ?_)
      exact W.iret (v := 1) hx hb hr (fun t ht hW => ⟨⟨1, ((), fo), rfl, Or.inl ⟨0, hp9, rfl, rfl⟩, toH ht hP⟩, hS.F ht⟩) hS.2.2 dL_ifFeud_16
  refine lv_i2l (v := r9.toInt64) hx hb dL_ifFeud_8 rfl ?_
  refine va_last hx hb hK hP hD hS 0 2 rfl rfl (vp_in_nI (n := 0) (by decide) (by decide)) dL_ifFeud_9 (fun H locs hP hD hS => ?_)
  rw [show (0 : Int32).toNatClampNeg = 0 from rfl] at hP hD
  have hP : va_P (dC, dI) vwCl (fl [outW cL qo (vp_updL fo 0 r9.toInt64), (fun (v9 : Unit) => fW cI cP a0 aN aT aS t0 t1 t2 h0 h1 pa PN PT PS f u Ps oh vh k) u9]) H := hP
  refine lv_goto (tgt := 17) hx hb dL_ifFeud_10 (by decide) ?_
  refine lv_iconst (v := 0) hx hb dL_ifFeud_17 (by decide) ?_
  rw [hQ]
  refine vx_ret (W.widen (k := 1) (n := 6) (Nat.le_of_ble_eq_true rfl) (Nat.le_of_ble_eq_true rfl) ?_)
  exact W.iret (v := 0) hx hb hr (fun t ht hW => ⟨⟨0, (u9, vp_updL fo 0 r9.toInt64), rfl, Or.inr ⟨r9, u9, hp9, rfl, rfl⟩, toH ht hP⟩, hS.F ht⟩) hS.2.2 dL_ifFeud_18

theorem inl_ifSeated {PN : PV} {PT : PV} {w : Int32} {c9 : Nat} (h : fX6_ifSeated PN PT w = Sum.inl c9) : c9 = 0 := by
  unfold fX6_ifSeated at h
  try simp only [bd, bd2] at h
  repeat' split at h
  all_goals first | (cases h; done) | (cases h; decide)
abbrev rmL_ifSeated : Room := { frames := 7, cells := 1, slots := 6, locals := 181 }
set_option maxHeartbeats 4000000 in
set_option maxRecDepth 100000 in
theorem mL_ifSeated (l : Launch) (hst : l.stackTraces = false) (dC : Nat → ClassId) (dI : Nat → Nat → Nat) (cI cP cL : ClassId) (qL qG qo : Nat) (fo : Nat → Int64) (a0 : Nat) (aN aT aS : Nat → Nat) (t0 t1 t2 h0 h1 : Nat) (pa : Nat → Nat → Nat) (PN PT PS : PV) (f : Nat → Int32) (u : Int32) (Ps : Nat → PV) (oh vh : Nat) (k : Int32) (w : Int32)  : vx_Met l yL_ifSeated (wsw_ yL_ifSeated cL_ifSeated 4 (some .int) (ltb 9 [(12, 0)])) rmL_ifSeated (pcW (dC, dI) [(cI, .int), (cP, .object "SupperSeats$Plan"), (cL, .long)] (fl [outW cL qo fo, (fW cI cP a0 aN aT aS t0 t1 t2 h0 h1 pa PN PT PS f u Ps oh vh k)]) [.ref a0, .int w, .ref qo] cI qL qG) (va_Qi (fun (k9 : Int32) (z9 : (PV) × (Nat → Int64)) => (∃ c9 : Nat, fX6_ifSeated PN PT w = Sum.inl c9 ∧ k9 = (if c9 = 0 then 1 else 9) ∧ z9 = (PT, fo)) ∨ (∃ (r9 : Int32) (u9 : PV), fX6_ifSeated PN PT w = Sum.inr (r9, u9) ∧ k9 = 0 ∧ z9 = (u9, vp_updL fo 0 r9.toInt64))) (fun z9 t => va_P (dC, dI) vwCl (fl [outW cL qo z9.2, (fun (v9 : PV) => fW cI cP a0 aN aT aS t0 t1 t2 h0 h1 pa PN v9 PS f u Ps oh vh k) z9.1]) t.heap) (adr (fl [outW cL qo fo, (fW cI cP a0 aN aT aS t0 t1 t2 h0 h1 pa PN PT PS f u Ps oh vh k)]))) (vx_X (fun _ : Unit => False) (fun _ _ _ => True) (adr (fl [outW cL qo fo, (fW cI cP a0 aN aT aS t0 t1 t2 h0 h1 pa PN PT PS f u Ps oh vh k)]))) 1 6 (adr (fl [outW cL qo fo, (fW cI cP a0 aN aT aS t0 t1 t2 h0 h1 pa PN PT PS f u Ps oh vh k)])) := by
  refine vx_ofWH (cc := cL_ifSeated) (maxL := 4) (ret := some .int) (hh := ltb 9 [(12, 0)]) (by decide) rfl ?_
  intro p e s m args below meth c s₁ B hml hv
  obtain ⟨ha, hP, hK, hn, hD0, hX, hN, hT⟩ := hv
  have hx := B.exec
  have hb := B.bytes
  have hr := B.returns
  have hts0 := atoms_spec (ws := (wsw_ yL_ifSeated cL_ifSeated 4 (some .int) (ltb 9 [(12, 0)]))) B.pre
  have hts : ∀ w ∈ lw_all, w.before args s = true := fun w h => hts0 w (List.mem_cons_of_mem _ h)
  have hown : s.vm.findClass RL = some m.cls := findClass_of_methodNamed B.named
  have hlocks := B.notSynchronized
  have hT9 : c.exceptionTable.toList = tableOf (ltb 9 [(12, 0)]) := vx_table (x := yL_ifSeated) B (hts0 _ List.mem_cons_self)
  have hD := adr_self hD0
  obtain ⟨A, hA⟩ : ∃ A, A = adr (fl [outW cL qo fo, (fW cI cP a0 aN aT aS t0 t1 t2 h0 h1 pa PN PT PS f u Ps oh vh k)]) := ⟨_, rfl⟩
  rw [← hA] at hD hX hT
  have hS : va_S A s.heap s.heap [] := va_S.rf
  obtain ⟨Q, hQ⟩ : ∃ Q, Q = vx_MQ below (va_Qi (fun (k9 : Int32) (z9 : (PV) × (Nat → Int64)) => (∃ c9 : Nat, fX6_ifSeated PN PT w = Sum.inl c9 ∧ k9 = (if c9 = 0 then 1 else 9) ∧ z9 = (PT, fo)) ∨ (∃ (r9 : Int32) (u9 : PV), fX6_ifSeated PN PT w = Sum.inr (r9, u9) ∧ k9 = 0 ∧ z9 = (u9, vp_updL fo 0 r9.toInt64))) (fun z9 t => va_P (dC, dI) vwCl (fl [outW cL qo z9.2, (fun (v9 : PV) => fW cI cP a0 aN aT aS t0 t1 t2 h0 h1 pa PN v9 PS f u Ps oh vh k) z9.1]) t.heap) (adr (fl [outW cL qo fo, (fW cI cP a0 aN aT aS t0 t1 t2 h0 h1 pa PN PT PS f u Ps oh vh k)]))) (vx_X (fun _ : Unit => False) (fun _ _ _ => True) (adr (fl [outW cL qo fo, (fW cI cP a0 aN aT aS t0 t1 t2 h0 h1 pa PN PT PS f u Ps oh vh k)]))) args s 1 6 (adr (fl [outW cL qo fo, (fW cI cP a0 aN aT aS t0 t1 t2 h0 h1 pa PN PT PS f u Ps oh vh k)])) := ⟨_, rfl⟩
  rw [← hQ]
  rw [← hA] at hQ
  have hl := lv_entry ([.ref a0, .int w, .ref qo]) (n := 4) (Nat.le_of_ble_eq_true rfl)
  rw [ha, lg_entry_eq, ← ha]
  generalize (lg_sl ([.ref a0, .int w, .ref qo]) ++ List.replicate (4 - (lg_sl ([.ref a0, .int w, .ref qo])).length) Slot.unset).toArray = ls at hl ⊢
  have hl : lv_has ls 4 [(0, .ref a0), (1, .int w), (2, .ref qo)] := hl
  show W p l e rmL_ifSeated s m args below meth c s.heap [] 0 0 Q (F0 m 0 ls [])
  refine lv_aload_n hx hb dL_ifSeated_0 rfl (lv_at hl 2 rfl) ?_
  refine lv_iconst (v := 0) hx hb dL_ifSeated_1 (by decide) ?_
  refine lv_aload_n hx hb dL_ifSeated_2 rfl (lv_at hl 0 rfl) ?_
  refine lv_iload_n hx hb dL_ifSeated_3 rfl (lv_at hl 1 rfl) ?_
  refine k_cthr (wf := (fW cI cP a0 aN aT aS t0 t1 t2 h0 h1 pa PN PT PS f u Ps oh vh k)) (wo := outW cL qo fo) (W1 := (fun (v9 : PV) => fW cI cP a0 aN aT aS t0 t1 t2 h0 h1 pa PN v9 PS f u Ps oh vh k)) (vx_runV (As := [.int w]) (rest := [.int 0, .ref qo]) ⟨hx, hb, hml, hown, hts0⟩ (mX6_ifSeated l hst dC dI cI cP a0 aN aT aS t0 t1 t2 h0 h1 pa PN PT PS f u Ps oh vh k w) (cwV 1 hts0 (gi_V u_846 u_847 u_848 u_1 u_849) rfl rfl rfl (by decide +kernel) ⟨Nat.le_of_ble_eq_true rfl, Nat.le_of_ble_eq_true rfl⟩) (pcWX hP hK hn hD hX hS rfl rfl) rfl rfl hl.1 rfl (lv_room (Nat.le_of_ble_eq_true rfl)) dL_ifSeated_4 ⟨Nat.le_of_ble_eq_true rfl, Nat.le_of_ble_eq_true rfl⟩) hP hD hS (fun _ => rfl) (fun c9 ce9 q9 H locs hp9 hP hD hS he9 hv9 hc9 => ?_) (fun r9 u9 H locs hp9 hP hD hS => ?_)
  · rcases inl_ifSeated hp9 with rfl
    · refine k_catch (cd := 0) (hp := 12) (en := 9) (pre := []) (suf := []) hT9 (by decide) (by decide) rfl hown hts hX hN he9 hv9 hc9 ?_
      refine lv_astore_n (lv' := [(3, .ref q9), (0, .ref a0), (1, .int w), (2, .ref qo)]) hx hb dL_ifSeated_12 rfl hl (by decide) rfl (fun ls hl => ?_)
      refine lv_iconst (v := 1) hx hb dL_ifSeated_13 (by decide) ?_
      rw [hQ]
      refine vx_ret (W.widen (k := 1) (n := 6) (Nat.le_of_ble_eq_true rfl) (Nat.le_of_ble_eq_true rfl) ?_)
      exact W.iret (v := 1) hx hb hr (fun t ht hW => ⟨⟨1, (PT, fo), rfl, Or.inl ⟨0, hp9, rfl, rfl⟩, toH ht hP⟩, hS.F ht⟩) hS.2.2 dL_ifSeated_14
  refine lv_i2l (v := r9.toInt64) hx hb dL_ifSeated_7 rfl ?_
  refine va_last hx hb hK hP hD hS 0 2 rfl rfl (vp_in_nI (n := 0) (by decide) (by decide)) dL_ifSeated_8 (fun H locs hP hD hS => ?_)
  rw [show (0 : Int32).toNatClampNeg = 0 from rfl] at hP hD
  have hP : va_P (dC, dI) vwCl (fl [outW cL qo (vp_updL fo 0 r9.toInt64), (fun (v9 : PV) => fW cI cP a0 aN aT aS t0 t1 t2 h0 h1 pa PN v9 PS f u Ps oh vh k) u9]) H := hP
  refine lv_goto (tgt := 15) hx hb dL_ifSeated_9 (by decide) ?_
  refine lv_iconst (v := 0) hx hb dL_ifSeated_15 (by decide) ?_
  rw [hQ]
  refine vx_ret (W.widen (k := 1) (n := 6) (Nat.le_of_ble_eq_true rfl) (Nat.le_of_ble_eq_true rfl) ?_)
  exact W.iret (v := 0) hx hb hr (fun t ht hW => ⟨⟨0, (u9, vp_updL fo 0 r9.toInt64), rfl, Or.inr ⟨r9, u9, hp9, rfl, rfl⟩, toH ht hP⟩, hS.F ht⟩) hS.2.2 dL_ifSeated_16
