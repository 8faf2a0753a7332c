def fX1_length (n : Nat) (f : Nat → Int32) (u : Int32) : Int32 :=
  u
abbrev rmX1_length : Room := { frames := 0, cells := 0, slots := 0, locals := 0 }
set_option maxHeartbeats 4000000 in
set_option maxRecDepth 100000 in
theorem mX1_length (l : Launch) (dC : Nat → ClassId) (dI : Nat → Nat → Nat) (cI : ClassId) (q0 q1 n : Nat) (hn9 : n < 2 ^ 31) (f : Nat → Int32) (u : Int32) : Met l yX1_length (ws_ yX1_length cX1_length 1 (some .int)) rmX1_length (pcR (dC, dI) [(cI, .int)] (lW cI q0 q1 n f u) [.ref q0]) (vp_Si (fun r => r = fX1_length n f u)) 0 0 (fun _ => False) := by
  refine Met.ofW (cc := cX1_length) (maxL := 1) (ret := (some .int)) (by decide) rfl ?_
  intro p e s m args below meth c s₁ B hml hv
  obtain ⟨ha, hP, hK, hn⟩ := hv
  have hx := B.exec
  have hb := B.bytes
  have hr := B.returns
  have hts0 := atoms_spec (ws := (ws_ yX1_length cX1_length 1 (some .int))) B.pre
  have hts : ∀ w ∈ lw_all, w.before args s = true := fun w h => hts0 w (List.mem_cons_of_mem _ h)
  have hown : s.vm.findClass RX1 = some m.cls := findClass_of_methodNamed B.named
  have hlocks := B.notSynchronized
  have htX1 : ∀ w ∈ wsX10, w.before args s = true := fun w h => hts w (wX1 w h)
  obtain ⟨Q, hQ⟩ : ∃ Q, Q = MQ below (vp_Si (fun r => r = fX1_length n f u)) args s 0 0 (fun _ => False) := ⟨_, rfl⟩
  rw [← hQ]
  have hl := lv_entry ([.ref q0]) (n := 1) (Nat.le_of_ble_eq_true rfl)
  rw [ha, lg_entry_eq, ← ha]
  generalize (lg_sl ([.ref q0]) ++ List.replicate (1 - (lg_sl ([.ref q0])).length) Slot.unset).toArray = ls at hl ⊢
  have hl : lv_has ls 1 [(0, .ref q0)] := hl
  show W p l e rmX1_length s m args below meth c s.heap [] 0 0 Q (F0 m 0 ls [])
  have hF : fX1_length n f u = fX1_length n f u := rfl
  refine lv_aload_n hx hb dX1_length_0 rfl (lv_at hl 0 rfl) ?_
  refine va_get (D := (dC, dI)) (ci := 1) (v := .int u) (C := RX1) (T := TX1) (N := 2) hx hb htX1 (fun _ h => h) hown hK hP 0 rfl rfl 1 (by decide) (hts _ u_39) (fun _ h9 => h9) rfl dX1_length_1 ?_
  rw [hQ]
  exact W.iret (v := u) hx hb hr (fun t ht hW => ⟨u, rfl, hF.symm, ht⟩) (fun q hq => absurd hq List.not_mem_nil) dX1_length_4

def fX1_isFull (n : Nat) (f : Nat → Int32) (u : Int32) : Int32 :=
  (if u < (nI n) then 0 else 1)
abbrev rmX1_isFull : Room := { frames := 0, cells := 0, slots := 0, locals := 0 }
set_option maxHeartbeats 4000000 in
set_option maxRecDepth 100000 in
theorem mX1_isFull (l : Launch) (dC : Nat → ClassId) (dI : Nat → Nat → Nat) (cI : ClassId) (q0 q1 n : Nat) (hn9 : n < 2 ^ 31) (f : Nat → Int32) (u : Int32) : Met l yX1_isFull (ws_ yX1_isFull cX1_isFull 1 (some .boolean)) rmX1_isFull (pcR (dC, dI) [(cI, .int)] (lW cI q0 q1 n f u) [.ref q0]) (vp_Si (fun r => r = fX1_isFull n f u ∧ (r = 0 ∨ r = 1))) 0 0 (fun _ => False) := by
  refine Met.ofW (cc := cX1_isFull) (maxL := 1) (ret := (some .boolean)) (by decide) rfl ?_
  intro p e s m args below meth c s₁ B hml hv
  obtain ⟨ha, hP, hK, hn⟩ := hv
  have hx := B.exec
  have hb := B.bytes
  have hr := B.returns
  have hts0 := atoms_spec (ws := (ws_ yX1_isFull cX1_isFull 1 (some .boolean))) B.pre
  have hts : ∀ w ∈ lw_all, w.before args s = true := fun w h => hts0 w (List.mem_cons_of_mem _ h)
  have hown : s.vm.findClass RX1 = some m.cls := findClass_of_methodNamed B.named
  have hlocks := B.notSynchronized
  have htX1 : ∀ w ∈ wsX10, w.before args s = true := fun w h => hts w (wX1 w h)
  obtain ⟨Q, hQ⟩ : ∃ Q, Q = MQ below (vp_Si (fun r => r = fX1_isFull n f u ∧ (r = 0 ∨ r = 1))) args s 0 0 (fun _ => False) := ⟨_, rfl⟩
  rw [← hQ]
  have hl := lv_entry ([.ref q0]) (n := 1) (Nat.le_of_ble_eq_true rfl)
  rw [ha, lg_entry_eq, ← ha]
  generalize (lg_sl ([.ref q0]) ++ List.replicate (1 - (lg_sl ([.ref q0])).length) Slot.unset).toArray = ls at hl ⊢
  have hl : lv_has ls 1 [(0, .ref q0)] := hl
  show W p l e rmX1_isFull s m args below meth c s.heap [] 0 0 Q (F0 m 0 ls [])
  have hF : fX1_isFull n f u = fX1_isFull n f u := rfl
  refine lv_aload_n hx hb dX1_isFull_0 rfl (lv_at hl 0 rfl) ?_
  refine va_get (D := (dC, dI)) (ci := 1) (v := .int u) (C := RX1) (T := TX1) (N := 2) hx hb htX1 (fun _ h => h) hown hK hP 0 rfl rfl 1 (by decide) (hts _ u_39) (fun _ h9 => h9) rfl dX1_isFull_1 ?_
  refine lv_aload_n hx hb dX1_isFull_4 rfl (lv_at hl 0 rfl) ?_
  refine va_get (D := (dC, dI)) (ci := 1) (v := .ref q1) (C := RX1) (T := TX1) (N := 2) hx hb htX1 (fun _ h => h) hown hK hP 0 rfl rfl 0 (by decide) (hts _ u_38) (fun _ h9 => h9) rfl dX1_isFull_5 ?_
  refine va_alen (v := (nI n)) hx hb hK hP 1 0 rfl rfl rfl dX1_isFull_8 ?_
  refine lv_icmp_lt (tgt := 16) hx hb dX1_isFull_9 (by decide) (fun c_9 => ?_) (fun c_9 => ?_)
  · have hF := hF.trans (if_pos c_9)
    refine lv_iconst (v := 0) hx hb dX1_isFull_16 (by decide) ?_
    rw [hQ]
    exact W.zret (ty := .boolean) (v := 0) hx hb hr rfl (fun t ht hW => ⟨0, rfl, ⟨hF.symm, Or.inl rfl⟩, ht⟩) (fun q hq => absurd hq List.not_mem_nil) dX1_isFull_17
  have hF := hF.trans (if_neg c_9)
  refine lv_iconst (v := 1) hx hb dX1_isFull_12 (by decide) ?_
  refine lv_goto (tgt := 17) hx hb dX1_isFull_13 (by decide) ?_
  rw [hQ]
  exact W.zret (ty := .boolean) (v := 1) hx hb hr rfl (fun t ht hW => ⟨1, rfl, ⟨hF.symm, Or.inr rfl⟩, ht⟩) (fun q hq => absurd hq List.not_mem_nil) dX1_isFull_17

def fX1_itemAt (n : Nat) (f : Nat → Int32) (u : Int32) (i : Int32) : Int32 :=
  (if i < 0 then (-1) else (if u ≤ i then (-1) else (if (nI n) ≤ i then (-1) else (f i.toNatClampNeg))))
abbrev rmX1_itemAt : Room := { frames := 0, cells := 0, slots := 0, locals := 0 }
set_option maxHeartbeats 4000000 in
set_option maxRecDepth 100000 in
theorem mX1_itemAt (l : Launch) (dC : Nat → ClassId) (dI : Nat → Nat → Nat) (cI : ClassId) (q0 q1 n : Nat) (hn9 : n < 2 ^ 31) (f : Nat → Int32) (u : Int32) (i : Int32) : Met l yX1_itemAt (ws_ yX1_itemAt cX1_itemAt 2 (some .int)) rmX1_itemAt (pcR (dC, dI) [(cI, .int)] (lW cI q0 q1 n f u) [.ref q0, .int i]) (vp_Si (fun r => r = fX1_itemAt n f u i)) 0 0 (fun _ => False) := by
  refine Met.ofW (cc := cX1_itemAt) (maxL := 2) (ret := (some .int)) (by decide) rfl ?_
  intro p e s m args below meth c s₁ B hml hv
  obtain ⟨ha, hP, hK, hn⟩ := hv
  have hx := B.exec
  have hb := B.bytes
  have hr := B.returns
  have hts0 := atoms_spec (ws := (ws_ yX1_itemAt cX1_itemAt 2 (some .int))) B.pre
  have hts : ∀ w ∈ lw_all, w.before args s = true := fun w h => hts0 w (List.mem_cons_of_mem _ h)
  have hown : s.vm.findClass RX1 = some m.cls := findClass_of_methodNamed B.named
  have hlocks := B.notSynchronized
  have htX1 : ∀ w ∈ wsX10, w.before args s = true := fun w h => hts w (wX1 w h)
  obtain ⟨Q, hQ⟩ : ∃ Q, Q = MQ below (vp_Si (fun r => r = fX1_itemAt n f u i)) args s 0 0 (fun _ => False) := ⟨_, rfl⟩
  rw [← hQ]
  have hl := lv_entry ([.ref q0, .int i]) (n := 2) (Nat.le_of_ble_eq_true rfl)
  rw [ha, lg_entry_eq, ← ha]
  generalize (lg_sl ([.ref q0, .int i]) ++ List.replicate (2 - (lg_sl ([.ref q0, .int i])).length) Slot.unset).toArray = ls at hl ⊢
  have hl : lv_has ls 2 [(0, .ref q0), (1, .int i)] := hl
  show W p l e rmX1_itemAt s m args below meth c s.heap [] 0 0 Q (F0 m 0 ls [])
  have hF : fX1_itemAt n f u i = fX1_itemAt n f u i := rfl
  refine lv_iload_n hx hb dX1_itemAt_0 rfl (lv_at hl 1 rfl) ?_
  refine lv_if_lt (tgt := 30) hx hb dX1_itemAt_1 (by decide) (fun c_1 => ?_) (fun c_1 => ?_)
  · have hF := hF.trans (if_pos c_1)
    refine lv_iconst (v := (-1)) hx hb dX1_itemAt_30 (by decide) ?_
    rw [hQ]
    exact W.iret (v := (-1)) hx hb hr (fun t ht hW => ⟨(-1), rfl, hF.symm, ht⟩) (fun q hq => absurd hq List.not_mem_nil) dX1_itemAt_31
  have hF := hF.trans (if_neg c_1)
  refine lv_iload_n hx hb dX1_itemAt_4 rfl (lv_at hl 1 rfl) ?_
  refine lv_aload_n hx hb dX1_itemAt_5 rfl (lv_at hl 0 rfl) ?_
  refine va_get (D := (dC, dI)) (ci := 1) (v := .int u) (C := RX1) (T := TX1) (N := 2) hx hb htX1 (fun _ h => h) hown hK hP 0 rfl rfl 1 (by decide) (hts _ u_39) (fun _ h9 => h9) rfl dX1_itemAt_6 ?_
  refine lv_icmp_ge (tgt := 30) hx hb dX1_itemAt_9 (by decide) (fun c_9 => ?_) (fun c_9 => ?_)
  · have hF := hF.trans (if_pos c_9)
    refine lv_iconst (v := (-1)) hx hb dX1_itemAt_30 (by decide) ?_
    rw [hQ]
    exact W.iret (v := (-1)) hx hb hr (fun t ht hW => ⟨(-1), rfl, hF.symm, ht⟩) (fun q hq => absurd hq List.not_mem_nil) dX1_itemAt_31
  have hF := hF.trans (if_neg c_9)
  refine lv_iload_n hx hb dX1_itemAt_12 rfl (lv_at hl 1 rfl) ?_
  refine lv_aload_n hx hb dX1_itemAt_13 rfl (lv_at hl 0 rfl) ?_
  refine va_get (D := (dC, dI)) (ci := 1) (v := .ref q1) (C := RX1) (T := TX1) (N := 2) hx hb htX1 (fun _ h => h) hown hK hP 0 rfl rfl 0 (by decide) (hts _ u_38) (fun _ h9 => h9) rfl dX1_itemAt_14 ?_
  refine va_alen (v := (nI n)) hx hb hK hP 1 0 rfl rfl rfl dX1_itemAt_17 ?_
  refine lv_icmp_ge (tgt := 30) hx hb dX1_itemAt_18 (by decide) (fun c_18 => ?_) (fun c_18 => ?_)
  · have hF := hF.trans (if_pos c_18)
    refine lv_iconst (v := (-1)) hx hb dX1_itemAt_30 (by decide) ?_
    rw [hQ]
    exact W.iret (v := (-1)) hx hb hr (fun t ht hW => ⟨(-1), rfl, hF.symm, ht⟩) (fun q hq => absurd hq List.not_mem_nil) dX1_itemAt_31
  have hF := hF.trans (if_neg c_18)
  refine lv_aload_n hx hb dX1_itemAt_21 rfl (lv_at hl 0 rfl) ?_
  refine va_get (D := (dC, dI)) (ci := 1) (v := .ref q1) (C := RX1) (T := TX1) (N := 2) hx hb htX1 (fun _ h => h) hown hK hP 0 rfl rfl 0 (by decide) (hts _ u_38) (fun _ h9 => h9) rfl dX1_itemAt_22 ?_
  refine lv_iload_n hx hb dX1_itemAt_25 rfl (lv_at hl 1 rfl) ?_
  refine va_iald hx hb hK hP 1 0 rfl rfl (vin hn9 c_1 c_18) dX1_itemAt_26 ?_
  refine lv_goto (tgt := 31) hx hb dX1_itemAt_27 (by decide) ?_
  rw [hQ]
  exact W.iret (v := (f i.toNatClampNeg)) hx hb hr (fun t ht hW => ⟨(f i.toNatClampNeg), rfl, hF.symm, ht⟩) (fun q hq => absurd hq List.not_mem_nil) dX1_itemAt_31

def fX1_holds_b2 (n : Nat) (f : Nat → Int32) (u : Int32) (v : Int32) (kk2 : Nat) (nextkk2 : Int32) : Int32 :=
  (if (fX1_itemAt n f u (nI kk2)) = v then 1 else nextkk2)
def fX1_holds_r2 : Int32 :=
  0
def fX1_holds (n : Nat) (f : Nat → Int32) (u : Int32) (v : Int32) : Int32 :=
  (lq0 (fX1_holds_b2 n f u v) fX1_holds_r2 u.toNatClampNeg 0)
abbrev rmX1_holds : Room := { frames := 1, cells := 0, slots := 0, locals := 21 }
set_option maxHeartbeats 4000000 in
set_option maxRecDepth 100000 in
theorem mX1_holds (l : Launch) (dC : Nat → ClassId) (dI : Nat → Nat → Nat) (cI : ClassId) (q0 q1 n : Nat) (hn9 : n < 2 ^ 31) (f : Nat → Int32) (u : Int32) (v : Int32) : Met l yX1_holds (ws_ yX1_holds cX1_holds 3 (some .boolean)) rmX1_holds (pcR (dC, dI) [(cI, .int)] (lW cI q0 q1 n f u) [.ref q0, .int v]) (vp_Si (fun r => r = fX1_holds n f u v ∧ (r = 0 ∨ r = 1))) 0 0 (fun _ => False) := by
  refine Met.ofW (cc := cX1_holds) (maxL := 3) (ret := (some .boolean)) (by decide) rfl ?_
  intro p e s m args below meth c s₁ B hml hv
  obtain ⟨ha, hP, hK, hn⟩ := hv
  have hx := B.exec
  have hb := B.bytes
  have hr := B.returns
  have hts0 := atoms_spec (ws := (ws_ yX1_holds cX1_holds 3 (some .boolean))) B.pre
  have hts : ∀ w ∈ lw_all, w.before args s = true := fun w h => hts0 w (List.mem_cons_of_mem _ h)
  have hown : s.vm.findClass RX1 = some m.cls := findClass_of_methodNamed B.named
  have hlocks := B.notSynchronized
  have htX1 : ∀ w ∈ wsX10, w.before args s = true := fun w h => hts w (wX1 w h)
  obtain ⟨Q, hQ⟩ : ∃ Q, Q = MQ below (vp_Si (fun r => r = fX1_holds n f u v ∧ (r = 0 ∨ r = 1))) args s 0 0 (fun _ => False) := ⟨_, rfl⟩
  rw [← hQ]
  have hl := lv_entry ([.ref q0, .int v]) (n := 3) (Nat.le_of_ble_eq_true rfl)
  rw [ha, lg_entry_eq, ← ha]
  generalize (lg_sl ([.ref q0, .int v]) ++ List.replicate (3 - (lg_sl ([.ref q0, .int v])).length) Slot.unset).toArray = ls at hl ⊢
  have hl : lv_has ls 3 [(0, .ref q0), (1, .int v)] := hl
  show W p l e rmX1_holds s m args below meth c s.heap [] 0 0 Q (F0 m 0 ls [])
  have hF : fX1_holds n f u v = fX1_holds n f u v := rfl
  refine lv_iconst (v := 0) hx hb dX1_holds_0 (by decide) ?_
  refine lv_istore_n (lv' := [(2, .int 0), (0, .ref q0), (1, .int v)]) hx hb dX1_holds_1 rfl hl (by decide) rfl (fun ls hl => ?_)
  have L2 : ∀ (jj2 kk2 : Nat), kk2 + jj2 = u.toNatClampNeg → fX1_holds n f u v = lq0 (fX1_holds_b2 n f u v) fX1_holds_r2 jj2 kk2 → ∀ (ls : Array Slot), lv_has ls 3 [(2, .int (nI kk2)), (0, .ref q0), (1, .int v)] → W p l e rmX1_holds s m args below meth c s.heap [] 0 0 Q (F0 m 2 ls []) := by
    intro jj2
    induction jj2 using Nat.strongRecOn with
    | _ jj2 ihkk2 =>
      intro kk2 hkkk2 hF  ls hl
      refine lv_iload_n hx hb dX1_holds_2 rfl (lv_at hl 0 rfl) ?_
      refine lv_aload_n hx hb dX1_holds_3 rfl (lv_at hl 1 rfl) ?_
      refine va_get (D := (dC, dI)) (ci := 1) (v := .int u) (C := RX1) (T := TX1) (N := 2) hx hb htX1 (fun _ h => h) hown hK hP 0 rfl rfl 1 (by decide) (hts _ u_39) (fun _ h9 => h9) rfl dX1_holds_4 ?_
      refine lv_icmp_ge (tgt := 27) hx hb dX1_holds_7 (by decide) (fun c_7 => ?_) (fun c_7 => ?_)
      · obtain rfl := cn_exit hkkk2 c_7
        have hF := hF.trans (lq0_z _ _ _)
        refine lv_iconst (v := 0) hx hb dX1_holds_27 (by decide) ?_
        rw [hQ]
        exact W.zret (ty := .boolean) (v := 0) hx hb hr rfl (fun t ht hW => ⟨0, rfl, ⟨hF.symm, Or.inl rfl⟩, ht⟩) (fun q hq => absurd hq List.not_mem_nil) dX1_holds_28
      obtain ⟨jj2, rfl⟩ := cn_go hkkk2 c_7
      have hF := hF.trans (lq0_s _ _ _ _)
      obtain ⟨nextkk2, hnextkk2⟩ : ∃ y9, y9 = lq0 (fX1_holds_b2 n f u v) fX1_holds_r2 jj2 (kk2 + 1) := ⟨_, rfl⟩
      rw [← hnextkk2] at hF
      refine lv_aload_n hx hb dX1_holds_10 rfl (lv_at hl 1 rfl) ?_
      refine lv_iload_n hx hb dX1_holds_11 rfl (lv_at hl 0 rfl) ?_
      refine k_calli (W.runV (As := [.int (nI kk2)]) (rest := []) ⟨hx, hb, hml, hown, hts0⟩ (mX1_itemAt l dC dI cI q0 q1 n hn9 f u (nI kk2)) (cwV 1 hts0 (gi_V u_518 u_435 u_436 u_3 u_437) rfl rfl rfl (by decide +kernel) ⟨Nat.le_of_ble_eq_true rfl, Nat.le_of_ble_eq_true rfl⟩) (pcR_V (ci := 1) (q0 := 0) hP hK hn rfl rfl) rfl rfl hl.1 rfl (lv_room (Nat.le_of_ble_eq_true rfl)) dX1_holds_12 ⟨Nat.zero_le _, Nat.zero_le _⟩) ?_
      refine lv_iload_n hx hb dX1_holds_15 rfl (lv_at hl 2 rfl) ?_
      refine lv_icmp_ne (tgt := 21) hx hb dX1_holds_16 (by decide) (fun c_16 => ?_) (fun c_16 => ?_)
      · have hF := hF.trans (if_neg c_16)
        refine lv_iinc (v := (nI (kk2 + 1))) (lv' := [(2, .int (nI (kk2 + 1))), (0, .ref q0), (1, .int v)]) hx hb dX1_holds_21 hl (k := 0) rfl (nI_1 _) (by decide) rfl (fun ls hl => ?_)
        refine lv_goto (tgt := 2) hx hb dX1_holds_24 (by decide) ?_
        have hF : fX1_holds n f u v = nextkk2 := hF
        rw [hnextkk2] at hF
        exact ihkk2 jj2 (Nat.lt_succ_self _) (kk2 + 1) (cn_next hkkk2) hF ls (lv_sub hl [0, 1, 2] rfl)
      have hF := hF.trans (if_pos c_16)
      refine lv_iconst (v := 1) hx hb dX1_holds_19 (by decide) ?_
      rw [hQ]
      exact W.zret (ty := .boolean) (v := 1) hx hb hr rfl (fun t ht hW => ⟨1, rfl, ⟨hF.symm, Or.inr rfl⟩, ht⟩) (fun q hq => absurd hq List.not_mem_nil) dX1_holds_20
  exact L2 u.toNatClampNeg 0 (Nat.zero_add _) hF ls (lv_sub hl [0, 1, 2] rfl)

def fX1_addLast (n : Nat) (f : Nat → Int32) (u : Int32) (v : Int32) : (Nat → Int32) × Int32 :=
  (if (fX1_isFull n f u) = 0 then (bd (fX3_put n f u v) (fun U16 => (U16, (u + 1)))) else (f, u))
abbrev rmX1_addLast : Room := { frames := 1, cells := 0, slots := 0, locals := 22 }
set_option maxHeartbeats 4000000 in
set_option maxRecDepth 100000 in
theorem mX1_addLast (l : Launch) (dC : Nat → ClassId) (dI : Nat → Nat → Nat) (cI : ClassId) (q0 q1 n : Nat) (hn9 : n < 2 ^ 31) (f : Nat → Int32) (u : Int32) (v : Int32) : Met l yX1_addLast (ws_ yX1_addLast cX1_addLast 2 none) rmX1_addLast (pcM (dC, dI) [(cI, .int)] (lW cI q0 q1 n f u) [.ref q0, .int v]) (va_Qv (fun (u9 : (Nat → Int32) × Int32) => u9 = fX1_addLast n f u v) (fun u9 t => va_P (dC, dI) vwCl ((fun (v : (Nat → Int32) × Int32) => lW cI q0 q1 n v.1 v.2) u9) t.heap) (adr (lW cI q0 q1 n f u))) 0 0 (adr (lW cI q0 q1 n f u)) := by
  refine Met.ofW (cc := cX1_addLast) (maxL := 2) (ret := none) (by decide) rfl ?_
  intro p e s m args below meth c s₁ B hml hv
  obtain ⟨ha, hP, hK, hn, hD0⟩ := hv
  have hx := B.exec
  have hb := B.bytes
  have hr := B.returns
  have hts0 := atoms_spec (ws := (ws_ yX1_addLast cX1_addLast 2 none)) B.pre
  have hts : ∀ w ∈ lw_all, w.before args s = true := fun w h => hts0 w (List.mem_cons_of_mem _ h)
  have hown : s.vm.findClass RX1 = some m.cls := findClass_of_methodNamed B.named
  have hlocks := B.notSynchronized
  have htX1 : ∀ w ∈ wsX10, w.before args s = true := fun w h => hts w (wX1 w h)
  have hD := adr_self hD0
  obtain ⟨A, hA⟩ : ∃ A, A = adr (lW cI q0 q1 n f u) := ⟨_, rfl⟩
  rw [← hA] at hD
  have hS : va_S A s.heap s.heap [] := va_S.rf
  obtain ⟨Q, hQ⟩ : ∃ Q, Q = MQ below (va_Qv (fun (u9 : (Nat → Int32) × Int32) => u9 = fX1_addLast n f u v) (fun u9 t => va_P (dC, dI) vwCl ((fun (v : (Nat → Int32) × Int32) => lW cI q0 q1 n v.1 v.2) u9) t.heap) (adr (lW cI q0 q1 n f u))) args s 0 0 (adr (lW cI q0 q1 n f u)) := ⟨_, rfl⟩
  rw [← hQ]
  rw [← hA] at hQ
  have hl := lv_entry ([.ref q0, .int v]) (n := 2) (Nat.le_of_ble_eq_true rfl)
  rw [ha, lg_entry_eq, ← ha]
  generalize (lg_sl ([.ref q0, .int v]) ++ List.replicate (2 - (lg_sl ([.ref q0, .int v])).length) Slot.unset).toArray = ls at hl ⊢
  have hl : lv_has ls 2 [(0, .ref q0), (1, .int v)] := hl
  show W p l e rmX1_addLast s m args below meth c s.heap [] 0 0 Q (F0 m 0 ls [])
  have hF : fX1_addLast n f u v = fX1_addLast n f u v := rfl
  refine lv_aload_n hx hb dX1_addLast_0 rfl (lv_at hl 0 rfl) ?_
  refine k_callb (W.runV (As := []) (rest := []) ⟨hx, hb, hml, hown, hts0⟩ (mX1_isFull l dC dI cI q0 q1 n hn9 f u ) (cwV 0 hts0 (gi_V u_524 u_525 u_526 u_3 u_527) rfl rfl rfl (by decide +kernel) ⟨Nat.le_of_ble_eq_true rfl, Nat.le_of_ble_eq_true rfl⟩) (pcR_V (ci := 1) (q0 := 0) hP hK hn rfl rfl) rfl rfl hl.1 rfl (lv_room (Nat.le_of_ble_eq_true rfl)) dX1_addLast_1 ⟨Nat.zero_le _, Nat.zero_le _⟩) (fun br1 => ?_)
  refine lv_if_ne (tgt := 29) hx hb dX1_addLast_4 (by decide) (fun c_4 => ?_) (fun c_4 => ?_)
  · have hF := hF.trans (if_neg c_4)
    rw [hQ]
    exact W.vret hx hb hr (fun t ht hW => ⟨⟨(f, u), rfl, hF.symm, toH ht hP⟩, hS.F ht⟩) hS.2.2 dX1_addLast_29
  have hF := hF.trans (if_pos c_4)
  refine lv_aload_n hx hb dX1_addLast_7 rfl (lv_at hl 0 rfl) ?_
  refine va_get (D := (dC, dI)) (ci := 1) (v := .ref q1) (C := RX1) (T := TX1) (N := 2) hx hb htX1 (fun _ h => h) hown hK hP 0 rfl rfl 0 (by decide) (hts _ u_38) (fun _ h9 => h9) rfl dX1_addLast_8 ?_
  refine lv_aload_n hx hb dX1_addLast_11 rfl (lv_at hl 0 rfl) ?_
  refine va_get (D := (dC, dI)) (ci := 1) (v := .int u) (C := RX1) (T := TX1) (N := 2) hx hb htX1 (fun _ h => h) hown hK hP 0 rfl rfl 1 (by decide) (hts _ u_39) (fun _ h9 => h9) rfl dX1_addLast_12 ?_
  refine lv_iload_n hx hb dX1_addLast_15 rfl (lv_at hl 1 rfl) ?_
  refine k_mutv (Wd := (fun (v : Nat → Int32) => aW cI q1 n v)) (va_runS (As := [.ref q1, .int u, .int v]) (rest := []) ⟨hx, hb, hml, hown, hts0⟩ (mX3_put l dC dI cI q1 n hn9 f u v) (va_cwS 3 hts0 (gi_S u_519 u_460 u_7 u_461) rfl rfl rfl (by decide +kernel) ⟨Nat.le_of_ble_eq_true rfl, Nat.le_of_ble_eq_true rfl⟩) (pcM_S (hP.sub (ws' := aW cI q1 n f) [1] rfl) hK hn (hD.sub (ws' := aW cI q1 n f) [1] (by decide) rfl)) rfl rfl hl.1 rfl (lv_room (Nat.le_of_ble_eq_true rfl)) dX1_addLast_16 ⟨Nat.zero_le _, Nat.zero_le _⟩) hP hD hS [1] rfl rfl (fun _ => rfl) (fun U16 H locs hU16 hP hD hS => ?_)
  have hP : va_P (dC, dI) vwCl (lW cI q0 q1 n U16 u) H := hP
  have hD : va_D A (lW cI q0 q1 n U16 u) := hD
  have hF := bd_at hF hU16
  refine lv_aload_n hx hb dX1_addLast_19 rfl (lv_at hl 0 rfl) ?_
  refine lv_dup hx hb dX1_addLast_20 rfl ?_
  refine va_get (D := (dC, dI)) (ci := 1) (v := .int u) (C := RX1) (T := TX1) (N := 2) hx hb htX1 (fun _ h => h) hown hK hP 0 rfl rfl 1 (by decide) (hts _ u_39) (fun _ h9 => h9) rfl dX1_addLast_21 ?_
  refine lv_iconst (v := 1) hx hb dX1_addLast_24 (by decide) ?_
  refine lv_iadd hx hb dX1_addLast_25 ?_
  refine va_put (D := (dC, dI)) (ci := 1) (v := .int (u + 1)) (ty := .int) (C := RX1) (T := TX1) (N := 2) hx hb htX1 (fun _ h => h) tyX1 tyX1_ok nmX1 hown hK hP hD hS 0 rfl rfl 1 (by decide) (hts _ u_39) (fun _ h9 => h9) rfl (by decide +kernel) rfl rfl (Nat.le_of_ble_eq_true rfl) dX1_addLast_26 (fun H locs hP hD hS => ?_)
  have hP : va_P (dC, dI) vwCl (lW cI q0 q1 n U16 (u + 1)) H := hP
  have hD : va_D A (lW cI q0 q1 n U16 (u + 1)) := hD
  rw [hQ]
  exact W.vret hx hb hr (fun t ht hW => ⟨⟨(U16, (u + 1)), rfl, hF.symm, toH ht hP⟩, hS.F ht⟩) hS.2.2 dX1_addLast_29

def fX1_dropItem_b4 (n : Nat) (u : Int32) (v : Int32) (kk4 : Nat) (x4_2 : Int32) (U4_1 : Nat → Int32) (nextkk4 : Int32 → (Nat → Int32) → ((Nat → Int32) × Int32)) : (Nat → Int32) × Int32 :=
  (bd2 ((if (fX1_itemAt n U4_1 u (nI kk4)) = v then (x4_2, U4_1) else (bd (fX3_put n U4_1 x4_2 (fX1_itemAt n U4_1 u (nI kk4))) (fun U32 => ((x4_2 + 1), U32)))) : Int32 × (Nat → Int32)) (fun v22_0 U22_1 => (nextkk4 v22_0 U22_1)))
def fX1_dropItem_r4 (x4_2 : Int32) (U4_1 : Nat → Int32) : (Nat → Int32) × Int32 :=
  (U4_1, x4_2)
def fX1_dropItem (n : Nat) (f : Nat → Int32) (u : Int32) (v : Int32) : (Nat → Int32) × Int32 :=
  (lq2 (fX1_dropItem_b4 n u v) fX1_dropItem_r4 u.toNatClampNeg 0 0 f)
abbrev rmX1_dropItem : Room := { frames := 1, cells := 0, slots := 0, locals := 22 }
set_option maxHeartbeats 4000000 in
set_option maxRecDepth 100000 in
theorem mX1_dropItem (l : Launch) (dC : Nat → ClassId) (dI : Nat → Nat → Nat) (cI : ClassId) (q0 q1 n : Nat) (hn9 : n < 2 ^ 31) (f : Nat → Int32) (u : Int32) (v : Int32) : Met l yX1_dropItem (ws_ yX1_dropItem cX1_dropItem 5 none) rmX1_dropItem (pcM (dC, dI) [(cI, .int)] (lW cI q0 q1 n f u) [.ref q0, .int v]) (va_Qv (fun (u9 : (Nat → Int32) × Int32) => u9 = fX1_dropItem n f u v) (fun u9 t => va_P (dC, dI) vwCl ((fun (v : (Nat → Int32) × Int32) => lW cI q0 q1 n v.1 v.2) u9) t.heap) (adr (lW cI q0 q1 n f u))) 0 0 (adr (lW cI q0 q1 n f u)) := by
  refine Met.ofW (cc := cX1_dropItem) (maxL := 5) (ret := none) (by decide) rfl ?_
  intro p e s m args below meth c s₁ B hml hv
  obtain ⟨ha, hP, hK, hn, hD0⟩ := hv
  have hx := B.exec
  have hb := B.bytes
  have hr := B.returns
  have hts0 := atoms_spec (ws := (ws_ yX1_dropItem cX1_dropItem 5 none)) B.pre
  have hts : ∀ w ∈ lw_all, w.before args s = true := fun w h => hts0 w (List.mem_cons_of_mem _ h)
  have hown : s.vm.findClass RX1 = some m.cls := findClass_of_methodNamed B.named
  have hlocks := B.notSynchronized
  have htX1 : ∀ w ∈ wsX10, w.before args s = true := fun w h => hts w (wX1 w h)
  have hD := adr_self hD0
  obtain ⟨A, hA⟩ : ∃ A, A = adr (lW cI q0 q1 n f u) := ⟨_, rfl⟩
  rw [← hA] at hD
  have hS : va_S A s.heap s.heap [] := va_S.rf
  obtain ⟨Q, hQ⟩ : ∃ Q, Q = MQ below (va_Qv (fun (u9 : (Nat → Int32) × Int32) => u9 = fX1_dropItem n f u v) (fun u9 t => va_P (dC, dI) vwCl ((fun (v : (Nat → Int32) × Int32) => lW cI q0 q1 n v.1 v.2) u9) t.heap) (adr (lW cI q0 q1 n f u))) args s 0 0 (adr (lW cI q0 q1 n f u)) := ⟨_, rfl⟩
  rw [← hQ]
  rw [← hA] at hQ
  have hl := lv_entry ([.ref q0, .int v]) (n := 5) (Nat.le_of_ble_eq_true rfl)
  rw [ha, lg_entry_eq, ← ha]
  generalize (lg_sl ([.ref q0, .int v]) ++ List.replicate (5 - (lg_sl ([.ref q0, .int v])).length) Slot.unset).toArray = ls at hl ⊢
  have hl : lv_has ls 5 [(0, .ref q0), (1, .int v)] := hl
  show W p l e rmX1_dropItem s m args below meth c s.heap [] 0 0 Q (F0 m 0 ls [])
  have hF : fX1_dropItem n f u v = fX1_dropItem n f u v := rfl
  refine lv_iconst (v := 0) hx hb dX1_dropItem_0 (by decide) ?_
  refine lv_istore_n (lv' := [(2, .int 0), (0, .ref q0), (1, .int v)]) hx hb dX1_dropItem_1 rfl hl (by decide) rfl (fun ls hl => ?_)
  refine lv_iconst (v := 0) hx hb dX1_dropItem_2 (by decide) ?_
  refine lv_istore_n (lv' := [(3, .int 0), (2, .int 0), (0, .ref q0), (1, .int v)]) hx hb dX1_dropItem_3 rfl hl (by decide) rfl (fun ls hl => ?_)
  have L4 : ∀ (jj4 kk4 : Nat) (x4_2 : Int32) (U4_1 : Nat → Int32), kk4 + jj4 = u.toNatClampNeg → fX1_dropItem n f u v = lq2 (fX1_dropItem_b4 n u v) fX1_dropItem_r4 jj4 kk4 x4_2 U4_1 → ∀ (H : Heap) (locs : List Loc), va_P (dC, dI) vwCl (lW cI q0 q1 n U4_1 u) H → va_D A (lW cI q0 q1 n U4_1 u) → va_S A s.heap H locs → ∀ (ls : Array Slot), lv_has ls 5 [(3, .int (nI kk4)), (2, .int x4_2), (0, .ref q0), (1, .int v)] → W p l e rmX1_dropItem s m args below meth c H locs 0 0 Q (F0 m 4 ls []) := by
    intro jj4
    induction jj4 using Nat.strongRecOn with
    | _ jj4 ihkk4 =>
      intro kk4 x4_2 U4_1 hkkk4 hF H locs hP hD hS ls hl
      refine lv_iload_n hx hb dX1_dropItem_4 rfl (lv_at hl 0 rfl) ?_
      refine lv_aload_n hx hb dX1_dropItem_5 rfl (lv_at hl 2 rfl) ?_
      refine va_get (D := (dC, dI)) (ci := 1) (v := .int u) (C := RX1) (T := TX1) (N := 2) hx hb htX1 (fun _ h => h) hown hK hP 0 rfl rfl 1 (by decide) (hts _ u_39) (fun _ h9 => h9) rfl dX1_dropItem_6 ?_
      refine lv_icmp_ge (tgt := 44) hx hb dX1_dropItem_9 (by decide) (fun c_9 => ?_) (fun c_9 => ?_)
      · obtain rfl := cn_exit hkkk4 c_9
        have hF := hF.trans (lq2_z _ _ _ _ _)
        refine lv_aload_n hx hb dX1_dropItem_44 rfl (lv_at hl 2 rfl) ?_
        refine lv_iload_n hx hb dX1_dropItem_45 rfl (lv_at hl 1 rfl) ?_
        refine va_put (D := (dC, dI)) (ci := 1) (v := .int x4_2) (ty := .int) (C := RX1) (T := TX1) (N := 2) hx hb htX1 (fun _ h => h) tyX1 tyX1_ok nmX1 hown hK hP hD hS 0 rfl rfl 1 (by decide) (hts _ u_39) (fun _ h9 => h9) rfl (by decide +kernel) rfl rfl (Nat.le_of_ble_eq_true rfl) dX1_dropItem_46 (fun H locs hP hD hS => ?_)
        have hP : va_P (dC, dI) vwCl (lW cI q0 q1 n U4_1 x4_2) H := hP
        have hD : va_D A (lW cI q0 q1 n U4_1 x4_2) := hD
        rw [hQ]
        exact W.vret hx hb hr (fun t ht hW => ⟨⟨(U4_1, x4_2), rfl, hF.symm, toH ht hP⟩, hS.F ht⟩) hS.2.2 dX1_dropItem_49
      obtain ⟨jj4, rfl⟩ := cn_go hkkk4 c_9
      have hF := hF.trans (lq2_s _ _ _ _ _ _)
      obtain ⟨nextkk4, hnextkk4⟩ : ∃ y9, y9 = lq2 (fX1_dropItem_b4 n u v) fX1_dropItem_r4 jj4 (kk4 + 1) := ⟨_, rfl⟩
      rw [← hnextkk4] at hF
      refine lv_aload_n hx hb dX1_dropItem_12 rfl (lv_at hl 2 rfl) ?_
      refine lv_iload_n hx hb dX1_dropItem_13 rfl (lv_at hl 0 rfl) ?_
      refine k_calli (W.runV (As := [.int (nI kk4)]) (rest := []) ⟨hx, hb, hml, hown, hts0⟩ (mX1_itemAt l dC dI cI q0 q1 n hn9 U4_1 u (nI kk4)) (cwV 1 hts0 (gi_V u_518 u_435 u_436 u_3 u_437) rfl rfl rfl (by decide +kernel) ⟨Nat.le_of_ble_eq_true rfl, Nat.le_of_ble_eq_true rfl⟩) (pcR_V (ci := 1) (q0 := 0) hP hK hn rfl rfl) rfl rfl hl.1 rfl (lv_room (Nat.le_of_ble_eq_true rfl)) dX1_dropItem_14 ⟨Nat.zero_le _, Nat.zero_le _⟩) ?_
      refine lv_istore (lv' := [(4, .int (fX1_itemAt n U4_1 u (nI kk4))), (3, .int (nI kk4)), (2, .int x4_2), (0, .ref q0), (1, .int v)]) hx hb dX1_dropItem_17 hl (by decide) rfl (fun ls hl => ?_)
      refine lv_iload hx hb dX1_dropItem_19 (lv_at hl 0 rfl) ?_
      refine lv_iload_n hx hb dX1_dropItem_21 rfl (lv_at hl 4 rfl) ?_
      have K22 : ∀ (v22_0 : Int32) (U22_1 : Nat → Int32), (v22_0, U22_1) = (if (fX1_itemAt n U4_1 u (nI kk4)) = v then (x4_2, U4_1) else (bd (fX3_put n U4_1 x4_2 (fX1_itemAt n U4_1 u (nI kk4))) (fun U32 => ((x4_2 + 1), U32)))) → ∀ (H : Heap) (locs : List Loc), va_P (dC, dI) vwCl (lW cI q0 q1 n U22_1 u) H → va_D A (lW cI q0 q1 n U22_1 u) → va_S A s.heap H locs → ∀ (ls : Array Slot), lv_has ls 5 [(4, .int (fX1_itemAt n U4_1 u (nI kk4))), (3, .int (nI kk4)), (2, .int v22_0), (0, .ref q0), (1, .int v)] → W p l e rmX1_dropItem s m args below meth c H locs 0 0 Q (F0 m 38 ls []) := by
        intro v22_0 U22_1 hz22 H locs hP hD hS ls hl
        have hz := hz22
        have hF := bd2_at hF hz
        refine lv_iinc (v := (nI (kk4 + 1))) (lv' := [(3, .int (nI (kk4 + 1))), (4, .int (fX1_itemAt n U4_1 u (nI kk4))), (2, .int v22_0), (0, .ref q0), (1, .int v)]) hx hb dX1_dropItem_38 hl (k := 1) rfl (nI_1 _) (by decide) rfl (fun ls hl => ?_)
        refine lv_goto (tgt := 4) hx hb dX1_dropItem_41 (by decide) ?_
        have hF : fX1_dropItem n f u v = nextkk4 v22_0 U22_1 := hF
        rw [hnextkk4] at hF
        exact ihkk4 jj4 (Nat.lt_succ_self _) (kk4 + 1) v22_0 U22_1 (cn_next hkkk4) hF _ _ hP hD hS ls (lv_sub hl [0, 2, 3, 4] rfl)
      have hF : ((if (fX1_itemAt n U4_1 u (nI kk4)) = v then (x4_2, U4_1) else (bd (fX3_put n U4_1 x4_2 (fX1_itemAt n U4_1 u (nI kk4))) (fun U32 => ((x4_2 + 1), U32)))) : Int32 × (Nat → Int32)) = (if (fX1_itemAt n U4_1 u (nI kk4)) = v then (x4_2, U4_1) else (bd (fX3_put n U4_1 x4_2 (fX1_itemAt n U4_1 u (nI kk4))) (fun U32 => ((x4_2 + 1), U32)))) := rfl
      refine lv_icmp_eq (tgt := 38) hx hb dX1_dropItem_22 (by decide) (fun c_22 => ?_) (fun c_22 => ?_)
      · have hF := hF.trans (if_pos c_22)
        exact K22 _ _ hF.symm _ _ hP hD hS  ls (lv_sub hl [0, 1, 2, 3, 4] rfl)
      have hF := hF.trans (if_neg c_22)
      refine lv_aload_n hx hb dX1_dropItem_25 rfl (lv_at hl 3 rfl) ?_
      refine va_get (D := (dC, dI)) (ci := 1) (v := .ref q1) (C := RX1) (T := TX1) (N := 2) hx hb htX1 (fun _ h => h) hown hK hP 0 rfl rfl 0 (by decide) (hts _ u_38) (fun _ h9 => h9) rfl dX1_dropItem_26 ?_
      refine lv_iload_n hx hb dX1_dropItem_29 rfl (lv_at hl 2 rfl) ?_
      refine lv_iload hx hb dX1_dropItem_30 (lv_at hl 0 rfl) ?_
      refine k_mutv (Wd := (fun (v : Nat → Int32) => aW cI q1 n v)) (va_runS (As := [.ref q1, .int x4_2, .int (fX1_itemAt n U4_1 u (nI kk4))]) (rest := []) ⟨hx, hb, hml, hown, hts0⟩ (mX3_put l dC dI cI q1 n hn9 U4_1 x4_2 (fX1_itemAt n U4_1 u (nI kk4))) (va_cwS 3 hts0 (gi_S u_519 u_460 u_7 u_461) rfl rfl rfl (by decide +kernel) ⟨Nat.le_of_ble_eq_true rfl, Nat.le_of_ble_eq_true rfl⟩) (pcM_S (hP.sub (ws' := aW cI q1 n U4_1) [1] rfl) hK hn (hD.sub (ws' := aW cI q1 n U4_1) [1] (by decide) rfl)) rfl rfl hl.1 rfl (lv_room (Nat.le_of_ble_eq_true rfl)) dX1_dropItem_32 ⟨Nat.zero_le _, Nat.zero_le _⟩) hP hD hS [1] rfl rfl (fun _ => rfl) (fun U32 H locs hU32 hP hD hS => ?_)
      have hP : va_P (dC, dI) vwCl (lW cI q0 q1 n U32 u) H := hP
      have hD : va_D A (lW cI q0 q1 n U32 u) := hD
      have hF := bd_at hF hU32
      refine lv_iinc (v := (x4_2 + 1)) (lv' := [(2, .int (x4_2 + 1)), (4, .int (fX1_itemAt n U4_1 u (nI kk4))), (3, .int (nI kk4)), (0, .ref q0), (1, .int v)]) hx hb dX1_dropItem_35 hl (k := 2) rfl rfl (by decide) rfl (fun ls hl => ?_)
      exact K22 _ _ hF.symm _ _ hP hD hS  ls (lv_sub hl [1, 2, 0, 3, 4] rfl)
  exact L4 u.toNatClampNeg 0 0 f (Nat.zero_add _) hF _ _ hP hD hS ls (lv_sub hl [0, 1, 2, 3] rfl)

def fX1_dropAll (n : Nat) (f : Nat → Int32) (u : Int32) : (Nat → Int32) × Int32 :=
  (f, 0)
abbrev rmX1_dropAll : Room := { frames := 0, cells := 0, slots := 0, locals := 0 }
def fX1_copyFrom (n : Nat) (f : Nat → Int32) (u : Int32) (n2 : Nat) (f2 : Nat → Int32) (u2 : Int32) : (Nat → Int32) × Int32 :=
  (bd (fX3_copy n2 f2 n f) (fun U8 => (U8, (if (nI n) < u2 then (nI n) else u2))))
abbrev rmX1_copyFrom : Room := { frames := 1, cells := 0, slots := 0, locals := 40 }
set_option maxHeartbeats 4000000 in
set_option maxRecDepth 100000 in
theorem mX1_copyFrom (l : Launch) (dC : Nat → ClassId) (dI : Nat → Nat → Nat) (cI : ClassId) (q0 q1 n : Nat) (hn9 : n < 2 ^ 31) (f : Nat → Int32) (u : Int32) (r0 r1 n2 : Nat) (hn8 : n2 < 2 ^ 31) (f2 : Nat → Int32) (u2 : Int32) : Met l yX1_copyFrom (ws_ yX1_copyFrom cX1_copyFrom 2 none) rmX1_copyFrom (pcM (dC, dI) [(cI, .int)] (lW cI q0 q1 n f u ++ lW cI r0 r1 n2 f2 u2) [.ref q0, .ref r0]) (va_Qv (fun (u9 : (Nat → Int32) × Int32) => u9 = fX1_copyFrom n f u n2 f2 u2) (fun u9 t => va_P (dC, dI) vwCl ((fun (v : (Nat → Int32) × Int32) => lW cI q0 q1 n v.1 v.2 ++ lW cI r0 r1 n2 f2 u2) u9) t.heap) (adr (lW cI q0 q1 n f u ++ lW cI r0 r1 n2 f2 u2))) 0 0 (adr (lW cI q0 q1 n f u ++ lW cI r0 r1 n2 f2 u2)) := by
  refine Met.ofW (cc := cX1_copyFrom) (maxL := 2) (ret := none) (by decide) rfl ?_
  intro p e s m args below meth c s₁ B hml hv
  obtain ⟨ha, hP, hK, hn, hD0⟩ := hv
  have hx := B.exec
  have hb := B.bytes
  have hr := B.returns
  have hts0 := atoms_spec (ws := (ws_ yX1_copyFrom cX1_copyFrom 2 none)) B.pre
  have hts : ∀ w ∈ lw_all, w.before args s = true := fun w h => hts0 w (List.mem_cons_of_mem _ h)
  have hown : s.vm.findClass RX1 = some m.cls := findClass_of_methodNamed B.named
  have hlocks := B.notSynchronized
  have htX1 : ∀ w ∈ wsX10, w.before args s = true := fun w h => hts w (wX1 w h)
  have hD := adr_self hD0
  obtain ⟨A, hA⟩ : ∃ A, A = adr (lW cI q0 q1 n f u ++ lW cI r0 r1 n2 f2 u2) := ⟨_, rfl⟩
  rw [← hA] at hD
  have hS : va_S A s.heap s.heap [] := va_S.rf
  obtain ⟨Q, hQ⟩ : ∃ Q, Q = MQ below (va_Qv (fun (u9 : (Nat → Int32) × Int32) => u9 = fX1_copyFrom n f u n2 f2 u2) (fun u9 t => va_P (dC, dI) vwCl ((fun (v : (Nat → Int32) × Int32) => lW cI q0 q1 n v.1 v.2 ++ lW cI r0 r1 n2 f2 u2) u9) t.heap) (adr (lW cI q0 q1 n f u ++ lW cI r0 r1 n2 f2 u2))) args s 0 0 (adr (lW cI q0 q1 n f u ++ lW cI r0 r1 n2 f2 u2)) := ⟨_, rfl⟩
  rw [← hQ]
  rw [← hA] at hQ
  have hl := lv_entry ([.ref q0, .ref r0]) (n := 2) (Nat.le_of_ble_eq_true rfl)
  rw [ha, lg_entry_eq, ← ha]
  generalize (lg_sl ([.ref q0, .ref r0]) ++ List.replicate (2 - (lg_sl ([.ref q0, .ref r0])).length) Slot.unset).toArray = ls at hl ⊢
  have hl : lv_has ls 2 [(0, .ref q0), (1, .ref r0)] := hl
  show W p l e rmX1_copyFrom s m args below meth c s.heap [] 0 0 Q (F0 m 0 ls [])
  have hF : fX1_copyFrom n f u n2 f2 u2 = fX1_copyFrom n f u n2 f2 u2 := rfl
  refine lv_aload_n hx hb dX1_copyFrom_0 rfl (lv_at hl 1 rfl) ?_
  refine va_get (D := (dC, dI)) (ci := 1) (v := .ref r1) (C := RX1) (T := TX1) (N := 2) hx hb htX1 (fun _ h => h) hown hK hP 2 rfl rfl 0 (by decide) (hts _ u_38) (fun _ h9 => h9) rfl dX1_copyFrom_1 ?_
  refine lv_aload_n hx hb dX1_copyFrom_4 rfl (lv_at hl 0 rfl) ?_
  refine va_get (D := (dC, dI)) (ci := 1) (v := .ref q1) (C := RX1) (T := TX1) (N := 2) hx hb htX1 (fun _ h => h) hown hK hP 0 rfl rfl 0 (by decide) (hts _ u_38) (fun _ h9 => h9) rfl dX1_copyFrom_5 ?_
  refine k_mutv (Wd := (fun (v : (Nat → Int32)) => aW cI r1 n2 f2 ++ aW cI q1 n v)) (va_runS (As := [.ref r1, .ref q1]) (rest := []) ⟨hx, hb, hml, hown, hts0⟩ (mX3_copy l dC dI cI r1 n2 hn8 f2 q1 n hn9 f ) (va_cwS 2 hts0 (gi_S u_255 u_249 u_7 u_250) rfl rfl rfl (by decide +kernel) ⟨Nat.le_of_ble_eq_true rfl, Nat.le_of_ble_eq_true rfl⟩) (pcM_S (hP.sub (ws' := (aW cI r1 n2 f2 ++ aW cI q1 n f)) [3, 1] rfl) hK hn (hD.sub (ws' := (aW cI r1 n2 f2 ++ aW cI q1 n f)) [3, 1] (by decide) rfl)) rfl rfl hl.1 rfl (lv_room (Nat.le_of_ble_eq_true rfl)) dX1_copyFrom_8 ⟨Nat.zero_le _, Nat.zero_le _⟩) hP hD hS [3, 1] rfl rfl (fun _ => rfl) (fun U8 H locs hU8 hP hD hS => ?_)
  have hP : va_P (dC, dI) vwCl (lW cI q0 q1 n U8 u ++ lW cI r0 r1 n2 f2 u2) H := hP
  have hD : va_D A (lW cI q0 q1 n U8 u ++ lW cI r0 r1 n2 f2 u2) := hD
  have hF := bd_at hF hU8
  refine lv_aload_n hx hb dX1_copyFrom_11 rfl (lv_at hl 0 rfl) ?_
  refine lv_aload_n hx hb dX1_copyFrom_12 rfl (lv_at hl 1 rfl) ?_
  refine va_get (D := (dC, dI)) (ci := 1) (v := .int u2) (C := RX1) (T := TX1) (N := 2) hx hb htX1 (fun _ h => h) hown hK hP 2 rfl rfl 1 (by decide) (hts _ u_39) (fun _ h9 => h9) rfl dX1_copyFrom_13 ?_
  refine lv_aload_n hx hb dX1_copyFrom_16 rfl (lv_at hl 0 rfl) ?_
  refine va_get (D := (dC, dI)) (ci := 1) (v := .ref q1) (C := RX1) (T := TX1) (N := 2) hx hb htX1 (fun _ h => h) hown hK hP 0 rfl rfl 0 (by decide) (hts _ u_38) (fun _ h9 => h9) rfl dX1_copyFrom_17 ?_
  refine va_alen (v := (nI n)) hx hb hK hP 1 0 rfl rfl rfl dX1_copyFrom_20 ?_
  refine va_mmin hx hb (hml.trans hl.1.symm) hown (hts _ u_256) (hts _ u_257) (hts _ u_4) (hts _ u_258) (Nat.le_of_ble_eq_true rfl) (Nat.le_of_ble_eq_true rfl) (Nat.zero_le _) (Nat.zero_le _) dX1_copyFrom_21 ?_
  refine va_put (D := (dC, dI)) (ci := 1) (v := .int (if (nI n) < u2 then (nI n) else u2)) (ty := .int) (C := RX1) (T := TX1) (N := 2) hx hb htX1 (fun _ h => h) tyX1 tyX1_ok nmX1 hown hK hP hD hS 0 rfl rfl 1 (by decide) (hts _ u_39) (fun _ h9 => h9) rfl (by decide +kernel) rfl rfl (Nat.le_of_ble_eq_true rfl) dX1_copyFrom_24 (fun H locs hP hD hS => ?_)
  have hP : va_P (dC, dI) vwCl (lW cI q0 q1 n U8 (if (nI n) < u2 then (nI n) else u2) ++ lW cI r0 r1 n2 f2 u2) H := hP
  have hD : va_D A (lW cI q0 q1 n U8 (if (nI n) < u2 then (nI n) else u2) ++ lW cI r0 r1 n2 f2 u2) := hD
  rw [hQ]
  exact W.vret hx hb hr (fun t ht hW => ⟨⟨(U8, (if (nI n) < u2 then (nI n) else u2)), rfl, hF.symm, toH ht hP⟩, hS.F ht⟩) hS.2.2 dX1_copyFrom_27

