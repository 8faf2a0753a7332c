def fX7_holds (M : Nat → Int32) (v : Int32) : Int32 × ((Nat → Int32)) :=
  (if v = 0 then (1, (upd M 0 v)) else (0, (upd M 0 v)))
abbrev rmX7_holds : Room := { frames := 0, cells := 0, slots := 0, locals := 0 }
set_option maxHeartbeats 4000000 in
set_option maxRecDepth 100000 in
theorem mX7_holds (l : Launch) (dC : Nat → ClassId) (dI : Nat → Nat → Nat) (cI : ClassId) (o q0 q1 : Nat) (f x M : Nat → Int32) (h : Int64) (v : Int32) : Met l yX7_holds (ws_ yX7_holds cX7_holds 2 (some .boolean)) rmX7_holds (pcM (dC, dI) [(cI, .int)] (mW cI o q0 q1 f x M h) [.ref o, .int v]) (va_Qi (fun (r9 : Int32) (u9 : (Nat → Int32)) => (r9, u9) = fX7_holds M v ∧ (r9 = 0 ∨ r9 = 1)) (fun u9 t => va_P (dC, dI) vwCl ((fun (v9 : (Nat → Int32)) => mW cI o q0 q1 f x v9 h) u9) t.heap) (adr (mW cI o q0 q1 f x M h))) 0 0 (adr (mW cI o q0 q1 f x M h)) := by
  refine Met.ofW (cc := cX7_holds) (maxL := 2) (ret := (some .boolean)) (by decide) rfl ?_
  intro p e s m args below meth c s₁ B hml hv
  obtain ⟨ha, hP, hK, hn, hD0⟩ := hv
  have hx := B.exec
  have hb := B.bytes
  have hr := B.returns
  have hts0 := atoms_spec (ws := (ws_ yX7_holds cX7_holds 2 (some .boolean))) B.pre
  have hts : ∀ w ∈ lw_all, w.before args s = true := fun w h => hts0 w (List.mem_cons_of_mem _ h)
  have hown : s.vm.findClass RX7 = some m.cls := findClass_of_methodNamed B.named
  have hlocks := B.notSynchronized
  have htX7 : ∀ w ∈ wsX70, w.before args s = true := fun w h => hts w (wX7 w h)
  have hD := adr_self hD0
  obtain ⟨A, hA⟩ : ∃ A, A = adr (mW cI o q0 q1 f x M h) := ⟨_, rfl⟩
  rw [← hA] at hD
  have hS : va_S A s.heap s.heap [] := va_S.rf
  obtain ⟨Q, hQ⟩ : ∃ Q, Q = MQ below (va_Qi (fun (r9 : Int32) (u9 : (Nat → Int32)) => (r9, u9) = fX7_holds M v ∧ (r9 = 0 ∨ r9 = 1)) (fun u9 t => va_P (dC, dI) vwCl ((fun (v9 : (Nat → Int32)) => mW cI o q0 q1 f x v9 h) u9) t.heap) (adr (mW cI o q0 q1 f x M h))) args s 0 0 (adr (mW cI o q0 q1 f x M h)) := ⟨_, rfl⟩
  rw [← hQ]
  rw [← hA] at hQ
  have hl := lv_entry ([.ref o, .int v]) (n := 2) (Nat.le_of_ble_eq_true rfl)
  rw [ha, lg_entry_eq, ← ha]
  generalize (lg_sl ([.ref o, .int v]) ++ List.replicate (2 - (lg_sl ([.ref o, .int v])).length) Slot.unset).toArray = ls at hl ⊢
  have hl : lv_has ls 2 [(0, .ref o), (1, .int v)] := hl
  show W p l e rmX7_holds s m args below meth c s.heap [] 0 0 Q (F0 m 0 ls [])
  have hF : fX7_holds M v = fX7_holds M v := rfl
  refine lv_aload_n hx hb dX7_holds_0 rfl (lv_at hl 0 rfl) ?_
  refine lv_iload_n hx hb dX7_holds_1 rfl (lv_at hl 1 rfl) ?_
  refine va_put (D := (dC, dI)) (ci := 5) (v := .int v) (ty := .int) (C := RX7) (T := TX7) (N := 12) hx hb htX7 (fun _ h => h) tyX7 tyX7_ok nmX7 hown hK hP hD hS 0 rfl rfl 0 (by decide) (hts _ u_857) (fun _ h9 => h9) rfl (by decide +kernel) rfl rfl (Nat.le_of_ble_eq_true rfl) dX7_holds_2 (fun H locs hP hD hS => ?_)
  have hP : va_P (dC, dI) vwCl (mW cI o q0 q1 f x (upd M 0 v) h) H := hP
  have hD : va_D A (mW cI o q0 q1 f x (upd M 0 v) h) := hD
  refine lv_iload_n hx hb dX7_holds_5 rfl (lv_at hl 1 rfl) ?_
  refine lv_if_ne (tgt := 13) hx hb dX7_holds_6 (by decide) (fun c_6 => ?_) (fun c_6 => ?_)
  · have hF := hF.trans (if_neg c_6)
    refine lv_iconst (v := 0) hx hb dX7_holds_13 (by decide) ?_
    rw [hQ]
    exact W.zret (ty := .boolean) (v := 0) hx hb hr rfl (fun t ht hW => ⟨⟨0, (upd M 0 v), rfl, ⟨hF.symm, Or.inl rfl⟩, toH ht hP⟩, hS.F ht⟩) hS.2.2 dX7_holds_14
  have hF := hF.trans (if_pos c_6)
  refine lv_iconst (v := 1) hx hb dX7_holds_9 (by decide) ?_
  refine lv_goto (tgt := 14) hx hb dX7_holds_10 (by decide) ?_
  rw [hQ]
  exact W.zret (ty := .boolean) (v := 1) hx hb hr rfl (fun t ht hW => ⟨⟨1, (upd M 0 v), rfl, ⟨hF.symm, Or.inr rfl⟩, toH ht hP⟩, hS.F ht⟩) hS.2.2 dX7_holds_14

def fX7_isSeat (f : Nat → Int32) (tb : Int32) (z : Int32) : Int32 :=
  (if (fX7_isTable f tb) = 0 then 0 else (if (fX7_in z 0 ((f (18 + tb.toNatClampNeg)) - 1)) = 0 then 0 else 1))
abbrev rmX7_isSeat : Room := { frames := 2, cells := 0, slots := 0, locals := 43 }
set_option maxHeartbeats 4000000 in
set_option maxRecDepth 100000 in
theorem mX7_isSeat (l : Launch) (dC : Nat → ClassId) (dI : Nat → Nat → Nat) (cI : ClassId) (o q0 q1 : Nat) (f x M : Nat → Int32) (h : Int64) (tb : Int32) (z : Int32) (hT9 : IN (f 1) 4) : Met l yX7_isSeat (ws_ yX7_isSeat cX7_isSeat 3 (some .boolean)) rmX7_isSeat (pcR (dC, dI) [(cI, .int)] (mW cI o q0 q1 f x M h) [.ref o, .int tb, .int z]) (vp_Si (fun r => r = fX7_isSeat f tb z ∧ (r = 0 ∨ r = 1))) 0 0 (fun _ => False) := by
  refine Met.ofW (cc := cX7_isSeat) (maxL := 3) (ret := (some .boolean)) (by decide) rfl ?_
  intro p e s m args below meth c s₁ B hml hv
  obtain ⟨ha, hP, hK, hn⟩ := hv
  have hx := B.exec
  have hb := B.bytes
  have hr := B.returns
  have hts0 := atoms_spec (ws := (ws_ yX7_isSeat cX7_isSeat 3 (some .boolean))) B.pre
  have hts : ∀ w ∈ lw_all, w.before args s = true := fun w h => hts0 w (List.mem_cons_of_mem _ h)
  have hown : s.vm.findClass RX7 = some m.cls := findClass_of_methodNamed B.named
  have hlocks := B.notSynchronized
  have htX7 : ∀ w ∈ wsX70, w.before args s = true := fun w h => hts w (wX7 w h)
  obtain ⟨Q, hQ⟩ : ∃ Q, Q = MQ below (vp_Si (fun r => r = fX7_isSeat f tb z ∧ (r = 0 ∨ r = 1))) args s 0 0 (fun _ => False) := ⟨_, rfl⟩
  rw [← hQ]
  have hl := lv_entry ([.ref o, .int tb, .int z]) (n := 3) (Nat.le_of_ble_eq_true rfl)
  rw [ha, lg_entry_eq, ← ha]
  generalize (lg_sl ([.ref o, .int tb, .int z]) ++ List.replicate (3 - (lg_sl ([.ref o, .int tb, .int z])).length) Slot.unset).toArray = ls at hl ⊢
  have hl : lv_has ls 3 [(0, .ref o), (1, .int tb), (2, .int z)] := hl
  show W p l e rmX7_isSeat s m args below meth c s.heap [] 0 0 Q (F0 m 0 ls [])
  have hF : fX7_isSeat f tb z = fX7_isSeat f tb z := rfl
  refine lv_aload_n hx hb dX7_isSeat_0 rfl (lv_at hl 0 rfl) ?_
  refine lv_iload_n hx hb dX7_isSeat_1 rfl (lv_at hl 1 rfl) ?_
  refine k_callb (W.runV (As := [.int tb]) (rest := []) ⟨hx, hb, hml, hown, hts0⟩ (mX7_isTable l dC dI cI o q0 q1 f x M h tb) (cwV 1 hts0 (gi_V u_985 u_987 us_26 u_7 u_988) rfl rfl rfl (by decide +kernel) ⟨Nat.le_of_ble_eq_true rfl, Nat.le_of_ble_eq_true rfl⟩) (pcR_V (ci := 5) (q0 := 0) hP hK hn rfl rfl) rfl rfl hl.1 rfl (lv_room (Nat.le_of_ble_eq_true rfl)) dX7_isSeat_2 ⟨Nat.zero_le _, Nat.zero_le _⟩) (fun br2 => ?_)
  refine lv_if_eq (tgt := 31) hx hb dX7_isSeat_5 (by decide) (fun c_5 => ?_) (fun c_5 => ?_)
  · have hF := hF.trans (if_pos c_5)
    refine lv_iconst (v := 0) hx hb dX7_isSeat_31 (by decide) ?_
    rw [hQ]
    exact W.zret (ty := .boolean) (v := 0) hx hb hr rfl (fun t ht hW => ⟨0, rfl, ⟨hF.symm, Or.inl rfl⟩, ht⟩) (fun q hq => absurd hq List.not_mem_nil) dX7_isSeat_32
  have hF := hF.trans (if_neg c_5)
  obtain ⟨htn, htl, htb⟩ := in_nat (v := tb) hT9 (by decide) c_5
  refine lv_iload_n hx hb dX7_isSeat_8 rfl (lv_at hl 2 rfl) ?_
  refine lv_iconst (v := 0) hx hb dX7_isSeat_9 (by decide) ?_
  refine lv_aload_n hx hb dX7_isSeat_10 rfl (lv_at hl 0 rfl) ?_
  refine va_get (D := (dC, dI)) (ci := 5) (v := .ref q0) (C := RX7) (T := TX7) (N := 12) hx hb htX7 (fun _ h => h) hown hK hP 0 rfl rfl 1 (by decide) (hts _ u_858) (fun _ h9 => h9) rfl dX7_isSeat_11 ?_
  refine lv_bipush (v := 18) hx hb dX7_isSeat_14 (by decide) ?_
  refine lv_iload_n hx hb dX7_isSeat_16 rfl (lv_at hl 1 rfl) ?_
  refine lv_tope (y := (nI tb.toNatClampNeg)) htn ?_
  refine lv_iadd hx hb dX7_isSeat_17 ?_
  refine lv_tope (y := (nI (18 + tb.toNatClampNeg))) (nI_add 18 tb.toNatClampNeg) ?_
  refine va_iald hx hb hK hP 1 0 rfl rfl (vp_in_nI (n := (18 + tb.toNatClampNeg)) (by omega) (by decide)) dX7_isSeat_18 ?_
  refine lv_tope (y := (f (18 + tb.toNatClampNeg))) (at_nI (k := (18 + tb.toNatClampNeg)) (by omega)) ?_
  refine lv_iconst (v := 1) hx hb dX7_isSeat_19 (by decide) ?_
  refine lv_isub hx hb dX7_isSeat_20 ?_
  refine k_callb (W.runS (As := [.int z, .int 0, .int ((f (18 + tb.toNatClampNeg)) - 1)]) (rest := []) ⟨hx, hb, hml, hown, hts0⟩ (mX7_in l dC dI  z 0 ((f (18 + tb.toNatClampNeg)) - 1)) (va_cwS 3 hts0 (gi_S u_905 u_906 u_7 u_907) rfl rfl rfl (by decide +kernel) ⟨Nat.le_of_ble_eq_true rfl, Nat.le_of_ble_eq_true rfl⟩) (pcR_S (hP.sub (ws' := []) [] rfl) (hK.sub (tys' := []) [] rfl) hn) rfl rfl hl.1 rfl (lv_room (Nat.le_of_ble_eq_true rfl)) dX7_isSeat_21 ⟨Nat.zero_le _, Nat.zero_le _⟩) (fun br21 => ?_)
  refine lv_if_eq (tgt := 31) hx hb dX7_isSeat_24 (by decide) (fun c_24 => ?_) (fun c_24 => ?_)
  · have hF := hF.trans (if_pos c_24)
    refine lv_iconst (v := 0) hx hb dX7_isSeat_31 (by decide) ?_
    rw [hQ]
    exact W.zret (ty := .boolean) (v := 0) hx hb hr rfl (fun t ht hW => ⟨0, rfl, ⟨hF.symm, Or.inl rfl⟩, ht⟩) (fun q hq => absurd hq List.not_mem_nil) dX7_isSeat_32
  have hF := hF.trans (if_neg c_24)
  refine lv_iconst (v := 1) hx hb dX7_isSeat_27 (by decide) ?_
  refine lv_goto (tgt := 32) hx hb dX7_isSeat_28 (by decide) ?_
  rw [hQ]
  exact W.zret (ty := .boolean) (v := 1) hx hb hr rfl (fun t ht hW => ⟨1, rfl, ⟨hF.symm, Or.inr rfl⟩, ht⟩) (fun q hq => absurd hq List.not_mem_nil) dX7_isSeat_32

def fX7_wishes_b4 (f : Nat → Int32) (a9 : Int32) (kk4 : Nat) (x4_2 : Int32) (nextkk4 : Int32 → Int32) : Int32 :=
  (bd ((if a9 = 0 then (if (fX7_of f 0 kk4 2) = (-1) then 0 else 1) else (if (fX7_metBy f 0 kk4) ≤ 0 then 0 else 1)) : Nat) (fun v15_0 => (bd ((if (nI v15_0) = 0 then 0 else 1) : Nat) (fun v56_0 => (nextkk4 (x4_2 + (nI v56_0)))))))
def fX7_wishes_r4 (x4_2 : Int32) : Int32 :=
  x4_2
def fX7_wishes (f : Nat → Int32) (a9 : Int32) : Int32 :=
  (lq1 (fX7_wishes_b4 f a9) fX7_wishes_r4 ((f 0).toNatClampNeg) 0 0)
abbrev rmX7_wishes : Room := { frames := 2, cells := 0, slots := 0, locals := 48 }
set_option maxHeartbeats 4000000 in
set_option maxRecDepth 100000 in
theorem mX7_wishes (l : Launch) (dC : Nat → ClassId) (dI : Nat → Nat → Nat) (cI : ClassId) (o q0 q1 : Nat) (f x M : Nat → Int32) (h : Int64) (a9 : Int32) (hR : RW f 0) : Met l yX7_wishes (ws_ yX7_wishes cX7_wishes 5 (some .int)) rmX7_wishes (pcR (dC, dI) [(cI, .int)] (mW cI o q0 q1 f x M h) [.ref o, .int a9]) (vp_Si (fun r => r = fX7_wishes f a9)) 0 0 (fun _ => False) := by
  refine Met.ofW (cc := cX7_wishes) (maxL := 5) (ret := (some .int)) (by decide) rfl ?_
  intro p e s m args below meth c s₁ B hml hv
  obtain ⟨ha, hP, hK, hn⟩ := hv
  have hx := B.exec
  have hb := B.bytes
  have hr := B.returns
  have hts0 := atoms_spec (ws := (ws_ yX7_wishes cX7_wishes 5 (some .int))) B.pre
  have hts : ∀ w ∈ lw_all, w.before args s = true := fun w h => hts0 w (List.mem_cons_of_mem _ h)
  have hown : s.vm.findClass RX7 = some m.cls := findClass_of_methodNamed B.named
  have hlocks := B.notSynchronized
  have htX7 : ∀ w ∈ wsX70, w.before args s = true := fun w h => hts w (wX7 w h)
  obtain ⟨Q, hQ⟩ : ∃ Q, Q = MQ below (vp_Si (fun r => r = fX7_wishes f a9)) args s 0 0 (fun _ => False) := ⟨_, rfl⟩
  rw [← hQ]
  have hl := lv_entry ([.ref o, .int a9]) (n := 5) (Nat.le_of_ble_eq_true rfl)
  rw [ha, lg_entry_eq, ← ha]
  generalize (lg_sl ([.ref o, .int a9]) ++ List.replicate (5 - (lg_sl ([.ref o, .int a9])).length) Slot.unset).toArray = ls at hl ⊢
  have hl : lv_has ls 5 [(0, .ref o), (1, .int a9)] := hl
  show W p l e rmX7_wishes s m args below meth c s.heap [] 0 0 Q (F0 m 0 ls [])
  have hF : fX7_wishes f a9 = fX7_wishes f a9 := rfl
  obtain ⟨-, rG0, -⟩ := id hR
  have rG : (f 0).toNatClampNeg ≤ 16 := rG0.c (by decide)
  refine lv_iconst (v := 0) hx hb dX7_wishes_0 (by decide) ?_
  refine lv_istore_n (lv' := [(2, .int 0), (0, .ref o), (1, .int a9)]) hx hb dX7_wishes_1 rfl hl (by decide) rfl (fun ls hl => ?_)
  refine lv_iconst (v := 0) hx hb dX7_wishes_2 (by decide) ?_
  refine lv_istore_n (lv' := [(3, .int 0), (2, .int 0), (0, .ref o), (1, .int a9)]) hx hb dX7_wishes_3 rfl hl (by decide) rfl (fun ls hl => ?_)
  have L4 : ∀ (jj4 kk4 : Nat) (x4_2 : Int32), kk4 + jj4 = ((f 0).toNatClampNeg) → fX7_wishes f a9 = lq1 (fX7_wishes_b4 f a9) fX7_wishes_r4 jj4 kk4 x4_2 → ∀ (ls : Array Slot), lv_has ls 5 [(3, .int (nI kk4)), (2, .int x4_2), (0, .ref o), (1, .int a9)] → W p l e rmX7_wishes s m args below meth c s.heap [] 0 0 Q (F0 m 4 ls []) := by
    intro jj4
    induction jj4 using Nat.strongRecOn with
    | _ jj4 ihkk4 =>
      intro kk4 x4_2 hkkk4 hF  ls hl
      refine lv_iload_n hx hb dX7_wishes_4 rfl (lv_at hl 0 rfl) ?_
      refine lv_aload_n hx hb dX7_wishes_5 rfl (lv_at hl 2 rfl) ?_
      refine va_get (D := (dC, dI)) (ci := 5) (v := .ref q0) (C := RX7) (T := TX7) (N := 12) hx hb htX7 (fun _ h => h) hown hK hP 0 rfl rfl 1 (by decide) (hts _ u_858) (fun _ h9 => h9) rfl dX7_wishes_6 ?_
      refine lv_iconst (v := 0) hx hb dX7_wishes_9 (by decide) ?_
      refine va_iald hx hb hK hP 1 0 rfl rfl (vp_in_nI (n := 0) (by omega) (by decide)) dX7_wishes_10 ?_
      refine lv_tope (y := (f 0)) (at_nI (k := 0) (by omega)) ?_
      refine lv_icmp_ge (tgt := 72) hx hb dX7_wishes_11 (by decide) (fun c_11 => ?_) (fun c_11 => ?_)
      · obtain rfl := cn_exit hkkk4 c_11
        have hF := hF.trans (lq1_z _ _ _ _)
        refine lv_iload_n hx hb dX7_wishes_72 rfl (lv_at hl 1 rfl) ?_
        rw [hQ]
        exact W.iret (v := x4_2) hx hb hr (fun t ht hW => ⟨x4_2, rfl, hF.symm, ht⟩) (fun q hq => absurd hq List.not_mem_nil) dX7_wishes_73
      obtain ⟨jj4, rfl⟩ := cn_go hkkk4 c_11
      have hF := hF.trans (lq1_s _ _ _ _ _)
      obtain ⟨nextkk4, hnextkk4⟩ : ∃ y9, y9 = lq1 (fX7_wishes_b4 f a9) fX7_wishes_r4 jj4 (kk4 + 1) := ⟨_, rfl⟩
      rw [← hnextkk4] at hF
      refine lv_iload_n hx hb dX7_wishes_14 rfl (lv_at hl 3 rfl) ?_
      have K15 : ∀ (v15_0 : Nat), v15_0 = (if a9 = 0 then (if (fX7_of f 0 kk4 2) = (-1) then 0 else 1) else (if (fX7_metBy f 0 kk4) ≤ 0 then 0 else 1)) → ∀ (ls : Array Slot), lv_has ls 5 [(3, .int (nI kk4)), (2, .int x4_2), (0, .ref o), (1, .int a9)] → W p l e rmX7_wishes s m args below meth c s.heap [] 0 0 Q (F0 m 51 ls [.int (nI v15_0)]) := by
        intro v15_0 hz15  ls hl
        have hz := hz15
        have hF := bd_at hF hz
        refine lv_istore (lv' := [(4, .int (nI v15_0)), (3, .int (nI kk4)), (2, .int x4_2), (0, .ref o), (1, .int a9)]) hx hb dX7_wishes_51 hl (by decide) rfl (fun ls hl => ?_)
        refine lv_iload_n hx hb dX7_wishes_53 rfl (lv_at hl 2 rfl) ?_
        refine lv_iload hx hb dX7_wishes_54 (lv_at hl 0 rfl) ?_
        have K56 : ∀ (v56_0 : Nat), v56_0 = (if (nI v15_0) = 0 then 0 else 1) → ∀ (ls : Array Slot), lv_has ls 5 [(4, .int (nI v15_0)), (3, .int (nI kk4)), (2, .int x4_2), (0, .ref o), (1, .int a9)] → W p l e rmX7_wishes s m args below meth c s.heap [] 0 0 Q (F0 m 64 ls [.int (nI v56_0), .int x4_2]) := by
          intro v56_0 hz56  ls hl
          have hz := hz56
          have hF := bd_at hF hz
          refine lv_iadd hx hb dX7_wishes_64 ?_
          refine lv_istore_n (lv' := [(2, .int (x4_2 + (nI v56_0))), (4, .int (nI v15_0)), (3, .int (nI kk4)), (0, .ref o), (1, .int a9)]) hx hb dX7_wishes_65 rfl hl (by decide) rfl (fun ls hl => ?_)
          refine lv_iinc (v := (nI (kk4 + 1))) (lv' := [(3, .int (nI (kk4 + 1))), (2, .int (x4_2 + (nI v56_0))), (4, .int (nI v15_0)), (0, .ref o), (1, .int a9)]) hx hb dX7_wishes_66 hl (k := 2) rfl (nI_1 _) (by decide) rfl (fun ls hl => ?_)
          refine lv_goto (tgt := 4) hx hb dX7_wishes_69 (by decide) ?_
          have hF : fX7_wishes f a9 = nextkk4 (x4_2 + (nI v56_0)) := hF
          rw [hnextkk4] at hF
          exact ihkk4 jj4 (Nat.lt_succ_self _) (kk4 + 1) (x4_2 + (nI v56_0)) (cn_next hkkk4) hF ls (lv_sub hl [0, 1, 3, 4] rfl)
        have hF : ((if (nI v15_0) = 0 then 0 else 1) : Nat) = (if (nI v15_0) = 0 then 0 else 1) := rfl
        refine lv_if_eq (tgt := 63) hx hb dX7_wishes_56 (by decide) (fun c_56 => ?_) (fun c_56 => ?_)
        · have hF := hF.trans (if_pos c_56)
          refine lv_iconst (v := 0) hx hb dX7_wishes_63 (by decide) ?_
          exact K56 _ hF.symm  ls (lv_sub hl [0, 1, 2, 3, 4] rfl)
        have hF := hF.trans (if_neg c_56)
        refine lv_iconst (v := 1) hx hb dX7_wishes_59 (by decide) ?_
        refine lv_goto (tgt := 64) hx hb dX7_wishes_60 (by decide) ?_
        exact K56 _ hF.symm  ls (lv_sub hl [0, 1, 2, 3, 4] rfl)
      have hF : ((if a9 = 0 then (if (fX7_of f 0 kk4 2) = (-1) then 0 else 1) else (if (fX7_metBy f 0 kk4) ≤ 0 then 0 else 1)) : Nat) = (if a9 = 0 then (if (fX7_of f 0 kk4 2) = (-1) then 0 else 1) else (if (fX7_metBy f 0 kk4) ≤ 0 then 0 else 1)) := rfl
      refine lv_if_eq (tgt := 35) hx hb dX7_wishes_15 (by decide) (fun c_15 => ?_) (fun c_15 => ?_)
      · have hF := hF.trans (if_pos c_15)
        refine lv_aload_n hx hb dX7_wishes_35 rfl (lv_at hl 2 rfl) ?_
        refine lv_iconst (v := 0) hx hb dX7_wishes_36 (by decide) ?_
        refine lv_iload_n hx hb dX7_wishes_37 rfl (lv_at hl 0 rfl) ?_
        refine lv_iconst (v := 2) hx hb dX7_wishes_38 (by decide) ?_
        refine k_calli (W.runV (As := [.int 0, .int (nI kk4), .int 2]) (rest := []) ⟨hx, hb, hml, hown, hts0⟩ (mX7_of l dC dI cI o q0 q1 f x M h 0 kk4 2 (by first | omega | assumption)) (cwV 3 hts0 (gi_V u_932 u_934 us_20 u_7 u_935) rfl rfl rfl (by decide +kernel) ⟨Nat.le_of_ble_eq_true rfl, Nat.le_of_ble_eq_true rfl⟩) (pcR_V (ci := 5) (q0 := 0) hP hK hn rfl rfl) rfl rfl hl.1 rfl (lv_room (Nat.le_of_ble_eq_true rfl)) dX7_wishes_39 ⟨Nat.zero_le _, Nat.zero_le _⟩) ?_
        refine lv_iconst (v := (-1)) hx hb dX7_wishes_42 (by decide) ?_
        refine lv_icmp_eq (tgt := 50) hx hb dX7_wishes_43 (by decide) (fun c_43 => ?_) (fun c_43 => ?_)
        · have hF := hF.trans (if_pos c_43)
          refine lv_iconst (v := 0) hx hb dX7_wishes_50 (by decide) ?_
          exact K15 _ hF.symm  ls (lv_sub hl [0, 1, 2, 3] rfl)
        have hF := hF.trans (if_neg c_43)
        refine lv_iconst (v := 1) hx hb dX7_wishes_46 (by decide) ?_
        refine lv_goto (tgt := 51) hx hb dX7_wishes_47 (by decide) ?_
        exact K15 _ hF.symm  ls (lv_sub hl [0, 1, 2, 3] rfl)
      have hF := hF.trans (if_neg c_15)
      refine lv_aload_n hx hb dX7_wishes_18 rfl (lv_at hl 2 rfl) ?_
      refine lv_iconst (v := 0) hx hb dX7_wishes_19 (by decide) ?_
      refine lv_iload_n hx hb dX7_wishes_20 rfl (lv_at hl 0 rfl) ?_
      refine k_calli (W.runV (As := [.int 0, .int (nI kk4)]) (rest := []) ⟨hx, hb, hml, hown, hts0⟩ (mX7_metBy l dC dI cI o q0 q1 f x M h 0 kk4 (by first | omega | assumption) (by first | omega | assumption)) (cwV 2 hts0 (gi_V u_1012 u_1014 us_32 u_7 u_1015) rfl rfl rfl (by decide +kernel) ⟨Nat.le_of_ble_eq_true rfl, Nat.le_of_ble_eq_true rfl⟩) (pcR_V (ci := 5) (q0 := 0) hP hK hn rfl rfl) rfl rfl hl.1 rfl (lv_room (Nat.le_of_ble_eq_true rfl)) dX7_wishes_21 ⟨Nat.zero_le _, Nat.zero_le _⟩) ?_
      refine lv_if_le (tgt := 31) hx hb dX7_wishes_24 (by decide) (fun c_24 => ?_) (fun c_24 => ?_)
      · have hF := hF.trans (if_pos c_24)
        refine lv_iconst (v := 0) hx hb dX7_wishes_31 (by decide) ?_
        refine lv_goto (tgt := 51) hx hb dX7_wishes_32 (by decide) ?_
        exact K15 _ hF.symm  ls (lv_sub hl [0, 1, 2, 3] rfl)
      have hF := hF.trans (if_neg c_24)
      refine lv_iconst (v := 1) hx hb dX7_wishes_27 (by decide) ?_
      refine lv_goto (tgt := 51) hx hb dX7_wishes_28 (by decide) ?_
      exact K15 _ hF.symm  ls (lv_sub hl [0, 1, 2, 3] rfl)
  exact L4 ((f 0).toNatClampNeg) 0 0 (Nat.zero_add _) hF ls (lv_sub hl [0, 1, 2, 3] rfl)

def fX7_standing (f : Nat → Int32) (v : Int32) (c9 : Int32) : Int32 :=
  (if (fX7_feudPlace f 0 (fX7_feudOf v c9)) = (-1) then (fX7_leavers f v c9) else 0)
abbrev rmX7_standing : Room := { frames := 4, cells := 0, slots := 0, locals := 98 }
set_option maxHeartbeats 4000000 in
set_option maxRecDepth 100000 in
theorem mX7_standing (l : Launch) (dC : Nat → ClassId) (dI : Nat → Nat → Nat) (cI : ClassId) (o q0 q1 : Nat) (f x M : Nat → Int32) (h : Int64) (v : Int32) (c9 : Int32) (hR : RW f 0) : Met l yX7_standing (ws_ yX7_standing cX7_standing 3 (some .int)) rmX7_standing (pcR (dC, dI) [(cI, .int)] (mW cI o q0 q1 f x M h) [.ref o, .int v, .int c9]) (vp_Si (fun r => r = fX7_standing f v c9)) 0 0 (fun _ => False) := by
  refine Met.ofW (cc := cX7_standing) (maxL := 3) (ret := (some .int)) (by decide) rfl ?_
  intro p e s m args below meth c s₁ B hml hv
  obtain ⟨ha, hP, hK, hn⟩ := hv
  have hx := B.exec
  have hb := B.bytes
  have hr := B.returns
  have hts0 := atoms_spec (ws := (ws_ yX7_standing cX7_standing 3 (some .int))) B.pre
  have hts : ∀ w ∈ lw_all, w.before args s = true := fun w h => hts0 w (List.mem_cons_of_mem _ h)
  have hown : s.vm.findClass RX7 = some m.cls := findClass_of_methodNamed B.named
  have hlocks := B.notSynchronized
  obtain ⟨Q, hQ⟩ : ∃ Q, Q = MQ below (vp_Si (fun r => r = fX7_standing f v c9)) args s 0 0 (fun _ => False) := ⟨_, rfl⟩
  rw [← hQ]
  have hl := lv_entry ([.ref o, .int v, .int c9]) (n := 3) (Nat.le_of_ble_eq_true rfl)
  rw [ha, lg_entry_eq, ← ha]
  generalize (lg_sl ([.ref o, .int v, .int c9]) ++ List.replicate (3 - (lg_sl ([.ref o, .int v, .int c9])).length) Slot.unset).toArray = ls at hl ⊢
  have hl : lv_has ls 3 [(0, .ref o), (1, .int v), (2, .int c9)] := hl
  show W p l e rmX7_standing s m args below meth c s.heap [] 0 0 Q (F0 m 0 ls [])
  have hF : fX7_standing f v c9 = fX7_standing f v c9 := rfl
  refine lv_aload_n hx hb dX7_standing_0 rfl (lv_at hl 0 rfl) ?_
  refine lv_iconst (v := 0) hx hb dX7_standing_1 (by decide) ?_
  refine lv_iload_n hx hb dX7_standing_2 rfl (lv_at hl 1 rfl) ?_
  refine lv_iload_n hx hb dX7_standing_3 rfl (lv_at hl 2 rfl) ?_
  refine k_calli (W.runS (As := [.int v, .int c9]) (rest := [.int 0, .ref o]) ⟨hx, hb, hml, hown, hts0⟩ (mX7_feudOf l dC dI  v c9) (va_cwS 2 hts0 (gi_S u_947 u_948 u_7 u_949) rfl rfl rfl (by decide +kernel) ⟨Nat.le_of_ble_eq_true rfl, Nat.le_of_ble_eq_true rfl⟩) (pcR_S (hP.sub (ws' := []) [] rfl) (hK.sub (tys' := []) [] rfl) hn) rfl rfl hl.1 rfl (lv_room (Nat.le_of_ble_eq_true rfl)) dX7_standing_4 ⟨Nat.zero_le _, Nat.zero_le _⟩) ?_
  refine k_calli (W.runV (As := [.int 0, .int (fX7_feudOf v c9)]) (rest := []) ⟨hx, hb, hml, hown, hts0⟩ (mX7_feudPlace l dC dI cI o q0 q1 f x M h 0 (fX7_feudOf v c9) (by first | omega | assumption)) (cwV 2 hts0 (gi_V u_950 u_952 us_21 u_7 u_953) rfl rfl rfl (by decide +kernel) ⟨Nat.le_of_ble_eq_true rfl, Nat.le_of_ble_eq_true rfl⟩) (pcR_V (ci := 5) (q0 := 0) hP hK hn rfl rfl) rfl rfl hl.1 rfl (lv_room (Nat.le_of_ble_eq_true rfl)) dX7_standing_7 ⟨Nat.zero_le _, Nat.zero_le _⟩) ?_
  refine lv_iconst (v := (-1)) hx hb dX7_standing_10 (by decide) ?_
  refine lv_icmp_eq (tgt := 18) hx hb dX7_standing_11 (by decide) (fun c_11 => ?_) (fun c_11 => ?_)
  · have hF := hF.trans (if_pos c_11)
    refine lv_aload_n hx hb dX7_standing_18 rfl (lv_at hl 0 rfl) ?_
    refine lv_iload_n hx hb dX7_standing_19 rfl (lv_at hl 1 rfl) ?_
    refine lv_iload_n hx hb dX7_standing_20 rfl (lv_at hl 2 rfl) ?_
    refine k_calli (W.runV (As := [.int v, .int c9]) (rest := []) ⟨hx, hb, hml, hown, hts0⟩ (mX7_leavers l dC dI cI o q0 q1 f x M h v c9 (by first | omega | assumption)) (cwV 2 hts0 (gi_V u_1168 u_1170 us_50 u_7 u_1171) rfl rfl rfl (by decide +kernel) ⟨Nat.le_of_ble_eq_true rfl, Nat.le_of_ble_eq_true rfl⟩) (pcR_V (ci := 5) (q0 := 0) hP hK hn rfl rfl) rfl rfl hl.1 rfl (lv_room (Nat.le_of_ble_eq_true rfl)) dX7_standing_21 ⟨Nat.zero_le _, Nat.zero_le _⟩) ?_
    rw [hQ]
    exact W.iret (v := (fX7_leavers f v c9)) hx hb hr (fun t ht hW => ⟨(fX7_leavers f v c9), rfl, hF.symm, ht⟩) (fun q hq => absurd hq List.not_mem_nil) dX7_standing_24
  have hF := hF.trans (if_neg c_11)
  refine lv_iconst (v := 0) hx hb dX7_standing_14 (by decide) ?_
  refine lv_goto (tgt := 24) hx hb dX7_standing_15 (by decide) ?_
  rw [hQ]
  exact W.iret (v := 0) hx hb hr (fun t ht hW => ⟨0, rfl, hF.symm, ht⟩) (fun q hq => absurd hq List.not_mem_nil) dX7_standing_24
