def fX7_in (v : Int32) (a : Int32) (c9 : Int32) : Int32 :=
  (if v < a then 0 else (if c9 < v then 0 else 1))
abbrev rmX7_in : Room := { frames := 0, cells := 0, slots := 0, locals := 0 }
set_option maxHeartbeats 4000000 in
set_option maxRecDepth 100000 in
theorem mX7_in (l : Launch) (dC : Nat → ClassId) (dI : Nat → Nat → Nat)  (v : Int32) (a : Int32) (c9 : Int32) : Met l yX7_in (ws_ yX7_in cX7_in 3 (some .boolean)) rmX7_in (pcR (dC, dI) [] [] [.int v, .int a, .int c9]) (vp_Si (fun r => r = fX7_in v a c9 ∧ (r = 0 ∨ r = 1))) 0 0 (fun _ => False) := by
  refine Met.ofW (cc := cX7_in) (maxL := 3) (ret := (some .boolean)) (by decide) rfl ?_
  intro p e s m args below meth c s₁ B hml hv
  obtain ⟨ha, hP, hK, hn⟩ := hv
  have hx := B.exec
  have hb := B.bytes
  have hr := B.returns
  have hts0 := atoms_spec (ws := (ws_ yX7_in cX7_in 3 (some .boolean))) B.pre
  have hts : ∀ w ∈ lw_all, w.before args s = true := fun w h => hts0 w (List.mem_cons_of_mem _ h)
  have hown : s.vm.findClass RX7 = some m.cls := findClass_of_methodNamed B.named
  have hlocks := B.notSynchronized
  obtain ⟨Q, hQ⟩ : ∃ Q, Q = MQ below (vp_Si (fun r => r = fX7_in v a c9 ∧ (r = 0 ∨ r = 1))) args s 0 0 (fun _ => False) := ⟨_, rfl⟩
  rw [← hQ]
  have hl := lv_entry ([.int v, .int a, .int c9]) (n := 3) (Nat.le_of_ble_eq_true rfl)
  rw [ha, lg_entry_eq, ← ha]
  generalize (lg_sl ([.int v, .int a, .int c9]) ++ List.replicate (3 - (lg_sl ([.int v, .int a, .int c9])).length) Slot.unset).toArray = ls at hl ⊢
  have hl : lv_has ls 3 [(0, .int v), (1, .int a), (2, .int c9)] := hl
  show W p l e rmX7_in s m args below meth c s.heap [] 0 0 Q (F0 m 0 ls [])
  have hF : fX7_in v a c9 = fX7_in v a c9 := rfl
  refine lv_iload_n hx hb dX7_in_0 rfl (lv_at hl 0 rfl) ?_
  refine lv_iload_n hx hb dX7_in_1 rfl (lv_at hl 1 rfl) ?_
  refine lv_icmp_lt (tgt := 14) hx hb dX7_in_2 (by decide) (fun c_2 => ?_) (fun c_2 => ?_)
  · have hF := hF.trans (if_pos c_2)
    refine lv_iconst (v := 0) hx hb dX7_in_14 (by decide) ?_
    rw [hQ]
    exact W.zret (ty := .boolean) (v := 0) hx hb hr rfl (fun t ht hW => ⟨0, rfl, ⟨hF.symm, Or.inl rfl⟩, ht⟩) (fun q hq => absurd hq List.not_mem_nil) dX7_in_15
  have hF := hF.trans (if_neg c_2)
  refine lv_iload_n hx hb dX7_in_5 rfl (lv_at hl 0 rfl) ?_
  refine lv_iload_n hx hb dX7_in_6 rfl (lv_at hl 2 rfl) ?_
  refine lv_icmp_gt (tgt := 14) hx hb dX7_in_7 (by decide) (fun c_7 => ?_) (fun c_7 => ?_)
  · have hF := hF.trans (if_pos c_7)
    refine lv_iconst (v := 0) hx hb dX7_in_14 (by decide) ?_
    rw [hQ]
    exact W.zret (ty := .boolean) (v := 0) hx hb hr rfl (fun t ht hW => ⟨0, rfl, ⟨hF.symm, Or.inl rfl⟩, ht⟩) (fun q hq => absurd hq List.not_mem_nil) dX7_in_15
  have hF := hF.trans (if_neg c_7)
  refine lv_iconst (v := 1) hx hb dX7_in_10 (by decide) ?_
  refine lv_goto (tgt := 15) hx hb dX7_in_11 (by decide) ?_
  rw [hQ]
  exact W.zret (ty := .boolean) (v := 1) hx hb hr rfl (fun t ht hW => ⟨1, rfl, ⟨hF.symm, Or.inr rfl⟩, ht⟩) (fun q hq => absurd hq List.not_mem_nil) dX7_in_15

def fX7_isFamily (v : Int32) : Int32 :=
  (fX7_in v 0 5)
abbrev rmX7_isFamily : Room := { frames := 1, cells := 0, slots := 0, locals := 22 }
set_option maxHeartbeats 4000000 in
set_option maxRecDepth 100000 in
theorem mX7_isFamily (l : Launch) (dC : Nat → ClassId) (dI : Nat → Nat → Nat)  (v : Int32) : Met l yX7_isFamily (ws_ yX7_isFamily cX7_isFamily 1 (some .boolean)) rmX7_isFamily (pcR (dC, dI) [] [] [.int v]) (vp_Si (fun r => r = fX7_isFamily v ∧ (r = 0 ∨ r = 1))) 0 0 (fun _ => False) := by
  refine Met.ofW (cc := cX7_isFamily) (maxL := 1) (ret := (some .boolean)) (by decide) rfl ?_
  intro p e s m args below meth c s₁ B hml hv
  obtain ⟨ha, hP, hK, hn⟩ := hv
  have hx := B.exec
  have hb := B.bytes
  have hr := B.returns
  have hts0 := atoms_spec (ws := (ws_ yX7_isFamily cX7_isFamily 1 (some .boolean))) B.pre
  have hts : ∀ w ∈ lw_all, w.before args s = true := fun w h => hts0 w (List.mem_cons_of_mem _ h)
  have hown : s.vm.findClass RX7 = some m.cls := findClass_of_methodNamed B.named
  have hlocks := B.notSynchronized
  obtain ⟨Q, hQ⟩ : ∃ Q, Q = MQ below (vp_Si (fun r => r = fX7_isFamily v ∧ (r = 0 ∨ r = 1))) args s 0 0 (fun _ => False) := ⟨_, rfl⟩
  rw [← hQ]
  have hl := lv_entry ([.int v]) (n := 1) (Nat.le_of_ble_eq_true rfl)
  rw [ha, lg_entry_eq, ← ha]
  generalize (lg_sl ([.int v]) ++ List.replicate (1 - (lg_sl ([.int v])).length) Slot.unset).toArray = ls at hl ⊢
  have hl : lv_has ls 1 [(0, .int v)] := hl
  show W p l e rmX7_isFamily s m args below meth c s.heap [] 0 0 Q (F0 m 0 ls [])
  have hF : fX7_isFamily v = fX7_isFamily v := rfl
  refine lv_iload_n hx hb dX7_isFamily_0 rfl (lv_at hl 0 rfl) ?_
  refine lv_iconst (v := 0) hx hb dX7_isFamily_1 (by decide) ?_
  refine lv_iconst (v := 5) hx hb dX7_isFamily_2 (by decide) ?_
  refine k_callb (W.runS (As := [.int v, .int 0, .int 5]) (rest := []) ⟨hx, hb, hml, hown, hts0⟩ (mX7_in l dC dI  v 0 5) (va_cwS 3 hts0 (gi_S u_905 u_906 u_7 u_907) rfl rfl rfl (by decide +kernel) ⟨Nat.le_of_ble_eq_true rfl, Nat.le_of_ble_eq_true rfl⟩) (pcR_S (hP.sub (ws' := []) [] rfl) (hK.sub (tys' := []) [] rfl) hn) rfl rfl hl.1 rfl (lv_room (Nat.le_of_ble_eq_true rfl)) dX7_isFamily_3 ⟨Nat.zero_le _, Nat.zero_le _⟩) (fun br3 => ?_)
  rw [hQ]
  exact W.zret (ty := .boolean) (v := (fX7_in v 0 5)) hx hb hr (nb01 (br3)) (fun t ht hW => ⟨(fX7_in v 0 5), rfl, ⟨hF.symm, br3⟩, ht⟩) (fun q hq => absurd hq List.not_mem_nil) dX7_isFamily_6

def fX7_arePair (v : Int32) (a : Int32) : Int32 :=
  (if (fX7_isFamily v) = 0 then 0 else (if (fX7_isFamily a) = 0 then 0 else (if v = a then 0 else 1)))
abbrev rmX7_arePair : Room := { frames := 2, cells := 0, slots := 0, locals := 42 }
set_option maxHeartbeats 4000000 in
set_option maxRecDepth 100000 in
theorem mX7_arePair (l : Launch) (dC : Nat → ClassId) (dI : Nat → Nat → Nat)  (v : Int32) (a : Int32) : Met l yX7_arePair (ws_ yX7_arePair cX7_arePair 2 (some .boolean)) rmX7_arePair (pcR (dC, dI) [] [] [.int v, .int a]) (vp_Si (fun r => r = fX7_arePair v a ∧ (r = 0 ∨ r = 1))) 0 0 (fun _ => False) := by
  refine Met.ofW (cc := cX7_arePair) (maxL := 2) (ret := (some .boolean)) (by decide) rfl ?_
  intro p e s m args below meth c s₁ B hml hv
  obtain ⟨ha, hP, hK, hn⟩ := hv
  have hx := B.exec
  have hb := B.bytes
  have hr := B.returns
  have hts0 := atoms_spec (ws := (ws_ yX7_arePair cX7_arePair 2 (some .boolean))) B.pre
  have hts : ∀ w ∈ lw_all, w.before args s = true := fun w h => hts0 w (List.mem_cons_of_mem _ h)
  have hown : s.vm.findClass RX7 = some m.cls := findClass_of_methodNamed B.named
  have hlocks := B.notSynchronized
  obtain ⟨Q, hQ⟩ : ∃ Q, Q = MQ below (vp_Si (fun r => r = fX7_arePair v a ∧ (r = 0 ∨ r = 1))) args s 0 0 (fun _ => False) := ⟨_, rfl⟩
  rw [← hQ]
  have hl := lv_entry ([.int v, .int a]) (n := 2) (Nat.le_of_ble_eq_true rfl)
  rw [ha, lg_entry_eq, ← ha]
  generalize (lg_sl ([.int v, .int a]) ++ List.replicate (2 - (lg_sl ([.int v, .int a])).length) Slot.unset).toArray = ls at hl ⊢
  have hl : lv_has ls 2 [(0, .int v), (1, .int a)] := hl
  show W p l e rmX7_arePair s m args below meth c s.heap [] 0 0 Q (F0 m 0 ls [])
  have hF : fX7_arePair v a = fX7_arePair v a := rfl
  refine lv_iload_n hx hb dX7_arePair_0 rfl (lv_at hl 0 rfl) ?_
  refine k_callb (W.runS (As := [.int v]) (rest := []) ⟨hx, hb, hml, hown, hts0⟩ (mX7_isFamily l dC dI  v) (va_cwS 1 hts0 (gi_S u_902 u_903 u_7 u_904) rfl rfl rfl (by decide +kernel) ⟨Nat.le_of_ble_eq_true rfl, Nat.le_of_ble_eq_true rfl⟩) (pcR_S (hP.sub (ws' := []) [] rfl) (hK.sub (tys' := []) [] rfl) hn) rfl rfl hl.1 rfl (lv_room (Nat.le_of_ble_eq_true rfl)) dX7_arePair_1 ⟨Nat.zero_le _, Nat.zero_le _⟩) (fun br1 => ?_)
  refine lv_if_eq (tgt := 23) hx hb dX7_arePair_4 (by decide) (fun c_4 => ?_) (fun c_4 => ?_)
  · have hF := hF.trans (if_pos c_4)
    refine lv_iconst (v := 0) hx hb dX7_arePair_23 (by decide) ?_
    rw [hQ]
    exact W.zret (ty := .boolean) (v := 0) hx hb hr rfl (fun t ht hW => ⟨0, rfl, ⟨hF.symm, Or.inl rfl⟩, ht⟩) (fun q hq => absurd hq List.not_mem_nil) dX7_arePair_24
  have hF := hF.trans (if_neg c_4)
  refine lv_iload_n hx hb dX7_arePair_7 rfl (lv_at hl 1 rfl) ?_
  refine k_callb (W.runS (As := [.int a]) (rest := []) ⟨hx, hb, hml, hown, hts0⟩ (mX7_isFamily l dC dI  a) (va_cwS 1 hts0 (gi_S u_902 u_903 u_7 u_904) rfl rfl rfl (by decide +kernel) ⟨Nat.le_of_ble_eq_true rfl, Nat.le_of_ble_eq_true rfl⟩) (pcR_S (hP.sub (ws' := []) [] rfl) (hK.sub (tys' := []) [] rfl) hn) rfl rfl hl.1 rfl (lv_room (Nat.le_of_ble_eq_true rfl)) dX7_arePair_8 ⟨Nat.zero_le _, Nat.zero_le _⟩) (fun br8 => ?_)
  refine lv_if_eq (tgt := 23) hx hb dX7_arePair_11 (by decide) (fun c_11 => ?_) (fun c_11 => ?_)
  · have hF := hF.trans (if_pos c_11)
    refine lv_iconst (v := 0) hx hb dX7_arePair_23 (by decide) ?_
    rw [hQ]
    exact W.zret (ty := .boolean) (v := 0) hx hb hr rfl (fun t ht hW => ⟨0, rfl, ⟨hF.symm, Or.inl rfl⟩, ht⟩) (fun q hq => absurd hq List.not_mem_nil) dX7_arePair_24
  have hF := hF.trans (if_neg c_11)
  refine lv_iload_n hx hb dX7_arePair_14 rfl (lv_at hl 0 rfl) ?_
  refine lv_iload_n hx hb dX7_arePair_15 rfl (lv_at hl 1 rfl) ?_
  refine lv_icmp_eq (tgt := 23) hx hb dX7_arePair_16 (by decide) (fun c_16 => ?_) (fun c_16 => ?_)
  · have hF := hF.trans (if_pos c_16)
    refine lv_iconst (v := 0) hx hb dX7_arePair_23 (by decide) ?_
    rw [hQ]
    exact W.zret (ty := .boolean) (v := 0) hx hb hr rfl (fun t ht hW => ⟨0, rfl, ⟨hF.symm, Or.inl rfl⟩, ht⟩) (fun q hq => absurd hq List.not_mem_nil) dX7_arePair_24
  have hF := hF.trans (if_neg c_16)
  refine lv_iconst (v := 1) hx hb dX7_arePair_19 (by decide) ?_
  refine lv_goto (tgt := 24) hx hb dX7_arePair_20 (by decide) ?_
  rw [hQ]
  exact W.zret (ty := .boolean) (v := 1) hx hb hr rfl (fun t ht hW => ⟨1, rfl, ⟨hF.symm, Or.inr rfl⟩, ht⟩) (fun q hq => absurd hq List.not_mem_nil) dX7_arePair_24

def fX7_isAtLeg (z : Int32) : Int32 :=
  (if (z - z / 3 * 3) = 0 then 1 else 0)
abbrev rmX7_isAtLeg : Room := { frames := 0, cells := 0, slots := 0, locals := 0 }
set_option maxHeartbeats 4000000 in
set_option maxRecDepth 100000 in
theorem mX7_isAtLeg (l : Launch) (dC : Nat → ClassId) (dI : Nat → Nat → Nat)  (z : Int32) : Met l yX7_isAtLeg (ws_ yX7_isAtLeg cX7_isAtLeg 1 (some .boolean)) rmX7_isAtLeg (pcR (dC, dI) [] [] [.int z]) (vp_Si (fun r => r = fX7_isAtLeg z ∧ (r = 0 ∨ r = 1))) 0 0 (fun _ => False) := by
  refine Met.ofW (cc := cX7_isAtLeg) (maxL := 1) (ret := (some .boolean)) (by decide) rfl ?_
  intro p e s m args below meth c s₁ B hml hv
  obtain ⟨ha, hP, hK, hn⟩ := hv
  have hx := B.exec
  have hb := B.bytes
  have hr := B.returns
  have hts0 := atoms_spec (ws := (ws_ yX7_isAtLeg cX7_isAtLeg 1 (some .boolean))) B.pre
  have hts : ∀ w ∈ lw_all, w.before args s = true := fun w h => hts0 w (List.mem_cons_of_mem _ h)
  have hown : s.vm.findClass RX7 = some m.cls := findClass_of_methodNamed B.named
  have hlocks := B.notSynchronized
  obtain ⟨Q, hQ⟩ : ∃ Q, Q = MQ below (vp_Si (fun r => r = fX7_isAtLeg z ∧ (r = 0 ∨ r = 1))) args s 0 0 (fun _ => False) := ⟨_, rfl⟩
  rw [← hQ]
  have hl := lv_entry ([.int z]) (n := 1) (Nat.le_of_ble_eq_true rfl)
  rw [ha, lg_entry_eq, ← ha]
  generalize (lg_sl ([.int z]) ++ List.replicate (1 - (lg_sl ([.int z])).length) Slot.unset).toArray = ls at hl ⊢
  have hl : lv_has ls 1 [(0, .int z)] := hl
  show W p l e rmX7_isAtLeg s m args below meth c s.heap [] 0 0 Q (F0 m 0 ls [])
  have hF : fX7_isAtLeg z = fX7_isAtLeg z := rfl
  refine lv_iload_n hx hb dX7_isAtLeg_0 rfl (lv_at hl 0 rfl) ?_
  refine lv_iconst (v := 3) hx hb dX7_isAtLeg_1 (by decide) ?_
  refine lv_irem hx hb dX7_isAtLeg_2 (by decide) ?_
  refine lv_if_ne (tgt := 10) hx hb dX7_isAtLeg_3 (by decide) (fun c_3 => ?_) (fun c_3 => ?_)
  · have hF := hF.trans (if_neg c_3)
    refine lv_iconst (v := 0) hx hb dX7_isAtLeg_10 (by decide) ?_
    rw [hQ]
    exact W.zret (ty := .boolean) (v := 0) hx hb hr rfl (fun t ht hW => ⟨0, rfl, ⟨hF.symm, Or.inl rfl⟩, ht⟩) (fun q hq => absurd hq List.not_mem_nil) dX7_isAtLeg_11
  have hF := hF.trans (if_pos c_3)
  refine lv_iconst (v := 1) hx hb dX7_isAtLeg_6 (by decide) ?_
  refine lv_goto (tgt := 11) hx hb dX7_isAtLeg_7 (by decide) ?_
  rw [hQ]
  exact W.zret (ty := .boolean) (v := 1) hx hb hr rfl (fun t ht hW => ⟨1, rfl, ⟨hF.symm, Or.inr rfl⟩, ht⟩) (fun q hq => absurd hq List.not_mem_nil) dX7_isAtLeg_11

def fX7_feudOf (v : Int32) (a : Int32) : Int32 :=
  (if a ≤ v then ((6 * a) + v) else ((6 * v) + a))
abbrev rmX7_feudOf : Room := { frames := 0, cells := 0, slots := 0, locals := 0 }
set_option maxHeartbeats 4000000 in
set_option maxRecDepth 100000 in
theorem mX7_feudOf (l : Launch) (dC : Nat → ClassId) (dI : Nat → Nat → Nat)  (v : Int32) (a : Int32) : Met l yX7_feudOf (ws_ yX7_feudOf cX7_feudOf 2 (some .int)) rmX7_feudOf (pcR (dC, dI) [] [] [.int v, .int a]) (vp_Si (fun r => r = fX7_feudOf v a)) 0 0 (fun _ => False) := by
  refine Met.ofW (cc := cX7_feudOf) (maxL := 2) (ret := (some .int)) (by decide) rfl ?_
  intro p e s m args below meth c s₁ B hml hv
  obtain ⟨ha, hP, hK, hn⟩ := hv
  have hx := B.exec
  have hb := B.bytes
  have hr := B.returns
  have hts0 := atoms_spec (ws := (ws_ yX7_feudOf cX7_feudOf 2 (some .int))) B.pre
  have hts : ∀ w ∈ lw_all, w.before args s = true := fun w h => hts0 w (List.mem_cons_of_mem _ h)
  have hown : s.vm.findClass RX7 = some m.cls := findClass_of_methodNamed B.named
  have hlocks := B.notSynchronized
  obtain ⟨Q, hQ⟩ : ∃ Q, Q = MQ below (vp_Si (fun r => r = fX7_feudOf v a)) args s 0 0 (fun _ => False) := ⟨_, rfl⟩
  rw [← hQ]
  have hl := lv_entry ([.int v, .int a]) (n := 2) (Nat.le_of_ble_eq_true rfl)
  rw [ha, lg_entry_eq, ← ha]
  generalize (lg_sl ([.int v, .int a]) ++ List.replicate (2 - (lg_sl ([.int v, .int a])).length) Slot.unset).toArray = ls at hl ⊢
  have hl : lv_has ls 2 [(0, .int v), (1, .int a)] := hl
  show W p l e rmX7_feudOf s m args below meth c s.heap [] 0 0 Q (F0 m 0 ls [])
  have hF : fX7_feudOf v a = fX7_feudOf v a := rfl
  refine lv_iload_n hx hb dX7_feudOf_0 rfl (lv_at hl 0 rfl) ?_
  refine lv_iload_n hx hb dX7_feudOf_1 rfl (lv_at hl 1 rfl) ?_
  refine lv_icmp_ge (tgt := 14) hx hb dX7_feudOf_2 (by decide) (fun c_2 => ?_) (fun c_2 => ?_)
  · have hF := hF.trans (if_pos c_2)
    refine lv_bipush (v := 6) hx hb dX7_feudOf_14 (by decide) ?_
    refine lv_iload_n hx hb dX7_feudOf_16 rfl (lv_at hl 1 rfl) ?_
    refine lv_imul hx hb dX7_feudOf_17 ?_
    refine lv_iload_n hx hb dX7_feudOf_18 rfl (lv_at hl 0 rfl) ?_
    refine lv_iadd hx hb dX7_feudOf_19 ?_
    rw [hQ]
    exact W.iret (v := ((6 * a) + v)) hx hb hr (fun t ht hW => ⟨((6 * a) + v), rfl, hF.symm, ht⟩) (fun q hq => absurd hq List.not_mem_nil) dX7_feudOf_20
  have hF := hF.trans (if_neg c_2)
  refine lv_bipush (v := 6) hx hb dX7_feudOf_5 (by decide) ?_
  refine lv_iload_n hx hb dX7_feudOf_7 rfl (lv_at hl 0 rfl) ?_
  refine lv_imul hx hb dX7_feudOf_8 ?_
  refine lv_iload_n hx hb dX7_feudOf_9 rfl (lv_at hl 1 rfl) ?_
  refine lv_iadd hx hb dX7_feudOf_10 ?_
  refine lv_goto (tgt := 20) hx hb dX7_feudOf_11 (by decide) ?_
  rw [hQ]
  exact W.iret (v := ((6 * v) + a)) hx hb hr (fun t ht hW => ⟨((6 * v) + a), rfl, hF.symm, ht⟩) (fun q hq => absurd hq List.not_mem_nil) dX7_feudOf_20

def fX7_mostOf (v : Int32) : Int32 :=
  (if v = 0 then 8 else (if v = 3 then 9 else 20))
abbrev rmX7_mostOf : Room := { frames := 0, cells := 0, slots := 0, locals := 0 }
set_option maxHeartbeats 4000000 in
set_option maxRecDepth 100000 in
theorem mX7_mostOf (l : Launch) (dC : Nat → ClassId) (dI : Nat → Nat → Nat)  (v : Int32) : Met l yX7_mostOf (ws_ yX7_mostOf cX7_mostOf 1 (some .int)) rmX7_mostOf (pcR (dC, dI) [] [] [.int v]) (vp_Si (fun r => r = fX7_mostOf v)) 0 0 (fun _ => False) := by
  refine Met.ofW (cc := cX7_mostOf) (maxL := 1) (ret := (some .int)) (by decide) rfl ?_
  intro p e s m args below meth c s₁ B hml hv
  obtain ⟨ha, hP, hK, hn⟩ := hv
  have hx := B.exec
  have hb := B.bytes
  have hr := B.returns
  have hts0 := atoms_spec (ws := (ws_ yX7_mostOf cX7_mostOf 1 (some .int))) B.pre
  have hts : ∀ w ∈ lw_all, w.before args s = true := fun w h => hts0 w (List.mem_cons_of_mem _ h)
  have hown : s.vm.findClass RX7 = some m.cls := findClass_of_methodNamed B.named
  have hlocks := B.notSynchronized
  obtain ⟨Q, hQ⟩ : ∃ Q, Q = MQ below (vp_Si (fun r => r = fX7_mostOf v)) args s 0 0 (fun _ => False) := ⟨_, rfl⟩
  rw [← hQ]
  have hl := lv_entry ([.int v]) (n := 1) (Nat.le_of_ble_eq_true rfl)
  rw [ha, lg_entry_eq, ← ha]
  generalize (lg_sl ([.int v]) ++ List.replicate (1 - (lg_sl ([.int v])).length) Slot.unset).toArray = ls at hl ⊢
  have hl : lv_has ls 1 [(0, .int v)] := hl
  show W p l e rmX7_mostOf s m args below meth c s.heap [] 0 0 Q (F0 m 0 ls [])
  have hF : fX7_mostOf v = fX7_mostOf v := rfl
  refine lv_iload_n hx hb dX7_mostOf_0 rfl (lv_at hl 0 rfl) ?_
  refine lv_if_ne (tgt := 9) hx hb dX7_mostOf_1 (by decide) (fun c_1 => ?_) (fun c_1 => ?_)
  · have hF := hF.trans (if_neg c_1)
    refine lv_iload_n hx hb dX7_mostOf_9 rfl (lv_at hl 0 rfl) ?_
    refine lv_iconst (v := 3) hx hb dX7_mostOf_10 (by decide) ?_
    refine lv_icmp_ne (tgt := 19) hx hb dX7_mostOf_11 (by decide) (fun c_11 => ?_) (fun c_11 => ?_)
    · have hF := hF.trans (if_neg c_11)
      refine lv_bipush (v := 20) hx hb dX7_mostOf_19 (by decide) ?_
      rw [hQ]
      exact W.iret (v := 20) hx hb hr (fun t ht hW => ⟨20, rfl, hF.symm, ht⟩) (fun q hq => absurd hq List.not_mem_nil) dX7_mostOf_21
    have hF := hF.trans (if_pos c_11)
    refine lv_bipush (v := 9) hx hb dX7_mostOf_14 (by decide) ?_
    refine lv_goto (tgt := 21) hx hb dX7_mostOf_16 (by decide) ?_
    rw [hQ]
    exact W.iret (v := 9) hx hb hr (fun t ht hW => ⟨9, rfl, hF.symm, ht⟩) (fun q hq => absurd hq List.not_mem_nil) dX7_mostOf_21
  have hF := hF.trans (if_pos c_1)
  refine lv_bipush (v := 8) hx hb dX7_mostOf_4 (by decide) ?_
  refine lv_goto (tgt := 21) hx hb dX7_mostOf_6 (by decide) ?_
  rw [hQ]
  exact W.iret (v := 8) hx hb hr (fun t ht hW => ⟨8, rfl, hF.symm, ht⟩) (fun q hq => absurd hq List.not_mem_nil) dX7_mostOf_21

def fX7_thrown (M : Nat → Int32) : Int32 :=
  (M 0)
abbrev rmX7_thrown : Room := { frames := 0, cells := 0, slots := 0, locals := 0 }
set_option maxHeartbeats 4000000 in
set_option maxRecDepth 100000 in
theorem mX7_thrown (l : Launch) (dC : Nat → ClassId) (dI : Nat → Nat → Nat) (cI : ClassId) (o q0 q1 : Nat) (f x M : Nat → Int32) (h : Int64) : Met l yX7_thrown (ws_ yX7_thrown cX7_thrown 1 (some .int)) rmX7_thrown (pcR (dC, dI) [(cI, .int)] (mW cI o q0 q1 f x M h) [.ref o]) (vp_Si (fun r => r = fX7_thrown M)) 0 0 (fun _ => False) := by
  refine Met.ofW (cc := cX7_thrown) (maxL := 1) (ret := (some .int)) (by decide) rfl ?_
  intro p e s m args below meth c s₁ B hml hv
  obtain ⟨ha, hP, hK, hn⟩ := hv
  have hx := B.exec
  have hb := B.bytes
  have hr := B.returns
  have hts0 := atoms_spec (ws := (ws_ yX7_thrown cX7_thrown 1 (some .int))) B.pre
  have hts : ∀ w ∈ lw_all, w.before args s = true := fun w h => hts0 w (List.mem_cons_of_mem _ h)
  have hown : s.vm.findClass RX7 = some m.cls := findClass_of_methodNamed B.named
  have hlocks := B.notSynchronized
  have htX7 : ∀ w ∈ wsX70, w.before args s = true := fun w h => hts w (wX7 w h)
  obtain ⟨Q, hQ⟩ : ∃ Q, Q = MQ below (vp_Si (fun r => r = fX7_thrown M)) args s 0 0 (fun _ => False) := ⟨_, rfl⟩
  rw [← hQ]
  have hl := lv_entry ([.ref o]) (n := 1) (Nat.le_of_ble_eq_true rfl)
  rw [ha, lg_entry_eq, ← ha]
  generalize (lg_sl ([.ref o]) ++ List.replicate (1 - (lg_sl ([.ref o])).length) Slot.unset).toArray = ls at hl ⊢
  have hl : lv_has ls 1 [(0, .ref o)] := hl
  show W p l e rmX7_thrown s m args below meth c s.heap [] 0 0 Q (F0 m 0 ls [])
  have hF : fX7_thrown M = fX7_thrown M := rfl
  refine lv_aload_n hx hb dX7_thrown_0 rfl (lv_at hl 0 rfl) ?_
  refine va_get (D := (dC, dI)) (ci := 5) (v := .int (M 0)) (C := RX7) (T := TX7) (N := 12) hx hb htX7 (fun _ h => h) hown hK hP 0 rfl rfl 0 (by decide) (hts _ u_857) (fun _ h9 => h9) rfl dX7_thrown_1 ?_
  rw [hQ]
  exact W.iret (v := (M 0)) hx hb hr (fun t ht hW => ⟨(M 0), rfl, hF.symm, ht⟩) (fun q hq => absurd hq List.not_mem_nil) dX7_thrown_4

def fX7_isGuest (f : Nat → Int32) (v : Int32) : Int32 :=
  (fX7_in v 0 ((f 0) - 1))
abbrev rmX7_isGuest : Room := { frames := 1, cells := 0, slots := 0, locals := 22 }
set_option maxHeartbeats 4000000 in
set_option maxRecDepth 100000 in
theorem mX7_isGuest (l : Launch) (dC : Nat → ClassId) (dI : Nat → Nat → Nat) (cI : ClassId) (o q0 q1 : Nat) (f x M : Nat → Int32) (h : Int64) (v : Int32) : Met l yX7_isGuest (ws_ yX7_isGuest cX7_isGuest 2 (some .boolean)) rmX7_isGuest (pcR (dC, dI) [(cI, .int)] (mW cI o q0 q1 f x M h) [.ref o, .int v]) (vp_Si (fun r => r = fX7_isGuest f v ∧ (r = 0 ∨ r = 1))) 0 0 (fun _ => False) := by
  refine Met.ofW (cc := cX7_isGuest) (maxL := 2) (ret := (some .boolean)) (by decide) rfl ?_
  intro p e s m args below meth c s₁ B hml hv
  obtain ⟨ha, hP, hK, hn⟩ := hv
  have hx := B.exec
  have hb := B.bytes
  have hr := B.returns
  have hts0 := atoms_spec (ws := (ws_ yX7_isGuest cX7_isGuest 2 (some .boolean))) B.pre
  have hts : ∀ w ∈ lw_all, w.before args s = true := fun w h => hts0 w (List.mem_cons_of_mem _ h)
  have hown : s.vm.findClass RX7 = some m.cls := findClass_of_methodNamed B.named
  have hlocks := B.notSynchronized
  have htX7 : ∀ w ∈ wsX70, w.before args s = true := fun w h => hts w (wX7 w h)
  obtain ⟨Q, hQ⟩ : ∃ Q, Q = MQ below (vp_Si (fun r => r = fX7_isGuest f v ∧ (r = 0 ∨ r = 1))) args s 0 0 (fun _ => False) := ⟨_, rfl⟩
  rw [← hQ]
  have hl := lv_entry ([.ref o, .int v]) (n := 2) (Nat.le_of_ble_eq_true rfl)
  rw [ha, lg_entry_eq, ← ha]
  generalize (lg_sl ([.ref o, .int v]) ++ List.replicate (2 - (lg_sl ([.ref o, .int v])).length) Slot.unset).toArray = ls at hl ⊢
  have hl : lv_has ls 2 [(0, .ref o), (1, .int v)] := hl
  show W p l e rmX7_isGuest s m args below meth c s.heap [] 0 0 Q (F0 m 0 ls [])
  have hF : fX7_isGuest f v = fX7_isGuest f v := rfl
  refine lv_iload_n hx hb dX7_isGuest_0 rfl (lv_at hl 1 rfl) ?_
  refine lv_iconst (v := 0) hx hb dX7_isGuest_1 (by decide) ?_
  refine lv_aload_n hx hb dX7_isGuest_2 rfl (lv_at hl 0 rfl) ?_
  refine va_get (D := (dC, dI)) (ci := 5) (v := .ref q0) (C := RX7) (T := TX7) (N := 12) hx hb htX7 (fun _ h => h) hown hK hP 0 rfl rfl 1 (by decide) (hts _ u_858) (fun _ h9 => h9) rfl dX7_isGuest_3 ?_
  refine lv_iconst (v := 0) hx hb dX7_isGuest_6 (by decide) ?_
  refine va_iald hx hb hK hP 1 0 rfl rfl (vp_in_nI (n := 0) (by omega) (by decide)) dX7_isGuest_7 ?_
  refine lv_tope (y := (f 0)) (at_nI (k := 0) (by omega)) ?_
  refine lv_iconst (v := 1) hx hb dX7_isGuest_8 (by decide) ?_
  refine lv_isub hx hb dX7_isGuest_9 ?_
  refine k_callb (W.runS (As := [.int v, .int 0, .int ((f 0) - 1)]) (rest := []) ⟨hx, hb, hml, hown, hts0⟩ (mX7_in l dC dI  v 0 ((f 0) - 1)) (va_cwS 3 hts0 (gi_S u_905 u_906 u_7 u_907) rfl rfl rfl (by decide +kernel) ⟨Nat.le_of_ble_eq_true rfl, Nat.le_of_ble_eq_true rfl⟩) (pcR_S (hP.sub (ws' := []) [] rfl) (hK.sub (tys' := []) [] rfl) hn) rfl rfl hl.1 rfl (lv_room (Nat.le_of_ble_eq_true rfl)) dX7_isGuest_10 ⟨Nat.zero_le _, Nat.zero_le _⟩) (fun br10 => ?_)
  rw [hQ]
  exact W.zret (ty := .boolean) (v := (fX7_in v 0 ((f 0) - 1))) hx hb hr (nb01 (br10)) (fun t ht hW => ⟨(fX7_in v 0 ((f 0) - 1)), rfl, ⟨hF.symm, br10⟩, ht⟩) (fun q hq => absurd hq List.not_mem_nil) dX7_isGuest_13

def fX7_isTable (f : Nat → Int32) (v : Int32) : Int32 :=
  (fX7_in v 0 ((f 1) - 1))
abbrev rmX7_isTable : Room := { frames := 1, cells := 0, slots := 0, locals := 22 }
set_option maxHeartbeats 4000000 in
set_option maxRecDepth 100000 in
theorem mX7_isTable (l : Launch) (dC : Nat → ClassId) (dI : Nat → Nat → Nat) (cI : ClassId) (o q0 q1 : Nat) (f x M : Nat → Int32) (h : Int64) (v : Int32) : Met l yX7_isTable (ws_ yX7_isTable cX7_isTable 2 (some .boolean)) rmX7_isTable (pcR (dC, dI) [(cI, .int)] (mW cI o q0 q1 f x M h) [.ref o, .int v]) (vp_Si (fun r => r = fX7_isTable f v ∧ (r = 0 ∨ r = 1))) 0 0 (fun _ => False) := by
  refine Met.ofW (cc := cX7_isTable) (maxL := 2) (ret := (some .boolean)) (by decide) rfl ?_
  intro p e s m args below meth c s₁ B hml hv
  obtain ⟨ha, hP, hK, hn⟩ := hv
  have hx := B.exec
  have hb := B.bytes
  have hr := B.returns
  have hts0 := atoms_spec (ws := (ws_ yX7_isTable cX7_isTable 2 (some .boolean))) B.pre
  have hts : ∀ w ∈ lw_all, w.before args s = true := fun w h => hts0 w (List.mem_cons_of_mem _ h)
  have hown : s.vm.findClass RX7 = some m.cls := findClass_of_methodNamed B.named
  have hlocks := B.notSynchronized
  have htX7 : ∀ w ∈ wsX70, w.before args s = true := fun w h => hts w (wX7 w h)
  obtain ⟨Q, hQ⟩ : ∃ Q, Q = MQ below (vp_Si (fun r => r = fX7_isTable f v ∧ (r = 0 ∨ r = 1))) args s 0 0 (fun _ => False) := ⟨_, rfl⟩
  rw [← hQ]
  have hl := lv_entry ([.ref o, .int v]) (n := 2) (Nat.le_of_ble_eq_true rfl)
  rw [ha, lg_entry_eq, ← ha]
  generalize (lg_sl ([.ref o, .int v]) ++ List.replicate (2 - (lg_sl ([.ref o, .int v])).length) Slot.unset).toArray = ls at hl ⊢
  have hl : lv_has ls 2 [(0, .ref o), (1, .int v)] := hl
  show W p l e rmX7_isTable s m args below meth c s.heap [] 0 0 Q (F0 m 0 ls [])
  have hF : fX7_isTable f v = fX7_isTable f v := rfl
  refine lv_iload_n hx hb dX7_isTable_0 rfl (lv_at hl 1 rfl) ?_
  refine lv_iconst (v := 0) hx hb dX7_isTable_1 (by decide) ?_
  refine lv_aload_n hx hb dX7_isTable_2 rfl (lv_at hl 0 rfl) ?_
  refine va_get (D := (dC, dI)) (ci := 5) (v := .ref q0) (C := RX7) (T := TX7) (N := 12) hx hb htX7 (fun _ h => h) hown hK hP 0 rfl rfl 1 (by decide) (hts _ u_858) (fun _ h9 => h9) rfl dX7_isTable_3 ?_
  refine lv_iconst (v := 1) hx hb dX7_isTable_6 (by decide) ?_
  refine va_iald hx hb hK hP 1 0 rfl rfl (vp_in_nI (n := 1) (by omega) (by decide)) dX7_isTable_7 ?_
  refine lv_tope (y := (f 1)) (at_nI (k := 1) (by omega)) ?_
  refine lv_iconst (v := 1) hx hb dX7_isTable_8 (by decide) ?_
  refine lv_isub hx hb dX7_isTable_9 ?_
  refine k_callb (W.runS (As := [.int v, .int 0, .int ((f 1) - 1)]) (rest := []) ⟨hx, hb, hml, hown, hts0⟩ (mX7_in l dC dI  v 0 ((f 1) - 1)) (va_cwS 3 hts0 (gi_S u_905 u_906 u_7 u_907) rfl rfl rfl (by decide +kernel) ⟨Nat.le_of_ble_eq_true rfl, Nat.le_of_ble_eq_true rfl⟩) (pcR_S (hP.sub (ws' := []) [] rfl) (hK.sub (tys' := []) [] rfl) hn) rfl rfl hl.1 rfl (lv_room (Nat.le_of_ble_eq_true rfl)) dX7_isTable_10 ⟨Nat.zero_le _, Nat.zero_le _⟩) (fun br10 => ?_)
  rw [hQ]
  exact W.zret (ty := .boolean) (v := (fX7_in v 0 ((f 1) - 1))) hx hb hr (nb01 (br10)) (fun t ht hW => ⟨(fX7_in v 0 ((f 1) - 1)), rfl, ⟨hF.symm, br10⟩, ht⟩) (fun q hq => absurd hq List.not_mem_nil) dX7_isTable_13

def fX7_of (f : Nat → Int32) (b : Nat) (g : Nat) (w : Nat) : Int32 :=
  (f (((b + 38) + (5 * g)) + w))
abbrev rmX7_of : Room := { frames := 0, cells := 0, slots := 0, locals := 0 }
set_option maxHeartbeats 4000000 in
set_option maxRecDepth 100000 in
theorem mX7_of (l : Launch) (dC : Nat → ClassId) (dI : Nat → Nat → Nat) (cI : ClassId) (o q0 q1 : Nat) (f x M : Nat → Int32) (h : Int64) (b : Nat) (g : Nat) (w : Nat) (hi9 : b + 38 + 5 * g + w < 1062) : Met l yX7_of (ws_ yX7_of cX7_of 4 (some .int)) rmX7_of (pcR (dC, dI) [(cI, .int)] (mW cI o q0 q1 f x M h) [.ref o, .int (nI b), .int (nI g), .int (nI w)]) (vp_Si (fun r => r = fX7_of f b g w)) 0 0 (fun _ => False) := by
  refine Met.ofW (cc := cX7_of) (maxL := 4) (ret := (some .int)) (by decide) rfl ?_
  intro p e s m args below meth c s₁ B hml hv
  obtain ⟨ha, hP, hK, hn⟩ := hv
  have hx := B.exec
  have hb := B.bytes
  have hr := B.returns
  have hts0 := atoms_spec (ws := (ws_ yX7_of cX7_of 4 (some .int))) B.pre
  have hts : ∀ w ∈ lw_all, w.before args s = true := fun w h => hts0 w (List.mem_cons_of_mem _ h)
  have hown : s.vm.findClass RX7 = some m.cls := findClass_of_methodNamed B.named
  have hlocks := B.notSynchronized
  have htX7 : ∀ w ∈ wsX70, w.before args s = true := fun w h => hts w (wX7 w h)
  obtain ⟨Q, hQ⟩ : ∃ Q, Q = MQ below (vp_Si (fun r => r = fX7_of f b g w)) args s 0 0 (fun _ => False) := ⟨_, rfl⟩
  rw [← hQ]
  have hl := lv_entry ([.ref o, .int (nI b), .int (nI g), .int (nI w)]) (n := 4) (Nat.le_of_ble_eq_true rfl)
  rw [ha, lg_entry_eq, ← ha]
  generalize (lg_sl ([.ref o, .int (nI b), .int (nI g), .int (nI w)]) ++ List.replicate (4 - (lg_sl ([.ref o, .int (nI b), .int (nI g), .int (nI w)])).length) Slot.unset).toArray = ls at hl ⊢
  have hl : lv_has ls 4 [(0, .ref o), (1, .int (nI b)), (2, .int (nI g)), (3, .int (nI w))] := hl
  show W p l e rmX7_of s m args below meth c s.heap [] 0 0 Q (F0 m 0 ls [])
  have hF : fX7_of f b g w = fX7_of f b g w := rfl
  refine lv_aload_n hx hb dX7_of_0 rfl (lv_at hl 0 rfl) ?_
  refine va_get (D := (dC, dI)) (ci := 5) (v := .ref q0) (C := RX7) (T := TX7) (N := 12) hx hb htX7 (fun _ h => h) hown hK hP 0 rfl rfl 1 (by decide) (hts _ u_858) (fun _ h9 => h9) rfl dX7_of_1 ?_
  refine lv_iload_n hx hb dX7_of_4 rfl (lv_at hl 1 rfl) ?_
  refine lv_bipush (v := 38) hx hb dX7_of_5 (by decide) ?_
  refine lv_iadd hx hb dX7_of_7 ?_
  refine lv_tope (y := (nI (b + 38))) (nI_add b 38) ?_
  refine lv_iconst (v := 5) hx hb dX7_of_8 (by decide) ?_
  refine lv_iload_n hx hb dX7_of_9 rfl (lv_at hl 2 rfl) ?_
  refine lv_imul hx hb dX7_of_10 ?_
  refine lv_tope (y := (nI (5 * g))) (pk_mul 5 g) ?_
  refine lv_iadd hx hb dX7_of_11 ?_
  refine lv_tope (y := (nI ((b + 38) + (5 * g)))) (nI_add (b + 38) (5 * g)) ?_
  refine lv_iload_n hx hb dX7_of_12 rfl (lv_at hl 3 rfl) ?_
  refine lv_iadd hx hb dX7_of_13 ?_
  refine lv_tope (y := (nI (((b + 38) + (5 * g)) + w))) (nI_add ((b + 38) + (5 * g)) w) ?_
  refine va_iald hx hb hK hP 1 0 rfl rfl (vp_in_nI (n := (((b + 38) + (5 * g)) + w)) (by omega) (by decide)) dX7_of_14 ?_
  refine lv_tope (y := (f (((b + 38) + (5 * g)) + w))) (at_nI (k := (((b + 38) + (5 * g)) + w)) (by omega)) ?_
  rw [hQ]
  exact W.iret (v := (f (((b + 38) + (5 * g)) + w))) hx hb hr (fun t ht hW => ⟨(f (((b + 38) + (5 * g)) + w)), rfl, hF.symm, ht⟩) (fun q hq => absurd hq List.not_mem_nil) dX7_of_15

def fX7_lay (f : Nat → Int32) (b : Nat) (g : Nat) (w : Nat) (v : Int32) : (Nat → Int32) :=
  (upd f (((b + 38) + (5 * g)) + w) v)
abbrev rmX7_lay : Room := { frames := 0, cells := 0, slots := 0, locals := 0 }
set_option maxHeartbeats 4000000 in
set_option maxRecDepth 100000 in
theorem mX7_lay (l : Launch) (dC : Nat → ClassId) (dI : Nat → Nat → Nat) (cI : ClassId) (o q0 q1 : Nat) (f x M : Nat → Int32) (h : Int64) (b : Nat) (g : Nat) (w : Nat) (v : Int32) (hi9 : b + 38 + 5 * g + w < 1062) : Met l yX7_lay (ws_ yX7_lay cX7_lay 5 none) rmX7_lay (pcM (dC, dI) [(cI, .int)] (mW cI o q0 q1 f x M h) [.ref o, .int (nI b), .int (nI g), .int (nI w), .int v]) (va_Qv (fun (u9 : (Nat → Int32)) => u9 = fX7_lay f b g w v) (fun u9 t => va_P (dC, dI) vwCl ((fun (v9 : (Nat → Int32)) => mW cI o q0 q1 v9 x M h) u9) t.heap) (adr (mW cI o q0 q1 f x M h))) 0 0 (adr (mW cI o q0 q1 f x M h)) := by
  refine Met.ofW (cc := cX7_lay) (maxL := 5) (ret := none) (by decide) rfl ?_
  intro p e s m args below meth c s₁ B hml hv
  obtain ⟨ha, hP, hK, hn, hD0⟩ := hv
  have hx := B.exec
  have hb := B.bytes
  have hr := B.returns
  have hts0 := atoms_spec (ws := (ws_ yX7_lay cX7_lay 5 none)) B.pre
  have hts : ∀ w ∈ lw_all, w.before args s = true := fun w h => hts0 w (List.mem_cons_of_mem _ h)
  have hown : s.vm.findClass RX7 = some m.cls := findClass_of_methodNamed B.named
  have hlocks := B.notSynchronized
  have htX7 : ∀ w ∈ wsX70, w.before args s = true := fun w h => hts w (wX7 w h)
  have hD := adr_self hD0
  obtain ⟨A, hA⟩ : ∃ A, A = adr (mW cI o q0 q1 f x M h) := ⟨_, rfl⟩
  rw [← hA] at hD
  have hS : va_S A s.heap s.heap [] := va_S.rf
  obtain ⟨Q, hQ⟩ : ∃ Q, Q = MQ below (va_Qv (fun (u9 : (Nat → Int32)) => u9 = fX7_lay f b g w v) (fun u9 t => va_P (dC, dI) vwCl ((fun (v9 : (Nat → Int32)) => mW cI o q0 q1 v9 x M h) u9) t.heap) (adr (mW cI o q0 q1 f x M h))) args s 0 0 (adr (mW cI o q0 q1 f x M h)) := ⟨_, rfl⟩
  rw [← hQ]
  rw [← hA] at hQ
  have hl := lv_entry ([.ref o, .int (nI b), .int (nI g), .int (nI w), .int v]) (n := 5) (Nat.le_of_ble_eq_true rfl)
  rw [ha, lg_entry_eq, ← ha]
  generalize (lg_sl ([.ref o, .int (nI b), .int (nI g), .int (nI w), .int v]) ++ List.replicate (5 - (lg_sl ([.ref o, .int (nI b), .int (nI g), .int (nI w), .int v])).length) Slot.unset).toArray = ls at hl ⊢
  have hl : lv_has ls 5 [(0, .ref o), (1, .int (nI b)), (2, .int (nI g)), (3, .int (nI w)), (4, .int v)] := hl
  show W p l e rmX7_lay s m args below meth c s.heap [] 0 0 Q (F0 m 0 ls [])
  have hF : fX7_lay f b g w v = fX7_lay f b g w v := rfl
  refine lv_aload_n hx hb dX7_lay_0 rfl (lv_at hl 0 rfl) ?_
  refine va_get (D := (dC, dI)) (ci := 5) (v := .ref q0) (C := RX7) (T := TX7) (N := 12) hx hb htX7 (fun _ h => h) hown hK hP 0 rfl rfl 1 (by decide) (hts _ u_858) (fun _ h9 => h9) rfl dX7_lay_1 ?_
  refine lv_iload_n hx hb dX7_lay_4 rfl (lv_at hl 1 rfl) ?_
  refine lv_bipush (v := 38) hx hb dX7_lay_5 (by decide) ?_
  refine lv_iadd hx hb dX7_lay_7 ?_
  refine lv_tope (y := (nI (b + 38))) (nI_add b 38) ?_
  refine lv_iconst (v := 5) hx hb dX7_lay_8 (by decide) ?_
  refine lv_iload_n hx hb dX7_lay_9 rfl (lv_at hl 2 rfl) ?_
  refine lv_imul hx hb dX7_lay_10 ?_
  refine lv_tope (y := (nI (5 * g))) (pk_mul 5 g) ?_
  refine lv_iadd hx hb dX7_lay_11 ?_
  refine lv_tope (y := (nI ((b + 38) + (5 * g)))) (nI_add (b + 38) (5 * g)) ?_
  refine lv_iload_n hx hb dX7_lay_12 rfl (lv_at hl 3 rfl) ?_
  refine lv_iadd hx hb dX7_lay_13 ?_
  refine lv_tope (y := (nI (((b + 38) + (5 * g)) + w))) (nI_add ((b + 38) + (5 * g)) w) ?_
  refine lv_iload hx hb dX7_lay_14 (lv_at hl 4 rfl) ?_
  refine va_iast hx hb hK hP hD hS 1 0 rfl rfl (vp_in_nI (n := (((b + 38) + (5 * g)) + w)) (by omega) (by decide)) dX7_lay_16 (fun H locs hP hD hS => ?_)
  rw [show ((nI (((b + 38) + (5 * g)) + w)) : Int32).toNatClampNeg = (((b + 38) + (5 * g)) + w) from nI_clamp (n := (((b + 38) + (5 * g)) + w)) (by omega)] at hP hD
  have hP : va_P (dC, dI) vwCl (mW cI o q0 q1 (upd f (((b + 38) + (5 * g)) + w) v) x M h) H := hP
  have hD : va_D A (mW cI o q0 q1 (upd f (((b + 38) + (5 * g)) + w) v) x M h) := hD
  rw [hQ]
  exact W.vret hx hb hr (fun t ht hW => ⟨⟨(upd f (((b + 38) + (5 * g)) + w) v), rfl, hF.symm, toH ht hP⟩, hS.F ht⟩) hS.2.2 dX7_lay_17

def fX7_whoSits_b3 (f : Nat → Int32) (b : Nat) (tb : Int32) (z : Int32) (kk3 : Nat) (nextkk3 : Int32) : Int32 :=
  (if (fX7_of f b kk3 3) = tb then (if (fX7_of f b kk3 4) = z then (nI kk3) else nextkk3) else nextkk3)
def fX7_whoSits_r3 : Int32 :=
  (-1)
def fX7_whoSits (f : Nat → Int32) (b : Nat) (tb : Int32) (z : Int32) : Int32 :=
  (lq0 (fX7_whoSits_b3 f b tb z) fX7_whoSits_r3 ((f (b + 0)).toNatClampNeg) 0)
abbrev rmX7_whoSits : Room := { frames := 1, cells := 0, slots := 0, locals := 23 }
set_option maxHeartbeats 4000000 in
set_option maxRecDepth 100000 in
theorem mX7_whoSits (l : Launch) (dC : Nat → ClassId) (dI : Nat → Nat → Nat) (cI : ClassId) (o q0 q1 : Nat) (f x M : Nat → Int32) (h : Int64) (b : Nat) (tb : Int32) (z : Int32) (hR : RW f b) : Met l yX7_whoSits (ws_ yX7_whoSits cX7_whoSits 5 (some .int)) rmX7_whoSits (pcR (dC, dI) [(cI, .int)] (mW cI o q0 q1 f x M h) [.ref o, .int (nI b), .int tb, .int z]) (vp_Si (fun r => r = fX7_whoSits f b tb z)) 0 0 (fun _ => False) := by
  refine Met.ofW (cc := cX7_whoSits) (maxL := 5) (ret := (some .int)) (by decide) rfl ?_
  intro p e s m args below meth c s₁ B hml hv
  obtain ⟨ha, hP, hK, hn⟩ := hv
  have hx := B.exec
  have hb := B.bytes
  have hr := B.returns
  have hts0 := atoms_spec (ws := (ws_ yX7_whoSits cX7_whoSits 5 (some .int))) B.pre
  have hts : ∀ w ∈ lw_all, w.before args s = true := fun w h => hts0 w (List.mem_cons_of_mem _ h)
  have hown : s.vm.findClass RX7 = some m.cls := findClass_of_methodNamed B.named
  have hlocks := B.notSynchronized
  have htX7 : ∀ w ∈ wsX70, w.before args s = true := fun w h => hts w (wX7 w h)
  obtain ⟨Q, hQ⟩ : ∃ Q, Q = MQ below (vp_Si (fun r => r = fX7_whoSits f b tb z)) args s 0 0 (fun _ => False) := ⟨_, rfl⟩
  rw [← hQ]
  have hl := lv_entry ([.ref o, .int (nI b), .int tb, .int z]) (n := 5) (Nat.le_of_ble_eq_true rfl)
  rw [ha, lg_entry_eq, ← ha]
  generalize (lg_sl ([.ref o, .int (nI b), .int tb, .int z]) ++ List.replicate (5 - (lg_sl ([.ref o, .int (nI b), .int tb, .int z])).length) Slot.unset).toArray = ls at hl ⊢
  have hl : lv_has ls 5 [(0, .ref o), (1, .int (nI b)), (2, .int tb), (3, .int z)] := hl
  show W p l e rmX7_whoSits s m args below meth c s.heap [] 0 0 Q (F0 m 0 ls [])
  have hF : fX7_whoSits f b tb z = fX7_whoSits f b tb z := rfl
  obtain ⟨rB, rG0, rT0, rF0, rS0, rTW, rWW⟩ := id hR
  have rG := rG0.c (by decide)
  have rT := rT0.c (by decide)
  have rF := rF0.c (by decide)
  have rS := rS0.c (by decide)
  refine lv_iconst (v := 0) hx hb dX7_whoSits_0 (by decide) ?_
  refine lv_istore (lv' := [(4, .int 0), (0, .ref o), (1, .int (nI b)), (2, .int tb), (3, .int z)]) hx hb dX7_whoSits_1 hl (by decide) rfl (fun ls hl => ?_)
  have L3 : ∀ (jj3 kk3 : Nat), kk3 + jj3 = ((f (b + 0)).toNatClampNeg) → fX7_whoSits f b tb z = lq0 (fX7_whoSits_b3 f b tb z) fX7_whoSits_r3 jj3 kk3 → ∀ (ls : Array Slot), lv_has ls 5 [(4, .int (nI kk3)), (0, .ref o), (1, .int (nI b)), (2, .int tb), (3, .int z)] → W p l e rmX7_whoSits s m args below meth c s.heap [] 0 0 Q (F0 m 3 ls []) := by
    intro jj3
    induction jj3 using Nat.strongRecOn with
    | _ jj3 ihkk3 =>
      intro kk3 hkkk3 hF  ls hl
      refine lv_iload hx hb dX7_whoSits_3 (lv_at hl 0 rfl) ?_
      refine lv_aload_n hx hb dX7_whoSits_5 rfl (lv_at hl 1 rfl) ?_
      refine va_get (D := (dC, dI)) (ci := 5) (v := .ref q0) (C := RX7) (T := TX7) (N := 12) hx hb htX7 (fun _ h => h) hown hK hP 0 rfl rfl 1 (by decide) (hts _ u_858) (fun _ h9 => h9) rfl dX7_whoSits_6 ?_
      refine lv_iload_n hx hb dX7_whoSits_9 rfl (lv_at hl 2 rfl) ?_
      refine lv_iconst (v := 0) hx hb dX7_whoSits_10 (by decide) ?_
      refine lv_iadd hx hb dX7_whoSits_11 ?_
      refine lv_tope (y := (nI (b + 0))) (nI_add b 0) ?_
      refine va_iald hx hb hK hP 1 0 rfl rfl (vp_in_nI (n := (b + 0)) (by omega) (by decide)) dX7_whoSits_12 ?_
      refine lv_tope (y := (f (b + 0))) (at_nI (k := (b + 0)) (by omega)) ?_
      refine lv_icmp_ge (tgt := 49) hx hb dX7_whoSits_13 (by decide) (fun c_13 => ?_) (fun c_13 => ?_)
      · obtain rfl := cn_exit hkkk3 c_13
        have hF := hF.trans (lq0_z _ _ _)
        refine lv_iconst (v := (-1)) hx hb dX7_whoSits_49 (by decide) ?_
        rw [hQ]
        exact W.iret (v := (-1)) hx hb hr (fun t ht hW => ⟨(-1), rfl, hF.symm, ht⟩) (fun q hq => absurd hq List.not_mem_nil) dX7_whoSits_50
      obtain ⟨jj3, rfl⟩ := cn_go hkkk3 c_13
      have hF := hF.trans (lq0_s _ _ _ _)
      obtain ⟨nextkk3, hnextkk3⟩ : ∃ y9, y9 = lq0 (fX7_whoSits_b3 f b tb z) fX7_whoSits_r3 jj3 (kk3 + 1) := ⟨_, rfl⟩
      rw [← hnextkk3] at hF
      refine lv_aload_n hx hb dX7_whoSits_16 rfl (lv_at hl 1 rfl) ?_
      refine lv_iload_n hx hb dX7_whoSits_17 rfl (lv_at hl 2 rfl) ?_
      refine lv_iload hx hb dX7_whoSits_18 (lv_at hl 0 rfl) ?_
      refine lv_iconst (v := 3) hx hb dX7_whoSits_20 (by decide) ?_
      refine k_calli (W.runV (As := [.int (nI b), .int (nI kk3), .int 3]) (rest := []) ⟨hx, hb, hml, hown, hts0⟩ (mX7_of l dC dI cI o q0 q1 f x M h b kk3 3 (by first | omega | assumption)) (cwV 3 hts0 (gi_V u_932 u_934 us_20 u_7 u_935) rfl rfl rfl (by decide +kernel) ⟨Nat.le_of_ble_eq_true rfl, Nat.le_of_ble_eq_true rfl⟩) (pcR_V (ci := 5) (q0 := 0) hP hK hn rfl rfl) rfl rfl hl.1 rfl (lv_room (Nat.le_of_ble_eq_true rfl)) dX7_whoSits_21 ⟨Nat.zero_le _, Nat.zero_le _⟩) ?_
      refine lv_iload_n hx hb dX7_whoSits_24 rfl (lv_at hl 3 rfl) ?_
      refine lv_icmp_ne (tgt := 43) hx hb dX7_whoSits_25 (by decide) (fun c_25 => ?_) (fun c_25 => ?_)
      · have hF := hF.trans (if_neg c_25)
        refine lv_iinc (v := (nI (kk3 + 1))) (lv' := [(4, .int (nI (kk3 + 1))), (0, .ref o), (1, .int (nI b)), (2, .int tb), (3, .int z)]) hx hb dX7_whoSits_43 hl (k := 0) rfl (nI_1 _) (by decide) rfl (fun ls hl => ?_)
        refine lv_goto (tgt := 3) hx hb dX7_whoSits_46 (by decide) ?_
        have hF : fX7_whoSits f b tb z = nextkk3 := hF
        rw [hnextkk3] at hF
        exact ihkk3 jj3 (Nat.lt_succ_self _) (kk3 + 1) (cn_next hkkk3) hF ls (lv_sub hl [0, 1, 2, 3, 4] rfl)
      have hF := hF.trans (if_pos c_25)
      refine lv_aload_n hx hb dX7_whoSits_28 rfl (lv_at hl 1 rfl) ?_
      refine lv_iload_n hx hb dX7_whoSits_29 rfl (lv_at hl 2 rfl) ?_
      refine lv_iload hx hb dX7_whoSits_30 (lv_at hl 0 rfl) ?_
      refine lv_iconst (v := 4) hx hb dX7_whoSits_32 (by decide) ?_
      refine k_calli (W.runV (As := [.int (nI b), .int (nI kk3), .int 4]) (rest := []) ⟨hx, hb, hml, hown, hts0⟩ (mX7_of l dC dI cI o q0 q1 f x M h b kk3 4 (by first | omega | assumption)) (cwV 3 hts0 (gi_V u_932 u_934 us_20 u_7 u_935) rfl rfl rfl (by decide +kernel) ⟨Nat.le_of_ble_eq_true rfl, Nat.le_of_ble_eq_true rfl⟩) (pcR_V (ci := 5) (q0 := 0) hP hK hn rfl rfl) rfl rfl hl.1 rfl (lv_room (Nat.le_of_ble_eq_true rfl)) dX7_whoSits_33 ⟨Nat.zero_le _, Nat.zero_le _⟩) ?_
      refine lv_iload_n hx hb dX7_whoSits_36 rfl (lv_at hl 4 rfl) ?_
      refine lv_icmp_ne (tgt := 43) hx hb dX7_whoSits_37 (by decide) (fun c_37 => ?_) (fun c_37 => ?_)
      · have hF := hF.trans (if_neg c_37)
        refine lv_iinc (v := (nI (kk3 + 1))) (lv' := [(4, .int (nI (kk3 + 1))), (0, .ref o), (1, .int (nI b)), (2, .int tb), (3, .int z)]) hx hb dX7_whoSits_43 hl (k := 0) rfl (nI_1 _) (by decide) rfl (fun ls hl => ?_)
        refine lv_goto (tgt := 3) hx hb dX7_whoSits_46 (by decide) ?_
        have hF : fX7_whoSits f b tb z = nextkk3 := hF
        rw [hnextkk3] at hF
        exact ihkk3 jj3 (Nat.lt_succ_self _) (kk3 + 1) (cn_next hkkk3) hF ls (lv_sub hl [0, 1, 2, 3, 4] rfl)
      have hF := hF.trans (if_pos c_37)
      refine lv_iload hx hb dX7_whoSits_40 (lv_at hl 0 rfl) ?_
      rw [hQ]
      exact W.iret (v := (nI kk3)) hx hb hr (fun t ht hW => ⟨(nI kk3), rfl, hF.symm, ht⟩) (fun q hq => absurd hq List.not_mem_nil) dX7_whoSits_42
  exact L3 ((f (b + 0)).toNatClampNeg) 0 (Nat.zero_add _) hF ls (lv_sub hl [0, 1, 2, 3, 4] rfl)

def fX7_feudPlace_b2 (f : Nat → Int32) (b : Nat) (v : Int32) (kk2 : Nat) (nextkk2 : Int32) : Int32 :=
  (if (f ((b + 10) + kk2)) = v then (nI kk2) else nextkk2)
def fX7_feudPlace_r2 : Int32 :=
  (-1)
def fX7_feudPlace (f : Nat → Int32) (b : Nat) (v : Int32) : Int32 :=
  (lq0 (fX7_feudPlace_b2 f b v) fX7_feudPlace_r2 ((f (b + 2)).toNatClampNeg) 0)
abbrev rmX7_feudPlace : Room := { frames := 0, cells := 0, slots := 0, locals := 0 }
set_option maxHeartbeats 4000000 in
set_option maxRecDepth 100000 in
theorem mX7_feudPlace (l : Launch) (dC : Nat → ClassId) (dI : Nat → Nat → Nat) (cI : ClassId) (o q0 q1 : Nat) (f x M : Nat → Int32) (h : Int64) (b : Nat) (v : Int32) (hR : RW f b) : Met l yX7_feudPlace (ws_ yX7_feudPlace cX7_feudPlace 4 (some .int)) rmX7_feudPlace (pcR (dC, dI) [(cI, .int)] (mW cI o q0 q1 f x M h) [.ref o, .int (nI b), .int v]) (vp_Si (fun r => r = fX7_feudPlace f b v)) 0 0 (fun _ => False) := by
  refine Met.ofW (cc := cX7_feudPlace) (maxL := 4) (ret := (some .int)) (by decide) rfl ?_
  intro p e s m args below meth c s₁ B hml hv
  obtain ⟨ha, hP, hK, hn⟩ := hv
  have hx := B.exec
  have hb := B.bytes
  have hr := B.returns
  have hts0 := atoms_spec (ws := (ws_ yX7_feudPlace cX7_feudPlace 4 (some .int))) B.pre
  have hts : ∀ w ∈ lw_all, w.before args s = true := fun w h => hts0 w (List.mem_cons_of_mem _ h)
  have hown : s.vm.findClass RX7 = some m.cls := findClass_of_methodNamed B.named
  have hlocks := B.notSynchronized
  have htX7 : ∀ w ∈ wsX70, w.before args s = true := fun w h => hts w (wX7 w h)
  obtain ⟨Q, hQ⟩ : ∃ Q, Q = MQ below (vp_Si (fun r => r = fX7_feudPlace f b v)) args s 0 0 (fun _ => False) := ⟨_, rfl⟩
  rw [← hQ]
  have hl := lv_entry ([.ref o, .int (nI b), .int v]) (n := 4) (Nat.le_of_ble_eq_true rfl)
  rw [ha, lg_entry_eq, ← ha]
  generalize (lg_sl ([.ref o, .int (nI b), .int v]) ++ List.replicate (4 - (lg_sl ([.ref o, .int (nI b), .int v])).length) Slot.unset).toArray = ls at hl ⊢
  have hl : lv_has ls 4 [(0, .ref o), (1, .int (nI b)), (2, .int v)] := hl
  show W p l e rmX7_feudPlace s m args below meth c s.heap [] 0 0 Q (F0 m 0 ls [])
  have hF : fX7_feudPlace f b v = fX7_feudPlace f b v := rfl
  obtain ⟨rB, rG0, rT0, rF0, rS0, rTW, rWW⟩ := id hR
  have rG := rG0.c (by decide)
  have rT := rT0.c (by decide)
  have rF := rF0.c (by decide)
  have rS := rS0.c (by decide)
  refine lv_iconst (v := 0) hx hb dX7_feudPlace_0 (by decide) ?_
  refine lv_istore_n (lv' := [(3, .int 0), (0, .ref o), (1, .int (nI b)), (2, .int v)]) hx hb dX7_feudPlace_1 rfl hl (by decide) rfl (fun ls hl => ?_)
  have L2 : ∀ (jj2 kk2 : Nat), kk2 + jj2 = ((f (b + 2)).toNatClampNeg) → fX7_feudPlace f b v = lq0 (fX7_feudPlace_b2 f b v) fX7_feudPlace_r2 jj2 kk2 → ∀ (ls : Array Slot), lv_has ls 4 [(3, .int (nI kk2)), (0, .ref o), (1, .int (nI b)), (2, .int v)] → W p l e rmX7_feudPlace s m args below meth c s.heap [] 0 0 Q (F0 m 2 ls []) := by
    intro jj2
    induction jj2 using Nat.strongRecOn with
    | _ jj2 ihkk2 =>
      intro kk2 hkkk2 hF  ls hl
      refine lv_iload_n hx hb dX7_feudPlace_2 rfl (lv_at hl 0 rfl) ?_
      refine lv_aload_n hx hb dX7_feudPlace_3 rfl (lv_at hl 1 rfl) ?_
      refine va_get (D := (dC, dI)) (ci := 5) (v := .ref q0) (C := RX7) (T := TX7) (N := 12) hx hb htX7 (fun _ h => h) hown hK hP 0 rfl rfl 1 (by decide) (hts _ u_858) (fun _ h9 => h9) rfl dX7_feudPlace_4 ?_
      refine lv_iload_n hx hb dX7_feudPlace_7 rfl (lv_at hl 2 rfl) ?_
      refine lv_iconst (v := 2) hx hb dX7_feudPlace_8 (by decide) ?_
      refine lv_iadd hx hb dX7_feudPlace_9 ?_
      refine lv_tope (y := (nI (b + 2))) (nI_add b 2) ?_
      refine va_iald hx hb hK hP 1 0 rfl rfl (vp_in_nI (n := (b + 2)) (by omega) (by decide)) dX7_feudPlace_10 ?_
      refine lv_tope (y := (f (b + 2))) (at_nI (k := (b + 2)) (by omega)) ?_
      refine lv_icmp_ge (tgt := 37) hx hb dX7_feudPlace_11 (by decide) (fun c_11 => ?_) (fun c_11 => ?_)
      · obtain rfl := cn_exit hkkk2 c_11
        have hF := hF.trans (lq0_z _ _ _)
        refine lv_iconst (v := (-1)) hx hb dX7_feudPlace_37 (by decide) ?_
        rw [hQ]
        exact W.iret (v := (-1)) hx hb hr (fun t ht hW => ⟨(-1), rfl, hF.symm, ht⟩) (fun q hq => absurd hq List.not_mem_nil) dX7_feudPlace_38
      obtain ⟨jj2, rfl⟩ := cn_go hkkk2 c_11
      have hF := hF.trans (lq0_s _ _ _ _)
      obtain ⟨nextkk2, hnextkk2⟩ : ∃ y9, y9 = lq0 (fX7_feudPlace_b2 f b v) fX7_feudPlace_r2 jj2 (kk2 + 1) := ⟨_, rfl⟩
      rw [← hnextkk2] at hF
      refine lv_aload_n hx hb dX7_feudPlace_14 rfl (lv_at hl 1 rfl) ?_
      refine va_get (D := (dC, dI)) (ci := 5) (v := .ref q0) (C := RX7) (T := TX7) (N := 12) hx hb htX7 (fun _ h => h) hown hK hP 0 rfl rfl 1 (by decide) (hts _ u_858) (fun _ h9 => h9) rfl dX7_feudPlace_15 ?_
      refine lv_iload_n hx hb dX7_feudPlace_18 rfl (lv_at hl 2 rfl) ?_
      refine lv_bipush (v := 10) hx hb dX7_feudPlace_19 (by decide) ?_
      refine lv_iadd hx hb dX7_feudPlace_21 ?_
      refine lv_tope (y := (nI (b + 10))) (nI_add b 10) ?_
      refine lv_iload_n hx hb dX7_feudPlace_22 rfl (lv_at hl 0 rfl) ?_
      refine lv_iadd hx hb dX7_feudPlace_23 ?_
      refine lv_tope (y := (nI ((b + 10) + kk2))) (nI_add (b + 10) kk2) ?_
      refine va_iald hx hb hK hP 1 0 rfl rfl (vp_in_nI (n := ((b + 10) + kk2)) (by omega) (by decide)) dX7_feudPlace_24 ?_
      refine lv_tope (y := (f ((b + 10) + kk2))) (at_nI (k := ((b + 10) + kk2)) (by omega)) ?_
      refine lv_iload_n hx hb dX7_feudPlace_25 rfl (lv_at hl 3 rfl) ?_
      refine lv_icmp_ne (tgt := 31) hx hb dX7_feudPlace_26 (by decide) (fun c_26 => ?_) (fun c_26 => ?_)
      · have hF := hF.trans (if_neg c_26)
        refine lv_iinc (v := (nI (kk2 + 1))) (lv' := [(3, .int (nI (kk2 + 1))), (0, .ref o), (1, .int (nI b)), (2, .int v)]) hx hb dX7_feudPlace_31 hl (k := 0) rfl (nI_1 _) (by decide) rfl (fun ls hl => ?_)
        refine lv_goto (tgt := 2) hx hb dX7_feudPlace_34 (by decide) ?_
        have hF : fX7_feudPlace f b v = nextkk2 := hF
        rw [hnextkk2] at hF
        exact ihkk2 jj2 (Nat.lt_succ_self _) (kk2 + 1) (cn_next hkkk2) hF ls (lv_sub hl [0, 1, 2, 3] rfl)
      have hF := hF.trans (if_pos c_26)
      refine lv_iload_n hx hb dX7_feudPlace_29 rfl (lv_at hl 0 rfl) ?_
      rw [hQ]
      exact W.iret (v := (nI kk2)) hx hb hr (fun t ht hW => ⟨(nI kk2), rfl, hF.symm, ht⟩) (fun q hq => absurd hq List.not_mem_nil) dX7_feudPlace_30
  exact L2 ((f (b + 2)).toNatClampNeg) 0 (Nat.zero_add _) hF ls (lv_sub hl [0, 1, 2, 3] rfl)

def fX7_reason_b58 (f : Nat → Int32) (b : Nat) (g : Nat) (tb : Int32) (kk58 : Nat) (x58_7 : Int32) (x58_6 : Int32) (nextkk58 : Int32 → Int32 → Int32) : Int32 :=
  (bd2 ((if (nI kk58) = (nI g) then (x58_7, x58_6) else (if (fX7_of f b kk58 3) = tb then (bd ((if x58_6 = 0 then (if (fX7_feudPlace f b (fX7_feudOf (fX7_of f b g 0) (fX7_of f b kk58 0))) = (-1) then 0 else 1) else 1) : Nat) (fun v91_0 => (bd ((if (fX7_of f b kk58 0) = (fX7_of f b g 0) then 1 else 0) : Nat) (fun v145_0 => ((x58_7 + (nI v145_0)), (nI v91_0)))))) else (x58_7, x58_6))) : Int32 × Int32) (fun v74_0 v74_1 => (nextkk58 v74_0 v74_1)))
def fX7_reason_r58 (f : Nat → Int32) (b : Nat) (x58_7 : Int32) (x58_6 : Int32) : Int32 :=
  (if x58_6 = 0 then (if x58_7 < (f (b + 6)) then 0 else 5) else 4)
def fX7_reason (f : Nat → Int32) (b : Nat) (g : Nat) (tb : Int32) (z : Int32) : Int32 :=
  (if (fX7_whoSits f b tb z) = (-1) then (if (fX7_isAtLeg z) = 0 then (lq2 (fX7_reason_b58 f b g tb) (fX7_reason_r58 f b) ((f (b + 0)).toNatClampNeg) 0 0 0) else (if (fX7_of f b g 1) = 3 then 3 else (lq2 (fX7_reason_b58 f b g tb) (fX7_reason_r58 f b) ((f (b + 0)).toNatClampNeg) 0 0 0))) else (if (fX7_whoSits f b tb z) = (nI g) then 1 else 2))
abbrev rmX7_reason : Room := { frames := 2, cells := 0, slots := 0, locals := 47 }
set_option maxHeartbeats 4000000 in
set_option maxRecDepth 100000 in
theorem mX7_reason (l : Launch) (dC : Nat → ClassId) (dI : Nat → Nat → Nat) (cI : ClassId) (o q0 q1 : Nat) (f x M : Nat → Int32) (h : Int64) (b : Nat) (g : Nat) (tb : Int32) (z : Int32) (hR : RW f b) (hg : g < 16) : Met l yX7_reason (ws_ yX7_reason cX7_reason 9 (some .int)) rmX7_reason (pcR (dC, dI) [(cI, .int)] (mW cI o q0 q1 f x M h) [.ref o, .int (nI b), .int (nI g), .int tb, .int z]) (vp_Si (fun r => r = fX7_reason f b g tb z)) 0 0 (fun _ => False) := by
  refine Met.ofW (cc := cX7_reason) (maxL := 9) (ret := (some .int)) (by decide) rfl ?_
  intro p e s m args below meth c s₁ B hml hv
  obtain ⟨ha, hP, hK, hn⟩ := hv
  have hx := B.exec
  have hb := B.bytes
  have hr := B.returns
  have hts0 := atoms_spec (ws := (ws_ yX7_reason cX7_reason 9 (some .int))) B.pre
  have hts : ∀ w ∈ lw_all, w.before args s = true := fun w h => hts0 w (List.mem_cons_of_mem _ h)
  have hown : s.vm.findClass RX7 = some m.cls := findClass_of_methodNamed B.named
  have hlocks := B.notSynchronized
  have htX7 : ∀ w ∈ wsX70, w.before args s = true := fun w h => hts w (wX7 w h)
  obtain ⟨Q, hQ⟩ : ∃ Q, Q = MQ below (vp_Si (fun r => r = fX7_reason f b g tb z)) args s 0 0 (fun _ => False) := ⟨_, rfl⟩
  rw [← hQ]
  have hl := lv_entry ([.ref o, .int (nI b), .int (nI g), .int tb, .int z]) (n := 9) (Nat.le_of_ble_eq_true rfl)
  rw [ha, lg_entry_eq, ← ha]
  generalize (lg_sl ([.ref o, .int (nI b), .int (nI g), .int tb, .int z]) ++ List.replicate (9 - (lg_sl ([.ref o, .int (nI b), .int (nI g), .int tb, .int z])).length) Slot.unset).toArray = ls at hl ⊢
  have hl : lv_has ls 9 [(0, .ref o), (1, .int (nI b)), (2, .int (nI g)), (3, .int tb), (4, .int z)] := hl
  show W p l e rmX7_reason s m args below meth c s.heap [] 0 0 Q (F0 m 0 ls [])
  have hF : fX7_reason f b g tb z = fX7_reason f b g tb z := rfl
  obtain ⟨rB, rG0, rT0, rF0, rS0, rTW, rWW⟩ := id hR
  have rG := rG0.c (by decide)
  have rT := rT0.c (by decide)
  have rF := rF0.c (by decide)
  have rS := rS0.c (by decide)
  refine lv_aload_n hx hb dX7_reason_0 rfl (lv_at hl 0 rfl) ?_
  refine lv_iload_n hx hb dX7_reason_1 rfl (lv_at hl 1 rfl) ?_
  refine lv_iload_n hx hb dX7_reason_2 rfl (lv_at hl 3 rfl) ?_
  refine lv_iload hx hb dX7_reason_3 (lv_at hl 4 rfl) ?_
  refine k_calli (W.runV (As := [.int (nI b), .int tb, .int z]) (rest := []) ⟨hx, hb, hml, hown, hts0⟩ (mX7_whoSits l dC dI cI o q0 q1 f x M h b tb z (by first | omega | assumption)) (cwV 3 hts0 (gi_V u_993 u_995 us_28 u_7 u_996) rfl rfl rfl (by decide +kernel) ⟨Nat.le_of_ble_eq_true rfl, Nat.le_of_ble_eq_true rfl⟩) (pcR_V (ci := 5) (q0 := 0) hP hK hn rfl rfl) rfl rfl hl.1 rfl (lv_room (Nat.le_of_ble_eq_true rfl)) dX7_reason_5 ⟨Nat.zero_le _, Nat.zero_le _⟩) ?_
  refine lv_istore (lv' := [(5, .int (fX7_whoSits f b tb z)), (0, .ref o), (1, .int (nI b)), (2, .int (nI g)), (3, .int tb), (4, .int z)]) hx hb dX7_reason_8 hl (by decide) rfl (fun ls hl => ?_)
  refine lv_iload hx hb dX7_reason_10 (lv_at hl 0 rfl) ?_
  refine lv_iconst (v := (-1)) hx hb dX7_reason_12 (by decide) ?_
  refine lv_icmp_eq (tgt := 28) hx hb dX7_reason_13 (by decide) (fun c_13 => ?_) (fun c_13 => ?_)
  · have hF := hF.trans (if_pos c_13)
    refine lv_iload hx hb dX7_reason_28 (lv_at hl 5 rfl) ?_
    refine k_callb (W.runS (As := [.int z]) (rest := []) ⟨hx, hb, hml, hown, hts0⟩ (mX7_isAtLeg l dC dI  z) (va_cwS 1 hts0 (gi_S u_997 u_998 u_7 u_999) rfl rfl rfl (by decide +kernel) ⟨Nat.le_of_ble_eq_true rfl, Nat.le_of_ble_eq_true rfl⟩) (pcR_S (hP.sub (ws' := []) [] rfl) (hK.sub (tys' := []) [] rfl) hn) rfl rfl hl.1 rfl (lv_room (Nat.le_of_ble_eq_true rfl)) dX7_reason_30 ⟨Nat.zero_le _, Nat.zero_le _⟩) (fun br30 => ?_)
    refine lv_if_eq (tgt := 49) hx hb dX7_reason_33 (by decide) (fun c_33 => ?_) (fun c_33 => ?_)
    · have hF := hF.trans (if_pos c_33)
      refine lv_iconst (v := 0) hx hb dX7_reason_49 (by decide) ?_
      refine lv_istore (lv' := [(6, .int 0), (5, .int (fX7_whoSits f b tb z)), (0, .ref o), (1, .int (nI b)), (2, .int (nI g)), (3, .int tb), (4, .int z)]) hx hb dX7_reason_50 hl (by decide) rfl (fun ls hl => ?_)
      refine lv_iconst (v := 0) hx hb dX7_reason_52 (by decide) ?_
      refine lv_istore (lv' := [(7, .int 0), (6, .int 0), (5, .int (fX7_whoSits f b tb z)), (0, .ref o), (1, .int (nI b)), (2, .int (nI g)), (3, .int tb), (4, .int z)]) hx hb dX7_reason_53 hl (by decide) rfl (fun ls hl => ?_)
      refine lv_iconst (v := 0) hx hb dX7_reason_55 (by decide) ?_
      refine lv_istore (lv' := [(8, .int 0), (7, .int 0), (6, .int 0), (5, .int (fX7_whoSits f b tb z)), (0, .ref o), (1, .int (nI b)), (2, .int (nI g)), (3, .int tb), (4, .int z)]) hx hb dX7_reason_56 hl (by decide) rfl (fun ls hl => ?_)
      have L58 : ∀ (jj58 kk58 : Nat) (x58_7 : Int32) (x58_6 : Int32), kk58 + jj58 = ((f (b + 0)).toNatClampNeg) → fX7_reason f b g tb z = lq2 (fX7_reason_b58 f b g tb) (fX7_reason_r58 f b) jj58 kk58 x58_7 x58_6 → ∀ (ls : Array Slot), lv_has ls 9 [(8, .int (nI kk58)), (7, .int x58_7), (6, .int x58_6), (5, .int (fX7_whoSits f b tb z)), (0, .ref o), (1, .int (nI b)), (2, .int (nI g)), (3, .int tb), (4, .int z)] → W p l e rmX7_reason s m args below meth c s.heap [] 0 0 Q (F0 m 58 ls []) := by
        intro jj58
        induction jj58 using Nat.strongRecOn with
        | _ jj58 ihkk58 =>
          intro kk58 x58_7 x58_6 hkkk58 hF  ls hl
          refine lv_iload hx hb dX7_reason_58 (lv_at hl 0 rfl) ?_
          refine lv_aload_n hx hb dX7_reason_60 rfl (lv_at hl 4 rfl) ?_
          refine va_get (D := (dC, dI)) (ci := 5) (v := .ref q0) (C := RX7) (T := TX7) (N := 12) hx hb htX7 (fun _ h => h) hown hK hP 0 rfl rfl 1 (by decide) (hts _ u_858) (fun _ h9 => h9) rfl dX7_reason_61 ?_
          refine lv_iload_n hx hb dX7_reason_64 rfl (lv_at hl 5 rfl) ?_
          refine lv_iconst (v := 0) hx hb dX7_reason_65 (by decide) ?_
          refine lv_iadd hx hb dX7_reason_66 ?_
          refine lv_tope (y := (nI (b + 0))) (nI_add b 0) ?_
          refine va_iald hx hb hK hP 1 0 rfl rfl (vp_in_nI (n := (b + 0)) (by omega) (by decide)) dX7_reason_67 ?_
          refine lv_tope (y := (f (b + 0))) (at_nI (k := (b + 0)) (by omega)) ?_
          refine lv_icmp_ge (tgt := 162) hx hb dX7_reason_68 (by decide) (fun c_68 => ?_) (fun c_68 => ?_)
          · obtain rfl := cn_exit hkkk58 c_68
            have hF := hF.trans (lq2_z _ _ _ _ _)
            refine lv_iload hx hb dX7_reason_162 (lv_at hl 2 rfl) ?_
            refine lv_if_eq (tgt := 171) hx hb dX7_reason_164 (by decide) (fun c_164 => ?_) (fun c_164 => ?_)
            · have hF := hF.trans (if_pos c_164)
              refine lv_iload hx hb dX7_reason_171 (lv_at hl 1 rfl) ?_
              refine lv_aload_n hx hb dX7_reason_173 rfl (lv_at hl 4 rfl) ?_
              refine va_get (D := (dC, dI)) (ci := 5) (v := .ref q0) (C := RX7) (T := TX7) (N := 12) hx hb htX7 (fun _ h => h) hown hK hP 0 rfl rfl 1 (by decide) (hts _ u_858) (fun _ h9 => h9) rfl dX7_reason_174 ?_
              refine lv_iload_n hx hb dX7_reason_177 rfl (lv_at hl 5 rfl) ?_
              refine lv_bipush (v := 6) hx hb dX7_reason_178 (by decide) ?_
              refine lv_iadd hx hb dX7_reason_180 ?_
              refine lv_tope (y := (nI (b + 6))) (nI_add b 6) ?_
              refine va_iald hx hb hK hP 1 0 rfl rfl (vp_in_nI (n := (b + 6)) (by omega) (by decide)) dX7_reason_181 ?_
              refine lv_tope (y := (f (b + 6))) (at_nI (k := (b + 6)) (by omega)) ?_
              refine lv_icmp_lt (tgt := 189) hx hb dX7_reason_182 (by decide) (fun c_182 => ?_) (fun c_182 => ?_)
              · have hF := hF.trans (if_pos c_182)
                refine lv_iconst (v := 0) hx hb dX7_reason_189 (by decide) ?_
                rw [hQ]
                exact W.iret (v := 0) hx hb hr (fun t ht hW => ⟨0, rfl, hF.symm, ht⟩) (fun q hq => absurd hq List.not_mem_nil) dX7_reason_190
              have hF := hF.trans (if_neg c_182)
              refine lv_iconst (v := 5) hx hb dX7_reason_185 (by decide) ?_
              refine lv_goto (tgt := 190) hx hb dX7_reason_186 (by decide) ?_
              rw [hQ]
              exact W.iret (v := 5) hx hb hr (fun t ht hW => ⟨5, rfl, hF.symm, ht⟩) (fun q hq => absurd hq List.not_mem_nil) dX7_reason_190
            have hF := hF.trans (if_neg c_164)
            refine lv_iconst (v := 4) hx hb dX7_reason_167 (by decide) ?_
            refine lv_goto (tgt := 190) hx hb dX7_reason_168 (by decide) ?_
            rw [hQ]
            exact W.iret (v := 4) hx hb hr (fun t ht hW => ⟨4, rfl, hF.symm, ht⟩) (fun q hq => absurd hq List.not_mem_nil) dX7_reason_190
          obtain ⟨jj58, rfl⟩ := cn_go hkkk58 c_68
          have hF := hF.trans (lq2_s _ _ _ _ _ _)
          obtain ⟨nextkk58, hnextkk58⟩ : ∃ y9, y9 = lq2 (fX7_reason_b58 f b g tb) (fX7_reason_r58 f b) jj58 (kk58 + 1) := ⟨_, rfl⟩
          rw [← hnextkk58] at hF
          refine lv_iload hx hb dX7_reason_71 (lv_at hl 0 rfl) ?_
          refine lv_iload_n hx hb dX7_reason_73 rfl (lv_at hl 6 rfl) ?_
          have K74 : ∀ (v74_0 : Int32) (v74_1 : Int32), (v74_0, v74_1) = (if (nI kk58) = (nI g) then (x58_7, x58_6) else (if (fX7_of f b kk58 3) = tb then (bd ((if x58_6 = 0 then (if (fX7_feudPlace f b (fX7_feudOf (fX7_of f b g 0) (fX7_of f b kk58 0))) = (-1) then 0 else 1) else 1) : Nat) (fun v91_0 => (bd ((if (fX7_of f b kk58 0) = (fX7_of f b g 0) then 1 else 0) : Nat) (fun v145_0 => ((x58_7 + (nI v145_0)), (nI v91_0)))))) else (x58_7, x58_6))) → ∀ (ls : Array Slot), lv_has ls 9 [(8, .int (nI kk58)), (7, .int v74_0), (6, .int v74_1), (5, .int (fX7_whoSits f b tb z)), (0, .ref o), (1, .int (nI b)), (2, .int (nI g)), (3, .int tb), (4, .int z)] → W p l e rmX7_reason s m args below meth c s.heap [] 0 0 Q (F0 m 156 ls []) := by
            intro v74_0 v74_1 hz74  ls hl
            have hz := hz74
            have hF := bd2_at hF hz
            refine lv_iinc (v := (nI (kk58 + 1))) (lv' := [(8, .int (nI (kk58 + 1))), (7, .int v74_0), (6, .int v74_1), (5, .int (fX7_whoSits f b tb z)), (0, .ref o), (1, .int (nI b)), (2, .int (nI g)), (3, .int tb), (4, .int z)]) hx hb dX7_reason_156 hl (k := 0) rfl (nI_1 _) (by decide) rfl (fun ls hl => ?_)
            refine lv_goto (tgt := 58) hx hb dX7_reason_159 (by decide) ?_
            have hF : fX7_reason f b g tb z = nextkk58 v74_0 v74_1 := hF
            rw [hnextkk58] at hF
            exact ihkk58 jj58 (Nat.lt_succ_self _) (kk58 + 1) v74_0 v74_1 (cn_next hkkk58) hF ls (lv_sub hl [0, 1, 2, 3, 4, 5, 6, 7, 8] rfl)
          have hF : ((if (nI kk58) = (nI g) then (x58_7, x58_6) else (if (fX7_of f b kk58 3) = tb then (bd ((if x58_6 = 0 then (if (fX7_feudPlace f b (fX7_feudOf (fX7_of f b g 0) (fX7_of f b kk58 0))) = (-1) then 0 else 1) else 1) : Nat) (fun v91_0 => (bd ((if (fX7_of f b kk58 0) = (fX7_of f b g 0) then 1 else 0) : Nat) (fun v145_0 => ((x58_7 + (nI v145_0)), (nI v91_0)))))) else (x58_7, x58_6))) : Int32 × Int32) = (if (nI kk58) = (nI g) then (x58_7, x58_6) else (if (fX7_of f b kk58 3) = tb then (bd ((if x58_6 = 0 then (if (fX7_feudPlace f b (fX7_feudOf (fX7_of f b g 0) (fX7_of f b kk58 0))) = (-1) then 0 else 1) else 1) : Nat) (fun v91_0 => (bd ((if (fX7_of f b kk58 0) = (fX7_of f b g 0) then 1 else 0) : Nat) (fun v145_0 => ((x58_7 + (nI v145_0)), (nI v91_0)))))) else (x58_7, x58_6))) := rfl
          refine lv_icmp_eq (tgt := 156) hx hb dX7_reason_74 (by decide) (fun c_74 => ?_) (fun c_74 => ?_)
          · have hF := hF.trans (if_pos c_74)
            exact K74 _ _ hF.symm  ls (lv_sub hl [0, 1, 2, 3, 4, 5, 6, 7, 8] rfl)
          have hF := hF.trans (if_neg c_74)
          refine lv_aload_n hx hb dX7_reason_77 rfl (lv_at hl 4 rfl) ?_
          refine lv_iload_n hx hb dX7_reason_78 rfl (lv_at hl 5 rfl) ?_
          refine lv_iload hx hb dX7_reason_79 (lv_at hl 0 rfl) ?_
          refine lv_iconst (v := 3) hx hb dX7_reason_81 (by decide) ?_
          refine k_calli (W.runV (As := [.int (nI b), .int (nI kk58), .int 3]) (rest := []) ⟨hx, hb, hml, hown, hts0⟩ (mX7_of l dC dI cI o q0 q1 f x M h b kk58 3 (by first | omega | assumption)) (cwV 3 hts0 (gi_V u_932 u_934 us_20 u_7 u_935) rfl rfl rfl (by decide +kernel) ⟨Nat.le_of_ble_eq_true rfl, Nat.le_of_ble_eq_true rfl⟩) (pcR_V (ci := 5) (q0 := 0) hP hK hn rfl rfl) rfl rfl hl.1 rfl (lv_room (Nat.le_of_ble_eq_true rfl)) dX7_reason_82 ⟨Nat.zero_le _, Nat.zero_le _⟩) ?_
          refine lv_iload_n hx hb dX7_reason_85 rfl (lv_at hl 7 rfl) ?_
          refine lv_icmp_ne (tgt := 156) hx hb dX7_reason_86 (by decide) (fun c_86 => ?_) (fun c_86 => ?_)
          · have hF := hF.trans (if_neg c_86)
            exact K74 _ _ hF.symm  ls (lv_sub hl [0, 1, 2, 3, 4, 5, 6, 7, 8] rfl)
          have hF := hF.trans (if_pos c_86)
          refine lv_iload hx hb dX7_reason_89 (lv_at hl 2 rfl) ?_
          have K91 : ∀ (v91_0 : Nat), v91_0 = (if x58_6 = 0 then (if (fX7_feudPlace f b (fX7_feudOf (fX7_of f b g 0) (fX7_of f b kk58 0))) = (-1) then 0 else 1) else 1) → ∀ (ls : Array Slot), lv_has ls 9 [(8, .int (nI kk58)), (7, .int x58_7), (6, .int x58_6), (5, .int (fX7_whoSits f b tb z)), (0, .ref o), (1, .int (nI b)), (2, .int (nI g)), (3, .int tb), (4, .int z)] → W p l e rmX7_reason s m args below meth c s.heap [] 0 0 Q (F0 m 126 ls [.int (nI v91_0)]) := by
            intro v91_0 hz91  ls hl
            have hz := hz91
            have hF := bd_at hF hz
            refine lv_istore (lv' := [(6, .int (nI v91_0)), (8, .int (nI kk58)), (7, .int x58_7), (5, .int (fX7_whoSits f b tb z)), (0, .ref o), (1, .int (nI b)), (2, .int (nI g)), (3, .int tb), (4, .int z)]) hx hb dX7_reason_126 hl (by decide) rfl (fun ls hl => ?_)
            refine lv_iload hx hb dX7_reason_128 (lv_at hl 2 rfl) ?_
            refine lv_aload_n hx hb dX7_reason_130 rfl (lv_at hl 4 rfl) ?_
            refine lv_iload_n hx hb dX7_reason_131 rfl (lv_at hl 5 rfl) ?_
            refine lv_iload hx hb dX7_reason_132 (lv_at hl 1 rfl) ?_
            refine lv_iconst (v := 0) hx hb dX7_reason_134 (by decide) ?_
            refine k_calli (W.runV (As := [.int (nI b), .int (nI kk58), .int 0]) (rest := [.int x58_7]) ⟨hx, hb, hml, hown, hts0⟩ (mX7_of l dC dI cI o q0 q1 f x M h b kk58 0 (by first | omega | assumption)) (cwV 3 hts0 (gi_V u_932 u_934 us_20 u_7 u_935) rfl rfl rfl (by decide +kernel) ⟨Nat.le_of_ble_eq_true rfl, Nat.le_of_ble_eq_true rfl⟩) (pcR_V (ci := 5) (q0 := 0) hP hK hn rfl rfl) rfl rfl hl.1 rfl (lv_room (Nat.le_of_ble_eq_true rfl)) dX7_reason_135 ⟨Nat.zero_le _, Nat.zero_le _⟩) ?_
            refine lv_aload_n hx hb dX7_reason_138 rfl (lv_at hl 4 rfl) ?_
            refine lv_iload_n hx hb dX7_reason_139 rfl (lv_at hl 5 rfl) ?_
            refine lv_iload_n hx hb dX7_reason_140 rfl (lv_at hl 6 rfl) ?_
            refine lv_iconst (v := 0) hx hb dX7_reason_141 (by decide) ?_
            refine k_calli (W.runV (As := [.int (nI b), .int (nI g), .int 0]) (rest := [.int (fX7_of f b kk58 0), .int x58_7]) ⟨hx, hb, hml, hown, hts0⟩ (mX7_of l dC dI cI o q0 q1 f x M h b g 0 (by first | omega | assumption)) (cwV 3 hts0 (gi_V u_932 u_934 us_20 u_7 u_935) rfl rfl rfl (by decide +kernel) ⟨Nat.le_of_ble_eq_true rfl, Nat.le_of_ble_eq_true rfl⟩) (pcR_V (ci := 5) (q0 := 0) hP hK hn rfl rfl) rfl rfl hl.1 rfl (lv_room (Nat.le_of_ble_eq_true rfl)) dX7_reason_142 ⟨Nat.zero_le _, Nat.zero_le _⟩) ?_
            have K145 : ∀ (v145_0 : Nat), v145_0 = (if (fX7_of f b kk58 0) = (fX7_of f b g 0) then 1 else 0) → ∀ (ls : Array Slot), lv_has ls 9 [(6, .int (nI v91_0)), (8, .int (nI kk58)), (7, .int x58_7), (5, .int (fX7_whoSits f b tb z)), (0, .ref o), (1, .int (nI b)), (2, .int (nI g)), (3, .int tb), (4, .int z)] → W p l e rmX7_reason s m args below meth c s.heap [] 0 0 Q (F0 m 153 ls [.int (nI v145_0), .int x58_7]) := by
              intro v145_0 hz145  ls hl
              have hz := hz145
              have hF := bd_at hF hz
              refine lv_iadd hx hb dX7_reason_153 ?_
              refine lv_istore (lv' := [(7, .int (x58_7 + (nI v145_0))), (6, .int (nI v91_0)), (8, .int (nI kk58)), (5, .int (fX7_whoSits f b tb z)), (0, .ref o), (1, .int (nI b)), (2, .int (nI g)), (3, .int tb), (4, .int z)]) hx hb dX7_reason_154 hl (by decide) rfl (fun ls hl => ?_)
              exact K74 _ _ hF.symm  ls (lv_sub hl [2, 0, 1, 3, 4, 5, 6, 7, 8] rfl)
            have hF : ((if (fX7_of f b kk58 0) = (fX7_of f b g 0) then 1 else 0) : Nat) = (if (fX7_of f b kk58 0) = (fX7_of f b g 0) then 1 else 0) := rfl
            refine lv_icmp_ne (tgt := 152) hx hb dX7_reason_145 (by decide) (fun c_145 => ?_) (fun c_145 => ?_)
            · have hF := hF.trans (if_neg c_145)
              refine lv_iconst (v := 0) hx hb dX7_reason_152 (by decide) ?_
              exact K145 _ hF.symm  ls (lv_sub hl [0, 1, 2, 3, 4, 5, 6, 7, 8] rfl)
            have hF := hF.trans (if_pos c_145)
            refine lv_iconst (v := 1) hx hb dX7_reason_148 (by decide) ?_
            refine lv_goto (tgt := 153) hx hb dX7_reason_149 (by decide) ?_
            exact K145 _ hF.symm  ls (lv_sub hl [0, 1, 2, 3, 4, 5, 6, 7, 8] rfl)
          have hF : ((if x58_6 = 0 then (if (fX7_feudPlace f b (fX7_feudOf (fX7_of f b g 0) (fX7_of f b kk58 0))) = (-1) then 0 else 1) else 1) : Nat) = (if x58_6 = 0 then (if (fX7_feudPlace f b (fX7_feudOf (fX7_of f b g 0) (fX7_of f b kk58 0))) = (-1) then 0 else 1) else 1) := rfl
          refine lv_if_ne (tgt := 121) hx hb dX7_reason_91 (by decide) (fun c_91 => ?_) (fun c_91 => ?_)
          · have hF := hF.trans (if_neg c_91)
            refine lv_iconst (v := 1) hx hb dX7_reason_121 (by decide) ?_
            refine lv_goto (tgt := 126) hx hb dX7_reason_122 (by decide) ?_
            exact K91 _ hF.symm  ls (lv_sub hl [0, 1, 2, 3, 4, 5, 6, 7, 8] rfl)
          have hF := hF.trans (if_pos c_91)
          refine lv_aload_n hx hb dX7_reason_94 rfl (lv_at hl 4 rfl) ?_
          refine lv_iload_n hx hb dX7_reason_95 rfl (lv_at hl 5 rfl) ?_
          refine lv_aload_n hx hb dX7_reason_96 rfl (lv_at hl 4 rfl) ?_
          refine lv_iload_n hx hb dX7_reason_97 rfl (lv_at hl 5 rfl) ?_
          refine lv_iload_n hx hb dX7_reason_98 rfl (lv_at hl 6 rfl) ?_
          refine lv_iconst (v := 0) hx hb dX7_reason_99 (by decide) ?_
          refine k_calli (W.runV (As := [.int (nI b), .int (nI g), .int 0]) (rest := [.int (nI b), .ref o]) ⟨hx, hb, hml, hown, hts0⟩ (mX7_of l dC dI cI o q0 q1 f x M h b g 0 (by first | omega | assumption)) (cwV 3 hts0 (gi_V u_932 u_934 us_20 u_7 u_935) rfl rfl rfl (by decide +kernel) ⟨Nat.le_of_ble_eq_true rfl, Nat.le_of_ble_eq_true rfl⟩) (pcR_V (ci := 5) (q0 := 0) hP hK hn rfl rfl) rfl rfl hl.1 rfl (lv_room (Nat.le_of_ble_eq_true rfl)) dX7_reason_100 ⟨Nat.zero_le _, Nat.zero_le _⟩) ?_
          refine lv_aload_n hx hb dX7_reason_103 rfl (lv_at hl 4 rfl) ?_
          refine lv_iload_n hx hb dX7_reason_104 rfl (lv_at hl 5 rfl) ?_
          refine lv_iload hx hb dX7_reason_105 (lv_at hl 0 rfl) ?_
          refine lv_iconst (v := 0) hx hb dX7_reason_107 (by decide) ?_
          refine k_calli (W.runV (As := [.int (nI b), .int (nI kk58), .int 0]) (rest := [.int (fX7_of f b g 0), .int (nI b), .ref o]) ⟨hx, hb, hml, hown, hts0⟩ (mX7_of l dC dI cI o q0 q1 f x M h b kk58 0 (by first | omega | assumption)) (cwV 3 hts0 (gi_V u_932 u_934 us_20 u_7 u_935) rfl rfl rfl (by decide +kernel) ⟨Nat.le_of_ble_eq_true rfl, Nat.le_of_ble_eq_true rfl⟩) (pcR_V (ci := 5) (q0 := 0) hP hK hn rfl rfl) rfl rfl hl.1 rfl (lv_room (Nat.le_of_ble_eq_true rfl)) dX7_reason_108 ⟨Nat.zero_le _, Nat.zero_le _⟩) ?_
          refine k_calli (W.runS (As := [.int (fX7_of f b g 0), .int (fX7_of f b kk58 0)]) (rest := [.int (nI b), .ref o]) ⟨hx, hb, hml, hown, hts0⟩ (mX7_feudOf l dC dI  (fX7_of f b g 0) (fX7_of f b kk58 0)) (va_cwS 2 hts0 (gi_S u_947 u_948 u_7 u_949) rfl rfl rfl (by decide +kernel) ⟨Nat.le_of_ble_eq_true rfl, Nat.le_of_ble_eq_true rfl⟩) (pcR_S (hP.sub (ws' := []) [] rfl) (hK.sub (tys' := []) [] rfl) hn) rfl rfl hl.1 rfl (lv_room (Nat.le_of_ble_eq_true rfl)) dX7_reason_111 ⟨Nat.zero_le _, Nat.zero_le _⟩) ?_
          refine k_calli (W.runV (As := [.int (nI b), .int (fX7_feudOf (fX7_of f b g 0) (fX7_of f b kk58 0))]) (rest := []) ⟨hx, hb, hml, hown, hts0⟩ (mX7_feudPlace l dC dI cI o q0 q1 f x M h b (fX7_feudOf (fX7_of f b g 0) (fX7_of f b kk58 0)) (by first | omega | assumption)) (cwV 2 hts0 (gi_V u_950 u_952 us_21 u_7 u_953) rfl rfl rfl (by decide +kernel) ⟨Nat.le_of_ble_eq_true rfl, Nat.le_of_ble_eq_true rfl⟩) (pcR_V (ci := 5) (q0 := 0) hP hK hn rfl rfl) rfl rfl hl.1 rfl (lv_room (Nat.le_of_ble_eq_true rfl)) dX7_reason_114 ⟨Nat.zero_le _, Nat.zero_le _⟩) ?_
          refine lv_iconst (v := (-1)) hx hb dX7_reason_117 (by decide) ?_
          refine lv_icmp_eq (tgt := 125) hx hb dX7_reason_118 (by decide) (fun c_118 => ?_) (fun c_118 => ?_)
          · have hF := hF.trans (if_pos c_118)
            refine lv_iconst (v := 0) hx hb dX7_reason_125 (by decide) ?_
            exact K91 _ hF.symm  ls (lv_sub hl [0, 1, 2, 3, 4, 5, 6, 7, 8] rfl)
          have hF := hF.trans (if_neg c_118)
          refine lv_iconst (v := 1) hx hb dX7_reason_121 (by decide) ?_
          refine lv_goto (tgt := 126) hx hb dX7_reason_122 (by decide) ?_
          exact K91 _ hF.symm  ls (lv_sub hl [0, 1, 2, 3, 4, 5, 6, 7, 8] rfl)
      exact L58 ((f (b + 0)).toNatClampNeg) 0 0 0 (Nat.zero_add _) hF ls (lv_sub hl [0, 1, 2, 3, 4, 5, 6, 7, 8] rfl)
    have hF := hF.trans (if_neg c_33)
    refine lv_aload_n hx hb dX7_reason_36 rfl (lv_at hl 1 rfl) ?_
    refine lv_iload_n hx hb dX7_reason_37 rfl (lv_at hl 2 rfl) ?_
    refine lv_iload_n hx hb dX7_reason_38 rfl (lv_at hl 3 rfl) ?_
    refine lv_iconst (v := 1) hx hb dX7_reason_39 (by decide) ?_
    refine k_calli (W.runV (As := [.int (nI b), .int (nI g), .int 1]) (rest := []) ⟨hx, hb, hml, hown, hts0⟩ (mX7_of l dC dI cI o q0 q1 f x M h b g 1 (by first | omega | assumption)) (cwV 3 hts0 (gi_V u_932 u_934 us_20 u_7 u_935) rfl rfl rfl (by decide +kernel) ⟨Nat.le_of_ble_eq_true rfl, Nat.le_of_ble_eq_true rfl⟩) (pcR_V (ci := 5) (q0 := 0) hP hK hn rfl rfl) rfl rfl hl.1 rfl (lv_room (Nat.le_of_ble_eq_true rfl)) dX7_reason_40 ⟨Nat.zero_le _, Nat.zero_le _⟩) ?_
    refine lv_iconst (v := 3) hx hb dX7_reason_43 (by decide) ?_
    refine lv_icmp_ne (tgt := 49) hx hb dX7_reason_44 (by decide) (fun c_44 => ?_) (fun c_44 => ?_)
    · have hF := hF.trans (if_neg c_44)
      refine lv_iconst (v := 0) hx hb dX7_reason_49 (by decide) ?_
      refine lv_istore (lv' := [(6, .int 0), (5, .int (fX7_whoSits f b tb z)), (0, .ref o), (1, .int (nI b)), (2, .int (nI g)), (3, .int tb), (4, .int z)]) hx hb dX7_reason_50 hl (by decide) rfl (fun ls hl => ?_)
      refine lv_iconst (v := 0) hx hb dX7_reason_52 (by decide) ?_
      refine lv_istore (lv' := [(7, .int 0), (6, .int 0), (5, .int (fX7_whoSits f b tb z)), (0, .ref o), (1, .int (nI b)), (2, .int (nI g)), (3, .int tb), (4, .int z)]) hx hb dX7_reason_53 hl (by decide) rfl (fun ls hl => ?_)
      refine lv_iconst (v := 0) hx hb dX7_reason_55 (by decide) ?_
      refine lv_istore (lv' := [(8, .int 0), (7, .int 0), (6, .int 0), (5, .int (fX7_whoSits f b tb z)), (0, .ref o), (1, .int (nI b)), (2, .int (nI g)), (3, .int tb), (4, .int z)]) hx hb dX7_reason_56 hl (by decide) rfl (fun ls hl => ?_)
      have L58 : ∀ (jj58 kk58 : Nat) (x58_7 : Int32) (x58_6 : Int32), kk58 + jj58 = ((f (b + 0)).toNatClampNeg) → fX7_reason f b g tb z = lq2 (fX7_reason_b58 f b g tb) (fX7_reason_r58 f b) jj58 kk58 x58_7 x58_6 → ∀ (ls : Array Slot), lv_has ls 9 [(8, .int (nI kk58)), (7, .int x58_7), (6, .int x58_6), (5, .int (fX7_whoSits f b tb z)), (0, .ref o), (1, .int (nI b)), (2, .int (nI g)), (3, .int tb), (4, .int z)] → W p l e rmX7_reason s m args below meth c s.heap [] 0 0 Q (F0 m 58 ls []) := by
        intro jj58
        induction jj58 using Nat.strongRecOn with
        | _ jj58 ihkk58 =>
          intro kk58 x58_7 x58_6 hkkk58 hF  ls hl
          refine lv_iload hx hb dX7_reason_58 (lv_at hl 0 rfl) ?_
          refine lv_aload_n hx hb dX7_reason_60 rfl (lv_at hl 4 rfl) ?_
          refine va_get (D := (dC, dI)) (ci := 5) (v := .ref q0) (C := RX7) (T := TX7) (N := 12) hx hb htX7 (fun _ h => h) hown hK hP 0 rfl rfl 1 (by decide) (hts _ u_858) (fun _ h9 => h9) rfl dX7_reason_61 ?_
          refine lv_iload_n hx hb dX7_reason_64 rfl (lv_at hl 5 rfl) ?_
          refine lv_iconst (v := 0) hx hb dX7_reason_65 (by decide) ?_
          refine lv_iadd hx hb dX7_reason_66 ?_
          refine lv_tope (y := (nI (b + 0))) (nI_add b 0) ?_
          refine va_iald hx hb hK hP 1 0 rfl rfl (vp_in_nI (n := (b + 0)) (by omega) (by decide)) dX7_reason_67 ?_
          refine lv_tope (y := (f (b + 0))) (at_nI (k := (b + 0)) (by omega)) ?_
          refine lv_icmp_ge (tgt := 162) hx hb dX7_reason_68 (by decide) (fun c_68 => ?_) (fun c_68 => ?_)
          · obtain rfl := cn_exit hkkk58 c_68
            have hF := hF.trans (lq2_z _ _ _ _ _)
            refine lv_iload hx hb dX7_reason_162 (lv_at hl 2 rfl) ?_
            refine lv_if_eq (tgt := 171) hx hb dX7_reason_164 (by decide) (fun c_164 => ?_) (fun c_164 => ?_)
            · have hF := hF.trans (if_pos c_164)
              refine lv_iload hx hb dX7_reason_171 (lv_at hl 1 rfl) ?_
              refine lv_aload_n hx hb dX7_reason_173 rfl (lv_at hl 4 rfl) ?_
              refine va_get (D := (dC, dI)) (ci := 5) (v := .ref q0) (C := RX7) (T := TX7) (N := 12) hx hb htX7 (fun _ h => h) hown hK hP 0 rfl rfl 1 (by decide) (hts _ u_858) (fun _ h9 => h9) rfl dX7_reason_174 ?_
              refine lv_iload_n hx hb dX7_reason_177 rfl (lv_at hl 5 rfl) ?_
              refine lv_bipush (v := 6) hx hb dX7_reason_178 (by decide) ?_
              refine lv_iadd hx hb dX7_reason_180 ?_
              refine lv_tope (y := (nI (b + 6))) (nI_add b 6) ?_
              refine va_iald hx hb hK hP 1 0 rfl rfl (vp_in_nI (n := (b + 6)) (by omega) (by decide)) dX7_reason_181 ?_
              refine lv_tope (y := (f (b + 6))) (at_nI (k := (b + 6)) (by omega)) ?_
              refine lv_icmp_lt (tgt := 189) hx hb dX7_reason_182 (by decide) (fun c_182 => ?_) (fun c_182 => ?_)
              · have hF := hF.trans (if_pos c_182)
                refine lv_iconst (v := 0) hx hb dX7_reason_189 (by decide) ?_
                rw [hQ]
                exact W.iret (v := 0) hx hb hr (fun t ht hW => ⟨0, rfl, hF.symm, ht⟩) (fun q hq => absurd hq List.not_mem_nil) dX7_reason_190
              have hF := hF.trans (if_neg c_182)
              refine lv_iconst (v := 5) hx hb dX7_reason_185 (by decide) ?_
              refine lv_goto (tgt := 190) hx hb dX7_reason_186 (by decide) ?_
              rw [hQ]
              exact W.iret (v := 5) hx hb hr (fun t ht hW => ⟨5, rfl, hF.symm, ht⟩) (fun q hq => absurd hq List.not_mem_nil) dX7_reason_190
            have hF := hF.trans (if_neg c_164)
            refine lv_iconst (v := 4) hx hb dX7_reason_167 (by decide) ?_
            refine lv_goto (tgt := 190) hx hb dX7_reason_168 (by decide) ?_
            rw [hQ]
            exact W.iret (v := 4) hx hb hr (fun t ht hW => ⟨4, rfl, hF.symm, ht⟩) (fun q hq => absurd hq List.not_mem_nil) dX7_reason_190
          obtain ⟨jj58, rfl⟩ := cn_go hkkk58 c_68
          have hF := hF.trans (lq2_s _ _ _ _ _ _)
          obtain ⟨nextkk58, hnextkk58⟩ : ∃ y9, y9 = lq2 (fX7_reason_b58 f b g tb) (fX7_reason_r58 f b) jj58 (kk58 + 1) := ⟨_, rfl⟩
          rw [← hnextkk58] at hF
          refine lv_iload hx hb dX7_reason_71 (lv_at hl 0 rfl) ?_
          refine lv_iload_n hx hb dX7_reason_73 rfl (lv_at hl 6 rfl) ?_
          have K74 : ∀ (v74_0 : Int32) (v74_1 : Int32), (v74_0, v74_1) = (if (nI kk58) = (nI g) then (x58_7, x58_6) else (if (fX7_of f b kk58 3) = tb then (bd ((if x58_6 = 0 then (if (fX7_feudPlace f b (fX7_feudOf (fX7_of f b g 0) (fX7_of f b kk58 0))) = (-1) then 0 else 1) else 1) : Nat) (fun v91_0 => (bd ((if (fX7_of f b kk58 0) = (fX7_of f b g 0) then 1 else 0) : Nat) (fun v145_0 => ((x58_7 + (nI v145_0)), (nI v91_0)))))) else (x58_7, x58_6))) → ∀ (ls : Array Slot), lv_has ls 9 [(8, .int (nI kk58)), (7, .int v74_0), (6, .int v74_1), (5, .int (fX7_whoSits f b tb z)), (0, .ref o), (1, .int (nI b)), (2, .int (nI g)), (3, .int tb), (4, .int z)] → W p l e rmX7_reason s m args below meth c s.heap [] 0 0 Q (F0 m 156 ls []) := by
            intro v74_0 v74_1 hz74  ls hl
            have hz := hz74
            have hF := bd2_at hF hz
            refine lv_iinc (v := (nI (kk58 + 1))) (lv' := [(8, .int (nI (kk58 + 1))), (7, .int v74_0), (6, .int v74_1), (5, .int (fX7_whoSits f b tb z)), (0, .ref o), (1, .int (nI b)), (2, .int (nI g)), (3, .int tb), (4, .int z)]) hx hb dX7_reason_156 hl (k := 0) rfl (nI_1 _) (by decide) rfl (fun ls hl => ?_)
            refine lv_goto (tgt := 58) hx hb dX7_reason_159 (by decide) ?_
            have hF : fX7_reason f b g tb z = nextkk58 v74_0 v74_1 := hF
            rw [hnextkk58] at hF
            exact ihkk58 jj58 (Nat.lt_succ_self _) (kk58 + 1) v74_0 v74_1 (cn_next hkkk58) hF ls (lv_sub hl [0, 1, 2, 3, 4, 5, 6, 7, 8] rfl)
          have hF : ((if (nI kk58) = (nI g) then (x58_7, x58_6) else (if (fX7_of f b kk58 3) = tb then (bd ((if x58_6 = 0 then (if (fX7_feudPlace f b (fX7_feudOf (fX7_of f b g 0) (fX7_of f b kk58 0))) = (-1) then 0 else 1) else 1) : Nat) (fun v91_0 => (bd ((if (fX7_of f b kk58 0) = (fX7_of f b g 0) then 1 else 0) : Nat) (fun v145_0 => ((x58_7 + (nI v145_0)), (nI v91_0)))))) else (x58_7, x58_6))) : Int32 × Int32) = (if (nI kk58) = (nI g) then (x58_7, x58_6) else (if (fX7_of f b kk58 3) = tb then (bd ((if x58_6 = 0 then (if (fX7_feudPlace f b (fX7_feudOf (fX7_of f b g 0) (fX7_of f b kk58 0))) = (-1) then 0 else 1) else 1) : Nat) (fun v91_0 => (bd ((if (fX7_of f b kk58 0) = (fX7_of f b g 0) then 1 else 0) : Nat) (fun v145_0 => ((x58_7 + (nI v145_0)), (nI v91_0)))))) else (x58_7, x58_6))) := rfl
          refine lv_icmp_eq (tgt := 156) hx hb dX7_reason_74 (by decide) (fun c_74 => ?_) (fun c_74 => ?_)
          · have hF := hF.trans (if_pos c_74)
            exact K74 _ _ hF.symm  ls (lv_sub hl [0, 1, 2, 3, 4, 5, 6, 7, 8] rfl)
          have hF := hF.trans (if_neg c_74)
          refine lv_aload_n hx hb dX7_reason_77 rfl (lv_at hl 4 rfl) ?_
          refine lv_iload_n hx hb dX7_reason_78 rfl (lv_at hl 5 rfl) ?_
          refine lv_iload hx hb dX7_reason_79 (lv_at hl 0 rfl) ?_
          refine lv_iconst (v := 3) hx hb dX7_reason_81 (by decide) ?_
          refine k_calli (W.runV (As := [.int (nI b), .int (nI kk58), .int 3]) (rest := []) ⟨hx, hb, hml, hown, hts0⟩ (mX7_of l dC dI cI o q0 q1 f x M h b kk58 3 (by first | omega | assumption)) (cwV 3 hts0 (gi_V u_932 u_934 us_20 u_7 u_935) rfl rfl rfl (by decide +kernel) ⟨Nat.le_of_ble_eq_true rfl, Nat.le_of_ble_eq_true rfl⟩) (pcR_V (ci := 5) (q0 := 0) hP hK hn rfl rfl) rfl rfl hl.1 rfl (lv_room (Nat.le_of_ble_eq_true rfl)) dX7_reason_82 ⟨Nat.zero_le _, Nat.zero_le _⟩) ?_
          refine lv_iload_n hx hb dX7_reason_85 rfl (lv_at hl 7 rfl) ?_
          refine lv_icmp_ne (tgt := 156) hx hb dX7_reason_86 (by decide) (fun c_86 => ?_) (fun c_86 => ?_)
          · have hF := hF.trans (if_neg c_86)
            exact K74 _ _ hF.symm  ls (lv_sub hl [0, 1, 2, 3, 4, 5, 6, 7, 8] rfl)
          have hF := hF.trans (if_pos c_86)
          refine lv_iload hx hb dX7_reason_89 (lv_at hl 2 rfl) ?_
          have K91 : ∀ (v91_0 : Nat), v91_0 = (if x58_6 = 0 then (if (fX7_feudPlace f b (fX7_feudOf (fX7_of f b g 0) (fX7_of f b kk58 0))) = (-1) then 0 else 1) else 1) → ∀ (ls : Array Slot), lv_has ls 9 [(8, .int (nI kk58)), (7, .int x58_7), (6, .int x58_6), (5, .int (fX7_whoSits f b tb z)), (0, .ref o), (1, .int (nI b)), (2, .int (nI g)), (3, .int tb), (4, .int z)] → W p l e rmX7_reason s m args below meth c s.heap [] 0 0 Q (F0 m 126 ls [.int (nI v91_0)]) := by
            intro v91_0 hz91  ls hl
            have hz := hz91
            have hF := bd_at hF hz
            refine lv_istore (lv' := [(6, .int (nI v91_0)), (8, .int (nI kk58)), (7, .int x58_7), (5, .int (fX7_whoSits f b tb z)), (0, .ref o), (1, .int (nI b)), (2, .int (nI g)), (3, .int tb), (4, .int z)]) hx hb dX7_reason_126 hl (by decide) rfl (fun ls hl => ?_)
            refine lv_iload hx hb dX7_reason_128 (lv_at hl 2 rfl) ?_
            refine lv_aload_n hx hb dX7_reason_130 rfl (lv_at hl 4 rfl) ?_
            refine lv_iload_n hx hb dX7_reason_131 rfl (lv_at hl 5 rfl) ?_
            refine lv_iload hx hb dX7_reason_132 (lv_at hl 1 rfl) ?_
            refine lv_iconst (v := 0) hx hb dX7_reason_134 (by decide) ?_
            refine k_calli (W.runV (As := [.int (nI b), .int (nI kk58), .int 0]) (rest := [.int x58_7]) ⟨hx, hb, hml, hown, hts0⟩ (mX7_of l dC dI cI o q0 q1 f x M h b kk58 0 (by first | omega | assumption)) (cwV 3 hts0 (gi_V u_932 u_934 us_20 u_7 u_935) rfl rfl rfl (by decide +kernel) ⟨Nat.le_of_ble_eq_true rfl, Nat.le_of_ble_eq_true rfl⟩) (pcR_V (ci := 5) (q0 := 0) hP hK hn rfl rfl) rfl rfl hl.1 rfl (lv_room (Nat.le_of_ble_eq_true rfl)) dX7_reason_135 ⟨Nat.zero_le _, Nat.zero_le _⟩) ?_
            refine lv_aload_n hx hb dX7_reason_138 rfl (lv_at hl 4 rfl) ?_
            refine lv_iload_n hx hb dX7_reason_139 rfl (lv_at hl 5 rfl) ?_
            refine lv_iload_n hx hb dX7_reason_140 rfl (lv_at hl 6 rfl) ?_
            refine lv_iconst (v := 0) hx hb dX7_reason_141 (by decide) ?_
            refine k_calli (W.runV (As := [.int (nI b), .int (nI g), .int 0]) (rest := [.int (fX7_of f b kk58 0), .int x58_7]) ⟨hx, hb, hml, hown, hts0⟩ (mX7_of l dC dI cI o q0 q1 f x M h b g 0 (by first | omega | assumption)) (cwV 3 hts0 (gi_V u_932 u_934 us_20 u_7 u_935) rfl rfl rfl (by decide +kernel) ⟨Nat.le_of_ble_eq_true rfl, Nat.le_of_ble_eq_true rfl⟩) (pcR_V (ci := 5) (q0 := 0) hP hK hn rfl rfl) rfl rfl hl.1 rfl (lv_room (Nat.le_of_ble_eq_true rfl)) dX7_reason_142 ⟨Nat.zero_le _, Nat.zero_le _⟩) ?_
            have K145 : ∀ (v145_0 : Nat), v145_0 = (if (fX7_of f b kk58 0) = (fX7_of f b g 0) then 1 else 0) → ∀ (ls : Array Slot), lv_has ls 9 [(6, .int (nI v91_0)), (8, .int (nI kk58)), (7, .int x58_7), (5, .int (fX7_whoSits f b tb z)), (0, .ref o), (1, .int (nI b)), (2, .int (nI g)), (3, .int tb), (4, .int z)] → W p l e rmX7_reason s m args below meth c s.heap [] 0 0 Q (F0 m 153 ls [.int (nI v145_0), .int x58_7]) := by
              intro v145_0 hz145  ls hl
              have hz := hz145
              have hF := bd_at hF hz
              refine lv_iadd hx hb dX7_reason_153 ?_
              refine lv_istore (lv' := [(7, .int (x58_7 + (nI v145_0))), (6, .int (nI v91_0)), (8, .int (nI kk58)), (5, .int (fX7_whoSits f b tb z)), (0, .ref o), (1, .int (nI b)), (2, .int (nI g)), (3, .int tb), (4, .int z)]) hx hb dX7_reason_154 hl (by decide) rfl (fun ls hl => ?_)
              exact K74 _ _ hF.symm  ls (lv_sub hl [2, 0, 1, 3, 4, 5, 6, 7, 8] rfl)
            have hF : ((if (fX7_of f b kk58 0) = (fX7_of f b g 0) then 1 else 0) : Nat) = (if (fX7_of f b kk58 0) = (fX7_of f b g 0) then 1 else 0) := rfl
            refine lv_icmp_ne (tgt := 152) hx hb dX7_reason_145 (by decide) (fun c_145 => ?_) (fun c_145 => ?_)
            · have hF := hF.trans (if_neg c_145)
              refine lv_iconst (v := 0) hx hb dX7_reason_152 (by decide) ?_
              exact K145 _ hF.symm  ls (lv_sub hl [0, 1, 2, 3, 4, 5, 6, 7, 8] rfl)
            have hF := hF.trans (if_pos c_145)
            refine lv_iconst (v := 1) hx hb dX7_reason_148 (by decide) ?_
            refine lv_goto (tgt := 153) hx hb dX7_reason_149 (by decide) ?_
            exact K145 _ hF.symm  ls (lv_sub hl [0, 1, 2, 3, 4, 5, 6, 7, 8] rfl)
          have hF : ((if x58_6 = 0 then (if (fX7_feudPlace f b (fX7_feudOf (fX7_of f b g 0) (fX7_of f b kk58 0))) = (-1) then 0 else 1) else 1) : Nat) = (if x58_6 = 0 then (if (fX7_feudPlace f b (fX7_feudOf (fX7_of f b g 0) (fX7_of f b kk58 0))) = (-1) then 0 else 1) else 1) := rfl
          refine lv_if_ne (tgt := 121) hx hb dX7_reason_91 (by decide) (fun c_91 => ?_) (fun c_91 => ?_)
          · have hF := hF.trans (if_neg c_91)
            refine lv_iconst (v := 1) hx hb dX7_reason_121 (by decide) ?_
            refine lv_goto (tgt := 126) hx hb dX7_reason_122 (by decide) ?_
            exact K91 _ hF.symm  ls (lv_sub hl [0, 1, 2, 3, 4, 5, 6, 7, 8] rfl)
          have hF := hF.trans (if_pos c_91)
          refine lv_aload_n hx hb dX7_reason_94 rfl (lv_at hl 4 rfl) ?_
          refine lv_iload_n hx hb dX7_reason_95 rfl (lv_at hl 5 rfl) ?_
          refine lv_aload_n hx hb dX7_reason_96 rfl (lv_at hl 4 rfl) ?_
          refine lv_iload_n hx hb dX7_reason_97 rfl (lv_at hl 5 rfl) ?_
          refine lv_iload_n hx hb dX7_reason_98 rfl (lv_at hl 6 rfl) ?_
          refine lv_iconst (v := 0) hx hb dX7_reason_99 (by decide) ?_
          refine k_calli (W.runV (As := [.int (nI b), .int (nI g), .int 0]) (rest := [.int (nI b), .ref o]) ⟨hx, hb, hml, hown, hts0⟩ (mX7_of l dC dI cI o q0 q1 f x M h b g 0 (by first | omega | assumption)) (cwV 3 hts0 (gi_V u_932 u_934 us_20 u_7 u_935) rfl rfl rfl (by decide +kernel) ⟨Nat.le_of_ble_eq_true rfl, Nat.le_of_ble_eq_true rfl⟩) (pcR_V (ci := 5) (q0 := 0) hP hK hn rfl rfl) rfl rfl hl.1 rfl (lv_room (Nat.le_of_ble_eq_true rfl)) dX7_reason_100 ⟨Nat.zero_le _, Nat.zero_le _⟩) ?_
          refine lv_aload_n hx hb dX7_reason_103 rfl (lv_at hl 4 rfl) ?_
          refine lv_iload_n hx hb dX7_reason_104 rfl (lv_at hl 5 rfl) ?_
          refine lv_iload hx hb dX7_reason_105 (lv_at hl 0 rfl) ?_
          refine lv_iconst (v := 0) hx hb dX7_reason_107 (by decide) ?_
          refine k_calli (W.runV (As := [.int (nI b), .int (nI kk58), .int 0]) (rest := [.int (fX7_of f b g 0), .int (nI b), .ref o]) ⟨hx, hb, hml, hown, hts0⟩ (mX7_of l dC dI cI o q0 q1 f x M h b kk58 0 (by first | omega | assumption)) (cwV 3 hts0 (gi_V u_932 u_934 us_20 u_7 u_935) rfl rfl rfl (by decide +kernel) ⟨Nat.le_of_ble_eq_true rfl, Nat.le_of_ble_eq_true rfl⟩) (pcR_V (ci := 5) (q0 := 0) hP hK hn rfl rfl) rfl rfl hl.1 rfl (lv_room (Nat.le_of_ble_eq_true rfl)) dX7_reason_108 ⟨Nat.zero_le _, Nat.zero_le _⟩) ?_
          refine k_calli (W.runS (As := [.int (fX7_of f b g 0), .int (fX7_of f b kk58 0)]) (rest := [.int (nI b), .ref o]) ⟨hx, hb, hml, hown, hts0⟩ (mX7_feudOf l dC dI  (fX7_of f b g 0) (fX7_of f b kk58 0)) (va_cwS 2 hts0 (gi_S u_947 u_948 u_7 u_949) rfl rfl rfl (by decide +kernel) ⟨Nat.le_of_ble_eq_true rfl, Nat.le_of_ble_eq_true rfl⟩) (pcR_S (hP.sub (ws' := []) [] rfl) (hK.sub (tys' := []) [] rfl) hn) rfl rfl hl.1 rfl (lv_room (Nat.le_of_ble_eq_true rfl)) dX7_reason_111 ⟨Nat.zero_le _, Nat.zero_le _⟩) ?_
          refine k_calli (W.runV (As := [.int (nI b), .int (fX7_feudOf (fX7_of f b g 0) (fX7_of f b kk58 0))]) (rest := []) ⟨hx, hb, hml, hown, hts0⟩ (mX7_feudPlace l dC dI cI o q0 q1 f x M h b (fX7_feudOf (fX7_of f b g 0) (fX7_of f b kk58 0)) (by first | omega | assumption)) (cwV 2 hts0 (gi_V u_950 u_952 us_21 u_7 u_953) rfl rfl rfl (by decide +kernel) ⟨Nat.le_of_ble_eq_true rfl, Nat.le_of_ble_eq_true rfl⟩) (pcR_V (ci := 5) (q0 := 0) hP hK hn rfl rfl) rfl rfl hl.1 rfl (lv_room (Nat.le_of_ble_eq_true rfl)) dX7_reason_114 ⟨Nat.zero_le _, Nat.zero_le _⟩) ?_
          refine lv_iconst (v := (-1)) hx hb dX7_reason_117 (by decide) ?_
          refine lv_icmp_eq (tgt := 125) hx hb dX7_reason_118 (by decide) (fun c_118 => ?_) (fun c_118 => ?_)
          · have hF := hF.trans (if_pos c_118)
            refine lv_iconst (v := 0) hx hb dX7_reason_125 (by decide) ?_
            exact K91 _ hF.symm  ls (lv_sub hl [0, 1, 2, 3, 4, 5, 6, 7, 8] rfl)
          have hF := hF.trans (if_neg c_118)
          refine lv_iconst (v := 1) hx hb dX7_reason_121 (by decide) ?_
          refine lv_goto (tgt := 126) hx hb dX7_reason_122 (by decide) ?_
          exact K91 _ hF.symm  ls (lv_sub hl [0, 1, 2, 3, 4, 5, 6, 7, 8] rfl)
      exact L58 ((f (b + 0)).toNatClampNeg) 0 0 0 (Nat.zero_add _) hF ls (lv_sub hl [0, 1, 2, 3, 4, 5, 6, 7, 8] rfl)
    have hF := hF.trans (if_pos c_44)
    refine lv_iconst (v := 3) hx hb dX7_reason_47 (by decide) ?_
    rw [hQ]
    exact W.iret (v := 3) hx hb hr (fun t ht hW => ⟨3, rfl, hF.symm, ht⟩) (fun q hq => absurd hq List.not_mem_nil) dX7_reason_48
  have hF := hF.trans (if_neg c_13)
  refine lv_iload hx hb dX7_reason_16 (lv_at hl 0 rfl) ?_
  refine lv_iload_n hx hb dX7_reason_18 rfl (lv_at hl 3 rfl) ?_
  refine lv_icmp_ne (tgt := 26) hx hb dX7_reason_19 (by decide) (fun c_19 => ?_) (fun c_19 => ?_)
  · have hF := hF.trans (if_neg c_19)
    refine lv_iconst (v := 2) hx hb dX7_reason_26 (by decide) ?_
    rw [hQ]
    exact W.iret (v := 2) hx hb hr (fun t ht hW => ⟨2, rfl, hF.symm, ht⟩) (fun q hq => absurd hq List.not_mem_nil) dX7_reason_27
  have hF := hF.trans (if_pos c_19)
  refine lv_iconst (v := 1) hx hb dX7_reason_22 (by decide) ?_
  refine lv_goto (tgt := 27) hx hb dX7_reason_23 (by decide) ?_
  rw [hQ]
  exact W.iret (v := 1) hx hb hr (fun t ht hW => ⟨1, rfl, hF.symm, ht⟩) (fun q hq => absurd hq List.not_mem_nil) dX7_reason_27
