def fX5_isIn (z : Int32) (a : Int32) (b : Int32) : Int32 :=
  (if z < a then 0 else (if b < z then 0 else 1))
abbrev rmX5_isIn : Room := { frames := 0, cells := 0, slots := 0, locals := 0 }
set_option maxHeartbeats 4000000 in
set_option maxRecDepth 100000 in
theorem mX5_isIn (l : Launch) (dC : Nat → ClassId) (dI : Nat → Nat → Nat)  (z : Int32) (a : Int32) (b : Int32) : Met l yX5_isIn (ws_ yX5_isIn cX5_isIn 3 (some .boolean)) rmX5_isIn (pcR (dC, dI) [] [] [.int z, .int a, .int b]) (vp_Si (fun r => r = fX5_isIn z a b ∧ (r = 0 ∨ r = 1))) 0 0 (fun _ => False) := by
  refine Met.ofW (cc := cX5_isIn) (maxL := 3) (ret := (some .boolean)) (by decide) rfl ?_
  intro p e s m args below meth c s₁ B hml hv
  obtain ⟨ha, hP, hK, hn⟩ := hv
  have hx := B.exec
  have hb := B.bytes
  have hr := B.returns
  have hts0 := atoms_spec (ws := (ws_ yX5_isIn cX5_isIn 3 (some .boolean))) B.pre
  have hts : ∀ w ∈ lw_all, w.before args s = true := fun w h => hts0 w (List.mem_cons_of_mem _ h)
  have hown : s.vm.findClass RX5 = some m.cls := findClass_of_methodNamed B.named
  have hlocks := B.notSynchronized
  obtain ⟨Q, hQ⟩ : ∃ Q, Q = MQ below (vp_Si (fun r => r = fX5_isIn z a b ∧ (r = 0 ∨ r = 1))) args s 0 0 (fun _ => False) := ⟨_, rfl⟩
  rw [← hQ]
  have hl := lv_entry ([.int z, .int a, .int b]) (n := 3) (Nat.le_of_ble_eq_true rfl)
  rw [ha, lg_entry_eq, ← ha]
  generalize (lg_sl ([.int z, .int a, .int b]) ++ List.replicate (3 - (lg_sl ([.int z, .int a, .int b])).length) Slot.unset).toArray = ls at hl ⊢
  have hl : lv_has ls 3 [(0, .int z), (1, .int a), (2, .int b)] := hl
  show W p l e rmX5_isIn s m args below meth c s.heap [] 0 0 Q (F0 m 0 ls [])
  have hF : fX5_isIn z a b = fX5_isIn z a b := rfl
  refine lv_iload_n hx hb dX5_isIn_0 rfl (lv_at hl 0 rfl) ?_
  refine lv_iload_n hx hb dX5_isIn_1 rfl (lv_at hl 1 rfl) ?_
  refine lv_icmp_lt (tgt := 14) hx hb dX5_isIn_2 (by decide) (fun c_2 => ?_) (fun c_2 => ?_)
  · have hF := hF.trans (if_pos c_2)
    refine lv_iconst (v := 0) hx hb dX5_isIn_14 (by decide) ?_
    rw [hQ]
    exact W.zret (ty := .boolean) (v := 0) hx hb hr rfl (fun t ht hW => ⟨0, rfl, ⟨hF.symm, Or.inl rfl⟩, ht⟩) (fun q hq => absurd hq List.not_mem_nil) dX5_isIn_15
  have hF := hF.trans (if_neg c_2)
  refine lv_iload_n hx hb dX5_isIn_5 rfl (lv_at hl 0 rfl) ?_
  refine lv_iload_n hx hb dX5_isIn_6 rfl (lv_at hl 2 rfl) ?_
  refine lv_icmp_gt (tgt := 14) hx hb dX5_isIn_7 (by decide) (fun c_7 => ?_) (fun c_7 => ?_)
  · have hF := hF.trans (if_pos c_7)
    refine lv_iconst (v := 0) hx hb dX5_isIn_14 (by decide) ?_
    rw [hQ]
    exact W.zret (ty := .boolean) (v := 0) hx hb hr rfl (fun t ht hW => ⟨0, rfl, ⟨hF.symm, Or.inl rfl⟩, ht⟩) (fun q hq => absurd hq List.not_mem_nil) dX5_isIn_15
  have hF := hF.trans (if_neg c_7)
  refine lv_iconst (v := 1) hx hb dX5_isIn_10 (by decide) ?_
  refine lv_goto (tgt := 15) hx hb dX5_isIn_11 (by decide) ?_
  rw [hQ]
  exact W.zret (ty := .boolean) (v := 1) hx hb hr rfl (fun t ht hW => ⟨1, rfl, ⟨hF.symm, Or.inr rfl⟩, ht⟩) (fun q hq => absurd hq List.not_mem_nil) dX5_isIn_15

def fX5_only (z : Int32) (a : Int32) (b : Int32) : Int32 :=
  (if z = a then b else (-1))
abbrev rmX5_only : Room := { frames := 0, cells := 0, slots := 0, locals := 0 }
set_option maxHeartbeats 4000000 in
set_option maxRecDepth 100000 in
theorem mX5_only (l : Launch) (dC : Nat → ClassId) (dI : Nat → Nat → Nat)  (z : Int32) (a : Int32) (b : Int32) : Met l yX5_only (ws_ yX5_only cX5_only 3 (some .int)) rmX5_only (pcR (dC, dI) [] [] [.int z, .int a, .int b]) (vp_Si (fun r => r = fX5_only z a b)) 0 0 (fun _ => False) := by
  refine Met.ofW (cc := cX5_only) (maxL := 3) (ret := (some .int)) (by decide) rfl ?_
  intro p e s m args below meth c s₁ B hml hv
  obtain ⟨ha, hP, hK, hn⟩ := hv
  have hx := B.exec
  have hb := B.bytes
  have hr := B.returns
  have hts0 := atoms_spec (ws := (ws_ yX5_only cX5_only 3 (some .int))) B.pre
  have hts : ∀ w ∈ lw_all, w.before args s = true := fun w h => hts0 w (List.mem_cons_of_mem _ h)
  have hown : s.vm.findClass RX5 = some m.cls := findClass_of_methodNamed B.named
  have hlocks := B.notSynchronized
  obtain ⟨Q, hQ⟩ : ∃ Q, Q = MQ below (vp_Si (fun r => r = fX5_only z a b)) args s 0 0 (fun _ => False) := ⟨_, rfl⟩
  rw [← hQ]
  have hl := lv_entry ([.int z, .int a, .int b]) (n := 3) (Nat.le_of_ble_eq_true rfl)
  rw [ha, lg_entry_eq, ← ha]
  generalize (lg_sl ([.int z, .int a, .int b]) ++ List.replicate (3 - (lg_sl ([.int z, .int a, .int b])).length) Slot.unset).toArray = ls at hl ⊢
  have hl : lv_has ls 3 [(0, .int z), (1, .int a), (2, .int b)] := hl
  show W p l e rmX5_only s m args below meth c s.heap [] 0 0 Q (F0 m 0 ls [])
  have hF : fX5_only z a b = fX5_only z a b := rfl
  refine lv_iload_n hx hb dX5_only_0 rfl (lv_at hl 0 rfl) ?_
  refine lv_iload_n hx hb dX5_only_1 rfl (lv_at hl 1 rfl) ?_
  refine lv_icmp_ne (tgt := 9) hx hb dX5_only_2 (by decide) (fun c_2 => ?_) (fun c_2 => ?_)
  · have hF := hF.trans (if_neg c_2)
    refine lv_iconst (v := (-1)) hx hb dX5_only_9 (by decide) ?_
    rw [hQ]
    exact W.iret (v := (-1)) hx hb hr (fun t ht hW => ⟨(-1), rfl, hF.symm, ht⟩) (fun q hq => absurd hq List.not_mem_nil) dX5_only_10
  have hF := hF.trans (if_pos c_2)
  refine lv_iload_n hx hb dX5_only_5 rfl (lv_at hl 2 rfl) ?_
  refine lv_goto (tgt := 10) hx hb dX5_only_6 (by decide) ?_
  rw [hQ]
  exact W.iret (v := b) hx hb hr (fun t ht hW => ⟨b, rfl, hF.symm, ht⟩) (fun q hq => absurd hq List.not_mem_nil) dX5_only_10

def fX5_firstDigit (z : Int32) (a : Int32) (b : Int32) : Int32 :=
  (if (fX5_isIn z 48 57) = 0 then (-1) else (if z = 49 then a else b))
abbrev rmX5_firstDigit : Room := { frames := 1, cells := 0, slots := 0, locals := 22 }
set_option maxHeartbeats 4000000 in
set_option maxRecDepth 100000 in
theorem mX5_firstDigit (l : Launch) (dC : Nat → ClassId) (dI : Nat → Nat → Nat)  (z : Int32) (a : Int32) (b : Int32) : Met l yX5_firstDigit (ws_ yX5_firstDigit cX5_firstDigit 3 (some .int)) rmX5_firstDigit (pcR (dC, dI) [] [] [.int z, .int a, .int b]) (vp_Si (fun r => r = fX5_firstDigit z a b)) 0 0 (fun _ => False) := by
  refine Met.ofW (cc := cX5_firstDigit) (maxL := 3) (ret := (some .int)) (by decide) rfl ?_
  intro p e s m args below meth c s₁ B hml hv
  obtain ⟨ha, hP, hK, hn⟩ := hv
  have hx := B.exec
  have hb := B.bytes
  have hr := B.returns
  have hts0 := atoms_spec (ws := (ws_ yX5_firstDigit cX5_firstDigit 3 (some .int))) B.pre
  have hts : ∀ w ∈ lw_all, w.before args s = true := fun w h => hts0 w (List.mem_cons_of_mem _ h)
  have hown : s.vm.findClass RX5 = some m.cls := findClass_of_methodNamed B.named
  have hlocks := B.notSynchronized
  obtain ⟨Q, hQ⟩ : ∃ Q, Q = MQ below (vp_Si (fun r => r = fX5_firstDigit z a b)) args s 0 0 (fun _ => False) := ⟨_, rfl⟩
  rw [← hQ]
  have hl := lv_entry ([.int z, .int a, .int b]) (n := 3) (Nat.le_of_ble_eq_true rfl)
  rw [ha, lg_entry_eq, ← ha]
  generalize (lg_sl ([.int z, .int a, .int b]) ++ List.replicate (3 - (lg_sl ([.int z, .int a, .int b])).length) Slot.unset).toArray = ls at hl ⊢
  have hl : lv_has ls 3 [(0, .int z), (1, .int a), (2, .int b)] := hl
  show W p l e rmX5_firstDigit s m args below meth c s.heap [] 0 0 Q (F0 m 0 ls [])
  have hF : fX5_firstDigit z a b = fX5_firstDigit z a b := rfl
  refine lv_iload_n hx hb dX5_firstDigit_0 rfl (lv_at hl 0 rfl) ?_
  refine lv_bipush (v := 48) hx hb dX5_firstDigit_1 (by decide) ?_
  refine lv_bipush (v := 57) hx hb dX5_firstDigit_3 (by decide) ?_
  refine k_callb (W.runS (As := [.int z, .int 48, .int 57]) (rest := []) ⟨hx, hb, hml, hown, hts0⟩ (mX5_isIn l dC dI  z 48 57) (va_cwS 3 hts0 (gi_S u_311 u_312 u_6 u_313) rfl rfl rfl (by decide +kernel) ⟨Nat.le_of_ble_eq_true rfl, Nat.le_of_ble_eq_true rfl⟩) (pcR_S (hP.sub (ws' := []) [] rfl) (hK.sub (tys' := []) [] rfl) hn) rfl rfl hl.1 rfl (lv_room (Nat.le_of_ble_eq_true rfl)) dX5_firstDigit_5 ⟨Nat.zero_le _, Nat.zero_le _⟩) (fun br5 => ?_)
  refine lv_if_ne (tgt := 13) hx hb dX5_firstDigit_8 (by decide) (fun c_8 => ?_) (fun c_8 => ?_)
  · have hF := hF.trans (if_neg c_8)
    refine lv_iload_n hx hb dX5_firstDigit_13 rfl (lv_at hl 0 rfl) ?_
    refine lv_bipush (v := 49) hx hb dX5_firstDigit_14 (by decide) ?_
    refine lv_icmp_ne (tgt := 23) hx hb dX5_firstDigit_16 (by decide) (fun c_16 => ?_) (fun c_16 => ?_)
    · have hF := hF.trans (if_neg c_16)
      refine lv_iload_n hx hb dX5_firstDigit_23 rfl (lv_at hl 2 rfl) ?_
      rw [hQ]
      exact W.iret (v := b) hx hb hr (fun t ht hW => ⟨b, rfl, hF.symm, ht⟩) (fun q hq => absurd hq List.not_mem_nil) dX5_firstDigit_24
    have hF := hF.trans (if_pos c_16)
    refine lv_iload_n hx hb dX5_firstDigit_19 rfl (lv_at hl 1 rfl) ?_
    refine lv_goto (tgt := 24) hx hb dX5_firstDigit_20 (by decide) ?_
    rw [hQ]
    exact W.iret (v := a) hx hb hr (fun t ht hW => ⟨a, rfl, hF.symm, ht⟩) (fun q hq => absurd hq List.not_mem_nil) dX5_firstDigit_24
  have hF := hF.trans (if_pos c_8)
  refine lv_iconst (v := (-1)) hx hb dX5_firstDigit_11 (by decide) ?_
  rw [hQ]
  exact W.iret (v := (-1)) hx hb hr (fun t ht hW => ⟨(-1), rfl, hF.symm, ht⟩) (fun q hq => absurd hq List.not_mem_nil) dX5_firstDigit_12

def fX5_next (z : Int32) (a : Int32) : Int32 :=
  (if z = 0 then (if a = 45 then 6 else (fX5_firstDigit a 1 2)) else (if z = 1 then (if (fX5_isIn a 48 53) = 0 then (fX5_only a 64 3) else 2) else (if z = 2 then (fX5_only a 64 3) else (if z = 3 then (if (fX5_isIn a 48 51) = 0 then (-1) else 4) else (if z = 4 then (if (fX5_isIn a 97 104) = 0 then (-1) else 5) else (if z = 5 then (fX5_only a 59 0) else (if z = 6 then (fX5_firstDigit a 7 8) else (if z = 7 then (if (fX5_isIn a 48 53) = 0 then (fX5_only a 59 0) else 8) else (if z = 8 then (fX5_only a 59 0) else (-1))))))))))
abbrev rmX5_next : Room := { frames := 2, cells := 0, slots := 0, locals := 44 }
set_option maxHeartbeats 4000000 in
set_option maxRecDepth 100000 in
theorem mX5_next (l : Launch) (dC : Nat → ClassId) (dI : Nat → Nat → Nat)  (z : Int32) (a : Int32) : Met l yX5_next (ws_ yX5_next cX5_next 2 (some .int)) rmX5_next (pcR (dC, dI) [] [] [.int z, .int a]) (vp_Si (fun r => r = fX5_next z a)) 0 0 (fun _ => False) := by
  refine Met.ofW (cc := cX5_next) (maxL := 2) (ret := (some .int)) (by decide) rfl ?_
  intro p e s m args below meth c s₁ B hml hv
  obtain ⟨ha, hP, hK, hn⟩ := hv
  have hx := B.exec
  have hb := B.bytes
  have hr := B.returns
  have hts0 := atoms_spec (ws := (ws_ yX5_next cX5_next 2 (some .int))) B.pre
  have hts : ∀ w ∈ lw_all, w.before args s = true := fun w h => hts0 w (List.mem_cons_of_mem _ h)
  have hown : s.vm.findClass RX5 = some m.cls := findClass_of_methodNamed B.named
  have hlocks := B.notSynchronized
  obtain ⟨Q, hQ⟩ : ∃ Q, Q = MQ below (vp_Si (fun r => r = fX5_next z a)) args s 0 0 (fun _ => False) := ⟨_, rfl⟩
  rw [← hQ]
  have hl := lv_entry ([.int z, .int a]) (n := 2) (Nat.le_of_ble_eq_true rfl)
  rw [ha, lg_entry_eq, ← ha]
  generalize (lg_sl ([.int z, .int a]) ++ List.replicate (2 - (lg_sl ([.int z, .int a])).length) Slot.unset).toArray = ls at hl ⊢
  have hl : lv_has ls 2 [(0, .int z), (1, .int a)] := hl
  show W p l e rmX5_next s m args below meth c s.heap [] 0 0 Q (F0 m 0 ls [])
  have hF : fX5_next z a = fX5_next z a := rfl
  refine lv_iload_n hx hb dX5_next_0 rfl (lv_at hl 0 rfl) ?_
  by_cases c_1_0 : z = 0
  · have hF := hF.trans (if_pos c_1_0)
    refine lv_tableIn (off := 51) (tgt := 52) hx hb dX5_next_1 (by rw [c_1_0]; decide) (by rw [c_1_0]; decide) (by rw [c_1_0]; rfl) (by decide) ?_
    refine lv_iload_n hx hb dX5_next_52 rfl (lv_at hl 1 rfl) ?_
    refine lv_bipush (v := 45) hx hb dX5_next_53 (by decide) ?_
    refine lv_icmp_ne (tgt := 63) hx hb dX5_next_55 (by decide) (fun c_55 => ?_) (fun c_55 => ?_)
    · have hF := hF.trans (if_neg c_55)
      refine lv_iload_n hx hb dX5_next_63 rfl (lv_at hl 1 rfl) ?_
      refine lv_iconst (v := 1) hx hb dX5_next_64 (by decide) ?_
      refine lv_iconst (v := 2) hx hb dX5_next_65 (by decide) ?_
      refine k_calli (W.runS (As := [.int a, .int 1, .int 2]) (rest := []) ⟨hx, hb, hml, hown, hts0⟩ (mX5_firstDigit l dC dI  a 1 2) (va_cwS 3 hts0 (gi_S u_308 u_309 u_6 u_310) rfl rfl rfl (by decide +kernel) ⟨Nat.le_of_ble_eq_true rfl, Nat.le_of_ble_eq_true rfl⟩) (pcR_S (hP.sub (ws' := []) [] rfl) (hK.sub (tys' := []) [] rfl) hn) rfl rfl hl.1 rfl (lv_room (Nat.le_of_ble_eq_true rfl)) dX5_next_66 ⟨Nat.zero_le _, Nat.zero_le _⟩) ?_
      rw [hQ]
      exact W.iret (v := (fX5_firstDigit a 1 2)) hx hb hr (fun t ht hW => ⟨(fX5_firstDigit a 1 2), rfl, hF.symm, ht⟩) (fun q hq => absurd hq List.not_mem_nil) dX5_next_69
    have hF := hF.trans (if_pos c_55)
    refine lv_bipush (v := 6) hx hb dX5_next_58 (by decide) ?_
    refine lv_goto (tgt := 69) hx hb dX5_next_60 (by decide) ?_
    rw [hQ]
    exact W.iret (v := 6) hx hb hr (fun t ht hW => ⟨6, rfl, hF.symm, ht⟩) (fun q hq => absurd hq List.not_mem_nil) dX5_next_69
  have hF := hF.trans (if_neg c_1_0)
  by_cases c_1_1 : z = 1
  · have hF := hF.trans (if_pos c_1_1)
    refine lv_tableIn (off := 69) (tgt := 70) hx hb dX5_next_1 (by rw [c_1_1]; decide) (by rw [c_1_1]; decide) (by rw [c_1_1]; rfl) (by decide) ?_
    refine lv_iload_n hx hb dX5_next_70 rfl (lv_at hl 1 rfl) ?_
    refine lv_bipush (v := 48) hx hb dX5_next_71 (by decide) ?_
    refine lv_bipush (v := 53) hx hb dX5_next_73 (by decide) ?_
    refine k_callb (W.runS (As := [.int a, .int 48, .int 53]) (rest := []) ⟨hx, hb, hml, hown, hts0⟩ (mX5_isIn l dC dI  a 48 53) (va_cwS 3 hts0 (gi_S u_311 u_312 u_6 u_313) rfl rfl rfl (by decide +kernel) ⟨Nat.le_of_ble_eq_true rfl, Nat.le_of_ble_eq_true rfl⟩) (pcR_S (hP.sub (ws' := []) [] rfl) (hK.sub (tys' := []) [] rfl) hn) rfl rfl hl.1 rfl (lv_room (Nat.le_of_ble_eq_true rfl)) dX5_next_75 ⟨Nat.zero_le _, Nat.zero_le _⟩) (fun br75 => ?_)
    refine lv_if_eq (tgt := 85) hx hb dX5_next_78 (by decide) (fun c_78 => ?_) (fun c_78 => ?_)
    · have hF := hF.trans (if_pos c_78)
      refine lv_iload_n hx hb dX5_next_85 rfl (lv_at hl 1 rfl) ?_
      refine lv_bipush (v := 64) hx hb dX5_next_86 (by decide) ?_
      refine lv_iconst (v := 3) hx hb dX5_next_88 (by decide) ?_
      refine k_calli (W.runS (As := [.int a, .int 64, .int 3]) (rest := []) ⟨hx, hb, hml, hown, hts0⟩ (mX5_only l dC dI  a 64 3) (va_cwS 3 hts0 (gi_S u_314 u_315 u_6 u_316) rfl rfl rfl (by decide +kernel) ⟨Nat.le_of_ble_eq_true rfl, Nat.le_of_ble_eq_true rfl⟩) (pcR_S (hP.sub (ws' := []) [] rfl) (hK.sub (tys' := []) [] rfl) hn) rfl rfl hl.1 rfl (lv_room (Nat.le_of_ble_eq_true rfl)) dX5_next_89 ⟨Nat.zero_le _, Nat.zero_le _⟩) ?_
      rw [hQ]
      exact W.iret (v := (fX5_only a 64 3)) hx hb hr (fun t ht hW => ⟨(fX5_only a 64 3), rfl, hF.symm, ht⟩) (fun q hq => absurd hq List.not_mem_nil) dX5_next_92
    have hF := hF.trans (if_neg c_78)
    refine lv_iconst (v := 2) hx hb dX5_next_81 (by decide) ?_
    refine lv_goto (tgt := 92) hx hb dX5_next_82 (by decide) ?_
    rw [hQ]
    exact W.iret (v := 2) hx hb hr (fun t ht hW => ⟨2, rfl, hF.symm, ht⟩) (fun q hq => absurd hq List.not_mem_nil) dX5_next_92
  have hF := hF.trans (if_neg c_1_1)
  by_cases c_1_2 : z = 2
  · have hF := hF.trans (if_pos c_1_2)
    refine lv_tableIn (off := 92) (tgt := 93) hx hb dX5_next_1 (by rw [c_1_2]; decide) (by rw [c_1_2]; decide) (by rw [c_1_2]; rfl) (by decide) ?_
    refine lv_iload_n hx hb dX5_next_93 rfl (lv_at hl 1 rfl) ?_
    refine lv_bipush (v := 64) hx hb dX5_next_94 (by decide) ?_
    refine lv_iconst (v := 3) hx hb dX5_next_96 (by decide) ?_
    refine k_calli (W.runS (As := [.int a, .int 64, .int 3]) (rest := []) ⟨hx, hb, hml, hown, hts0⟩ (mX5_only l dC dI  a 64 3) (va_cwS 3 hts0 (gi_S u_314 u_315 u_6 u_316) rfl rfl rfl (by decide +kernel) ⟨Nat.le_of_ble_eq_true rfl, Nat.le_of_ble_eq_true rfl⟩) (pcR_S (hP.sub (ws' := []) [] rfl) (hK.sub (tys' := []) [] rfl) hn) rfl rfl hl.1 rfl (lv_room (Nat.le_of_ble_eq_true rfl)) dX5_next_97 ⟨Nat.zero_le _, Nat.zero_le _⟩) ?_
    rw [hQ]
    exact W.iret (v := (fX5_only a 64 3)) hx hb hr (fun t ht hW => ⟨(fX5_only a 64 3), rfl, hF.symm, ht⟩) (fun q hq => absurd hq List.not_mem_nil) dX5_next_100
  have hF := hF.trans (if_neg c_1_2)
  by_cases c_1_3 : z = 3
  · have hF := hF.trans (if_pos c_1_3)
    refine lv_tableIn (off := 100) (tgt := 101) hx hb dX5_next_1 (by rw [c_1_3]; decide) (by rw [c_1_3]; decide) (by rw [c_1_3]; rfl) (by decide) ?_
    refine lv_iload_n hx hb dX5_next_101 rfl (lv_at hl 1 rfl) ?_
    refine lv_bipush (v := 48) hx hb dX5_next_102 (by decide) ?_
    refine lv_bipush (v := 51) hx hb dX5_next_104 (by decide) ?_
    refine k_callb (W.runS (As := [.int a, .int 48, .int 51]) (rest := []) ⟨hx, hb, hml, hown, hts0⟩ (mX5_isIn l dC dI  a 48 51) (va_cwS 3 hts0 (gi_S u_311 u_312 u_6 u_313) rfl rfl rfl (by decide +kernel) ⟨Nat.le_of_ble_eq_true rfl, Nat.le_of_ble_eq_true rfl⟩) (pcR_S (hP.sub (ws' := []) [] rfl) (hK.sub (tys' := []) [] rfl) hn) rfl rfl hl.1 rfl (lv_room (Nat.le_of_ble_eq_true rfl)) dX5_next_106 ⟨Nat.zero_le _, Nat.zero_le _⟩) (fun br106 => ?_)
    refine lv_if_eq (tgt := 116) hx hb dX5_next_109 (by decide) (fun c_109 => ?_) (fun c_109 => ?_)
    · have hF := hF.trans (if_pos c_109)
      refine lv_iconst (v := (-1)) hx hb dX5_next_116 (by decide) ?_
      rw [hQ]
      exact W.iret (v := (-1)) hx hb hr (fun t ht hW => ⟨(-1), rfl, hF.symm, ht⟩) (fun q hq => absurd hq List.not_mem_nil) dX5_next_117
    have hF := hF.trans (if_neg c_109)
    refine lv_iconst (v := 4) hx hb dX5_next_112 (by decide) ?_
    refine lv_goto (tgt := 117) hx hb dX5_next_113 (by decide) ?_
    rw [hQ]
    exact W.iret (v := 4) hx hb hr (fun t ht hW => ⟨4, rfl, hF.symm, ht⟩) (fun q hq => absurd hq List.not_mem_nil) dX5_next_117
  have hF := hF.trans (if_neg c_1_3)
  by_cases c_1_4 : z = 4
  · have hF := hF.trans (if_pos c_1_4)
    refine lv_tableIn (off := 117) (tgt := 118) hx hb dX5_next_1 (by rw [c_1_4]; decide) (by rw [c_1_4]; decide) (by rw [c_1_4]; rfl) (by decide) ?_
    refine lv_iload_n hx hb dX5_next_118 rfl (lv_at hl 1 rfl) ?_
    refine lv_bipush (v := 97) hx hb dX5_next_119 (by decide) ?_
    refine lv_bipush (v := 104) hx hb dX5_next_121 (by decide) ?_
    refine k_callb (W.runS (As := [.int a, .int 97, .int 104]) (rest := []) ⟨hx, hb, hml, hown, hts0⟩ (mX5_isIn l dC dI  a 97 104) (va_cwS 3 hts0 (gi_S u_311 u_312 u_6 u_313) rfl rfl rfl (by decide +kernel) ⟨Nat.le_of_ble_eq_true rfl, Nat.le_of_ble_eq_true rfl⟩) (pcR_S (hP.sub (ws' := []) [] rfl) (hK.sub (tys' := []) [] rfl) hn) rfl rfl hl.1 rfl (lv_room (Nat.le_of_ble_eq_true rfl)) dX5_next_123 ⟨Nat.zero_le _, Nat.zero_le _⟩) (fun br123 => ?_)
    refine lv_if_eq (tgt := 133) hx hb dX5_next_126 (by decide) (fun c_126 => ?_) (fun c_126 => ?_)
    · have hF := hF.trans (if_pos c_126)
      refine lv_iconst (v := (-1)) hx hb dX5_next_133 (by decide) ?_
      rw [hQ]
      exact W.iret (v := (-1)) hx hb hr (fun t ht hW => ⟨(-1), rfl, hF.symm, ht⟩) (fun q hq => absurd hq List.not_mem_nil) dX5_next_134
    have hF := hF.trans (if_neg c_126)
    refine lv_iconst (v := 5) hx hb dX5_next_129 (by decide) ?_
    refine lv_goto (tgt := 134) hx hb dX5_next_130 (by decide) ?_
    rw [hQ]
    exact W.iret (v := 5) hx hb hr (fun t ht hW => ⟨5, rfl, hF.symm, ht⟩) (fun q hq => absurd hq List.not_mem_nil) dX5_next_134
  have hF := hF.trans (if_neg c_1_4)
  by_cases c_1_5 : z = 5
  · have hF := hF.trans (if_pos c_1_5)
    refine lv_tableIn (off := 167) (tgt := 168) hx hb dX5_next_1 (by rw [c_1_5]; decide) (by rw [c_1_5]; decide) (by rw [c_1_5]; rfl) (by decide) ?_
    refine lv_iload_n hx hb dX5_next_168 rfl (lv_at hl 1 rfl) ?_
    refine lv_bipush (v := 59) hx hb dX5_next_169 (by decide) ?_
    refine lv_iconst (v := 0) hx hb dX5_next_171 (by decide) ?_
    refine k_calli (W.runS (As := [.int a, .int 59, .int 0]) (rest := []) ⟨hx, hb, hml, hown, hts0⟩ (mX5_only l dC dI  a 59 0) (va_cwS 3 hts0 (gi_S u_314 u_315 u_6 u_316) rfl rfl rfl (by decide +kernel) ⟨Nat.le_of_ble_eq_true rfl, Nat.le_of_ble_eq_true rfl⟩) (pcR_S (hP.sub (ws' := []) [] rfl) (hK.sub (tys' := []) [] rfl) hn) rfl rfl hl.1 rfl (lv_room (Nat.le_of_ble_eq_true rfl)) dX5_next_172 ⟨Nat.zero_le _, Nat.zero_le _⟩) ?_
    rw [hQ]
    exact W.iret (v := (fX5_only a 59 0)) hx hb hr (fun t ht hW => ⟨(fX5_only a 59 0), rfl, hF.symm, ht⟩) (fun q hq => absurd hq List.not_mem_nil) dX5_next_175
  have hF := hF.trans (if_neg c_1_5)
  by_cases c_1_6 : z = 6
  · have hF := hF.trans (if_pos c_1_6)
    refine lv_tableIn (off := 134) (tgt := 135) hx hb dX5_next_1 (by rw [c_1_6]; decide) (by rw [c_1_6]; decide) (by rw [c_1_6]; rfl) (by decide) ?_
    refine lv_iload_n hx hb dX5_next_135 rfl (lv_at hl 1 rfl) ?_
    refine lv_bipush (v := 7) hx hb dX5_next_136 (by decide) ?_
    refine lv_bipush (v := 8) hx hb dX5_next_138 (by decide) ?_
    refine k_calli (W.runS (As := [.int a, .int 7, .int 8]) (rest := []) ⟨hx, hb, hml, hown, hts0⟩ (mX5_firstDigit l dC dI  a 7 8) (va_cwS 3 hts0 (gi_S u_308 u_309 u_6 u_310) rfl rfl rfl (by decide +kernel) ⟨Nat.le_of_ble_eq_true rfl, Nat.le_of_ble_eq_true rfl⟩) (pcR_S (hP.sub (ws' := []) [] rfl) (hK.sub (tys' := []) [] rfl) hn) rfl rfl hl.1 rfl (lv_room (Nat.le_of_ble_eq_true rfl)) dX5_next_140 ⟨Nat.zero_le _, Nat.zero_le _⟩) ?_
    rw [hQ]
    exact W.iret (v := (fX5_firstDigit a 7 8)) hx hb hr (fun t ht hW => ⟨(fX5_firstDigit a 7 8), rfl, hF.symm, ht⟩) (fun q hq => absurd hq List.not_mem_nil) dX5_next_143
  have hF := hF.trans (if_neg c_1_6)
  by_cases c_1_7 : z = 7
  · have hF := hF.trans (if_pos c_1_7)
    refine lv_tableIn (off := 143) (tgt := 144) hx hb dX5_next_1 (by rw [c_1_7]; decide) (by rw [c_1_7]; decide) (by rw [c_1_7]; rfl) (by decide) ?_
    refine lv_iload_n hx hb dX5_next_144 rfl (lv_at hl 1 rfl) ?_
    refine lv_bipush (v := 48) hx hb dX5_next_145 (by decide) ?_
    refine lv_bipush (v := 53) hx hb dX5_next_147 (by decide) ?_
    refine k_callb (W.runS (As := [.int a, .int 48, .int 53]) (rest := []) ⟨hx, hb, hml, hown, hts0⟩ (mX5_isIn l dC dI  a 48 53) (va_cwS 3 hts0 (gi_S u_311 u_312 u_6 u_313) rfl rfl rfl (by decide +kernel) ⟨Nat.le_of_ble_eq_true rfl, Nat.le_of_ble_eq_true rfl⟩) (pcR_S (hP.sub (ws' := []) [] rfl) (hK.sub (tys' := []) [] rfl) hn) rfl rfl hl.1 rfl (lv_room (Nat.le_of_ble_eq_true rfl)) dX5_next_149 ⟨Nat.zero_le _, Nat.zero_le _⟩) (fun br149 => ?_)
    refine lv_if_eq (tgt := 160) hx hb dX5_next_152 (by decide) (fun c_152 => ?_) (fun c_152 => ?_)
    · have hF := hF.trans (if_pos c_152)
      refine lv_iload_n hx hb dX5_next_160 rfl (lv_at hl 1 rfl) ?_
      refine lv_bipush (v := 59) hx hb dX5_next_161 (by decide) ?_
      refine lv_iconst (v := 0) hx hb dX5_next_163 (by decide) ?_
      refine k_calli (W.runS (As := [.int a, .int 59, .int 0]) (rest := []) ⟨hx, hb, hml, hown, hts0⟩ (mX5_only l dC dI  a 59 0) (va_cwS 3 hts0 (gi_S u_314 u_315 u_6 u_316) rfl rfl rfl (by decide +kernel) ⟨Nat.le_of_ble_eq_true rfl, Nat.le_of_ble_eq_true rfl⟩) (pcR_S (hP.sub (ws' := []) [] rfl) (hK.sub (tys' := []) [] rfl) hn) rfl rfl hl.1 rfl (lv_room (Nat.le_of_ble_eq_true rfl)) dX5_next_164 ⟨Nat.zero_le _, Nat.zero_le _⟩) ?_
      rw [hQ]
      exact W.iret (v := (fX5_only a 59 0)) hx hb hr (fun t ht hW => ⟨(fX5_only a 59 0), rfl, hF.symm, ht⟩) (fun q hq => absurd hq List.not_mem_nil) dX5_next_167
    have hF := hF.trans (if_neg c_152)
    refine lv_bipush (v := 8) hx hb dX5_next_155 (by decide) ?_
    refine lv_goto (tgt := 167) hx hb dX5_next_157 (by decide) ?_
    rw [hQ]
    exact W.iret (v := 8) hx hb hr (fun t ht hW => ⟨8, rfl, hF.symm, ht⟩) (fun q hq => absurd hq List.not_mem_nil) dX5_next_167
  have hF := hF.trans (if_neg c_1_7)
  by_cases c_1_8 : z = 8
  · have hF := hF.trans (if_pos c_1_8)
    refine lv_tableIn (off := 167) (tgt := 168) hx hb dX5_next_1 (by rw [c_1_8]; decide) (by rw [c_1_8]; decide) (by rw [c_1_8]; rfl) (by decide) ?_
    refine lv_iload_n hx hb dX5_next_168 rfl (lv_at hl 1 rfl) ?_
    refine lv_bipush (v := 59) hx hb dX5_next_169 (by decide) ?_
    refine lv_iconst (v := 0) hx hb dX5_next_171 (by decide) ?_
    refine k_calli (W.runS (As := [.int a, .int 59, .int 0]) (rest := []) ⟨hx, hb, hml, hown, hts0⟩ (mX5_only l dC dI  a 59 0) (va_cwS 3 hts0 (gi_S u_314 u_315 u_6 u_316) rfl rfl rfl (by decide +kernel) ⟨Nat.le_of_ble_eq_true rfl, Nat.le_of_ble_eq_true rfl⟩) (pcR_S (hP.sub (ws' := []) [] rfl) (hK.sub (tys' := []) [] rfl) hn) rfl rfl hl.1 rfl (lv_room (Nat.le_of_ble_eq_true rfl)) dX5_next_172 ⟨Nat.zero_le _, Nat.zero_le _⟩) ?_
    rw [hQ]
    exact W.iret (v := (fX5_only a 59 0)) hx hb hr (fun t ht hW => ⟨(fX5_only a 59 0), rfl, hF.symm, ht⟩) (fun q hq => absurd hq List.not_mem_nil) dX5_next_175
  have hF := hF.trans (if_neg c_1_8)
  refine lv_tableOut (tgt := 176) hx hb dX5_next_1 (by have hc_1_0 : (z).toInt ≠ 0 := neI c_1_0; have hc_1_1 : (z).toInt ≠ 1 := neI c_1_1; have hc_1_2 : (z).toInt ≠ 2 := neI c_1_2; have hc_1_3 : (z).toInt ≠ 3 := neI c_1_3; have hc_1_4 : (z).toInt ≠ 4 := neI c_1_4; have hc_1_5 : (z).toInt ≠ 5 := neI c_1_5; have hc_1_6 : (z).toInt ≠ 6 := neI c_1_6; have hc_1_7 : (z).toInt ≠ 7 := neI c_1_7; have hc_1_8 : (z).toInt ≠ 8 := neI c_1_8; omega) (by decide) ?_
  refine lv_iconst (v := (-1)) hx hb dX5_next_176 (by decide) ?_
  rw [hQ]
  exact W.iret (v := (-1)) hx hb hr (fun t ht hW => ⟨(-1), rfl, hF.symm, ht⟩) (fun q hq => absurd hq List.not_mem_nil) dX5_next_177

def fX5_firstBroken_b4 (f : Nat → Int32) (u : Int32) (kk4 : Nat) (x4_1 : Int32) (nextkk4 : Int32 → Int32) : Int32 :=
  (if (fX5_next x4_1 (fX1_itemAt 60 f u (nI kk4))) = (-1) then (nI kk4) else (nextkk4 (fX5_next x4_1 (fX1_itemAt 60 f u (nI kk4)))))
def fX5_firstBroken_r4 (f : Nat → Int32) (u : Int32) (x4_1 : Int32) : Int32 :=
  (fX1_length 60 f u)
def fX5_firstBroken (f : Nat → Int32) (u : Int32) : Int32 :=
  (lq1 (fX5_firstBroken_b4 f u) (fX5_firstBroken_r4 f u) ((fX1_length 60 f u).toNatClampNeg) 0 0)
abbrev rmX5_firstBroken : Room := { frames := 3, cells := 0, slots := 0, locals := 65 }
set_option maxHeartbeats 4000000 in
set_option maxRecDepth 100000 in
theorem mX5_firstBroken (l : Launch) (dC : Nat → ClassId) (dI : Nat → Nat → Nat) (cI : ClassId) (t0 t1 t2 : Nat) (f : Nat → Int32) (u : Int32) : Met l yX5_firstBroken (ws_ yX5_firstBroken cX5_firstBroken 3 (some .int)) rmX5_firstBroken (pcR (dC, dI) [(cI, .int)] (xW cI t0 t1 t2 f u) [.ref t0]) (vp_Si (fun r => r = fX5_firstBroken f u)) 0 0 (fun _ => False) := by
  refine Met.ofW (cc := cX5_firstBroken) (maxL := 3) (ret := (some .int)) (by decide) rfl ?_
  intro p e s m args below meth c s₁ B hml hv
  obtain ⟨ha, hP, hK, hn⟩ := hv
  have hx := B.exec
  have hb := B.bytes
  have hr := B.returns
  have hts0 := atoms_spec (ws := (ws_ yX5_firstBroken cX5_firstBroken 3 (some .int))) B.pre
  have hts : ∀ w ∈ lw_all, w.before args s = true := fun w h => hts0 w (List.mem_cons_of_mem _ h)
  have hown : s.vm.findClass RX5 = some m.cls := findClass_of_methodNamed B.named
  have hlocks := B.notSynchronized
  have htX5 : ∀ w ∈ wsX50, w.before args s = true := fun w h => hts w (wX5 w h)
  obtain ⟨Q, hQ⟩ : ∃ Q, Q = MQ below (vp_Si (fun r => r = fX5_firstBroken f u)) args s 0 0 (fun _ => False) := ⟨_, rfl⟩
  rw [← hQ]
  have hl := lv_entry ([.ref t0]) (n := 3) (Nat.le_of_ble_eq_true rfl)
  rw [ha, lg_entry_eq, ← ha]
  generalize (lg_sl ([.ref t0]) ++ List.replicate (3 - (lg_sl ([.ref t0])).length) Slot.unset).toArray = ls at hl ⊢
  have hl : lv_has ls 3 [(0, .ref t0)] := hl
  show W p l e rmX5_firstBroken s m args below meth c s.heap [] 0 0 Q (F0 m 0 ls [])
  have hF : fX5_firstBroken f u = fX5_firstBroken f u := rfl
  refine lv_iconst (v := 0) hx hb dX5_firstBroken_0 (by decide) ?_
  refine lv_istore_n (lv' := [(1, .int 0), (0, .ref t0)]) hx hb dX5_firstBroken_1 rfl hl (by decide) rfl (fun ls hl => ?_)
  refine lv_iconst (v := 0) hx hb dX5_firstBroken_2 (by decide) ?_
  refine lv_istore_n (lv' := [(2, .int 0), (1, .int 0), (0, .ref t0)]) hx hb dX5_firstBroken_3 rfl hl (by decide) rfl (fun ls hl => ?_)
  have L4 : ∀ (jj4 kk4 : Nat) (x4_1 : Int32), kk4 + jj4 = ((fX1_length 60 f u).toNatClampNeg) → fX5_firstBroken f u = lq1 (fX5_firstBroken_b4 f u) (fX5_firstBroken_r4 f u) jj4 kk4 x4_1 → ∀ (ls : Array Slot), lv_has ls 3 [(2, .int (nI kk4)), (1, .int x4_1), (0, .ref t0)] → W p l e rmX5_firstBroken s m args below meth c s.heap [] 0 0 Q (F0 m 4 ls []) := by
    intro jj4
    induction jj4 using Nat.strongRecOn with
    | _ jj4 ihkk4 =>
      intro kk4 x4_1 hkkk4 hF  ls hl
      refine lv_iload_n hx hb dX5_firstBroken_4 rfl (lv_at hl 0 rfl) ?_
      refine lv_aload_n hx hb dX5_firstBroken_5 rfl (lv_at hl 2 rfl) ?_
      refine va_get (D := (dC, dI)) (ci := 3) (v := .ref t1) (C := RX5) (T := TX5) (N := 1) hx hb htX5 (fun _ h => h) hown hK hP 0 rfl rfl 0 (by decide) (hts _ u_138) (fun _ h9 => h9) rfl dX5_firstBroken_6 ?_
      refine k_calli (W.runV (As := []) (rest := [.int (nI kk4)]) ⟨hx, hb, hml, hown, hts0⟩ (mX1_length l dC dI cI t1 t2 60 (by decide) f u ) (cwV 0 hts0 (gi_V u_303 u_224 u_225 u_3 u_226) rfl rfl rfl (by decide +kernel) ⟨Nat.le_of_ble_eq_true rfl, Nat.le_of_ble_eq_true rfl⟩) (pcR_V (ci := 1) (q0 := 0) (hP.sub (ws' := lW cI t1 t2 60 f u) [1, 2] rfl) hK hn rfl rfl) rfl rfl hl.1 rfl (lv_room (Nat.le_of_ble_eq_true rfl)) dX5_firstBroken_9 ⟨Nat.zero_le _, Nat.zero_le _⟩) ?_
      refine lv_icmp_ge (tgt := 41) hx hb dX5_firstBroken_12 (by decide) (fun c_12 => ?_) (fun c_12 => ?_)
      · obtain rfl := cn_exit hkkk4 c_12
        have hF := hF.trans (lq1_z _ _ _ _)
        refine lv_aload_n hx hb dX5_firstBroken_41 rfl (lv_at hl 2 rfl) ?_
        refine va_get (D := (dC, dI)) (ci := 3) (v := .ref t1) (C := RX5) (T := TX5) (N := 1) hx hb htX5 (fun _ h => h) hown hK hP 0 rfl rfl 0 (by decide) (hts _ u_138) (fun _ h9 => h9) rfl dX5_firstBroken_42 ?_
        refine k_calli (W.runV (As := []) (rest := []) ⟨hx, hb, hml, hown, hts0⟩ (mX1_length l dC dI cI t1 t2 60 (by decide) f u ) (cwV 0 hts0 (gi_V u_303 u_224 u_225 u_3 u_226) rfl rfl rfl (by decide +kernel) ⟨Nat.le_of_ble_eq_true rfl, Nat.le_of_ble_eq_true rfl⟩) (pcR_V (ci := 1) (q0 := 0) (hP.sub (ws' := lW cI t1 t2 60 f u) [1, 2] rfl) hK hn rfl rfl) rfl rfl hl.1 rfl (lv_room (Nat.le_of_ble_eq_true rfl)) dX5_firstBroken_45 ⟨Nat.zero_le _, Nat.zero_le _⟩) ?_
        rw [hQ]
        exact W.iret (v := (fX1_length 60 f u)) hx hb hr (fun t ht hW => ⟨(fX1_length 60 f u), rfl, hF.symm, ht⟩) (fun q hq => absurd hq List.not_mem_nil) dX5_firstBroken_48
      obtain ⟨jj4, rfl⟩ := cn_go hkkk4 c_12
      have hF := hF.trans (lq1_s _ _ _ _ _)
      obtain ⟨nextkk4, hnextkk4⟩ : ∃ y9, y9 = lq1 (fX5_firstBroken_b4 f u) (fX5_firstBroken_r4 f u) jj4 (kk4 + 1) := ⟨_, rfl⟩
      rw [← hnextkk4] at hF
      refine lv_iload_n hx hb dX5_firstBroken_15 rfl (lv_at hl 1 rfl) ?_
      refine lv_aload_n hx hb dX5_firstBroken_16 rfl (lv_at hl 2 rfl) ?_
      refine va_get (D := (dC, dI)) (ci := 3) (v := .ref t1) (C := RX5) (T := TX5) (N := 1) hx hb htX5 (fun _ h => h) hown hK hP 0 rfl rfl 0 (by decide) (hts _ u_138) (fun _ h9 => h9) rfl dX5_firstBroken_17 ?_
      refine lv_iload_n hx hb dX5_firstBroken_20 rfl (lv_at hl 0 rfl) ?_
      refine k_calli (W.runV (As := [.int (nI kk4)]) (rest := [.int x4_1]) ⟨hx, hb, hml, hown, hts0⟩ (mX1_itemAt l dC dI cI t1 t2 60 (by decide) f u (nI kk4)) (cwV 1 hts0 (gi_V u_304 u_228 u_229 u_3 u_230) rfl rfl rfl (by decide +kernel) ⟨Nat.le_of_ble_eq_true rfl, Nat.le_of_ble_eq_true rfl⟩) (pcR_V (ci := 1) (q0 := 0) (hP.sub (ws' := lW cI t1 t2 60 f u) [1, 2] rfl) hK hn rfl rfl) rfl rfl hl.1 rfl (lv_room (Nat.le_of_ble_eq_true rfl)) dX5_firstBroken_21 ⟨Nat.zero_le _, Nat.zero_le _⟩) ?_
      refine k_calli (W.runS (As := [.int x4_1, .int (fX1_itemAt 60 f u (nI kk4))]) (rest := []) ⟨hx, hb, hml, hown, hts0⟩ (mX5_next l dC dI  x4_1 (fX1_itemAt 60 f u (nI kk4))) (va_cwS 2 hts0 (gi_S u_305 u_306 u_6 u_307) rfl rfl rfl (by decide +kernel) ⟨Nat.le_of_ble_eq_true rfl, Nat.le_of_ble_eq_true rfl⟩) (pcR_S (hP.sub (ws' := []) [] rfl) (hK.sub (tys' := []) [] rfl) hn) rfl rfl hl.1 rfl (lv_room (Nat.le_of_ble_eq_true rfl)) dX5_firstBroken_24 ⟨Nat.zero_le _, Nat.zero_le _⟩) ?_
      refine lv_istore_n (lv' := [(1, .int (fX5_next x4_1 (fX1_itemAt 60 f u (nI kk4)))), (2, .int (nI kk4)), (0, .ref t0)]) hx hb dX5_firstBroken_27 rfl hl (by decide) rfl (fun ls hl => ?_)
      refine lv_iload_n hx hb dX5_firstBroken_28 rfl (lv_at hl 0 rfl) ?_
      refine lv_iconst (v := (-1)) hx hb dX5_firstBroken_29 (by decide) ?_
      refine lv_icmp_ne (tgt := 35) hx hb dX5_firstBroken_30 (by decide) (fun c_30 => ?_) (fun c_30 => ?_)
      · have hF := hF.trans (if_neg c_30)
        refine lv_iinc (v := (nI (kk4 + 1))) (lv' := [(2, .int (nI (kk4 + 1))), (1, .int (fX5_next x4_1 (fX1_itemAt 60 f u (nI kk4)))), (0, .ref t0)]) hx hb dX5_firstBroken_35 hl (k := 1) rfl (nI_1 _) (by decide) rfl (fun ls hl => ?_)
        refine lv_goto (tgt := 4) hx hb dX5_firstBroken_38 (by decide) ?_
        have hF : fX5_firstBroken f u = nextkk4 (fX5_next x4_1 (fX1_itemAt 60 f u (nI kk4))) := hF
        rw [hnextkk4] at hF
        exact ihkk4 jj4 (Nat.lt_succ_self _) (kk4 + 1) (fX5_next x4_1 (fX1_itemAt 60 f u (nI kk4))) (cn_next hkkk4) hF ls (lv_sub hl [0, 1, 2] rfl)
      have hF := hF.trans (if_pos c_30)
      refine lv_iload_n hx hb dX5_firstBroken_33 rfl (lv_at hl 1 rfl) ?_
      rw [hQ]
      exact W.iret (v := (nI kk4)) hx hb hr (fun t ht hW => ⟨(nI kk4), rfl, hF.symm, ht⟩) (fun q hq => absurd hq List.not_mem_nil) dX5_firstBroken_34
  exact L4 ((fX1_length 60 f u).toNatClampNeg) 0 0 (Nat.zero_add _) hF ls (lv_sub hl [0, 1, 2] rfl)

def fX5_isComplete_b4 (f : Nat → Int32) (u : Int32) (kk4 : Nat) (x4_1 : Int32) (nextkk4 : Int32 → Int32) : Int32 :=
  (nextkk4 (fX5_next x4_1 (fX1_itemAt 60 f u (nI kk4))))
def fX5_isComplete_r4 (x4_1 : Int32) : Int32 :=
  (if x4_1 = 5 then 1 else (if x4_1 = 7 then 1 else (if x4_1 = 8 then 1 else 0)))
def fX5_isComplete (f : Nat → Int32) (u : Int32) : Int32 :=
  (lq1 (fX5_isComplete_b4 f u) fX5_isComplete_r4 ((fX1_length 60 f u).toNatClampNeg) 0 0)
abbrev rmX5_isComplete : Room := { frames := 3, cells := 0, slots := 0, locals := 65 }
set_option maxHeartbeats 4000000 in
set_option maxRecDepth 100000 in
theorem mX5_isComplete (l : Launch) (dC : Nat → ClassId) (dI : Nat → Nat → Nat) (cI : ClassId) (t0 t1 t2 : Nat) (f : Nat → Int32) (u : Int32) : Met l yX5_isComplete (ws_ yX5_isComplete cX5_isComplete 3 (some .boolean)) rmX5_isComplete (pcR (dC, dI) [(cI, .int)] (xW cI t0 t1 t2 f u) [.ref t0]) (vp_Si (fun r => r = fX5_isComplete f u ∧ (r = 0 ∨ r = 1))) 0 0 (fun _ => False) := by
  refine Met.ofW (cc := cX5_isComplete) (maxL := 3) (ret := (some .boolean)) (by decide) rfl ?_
  intro p e s m args below meth c s₁ B hml hv
  obtain ⟨ha, hP, hK, hn⟩ := hv
  have hx := B.exec
  have hb := B.bytes
  have hr := B.returns
  have hts0 := atoms_spec (ws := (ws_ yX5_isComplete cX5_isComplete 3 (some .boolean))) B.pre
  have hts : ∀ w ∈ lw_all, w.before args s = true := fun w h => hts0 w (List.mem_cons_of_mem _ h)
  have hown : s.vm.findClass RX5 = some m.cls := findClass_of_methodNamed B.named
  have hlocks := B.notSynchronized
  have htX5 : ∀ w ∈ wsX50, w.before args s = true := fun w h => hts w (wX5 w h)
  obtain ⟨Q, hQ⟩ : ∃ Q, Q = MQ below (vp_Si (fun r => r = fX5_isComplete f u ∧ (r = 0 ∨ r = 1))) args s 0 0 (fun _ => False) := ⟨_, rfl⟩
  rw [← hQ]
  have hl := lv_entry ([.ref t0]) (n := 3) (Nat.le_of_ble_eq_true rfl)
  rw [ha, lg_entry_eq, ← ha]
  generalize (lg_sl ([.ref t0]) ++ List.replicate (3 - (lg_sl ([.ref t0])).length) Slot.unset).toArray = ls at hl ⊢
  have hl : lv_has ls 3 [(0, .ref t0)] := hl
  show W p l e rmX5_isComplete s m args below meth c s.heap [] 0 0 Q (F0 m 0 ls [])
  have hF : fX5_isComplete f u = fX5_isComplete f u := rfl
  refine lv_iconst (v := 0) hx hb dX5_isComplete_0 (by decide) ?_
  refine lv_istore_n (lv' := [(1, .int 0), (0, .ref t0)]) hx hb dX5_isComplete_1 rfl hl (by decide) rfl (fun ls hl => ?_)
  refine lv_iconst (v := 0) hx hb dX5_isComplete_2 (by decide) ?_
  refine lv_istore_n (lv' := [(2, .int 0), (1, .int 0), (0, .ref t0)]) hx hb dX5_isComplete_3 rfl hl (by decide) rfl (fun ls hl => ?_)
  have L4 : ∀ (jj4 kk4 : Nat) (x4_1 : Int32), kk4 + jj4 = ((fX1_length 60 f u).toNatClampNeg) → fX5_isComplete f u = lq1 (fX5_isComplete_b4 f u) fX5_isComplete_r4 jj4 kk4 x4_1 → ∀ (ls : Array Slot), lv_has ls 3 [(2, .int (nI kk4)), (1, .int x4_1), (0, .ref t0)] → W p l e rmX5_isComplete s m args below meth c s.heap [] 0 0 Q (F0 m 4 ls []) := by
    intro jj4
    induction jj4 using Nat.strongRecOn with
    | _ jj4 ihkk4 =>
      intro kk4 x4_1 hkkk4 hF  ls hl
      refine lv_iload_n hx hb dX5_isComplete_4 rfl (lv_at hl 0 rfl) ?_
      refine lv_aload_n hx hb dX5_isComplete_5 rfl (lv_at hl 2 rfl) ?_
      refine va_get (D := (dC, dI)) (ci := 3) (v := .ref t1) (C := RX5) (T := TX5) (N := 1) hx hb htX5 (fun _ h => h) hown hK hP 0 rfl rfl 0 (by decide) (hts _ u_138) (fun _ h9 => h9) rfl dX5_isComplete_6 ?_
      refine k_calli (W.runV (As := []) (rest := [.int (nI kk4)]) ⟨hx, hb, hml, hown, hts0⟩ (mX1_length l dC dI cI t1 t2 60 (by decide) f u ) (cwV 0 hts0 (gi_V u_303 u_224 u_225 u_3 u_226) rfl rfl rfl (by decide +kernel) ⟨Nat.le_of_ble_eq_true rfl, Nat.le_of_ble_eq_true rfl⟩) (pcR_V (ci := 1) (q0 := 0) (hP.sub (ws' := lW cI t1 t2 60 f u) [1, 2] rfl) hK hn rfl rfl) rfl rfl hl.1 rfl (lv_room (Nat.le_of_ble_eq_true rfl)) dX5_isComplete_9 ⟨Nat.zero_le _, Nat.zero_le _⟩) ?_
      refine lv_icmp_ge (tgt := 34) hx hb dX5_isComplete_12 (by decide) (fun c_12 => ?_) (fun c_12 => ?_)
      · obtain rfl := cn_exit hkkk4 c_12
        have hF := hF.trans (lq1_z _ _ _ _)
        refine lv_iload_n hx hb dX5_isComplete_34 rfl (lv_at hl 1 rfl) ?_
        refine lv_iconst (v := 5) hx hb dX5_isComplete_35 (by decide) ?_
        refine lv_icmp_eq (tgt := 51) hx hb dX5_isComplete_36 (by decide) (fun c_36 => ?_) (fun c_36 => ?_)
        · have hF := hF.trans (if_pos c_36)
          refine lv_iconst (v := 1) hx hb dX5_isComplete_51 (by decide) ?_
          refine lv_goto (tgt := 56) hx hb dX5_isComplete_52 (by decide) ?_
          rw [hQ]
          exact W.zret (ty := .boolean) (v := 1) hx hb hr rfl (fun t ht hW => ⟨1, rfl, ⟨hF.symm, Or.inr rfl⟩, ht⟩) (fun q hq => absurd hq List.not_mem_nil) dX5_isComplete_56
        have hF := hF.trans (if_neg c_36)
        refine lv_iload_n hx hb dX5_isComplete_39 rfl (lv_at hl 1 rfl) ?_
        refine lv_bipush (v := 7) hx hb dX5_isComplete_40 (by decide) ?_
        refine lv_icmp_eq (tgt := 51) hx hb dX5_isComplete_42 (by decide) (fun c_42 => ?_) (fun c_42 => ?_)
        · have hF := hF.trans (if_pos c_42)
          refine lv_iconst (v := 1) hx hb dX5_isComplete_51 (by decide) ?_
          refine lv_goto (tgt := 56) hx hb dX5_isComplete_52 (by decide) ?_
          rw [hQ]
          exact W.zret (ty := .boolean) (v := 1) hx hb hr rfl (fun t ht hW => ⟨1, rfl, ⟨hF.symm, Or.inr rfl⟩, ht⟩) (fun q hq => absurd hq List.not_mem_nil) dX5_isComplete_56
        have hF := hF.trans (if_neg c_42)
        refine lv_iload_n hx hb dX5_isComplete_45 rfl (lv_at hl 1 rfl) ?_
        refine lv_bipush (v := 8) hx hb dX5_isComplete_46 (by decide) ?_
        refine lv_icmp_ne (tgt := 55) hx hb dX5_isComplete_48 (by decide) (fun c_48 => ?_) (fun c_48 => ?_)
        · have hF := hF.trans (if_neg c_48)
          refine lv_iconst (v := 0) hx hb dX5_isComplete_55 (by decide) ?_
          rw [hQ]
          exact W.zret (ty := .boolean) (v := 0) hx hb hr rfl (fun t ht hW => ⟨0, rfl, ⟨hF.symm, Or.inl rfl⟩, ht⟩) (fun q hq => absurd hq List.not_mem_nil) dX5_isComplete_56
        have hF := hF.trans (if_pos c_48)
        refine lv_iconst (v := 1) hx hb dX5_isComplete_51 (by decide) ?_
        refine lv_goto (tgt := 56) hx hb dX5_isComplete_52 (by decide) ?_
        rw [hQ]
        exact W.zret (ty := .boolean) (v := 1) hx hb hr rfl (fun t ht hW => ⟨1, rfl, ⟨hF.symm, Or.inr rfl⟩, ht⟩) (fun q hq => absurd hq List.not_mem_nil) dX5_isComplete_56
      obtain ⟨jj4, rfl⟩ := cn_go hkkk4 c_12
      have hF := hF.trans (lq1_s _ _ _ _ _)
      obtain ⟨nextkk4, hnextkk4⟩ : ∃ y9, y9 = lq1 (fX5_isComplete_b4 f u) fX5_isComplete_r4 jj4 (kk4 + 1) := ⟨_, rfl⟩
      rw [← hnextkk4] at hF
      refine lv_iload_n hx hb dX5_isComplete_15 rfl (lv_at hl 1 rfl) ?_
      refine lv_aload_n hx hb dX5_isComplete_16 rfl (lv_at hl 2 rfl) ?_
      refine va_get (D := (dC, dI)) (ci := 3) (v := .ref t1) (C := RX5) (T := TX5) (N := 1) hx hb htX5 (fun _ h => h) hown hK hP 0 rfl rfl 0 (by decide) (hts _ u_138) (fun _ h9 => h9) rfl dX5_isComplete_17 ?_
      refine lv_iload_n hx hb dX5_isComplete_20 rfl (lv_at hl 0 rfl) ?_
      refine k_calli (W.runV (As := [.int (nI kk4)]) (rest := [.int x4_1]) ⟨hx, hb, hml, hown, hts0⟩ (mX1_itemAt l dC dI cI t1 t2 60 (by decide) f u (nI kk4)) (cwV 1 hts0 (gi_V u_304 u_228 u_229 u_3 u_230) rfl rfl rfl (by decide +kernel) ⟨Nat.le_of_ble_eq_true rfl, Nat.le_of_ble_eq_true rfl⟩) (pcR_V (ci := 1) (q0 := 0) (hP.sub (ws' := lW cI t1 t2 60 f u) [1, 2] rfl) hK hn rfl rfl) rfl rfl hl.1 rfl (lv_room (Nat.le_of_ble_eq_true rfl)) dX5_isComplete_21 ⟨Nat.zero_le _, Nat.zero_le _⟩) ?_
      refine k_calli (W.runS (As := [.int x4_1, .int (fX1_itemAt 60 f u (nI kk4))]) (rest := []) ⟨hx, hb, hml, hown, hts0⟩ (mX5_next l dC dI  x4_1 (fX1_itemAt 60 f u (nI kk4))) (va_cwS 2 hts0 (gi_S u_305 u_306 u_6 u_307) rfl rfl rfl (by decide +kernel) ⟨Nat.le_of_ble_eq_true rfl, Nat.le_of_ble_eq_true rfl⟩) (pcR_S (hP.sub (ws' := []) [] rfl) (hK.sub (tys' := []) [] rfl) hn) rfl rfl hl.1 rfl (lv_room (Nat.le_of_ble_eq_true rfl)) dX5_isComplete_24 ⟨Nat.zero_le _, Nat.zero_le _⟩) ?_
      refine lv_istore_n (lv' := [(1, .int (fX5_next x4_1 (fX1_itemAt 60 f u (nI kk4)))), (2, .int (nI kk4)), (0, .ref t0)]) hx hb dX5_isComplete_27 rfl hl (by decide) rfl (fun ls hl => ?_)
      refine lv_iinc (v := (nI (kk4 + 1))) (lv' := [(2, .int (nI (kk4 + 1))), (1, .int (fX5_next x4_1 (fX1_itemAt 60 f u (nI kk4)))), (0, .ref t0)]) hx hb dX5_isComplete_28 hl (k := 1) rfl (nI_1 _) (by decide) rfl (fun ls hl => ?_)
      refine lv_goto (tgt := 4) hx hb dX5_isComplete_31 (by decide) ?_
      have hF : fX5_isComplete f u = nextkk4 (fX5_next x4_1 (fX1_itemAt 60 f u (nI kk4))) := hF
      rw [hnextkk4] at hF
      exact ihkk4 jj4 (Nat.lt_succ_self _) (kk4 + 1) (fX5_next x4_1 (fX1_itemAt 60 f u (nI kk4))) (cn_next hkkk4) hF ls (lv_sub hl [0, 1, 2] rfl)
  exact L4 ((fX1_length 60 f u).toNatClampNeg) 0 0 (Nat.zero_add _) hF ls (lv_sub hl [0, 1, 2] rfl)

def fX5_numberIn_b5 (f : Nat → Int32) (u : Int32) (kk5 : Nat) (x5_3 : Int32) (nextkk5 : Int32 → Int32) : Int32 :=
  (nextkk5 (((10 * x5_3) + (fX1_itemAt 60 f u (nI kk5))) - 48))
def fX5_numberIn_r5 (x5_3 : Int32) : Int32 :=
  x5_3
def fX5_numberIn (f : Nat → Int32) (u : Int32) (a : Nat) (b : Int32) : Int32 :=
  (lq1 (fX5_numberIn_b5 f u) fX5_numberIn_r5 (b.toNatClampNeg - a) a 0)
abbrev rmX5_numberIn : Room := { frames := 1, cells := 0, slots := 0, locals := 21 }
set_option maxHeartbeats 4000000 in
set_option maxRecDepth 100000 in
theorem mX5_numberIn (l : Launch) (dC : Nat → ClassId) (dI : Nat → Nat → Nat) (cI : ClassId) (t0 t1 t2 : Nat) (f : Nat → Int32) (u : Int32) (a : Nat) (b : Int32) (ha9 : a < 2 ^ 31) : Met l yX5_numberIn (ws_ yX5_numberIn cX5_numberIn 5 (some .int)) rmX5_numberIn (pcR (dC, dI) [(cI, .int)] (xW cI t0 t1 t2 f u) [.ref t0, .int (nI a), .int b]) (vp_Si (fun r => r = fX5_numberIn f u a b)) 0 0 (fun _ => False) := by
  refine Met.ofW (cc := cX5_numberIn) (maxL := 5) (ret := (some .int)) (by decide) rfl ?_
  intro p e s m args below meth c s₁ B hml hv
  obtain ⟨ha, hP, hK, hn⟩ := hv
  have hx := B.exec
  have hb := B.bytes
  have hr := B.returns
  have hts0 := atoms_spec (ws := (ws_ yX5_numberIn cX5_numberIn 5 (some .int))) B.pre
  have hts : ∀ w ∈ lw_all, w.before args s = true := fun w h => hts0 w (List.mem_cons_of_mem _ h)
  have hown : s.vm.findClass RX5 = some m.cls := findClass_of_methodNamed B.named
  have hlocks := B.notSynchronized
  have htX5 : ∀ w ∈ wsX50, w.before args s = true := fun w h => hts w (wX5 w h)
  obtain ⟨Q, hQ⟩ : ∃ Q, Q = MQ below (vp_Si (fun r => r = fX5_numberIn f u a b)) args s 0 0 (fun _ => False) := ⟨_, rfl⟩
  rw [← hQ]
  have hl := lv_entry ([.ref t0, .int (nI a), .int b]) (n := 5) (Nat.le_of_ble_eq_true rfl)
  rw [ha, lg_entry_eq, ← ha]
  generalize (lg_sl ([.ref t0, .int (nI a), .int b]) ++ List.replicate (5 - (lg_sl ([.ref t0, .int (nI a), .int b])).length) Slot.unset).toArray = ls at hl ⊢
  have hl : lv_has ls 5 [(0, .ref t0), (1, .int (nI a)), (2, .int b)] := hl
  show W p l e rmX5_numberIn s m args below meth c s.heap [] 0 0 Q (F0 m 0 ls [])
  have hF : fX5_numberIn f u a b = fX5_numberIn f u a b := rfl
  refine lv_iconst (v := 0) hx hb dX5_numberIn_0 (by decide) ?_
  refine lv_istore_n (lv' := [(3, .int 0), (0, .ref t0), (1, .int (nI a)), (2, .int b)]) hx hb dX5_numberIn_1 rfl hl (by decide) rfl (fun ls hl => ?_)
  refine lv_iload_n hx hb dX5_numberIn_2 rfl (lv_at hl 2 rfl) ?_
  refine lv_istore (lv' := [(4, .int (nI a)), (3, .int 0), (0, .ref t0), (1, .int (nI a)), (2, .int b)]) hx hb dX5_numberIn_3 hl (by decide) rfl (fun ls hl => ?_)
  have L5 : ∀ (jj5 kk5 : Nat) (x5_3 : Int32), kk5 < 2 ^ 31 ∧ jj5 = b.toNatClampNeg - kk5 → fX5_numberIn f u a b = lq1 (fX5_numberIn_b5 f u) fX5_numberIn_r5 jj5 kk5 x5_3 → ∀ (ls : Array Slot), lv_has ls 5 [(4, .int (nI kk5)), (3, .int x5_3), (0, .ref t0), (1, .int (nI a)), (2, .int b)] → W p l e rmX5_numberIn s m args below meth c s.heap [] 0 0 Q (F0 m 5 ls []) := by
    intro jj5
    induction jj5 using Nat.strongRecOn with
    | _ jj5 ihkk5 =>
      intro kk5 x5_3 hkkk5 hF  ls hl
      refine lv_iload hx hb dX5_numberIn_5 (lv_at hl 0 rfl) ?_
      refine lv_iload_n hx hb dX5_numberIn_7 rfl (lv_at hl 4 rfl) ?_
      refine lv_icmp_ge (tgt := 35) hx hb dX5_numberIn_8 (by decide) (fun c_8 => ?_) (fun c_8 => ?_)
      · obtain rfl := cn_exit' hkkk5 c_8
        have hF := hF.trans (lq1_z _ _ _ _)
        refine lv_iload_n hx hb dX5_numberIn_35 rfl (lv_at hl 1 rfl) ?_
        rw [hQ]
        exact W.iret (v := x5_3) hx hb hr (fun t ht hW => ⟨x5_3, rfl, hF.symm, ht⟩) (fun q hq => absurd hq List.not_mem_nil) dX5_numberIn_36
      obtain ⟨jj5, rfl⟩ := cn_go' hkkk5 c_8
      have hF := hF.trans (lq1_s _ _ _ _ _)
      obtain ⟨nextkk5, hnextkk5⟩ : ∃ y9, y9 = lq1 (fX5_numberIn_b5 f u) fX5_numberIn_r5 jj5 (kk5 + 1) := ⟨_, rfl⟩
      rw [← hnextkk5] at hF
      refine lv_bipush (v := 10) hx hb dX5_numberIn_11 (by decide) ?_
      refine lv_iload_n hx hb dX5_numberIn_13 rfl (lv_at hl 1 rfl) ?_
      refine lv_imul hx hb dX5_numberIn_14 ?_
      refine lv_aload_n hx hb dX5_numberIn_15 rfl (lv_at hl 2 rfl) ?_
      refine va_get (D := (dC, dI)) (ci := 3) (v := .ref t1) (C := RX5) (T := TX5) (N := 1) hx hb htX5 (fun _ h => h) hown hK hP 0 rfl rfl 0 (by decide) (hts _ u_138) (fun _ h9 => h9) rfl dX5_numberIn_16 ?_
      refine lv_iload hx hb dX5_numberIn_19 (lv_at hl 0 rfl) ?_
      refine k_calli (W.runV (As := [.int (nI kk5)]) (rest := [.int (10 * x5_3)]) ⟨hx, hb, hml, hown, hts0⟩ (mX1_itemAt l dC dI cI t1 t2 60 (by decide) f u (nI kk5)) (cwV 1 hts0 (gi_V u_304 u_228 u_229 u_3 u_230) rfl rfl rfl (by decide +kernel) ⟨Nat.le_of_ble_eq_true rfl, Nat.le_of_ble_eq_true rfl⟩) (pcR_V (ci := 1) (q0 := 0) (hP.sub (ws' := lW cI t1 t2 60 f u) [1, 2] rfl) hK hn rfl rfl) rfl rfl hl.1 rfl (lv_room (Nat.le_of_ble_eq_true rfl)) dX5_numberIn_21 ⟨Nat.zero_le _, Nat.zero_le _⟩) ?_
      refine lv_iadd hx hb dX5_numberIn_24 ?_
      refine lv_bipush (v := 48) hx hb dX5_numberIn_25 (by decide) ?_
      refine lv_isub hx hb dX5_numberIn_27 ?_
      refine lv_istore_n (lv' := [(3, .int (((10 * x5_3) + (fX1_itemAt 60 f u (nI kk5))) - 48)), (4, .int (nI kk5)), (0, .ref t0), (1, .int (nI a)), (2, .int b)]) hx hb dX5_numberIn_28 rfl hl (by decide) rfl (fun ls hl => ?_)
      refine lv_iinc (v := (nI (kk5 + 1))) (lv' := [(4, .int (nI (kk5 + 1))), (3, .int (((10 * x5_3) + (fX1_itemAt 60 f u (nI kk5))) - 48)), (0, .ref t0), (1, .int (nI a)), (2, .int b)]) hx hb dX5_numberIn_29 hl (k := 1) rfl (nI_1 _) (by decide) rfl (fun ls hl => ?_)
      refine lv_goto (tgt := 5) hx hb dX5_numberIn_32 (by decide) ?_
      have hF : fX5_numberIn f u a b = nextkk5 (((10 * x5_3) + (fX1_itemAt 60 f u (nI kk5))) - 48) := hF
      rw [hnextkk5] at hF
      exact ihkk5 jj5 (Nat.lt_succ_self _) (kk5 + 1) (((10 * x5_3) + (fX1_itemAt 60 f u (nI kk5))) - 48) (cn_next' hkkk5) hF ls (lv_sub hl [0, 1, 2, 3, 4] rfl)
  exact L5 _ a 0 ⟨ha9, rfl⟩ hF ls (lv_sub hl [0, 1, 2, 3, 4] rfl)

def fX5_doRise (f : Nat → Int32) (u : Int32) (P : PV) (a : Nat) (b : Int32) : Int32 × (PV) :=
  (if (fX2_isGuest P (fX5_numberIn f u a b)) = 0 then (0, P) else (if (fX2_isSitting P (fX5_numberIn f u a b)) = 0 then (0, P) else (bd (fX2_standUp P (fX5_numberIn f u a b)) (fun U31 => (1, U31)))))
abbrev rmX5_doRise : Room := { frames := 3, cells := 0, slots := 0, locals := 69 }
set_option maxHeartbeats 4000000 in
set_option maxRecDepth 100000 in
theorem mX5_doRise (l : Launch) (dC : Nat → ClassId) (dI : Nat → Nat → Nat) (cI : ClassId) (t0 t1 t2 : Nat) (f : Nat → Int32) (u : Int32) (ad : Nat → Nat) (P : PV) (a : Nat) (b : Int32) (ha9 : a < 2 ^ 31) : Met l yX5_doRise (ws_ yX5_doRise cX5_doRise 5 (some .boolean)) rmX5_doRise (pcM (dC, dI) [(cI, .int)] (xW cI t0 t1 t2 f u ++ pW cI ad P) [.ref t0, .ref (ad 0), .int (nI a), .int b]) (va_Qi (fun (r9 : Int32) (u9 : PV) => (r9, u9) = fX5_doRise f u P a b ∧ (r9 = 0 ∨ r9 = 1)) (fun u9 t => va_P (dC, dI) vwCl ((fun (v : PV) => xW cI t0 t1 t2 f u ++ pW cI ad v) u9) t.heap) (adr (xW cI t0 t1 t2 f u ++ pW cI ad P))) 0 0 (adr (xW cI t0 t1 t2 f u ++ pW cI ad P)) := by
  refine Met.ofW (cc := cX5_doRise) (maxL := 5) (ret := (some .boolean)) (by decide) rfl ?_
  intro p e s m args below meth c s₁ B hml hv
  obtain ⟨ha, hP, hK, hn, hD0⟩ := hv
  have hx := B.exec
  have hb := B.bytes
  have hr := B.returns
  have hts0 := atoms_spec (ws := (ws_ yX5_doRise cX5_doRise 5 (some .boolean))) B.pre
  have hts : ∀ w ∈ lw_all, w.before args s = true := fun w h => hts0 w (List.mem_cons_of_mem _ h)
  have hown : s.vm.findClass RX5 = some m.cls := findClass_of_methodNamed B.named
  have hlocks := B.notSynchronized
  have hD := adr_self hD0
  obtain ⟨A, hA⟩ : ∃ A, A = adr (xW cI t0 t1 t2 f u ++ pW cI ad P) := ⟨_, rfl⟩
  rw [← hA] at hD
  have hS : va_S A s.heap s.heap [] := va_S.rf
  obtain ⟨Q, hQ⟩ : ∃ Q, Q = MQ below (va_Qi (fun (r9 : Int32) (u9 : PV) => (r9, u9) = fX5_doRise f u P a b ∧ (r9 = 0 ∨ r9 = 1)) (fun u9 t => va_P (dC, dI) vwCl ((fun (v : PV) => xW cI t0 t1 t2 f u ++ pW cI ad v) u9) t.heap) (adr (xW cI t0 t1 t2 f u ++ pW cI ad P))) args s 0 0 (adr (xW cI t0 t1 t2 f u ++ pW cI ad P)) := ⟨_, rfl⟩
  rw [← hQ]
  rw [← hA] at hQ
  have hl := lv_entry ([.ref t0, .ref (ad 0), .int (nI a), .int b]) (n := 5) (Nat.le_of_ble_eq_true rfl)
  rw [ha, lg_entry_eq, ← ha]
  generalize (lg_sl ([.ref t0, .ref (ad 0), .int (nI a), .int b]) ++ List.replicate (5 - (lg_sl ([.ref t0, .ref (ad 0), .int (nI a), .int b])).length) Slot.unset).toArray = ls at hl ⊢
  have hl : lv_has ls 5 [(0, .ref t0), (1, .ref (ad 0)), (2, .int (nI a)), (3, .int b)] := hl
  show W p l e rmX5_doRise s m args below meth c s.heap [] 0 0 Q (F0 m 0 ls [])
  have hF : fX5_doRise f u P a b = fX5_doRise f u P a b := rfl
  refine lv_aload_n hx hb dX5_doRise_0 rfl (lv_at hl 0 rfl) ?_
  refine lv_iload_n hx hb dX5_doRise_1 rfl (lv_at hl 2 rfl) ?_
  refine lv_iload_n hx hb dX5_doRise_2 rfl (lv_at hl 3 rfl) ?_
  refine k_calli (W.runV (As := [.int (nI a), .int b]) (rest := []) ⟨hx, hb, hml, hown, hts0⟩ (mX5_numberIn l dC dI cI t0 t1 t2 f u a b (by first | omega | assumption)) (cwV 2 hts0 (gi_V u_714 u_716 us_12 u_6 u_717) rfl rfl rfl (by decide +kernel) ⟨Nat.le_of_ble_eq_true rfl, Nat.le_of_ble_eq_true rfl⟩) (pcR_V (ci := 3) (q0 := 0) (hP.sub (ws' := xW cI t0 t1 t2 f u) [0, 1, 2] rfl) hK hn rfl rfl) rfl rfl hl.1 rfl (lv_room (Nat.le_of_ble_eq_true rfl)) dX5_doRise_3 ⟨Nat.zero_le _, Nat.zero_le _⟩) ?_
  refine lv_istore (lv' := [(4, .int (fX5_numberIn f u a b)), (0, .ref t0), (1, .ref (ad 0)), (2, .int (nI a)), (3, .int b)]) hx hb dX5_doRise_6 hl (by decide) rfl (fun ls hl => ?_)
  refine lv_aload_n hx hb dX5_doRise_8 rfl (lv_at hl 2 rfl) ?_
  refine lv_iload hx hb dX5_doRise_9 (lv_at hl 0 rfl) ?_
  refine k_callb (W.runV (As := [.int (fX5_numberIn f u a b)]) (rest := []) ⟨hx, hb, hml, hown, hts0⟩ (mX2_isGuest l dC dI cI ad P (fX5_numberIn f u a b)) (cwV 1 hts0 (gi_V u_718 u_251 u_252 u_2 u_253) rfl rfl rfl (by decide +kernel) ⟨Nat.le_of_ble_eq_true rfl, Nat.le_of_ble_eq_true rfl⟩) (pcR_V (ci := 2) (q0 := 0) (hP.sub (ws' := pW cI ad P) [3, 4, 5, 6, 7, 8, 9, 10, 11, 12, 13, 14, 15] rfl) hK hn rfl rfl) rfl rfl hl.1 rfl (lv_room (Nat.le_of_ble_eq_true rfl)) dX5_doRise_11 ⟨Nat.zero_le _, Nat.zero_le _⟩) (fun br11 => ?_)
  refine lv_if_eq (tgt := 26) hx hb dX5_doRise_14 (by decide) (fun c_14 => ?_) (fun c_14 => ?_)
  · have hF := hF.trans (if_pos c_14)
    refine lv_iconst (v := 0) hx hb dX5_doRise_26 (by decide) ?_
    rw [hQ]
    exact W.zret (ty := .boolean) (v := 0) hx hb hr rfl (fun t ht hW => ⟨⟨0, P, rfl, ⟨hF.symm, Or.inl rfl⟩, toH ht hP⟩, hS.F ht⟩) hS.2.2 dX5_doRise_27
  have hF := hF.trans (if_neg c_14)
  refine lv_aload_n hx hb dX5_doRise_17 rfl (lv_at hl 2 rfl) ?_
  refine lv_iload hx hb dX5_doRise_18 (lv_at hl 0 rfl) ?_
  refine k_callb (W.runV (As := [.int (fX5_numberIn f u a b)]) (rest := []) ⟨hx, hb, hml, hown, hts0⟩ (mX2_isSitting l dC dI cI ad P (fX5_numberIn f u a b)) (cwV 1 hts0 (gi_V u_719 u_194 u_195 u_2 u_196) rfl rfl rfl (by decide +kernel) ⟨Nat.le_of_ble_eq_true rfl, Nat.le_of_ble_eq_true rfl⟩) (pcR_V (ci := 2) (q0 := 0) (hP.sub (ws' := pW cI ad P) [3, 4, 5, 6, 7, 8, 9, 10, 11, 12, 13, 14, 15] rfl) hK hn rfl rfl) rfl rfl hl.1 rfl (lv_room (Nat.le_of_ble_eq_true rfl)) dX5_doRise_20 ⟨Nat.zero_le _, Nat.zero_le _⟩) (fun br20 => ?_)
  refine lv_if_ne (tgt := 28) hx hb dX5_doRise_23 (by decide) (fun c_23 => ?_) (fun c_23 => ?_)
  · have hF := hF.trans (if_neg c_23)
    refine lv_aload_n hx hb dX5_doRise_28 rfl (lv_at hl 2 rfl) ?_
    refine lv_iload hx hb dX5_doRise_29 (lv_at hl 0 rfl) ?_
    refine k_mutv (Wd := (fun (v : PV) => pW cI ad v)) (va_runV (As := [.int (fX5_numberIn f u a b)]) (rest := []) ⟨hx, hb, hml, hown, hts0⟩ (mX2_standUp l dC dI cI ad P (fX5_numberIn f u a b)) (cwV 1 hts0 (gi_V u_720 u_266 u_267 u_2 u_268) rfl rfl rfl (by decide +kernel) ⟨Nat.le_of_ble_eq_true rfl, Nat.le_of_ble_eq_true rfl⟩) (pcM_V (ci := 2) (q0 := 0) (hP.sub (ws' := pW cI ad P) [3, 4, 5, 6, 7, 8, 9, 10, 11, 12, 13, 14, 15] rfl) hK hn (hD.sub (ws' := pW cI ad P) [3, 4, 5, 6, 7, 8, 9, 10, 11, 12, 13, 14, 15] (by decide) rfl) rfl rfl) rfl rfl hl.1 rfl (lv_room (Nat.le_of_ble_eq_true rfl)) dX5_doRise_31 ⟨Nat.zero_le _, Nat.zero_le _⟩) hP hD hS [3, 4, 5, 6, 7, 8, 9, 10, 11, 12, 13, 14, 15] rfl rfl (fun _ => rfl) (fun U31 H locs hU31 hP hD hS => ?_)
    have hP : va_P (dC, dI) vwCl (xW cI t0 t1 t2 f u ++ pW cI ad U31) H := hP
    have hD : va_D A (xW cI t0 t1 t2 f u ++ pW cI ad U31) := hD
    have hF := bd_at hF hU31
    refine lv_iconst (v := 1) hx hb dX5_doRise_34 (by decide) ?_
    rw [hQ]
    exact W.zret (ty := .boolean) (v := 1) hx hb hr rfl (fun t ht hW => ⟨⟨1, U31, rfl, ⟨hF.symm, Or.inr rfl⟩, toH ht hP⟩, hS.F ht⟩) hS.2.2 dX5_doRise_35
  have hF := hF.trans (if_pos c_23)
  refine lv_iconst (v := 0) hx hb dX5_doRise_26 (by decide) ?_
  rw [hQ]
  exact W.zret (ty := .boolean) (v := 0) hx hb hr rfl (fun t ht hW => ⟨⟨0, P, rfl, ⟨hF.symm, Or.inl rfl⟩, toH ht hP⟩, hS.F ht⟩) hS.2.2 dX5_doRise_27

def fX5_doSit (f : Nat → Int32) (u : Int32) (P : PV) (a : Nat) (b : Int32) : Int32 × (PV) :=
  (if (fX2_mayTake P (fX5_numberIn f u a (b - 3)) ((fX1_itemAt 60 f u (b - 2)) - 48) ((fX1_itemAt 60 f u (b - 1)) - 97)) = 0 then (0, P) else (bd (fX2_takeSeat P (fX5_numberIn f u a (b - 3)) ((fX1_itemAt 60 f u (b - 2)) - 48) ((fX1_itemAt 60 f u (b - 1)) - 97)) (fun U62 => (1, U62))))
abbrev rmX5_doSit : Room := { frames := 4, cells := 0, slots := 0, locals := 97 }
set_option maxHeartbeats 4000000 in
set_option maxRecDepth 100000 in
theorem mX5_doSit (l : Launch) (dC : Nat → ClassId) (dI : Nat → Nat → Nat) (cI : ClassId) (t0 t1 t2 : Nat) (f : Nat → Int32) (u : Int32) (ad : Nat → Nat) (P : PV) (a : Nat) (b : Int32) (ha9 : a < 2 ^ 31) : Met l yX5_doSit (ws_ yX5_doSit cX5_doSit 7 (some .boolean)) rmX5_doSit (pcM (dC, dI) [(cI, .int)] (xW cI t0 t1 t2 f u ++ pW cI ad P) [.ref t0, .ref (ad 0), .int (nI a), .int b]) (va_Qi (fun (r9 : Int32) (u9 : PV) => (r9, u9) = fX5_doSit f u P a b ∧ (r9 = 0 ∨ r9 = 1)) (fun u9 t => va_P (dC, dI) vwCl ((fun (v : PV) => xW cI t0 t1 t2 f u ++ pW cI ad v) u9) t.heap) (adr (xW cI t0 t1 t2 f u ++ pW cI ad P))) 0 0 (adr (xW cI t0 t1 t2 f u ++ pW cI ad P)) := by
  refine Met.ofW (cc := cX5_doSit) (maxL := 7) (ret := (some .boolean)) (by decide) rfl ?_
  intro p e s m args below meth c s₁ B hml hv
  obtain ⟨ha, hP, hK, hn, hD0⟩ := hv
  have hx := B.exec
  have hb := B.bytes
  have hr := B.returns
  have hts0 := atoms_spec (ws := (ws_ yX5_doSit cX5_doSit 7 (some .boolean))) B.pre
  have hts : ∀ w ∈ lw_all, w.before args s = true := fun w h => hts0 w (List.mem_cons_of_mem _ h)
  have hown : s.vm.findClass RX5 = some m.cls := findClass_of_methodNamed B.named
  have hlocks := B.notSynchronized
  have htX5 : ∀ w ∈ wsX50, w.before args s = true := fun w h => hts w (wX5 w h)
  have hD := adr_self hD0
  obtain ⟨A, hA⟩ : ∃ A, A = adr (xW cI t0 t1 t2 f u ++ pW cI ad P) := ⟨_, rfl⟩
  rw [← hA] at hD
  have hS : va_S A s.heap s.heap [] := va_S.rf
  obtain ⟨Q, hQ⟩ : ∃ Q, Q = MQ below (va_Qi (fun (r9 : Int32) (u9 : PV) => (r9, u9) = fX5_doSit f u P a b ∧ (r9 = 0 ∨ r9 = 1)) (fun u9 t => va_P (dC, dI) vwCl ((fun (v : PV) => xW cI t0 t1 t2 f u ++ pW cI ad v) u9) t.heap) (adr (xW cI t0 t1 t2 f u ++ pW cI ad P))) args s 0 0 (adr (xW cI t0 t1 t2 f u ++ pW cI ad P)) := ⟨_, rfl⟩
  rw [← hQ]
  rw [← hA] at hQ
  have hl := lv_entry ([.ref t0, .ref (ad 0), .int (nI a), .int b]) (n := 7) (Nat.le_of_ble_eq_true rfl)
  rw [ha, lg_entry_eq, ← ha]
  generalize (lg_sl ([.ref t0, .ref (ad 0), .int (nI a), .int b]) ++ List.replicate (7 - (lg_sl ([.ref t0, .ref (ad 0), .int (nI a), .int b])).length) Slot.unset).toArray = ls at hl ⊢
  have hl : lv_has ls 7 [(0, .ref t0), (1, .ref (ad 0)), (2, .int (nI a)), (3, .int b)] := hl
  show W p l e rmX5_doSit s m args below meth c s.heap [] 0 0 Q (F0 m 0 ls [])
  have hF : fX5_doSit f u P a b = fX5_doSit f u P a b := rfl
  refine lv_aload_n hx hb dX5_doSit_0 rfl (lv_at hl 0 rfl) ?_
  refine lv_iload_n hx hb dX5_doSit_1 rfl (lv_at hl 2 rfl) ?_
  refine lv_iload_n hx hb dX5_doSit_2 rfl (lv_at hl 3 rfl) ?_
  refine lv_iconst (v := 3) hx hb dX5_doSit_3 (by decide) ?_
  refine lv_isub hx hb dX5_doSit_4 ?_
  refine k_calli (W.runV (As := [.int (nI a), .int (b - 3)]) (rest := []) ⟨hx, hb, hml, hown, hts0⟩ (mX5_numberIn l dC dI cI t0 t1 t2 f u a (b - 3) (by first | omega | assumption)) (cwV 2 hts0 (gi_V u_714 u_716 us_12 u_6 u_717) rfl rfl rfl (by decide +kernel) ⟨Nat.le_of_ble_eq_true rfl, Nat.le_of_ble_eq_true rfl⟩) (pcR_V (ci := 3) (q0 := 0) (hP.sub (ws' := xW cI t0 t1 t2 f u) [0, 1, 2] rfl) hK hn rfl rfl) rfl rfl hl.1 rfl (lv_room (Nat.le_of_ble_eq_true rfl)) dX5_doSit_5 ⟨Nat.zero_le _, Nat.zero_le _⟩) ?_
  refine lv_istore (lv' := [(4, .int (fX5_numberIn f u a (b - 3))), (0, .ref t0), (1, .ref (ad 0)), (2, .int (nI a)), (3, .int b)]) hx hb dX5_doSit_8 hl (by decide) rfl (fun ls hl => ?_)
  refine lv_aload_n hx hb dX5_doSit_10 rfl (lv_at hl 1 rfl) ?_
  refine va_get (D := (dC, dI)) (ci := 3) (v := .ref t1) (C := RX5) (T := TX5) (N := 1) hx hb htX5 (fun _ h => h) hown hK hP 0 rfl rfl 0 (by decide) (hts _ u_138) (fun _ h9 => h9) rfl dX5_doSit_11 ?_
  refine lv_iload_n hx hb dX5_doSit_14 rfl (lv_at hl 4 rfl) ?_
  refine lv_iconst (v := 2) hx hb dX5_doSit_15 (by decide) ?_
  refine lv_isub hx hb dX5_doSit_16 ?_
  refine k_calli (W.runV (As := [.int (b - 2)]) (rest := []) ⟨hx, hb, hml, hown, hts0⟩ (mX1_itemAt l dC dI cI t1 t2 60 (by decide) f u (b - 2)) (cwV 1 hts0 (gi_V u_304 u_228 u_229 u_3 u_230) rfl rfl rfl (by decide +kernel) ⟨Nat.le_of_ble_eq_true rfl, Nat.le_of_ble_eq_true rfl⟩) (pcR_V (ci := 1) (q0 := 0) (hP.sub (ws' := lW cI t1 t2 60 f u) [1, 2] rfl) hK hn rfl rfl) rfl rfl hl.1 rfl (lv_room (Nat.le_of_ble_eq_true rfl)) dX5_doSit_17 ⟨Nat.zero_le _, Nat.zero_le _⟩) ?_
  refine lv_bipush (v := 48) hx hb dX5_doSit_20 (by decide) ?_
  refine lv_isub hx hb dX5_doSit_22 ?_
  refine lv_istore (lv' := [(5, .int ((fX1_itemAt 60 f u (b - 2)) - 48)), (4, .int (fX5_numberIn f u a (b - 3))), (0, .ref t0), (1, .ref (ad 0)), (2, .int (nI a)), (3, .int b)]) hx hb dX5_doSit_23 hl (by decide) rfl (fun ls hl => ?_)
  refine lv_aload_n hx hb dX5_doSit_25 rfl (lv_at hl 2 rfl) ?_
  refine va_get (D := (dC, dI)) (ci := 3) (v := .ref t1) (C := RX5) (T := TX5) (N := 1) hx hb htX5 (fun _ h => h) hown hK hP 0 rfl rfl 0 (by decide) (hts _ u_138) (fun _ h9 => h9) rfl dX5_doSit_26 ?_
  refine lv_iload_n hx hb dX5_doSit_29 rfl (lv_at hl 5 rfl) ?_
  refine lv_iconst (v := 1) hx hb dX5_doSit_30 (by decide) ?_
  refine lv_isub hx hb dX5_doSit_31 ?_
  refine k_calli (W.runV (As := [.int (b - 1)]) (rest := []) ⟨hx, hb, hml, hown, hts0⟩ (mX1_itemAt l dC dI cI t1 t2 60 (by decide) f u (b - 1)) (cwV 1 hts0 (gi_V u_304 u_228 u_229 u_3 u_230) rfl rfl rfl (by decide +kernel) ⟨Nat.le_of_ble_eq_true rfl, Nat.le_of_ble_eq_true rfl⟩) (pcR_V (ci := 1) (q0 := 0) (hP.sub (ws' := lW cI t1 t2 60 f u) [1, 2] rfl) hK hn rfl rfl) rfl rfl hl.1 rfl (lv_room (Nat.le_of_ble_eq_true rfl)) dX5_doSit_32 ⟨Nat.zero_le _, Nat.zero_le _⟩) ?_
  refine lv_bipush (v := 97) hx hb dX5_doSit_35 (by decide) ?_
  refine lv_isub hx hb dX5_doSit_37 ?_
  refine lv_istore (lv' := [(6, .int ((fX1_itemAt 60 f u (b - 1)) - 97)), (5, .int ((fX1_itemAt 60 f u (b - 2)) - 48)), (4, .int (fX5_numberIn f u a (b - 3))), (0, .ref t0), (1, .ref (ad 0)), (2, .int (nI a)), (3, .int b)]) hx hb dX5_doSit_38 hl (by decide) rfl (fun ls hl => ?_)
  refine lv_aload_n hx hb dX5_doSit_40 rfl (lv_at hl 4 rfl) ?_
  refine lv_iload hx hb dX5_doSit_41 (lv_at hl 2 rfl) ?_
  refine lv_iload hx hb dX5_doSit_43 (lv_at hl 1 rfl) ?_
  refine lv_iload hx hb dX5_doSit_45 (lv_at hl 0 rfl) ?_
  refine k_callb (W.runV (As := [.int (fX5_numberIn f u a (b - 3)), .int ((fX1_itemAt 60 f u (b - 2)) - 48), .int ((fX1_itemAt 60 f u (b - 1)) - 97)]) (rest := []) ⟨hx, hb, hml, hown, hts0⟩ (mX2_mayTake l dC dI cI ad P (fX5_numberIn f u a (b - 3)) ((fX1_itemAt 60 f u (b - 2)) - 48) ((fX1_itemAt 60 f u (b - 1)) - 97)) (cwV 3 hts0 (gi_V u_725 u_678 u_679 u_2 u_680) rfl rfl rfl (by decide +kernel) ⟨Nat.le_of_ble_eq_true rfl, Nat.le_of_ble_eq_true rfl⟩) (pcR_V (ci := 2) (q0 := 0) (hP.sub (ws' := pW cI ad P) [3, 4, 5, 6, 7, 8, 9, 10, 11, 12, 13, 14, 15] rfl) hK hn rfl rfl) rfl rfl hl.1 rfl (lv_room (Nat.le_of_ble_eq_true rfl)) dX5_doSit_47 ⟨Nat.zero_le _, Nat.zero_le _⟩) (fun br47 => ?_)
  refine lv_if_ne (tgt := 55) hx hb dX5_doSit_50 (by decide) (fun c_50 => ?_) (fun c_50 => ?_)
  · have hF := hF.trans (if_neg c_50)
    refine lv_aload_n hx hb dX5_doSit_55 rfl (lv_at hl 4 rfl) ?_
    refine lv_iload hx hb dX5_doSit_56 (lv_at hl 2 rfl) ?_
    refine lv_iload hx hb dX5_doSit_58 (lv_at hl 1 rfl) ?_
    refine lv_iload hx hb dX5_doSit_60 (lv_at hl 0 rfl) ?_
    refine k_mutv (Wd := (fun (v : PV) => pW cI ad v)) (va_runV (As := [.int (fX5_numberIn f u a (b - 3)), .int ((fX1_itemAt 60 f u (b - 2)) - 48), .int ((fX1_itemAt 60 f u (b - 1)) - 97)]) (rest := []) ⟨hx, hb, hml, hown, hts0⟩ (mX2_takeSeat l dC dI cI ad P (fX5_numberIn f u a (b - 3)) ((fX1_itemAt 60 f u (b - 2)) - 48) ((fX1_itemAt 60 f u (b - 1)) - 97)) (cwV 3 hts0 (gi_V u_726 u_262 u_263 u_2 u_264) rfl rfl rfl (by decide +kernel) ⟨Nat.le_of_ble_eq_true rfl, Nat.le_of_ble_eq_true rfl⟩) (pcM_V (ci := 2) (q0 := 0) (hP.sub (ws' := pW cI ad P) [3, 4, 5, 6, 7, 8, 9, 10, 11, 12, 13, 14, 15] rfl) hK hn (hD.sub (ws' := pW cI ad P) [3, 4, 5, 6, 7, 8, 9, 10, 11, 12, 13, 14, 15] (by decide) rfl) rfl rfl) rfl rfl hl.1 rfl (lv_room (Nat.le_of_ble_eq_true rfl)) dX5_doSit_62 ⟨Nat.zero_le _, Nat.zero_le _⟩) hP hD hS [3, 4, 5, 6, 7, 8, 9, 10, 11, 12, 13, 14, 15] rfl rfl (fun _ => rfl) (fun U62 H locs hU62 hP hD hS => ?_)
    have hP : va_P (dC, dI) vwCl (xW cI t0 t1 t2 f u ++ pW cI ad U62) H := hP
    have hD : va_D A (xW cI t0 t1 t2 f u ++ pW cI ad U62) := hD
    have hF := bd_at hF hU62
    refine lv_iconst (v := 1) hx hb dX5_doSit_65 (by decide) ?_
    rw [hQ]
    exact W.zret (ty := .boolean) (v := 1) hx hb hr rfl (fun t ht hW => ⟨⟨1, U62, rfl, ⟨hF.symm, Or.inr rfl⟩, toH ht hP⟩, hS.F ht⟩) hS.2.2 dX5_doSit_66
  have hF := hF.trans (if_pos c_50)
  refine lv_iconst (v := 0) hx hb dX5_doSit_53 (by decide) ?_
  rw [hQ]
  exact W.zret (ty := .boolean) (v := 0) hx hb hr rfl (fun t ht hW => ⟨⟨0, P, rfl, ⟨hF.symm, Or.inl rfl⟩, toH ht hP⟩, hS.F ht⟩) hS.2.2 dX5_doSit_54

def fX5_doParts_b7 (f : Nat → Int32) (u : Int32) (kk7 : Nat) (x7_3 : Nat) (x7_2 : Int32) (U7_2 : PV) (nextkk7 : Nat → Int32 → PV → (Int32 × (PV))) : Int32 × (PV) :=
  (bd3 ((if (nI kk7) = (fX1_length 60 f u) then (bd2 ((if (fX1_itemAt 60 f u (nI x7_3)) = 45 then (bd2 (fX5_doRise f u U7_2 (x7_3 + 1) (nI kk7)) (fun r65 U65 => (r65, U65))) else (bd2 (fX5_doSit f u U7_2 x7_3 (nI kk7)) (fun r76 U76 => (r76, U76)))) : Int32 × PV) (fun v55_0 U55_1 => (bd ((if v55_0 = 0 then x7_2 else (x7_2 + 1)) : Int32) (fun v83_0 => ((kk7 + 1), v83_0, U55_1))))) else (if (fX1_itemAt 60 f u (nI kk7)) = 59 then (bd2 ((if (fX1_itemAt 60 f u (nI x7_3)) = 45 then (bd2 (fX5_doRise f u U7_2 (x7_3 + 1) (nI kk7)) (fun r65 U65 => (r65, U65))) else (bd2 (fX5_doSit f u U7_2 x7_3 (nI kk7)) (fun r76 U76 => (r76, U76)))) : Int32 × PV) (fun v55_0 U55_1 => (bd ((if v55_0 = 0 then x7_2 else (x7_2 + 1)) : Int32) (fun v83_0 => ((kk7 + 1), v83_0, U55_1))))) else (x7_3, x7_2, U7_2))) : Nat × Int32 × PV) (fun v28_0 v28_1 U28_2 => (nextkk7 v28_0 v28_1 U28_2)))
def fX5_doParts_r7 (x7_3 : Nat) (x7_2 : Int32) (U7_2 : PV) : Int32 × (PV) :=
  (x7_2, U7_2)
def fX5_doParts (f : Nat → Int32) (u : Int32) (P : PV) : Int32 × (PV) :=
  (lq3 (fX5_doParts_b7 f u) fX5_doParts_r7 (u.toNatClampNeg + 1) 0 0 0 P)
abbrev rmX5_doParts : Room := { frames := 5, cells := 0, slots := 0, locals := 123 }
set_option maxHeartbeats 4000000 in
set_option maxRecDepth 100000 in
theorem mX5_doParts (l : Launch) (dC : Nat → ClassId) (dI : Nat → Nat → Nat) (cI : ClassId) (t0 t1 t2 : Nat) (f : Nat → Int32) (u : Int32) (ad : Nat → Nat) (P : PV) (hu : u = nI u.toNatClampNeg) (hu2 : u.toNatClampNeg ≤ 60) : Met l yX5_doParts (ws_ yX5_doParts cX5_doParts 6 (some .int)) rmX5_doParts (pcM (dC, dI) [(cI, .int)] (xW cI t0 t1 t2 f u ++ pW cI ad P) [.ref t0, .ref (ad 0)]) (va_Qi (fun (r9 : Int32) (u9 : PV) => (r9, u9) = fX5_doParts f u P) (fun u9 t => va_P (dC, dI) vwCl ((fun (v : PV) => xW cI t0 t1 t2 f u ++ pW cI ad v) u9) t.heap) (adr (xW cI t0 t1 t2 f u ++ pW cI ad P))) 0 0 (adr (xW cI t0 t1 t2 f u ++ pW cI ad P)) := by
  refine Met.ofW (cc := cX5_doParts) (maxL := 6) (ret := (some .int)) (by decide) rfl ?_
  intro p e s m args below meth c s₁ B hml hv
  obtain ⟨ha, hP, hK, hn, hD0⟩ := hv
  have hx := B.exec
  have hb := B.bytes
  have hr := B.returns
  have hts0 := atoms_spec (ws := (ws_ yX5_doParts cX5_doParts 6 (some .int))) B.pre
  have hts : ∀ w ∈ lw_all, w.before args s = true := fun w h => hts0 w (List.mem_cons_of_mem _ h)
  have hown : s.vm.findClass RX5 = some m.cls := findClass_of_methodNamed B.named
  have hlocks := B.notSynchronized
  have htX5 : ∀ w ∈ wsX50, w.before args s = true := fun w h => hts w (wX5 w h)
  have hD := adr_self hD0
  obtain ⟨A, hA⟩ : ∃ A, A = adr (xW cI t0 t1 t2 f u ++ pW cI ad P) := ⟨_, rfl⟩
  rw [← hA] at hD
  have hS : va_S A s.heap s.heap [] := va_S.rf
  obtain ⟨Q, hQ⟩ : ∃ Q, Q = MQ below (va_Qi (fun (r9 : Int32) (u9 : PV) => (r9, u9) = fX5_doParts f u P) (fun u9 t => va_P (dC, dI) vwCl ((fun (v : PV) => xW cI t0 t1 t2 f u ++ pW cI ad v) u9) t.heap) (adr (xW cI t0 t1 t2 f u ++ pW cI ad P))) args s 0 0 (adr (xW cI t0 t1 t2 f u ++ pW cI ad P)) := ⟨_, rfl⟩
  rw [← hQ]
  rw [← hA] at hQ
  have hl := lv_entry ([.ref t0, .ref (ad 0)]) (n := 6) (Nat.le_of_ble_eq_true rfl)
  rw [ha, lg_entry_eq, ← ha]
  generalize (lg_sl ([.ref t0, .ref (ad 0)]) ++ List.replicate (6 - (lg_sl ([.ref t0, .ref (ad 0)])).length) Slot.unset).toArray = ls at hl ⊢
  have hl : lv_has ls 6 [(0, .ref t0), (1, .ref (ad 0))] := hl
  show W p l e rmX5_doParts s m args below meth c s.heap [] 0 0 Q (F0 m 0 ls [])
  have hF : fX5_doParts f u P = fX5_doParts f u P := rfl
  refine lv_iconst (v := 0) hx hb dX5_doParts_0 (by decide) ?_
  refine lv_istore_n (lv' := [(2, .int 0), (0, .ref t0), (1, .ref (ad 0))]) hx hb dX5_doParts_1 rfl hl (by decide) rfl (fun ls hl => ?_)
  refine lv_iconst (v := 0) hx hb dX5_doParts_2 (by decide) ?_
  refine lv_istore_n (lv' := [(3, .int 0), (2, .int 0), (0, .ref t0), (1, .ref (ad 0))]) hx hb dX5_doParts_3 rfl hl (by decide) rfl (fun ls hl => ?_)
  refine lv_iconst (v := 0) hx hb dX5_doParts_4 (by decide) ?_
  refine lv_istore (lv' := [(4, .int 0), (3, .int 0), (2, .int 0), (0, .ref t0), (1, .ref (ad 0))]) hx hb dX5_doParts_5 hl (by decide) rfl (fun ls hl => ?_)
  have L7 : ∀ (jj7 kk7 : Nat) (x7_3 : Nat) (x7_2 : Int32) (U7_2 : PV), kk7 + jj7 = (u.toNatClampNeg + 1) → fX5_doParts f u P = lq3 (fX5_doParts_b7 f u) fX5_doParts_r7 jj7 kk7 x7_3 x7_2 U7_2 → x7_3 ≤ kk7 → ∀ (H : Heap) (locs : List Loc), va_P (dC, dI) vwCl (xW cI t0 t1 t2 f u ++ pW cI ad U7_2) H → va_D A (xW cI t0 t1 t2 f u ++ pW cI ad U7_2) → va_S A s.heap H locs → ∀ (ls : Array Slot), lv_has ls 6 [(4, .int (nI kk7)), (3, .int (nI x7_3)), (2, .int x7_2), (0, .ref t0), (1, .ref (ad 0))] → W p l e rmX5_doParts s m args below meth c H locs 0 0 Q (F0 m 7 ls []) := by
    intro jj7
    induction jj7 using Nat.strongRecOn with
    | _ jj7 ihkk7 =>
      intro kk7 x7_3 x7_2 U7_2 hkkk7 hF hikk7 H locs hP hD hS ls hl
      refine lv_iload hx hb dX5_doParts_7 (lv_at hl 0 rfl) ?_
      refine lv_aload_n hx hb dX5_doParts_9 rfl (lv_at hl 3 rfl) ?_
      refine va_get (D := (dC, dI)) (ci := 3) (v := .ref t1) (C := RX5) (T := TX5) (N := 1) hx hb htX5 (fun _ h => h) hown hK hP 0 rfl rfl 0 (by decide) (hts _ u_138) (fun _ h9 => h9) rfl dX5_doParts_10 ?_
      refine k_calli (W.runV (As := []) (rest := [.int (nI kk7)]) ⟨hx, hb, hml, hown, hts0⟩ (mX1_length l dC dI cI t1 t2 60 (by decide) f u ) (cwV 0 hts0 (gi_V u_303 u_224 u_225 u_3 u_226) rfl rfl rfl (by decide +kernel) ⟨Nat.le_of_ble_eq_true rfl, Nat.le_of_ble_eq_true rfl⟩) (pcR_V (ci := 1) (q0 := 0) (hP.sub (ws' := lW cI t1 t2 60 f u) [1, 2] rfl) hK hn rfl rfl) rfl rfl hl.1 rfl (lv_room (Nat.le_of_ble_eq_true rfl)) dX5_doParts_13 ⟨Nat.zero_le _, Nat.zero_le _⟩) ?_
      refine lv_icmp_gt (tgt := 100) hx hb dX5_doParts_16 (by decide) (fun c_16 => ?_) (fun c_16 => ?_)
      · obtain rfl := cn_exitN hkkk7 (by omega) (gtle hu hu2 (by omega) hkkk7 c_16)
        have hF := hF.trans (lq3_z _ _ _ _ _ _)
        refine lv_iload_n hx hb dX5_doParts_100 rfl (lv_at hl 2 rfl) ?_
        rw [hQ]
        exact W.iret (v := x7_2) hx hb hr (fun t ht hW => ⟨⟨x7_2, U7_2, rfl, hF.symm, toH ht hP⟩, hS.F ht⟩) hS.2.2 dX5_doParts_101
      obtain ⟨jj7, rfl⟩ := cn_goN hkkk7 (by omega) (ngtle hu hu2 (by omega) hkkk7 c_16)
      have hF := hF.trans (lq3_s _ _ _ _ _ _ _)
      obtain ⟨nextkk7, hnextkk7⟩ : ∃ y9, y9 = lq3 (fX5_doParts_b7 f u) fX5_doParts_r7 jj7 (kk7 + 1) := ⟨_, rfl⟩
      rw [← hnextkk7] at hF
      refine lv_iload hx hb dX5_doParts_19 (lv_at hl 0 rfl) ?_
      refine lv_aload_n hx hb dX5_doParts_21 rfl (lv_at hl 3 rfl) ?_
      refine va_get (D := (dC, dI)) (ci := 3) (v := .ref t1) (C := RX5) (T := TX5) (N := 1) hx hb htX5 (fun _ h => h) hown hK hP 0 rfl rfl 0 (by decide) (hts _ u_138) (fun _ h9 => h9) rfl dX5_doParts_22 ?_
      refine k_calli (W.runV (As := []) (rest := [.int (nI kk7)]) ⟨hx, hb, hml, hown, hts0⟩ (mX1_length l dC dI cI t1 t2 60 (by decide) f u ) (cwV 0 hts0 (gi_V u_303 u_224 u_225 u_3 u_226) rfl rfl rfl (by decide +kernel) ⟨Nat.le_of_ble_eq_true rfl, Nat.le_of_ble_eq_true rfl⟩) (pcR_V (ci := 1) (q0 := 0) (hP.sub (ws' := lW cI t1 t2 60 f u) [1, 2] rfl) hK hn rfl rfl) rfl rfl hl.1 rfl (lv_room (Nat.le_of_ble_eq_true rfl)) dX5_doParts_25 ⟨Nat.zero_le _, Nat.zero_le _⟩) ?_
      have K28 : ∀ (v28_0 : Nat) (v28_1 : Int32) (U28_2 : PV), (v28_0, v28_1, U28_2) = (if (nI kk7) = (fX1_length 60 f u) then (bd2 ((if (fX1_itemAt 60 f u (nI x7_3)) = 45 then (bd2 (fX5_doRise f u U7_2 (x7_3 + 1) (nI kk7)) (fun r65 U65 => (r65, U65))) else (bd2 (fX5_doSit f u U7_2 x7_3 (nI kk7)) (fun r76 U76 => (r76, U76)))) : Int32 × PV) (fun v55_0 U55_1 => (bd ((if v55_0 = 0 then x7_2 else (x7_2 + 1)) : Int32) (fun v83_0 => ((kk7 + 1), v83_0, U55_1))))) else (if (fX1_itemAt 60 f u (nI kk7)) = 59 then (bd2 ((if (fX1_itemAt 60 f u (nI x7_3)) = 45 then (bd2 (fX5_doRise f u U7_2 (x7_3 + 1) (nI kk7)) (fun r65 U65 => (r65, U65))) else (bd2 (fX5_doSit f u U7_2 x7_3 (nI kk7)) (fun r76 U76 => (r76, U76)))) : Int32 × PV) (fun v55_0 U55_1 => (bd ((if v55_0 = 0 then x7_2 else (x7_2 + 1)) : Int32) (fun v83_0 => ((kk7 + 1), v83_0, U55_1))))) else (x7_3, x7_2, U7_2))) → ∀ (H : Heap) (locs : List Loc), va_P (dC, dI) vwCl (xW cI t0 t1 t2 f u ++ pW cI ad U28_2) H → va_D A (xW cI t0 t1 t2 f u ++ pW cI ad U28_2) → va_S A s.heap H locs → ∀ (ls : Array Slot), lv_has ls 6 [(3, .int (nI v28_0)), (4, .int (nI kk7)), (2, .int v28_1), (0, .ref t0), (1, .ref (ad 0))] → W p l e rmX5_doParts s m args below meth c H locs 0 0 Q (F0 m 94 ls []) := by
        intro v28_0 v28_1 U28_2 hz28 H locs hP hD hS ls hl
        have hz := hz28
        have hF := bd3_at hF hz
        refine lv_iinc (v := (nI (kk7 + 1))) (lv' := [(4, .int (nI (kk7 + 1))), (3, .int (nI v28_0)), (2, .int v28_1), (0, .ref t0), (1, .ref (ad 0))]) hx hb dX5_doParts_94 hl (k := 1) rfl (nI_1 _) (by decide) rfl (fun ls hl => ?_)
        refine lv_goto (tgt := 7) hx hb dX5_doParts_97 (by decide) ?_
        have hF : fX5_doParts f u P = nextkk7 v28_0 v28_1 U28_2 := hF
        rw [hnextkk7] at hF
        exact ihkk7 jj7 (Nat.lt_succ_self _) (kk7 + 1) v28_0 v28_1 U28_2 (cn_next hkkk7) hF (by have e := congrArg Prod.fst hz28; dsimp only at e; rw [e]; (repeat' split); all_goals (try dsimp only [bd, bd2]); all_goals omega) _ _ hP hD hS ls (lv_sub hl [0, 1, 2, 3, 4] rfl)
      have hF : ((if (nI kk7) = (fX1_length 60 f u) then (bd2 ((if (fX1_itemAt 60 f u (nI x7_3)) = 45 then (bd2 (fX5_doRise f u U7_2 (x7_3 + 1) (nI kk7)) (fun r65 U65 => (r65, U65))) else (bd2 (fX5_doSit f u U7_2 x7_3 (nI kk7)) (fun r76 U76 => (r76, U76)))) : Int32 × PV) (fun v55_0 U55_1 => (bd ((if v55_0 = 0 then x7_2 else (x7_2 + 1)) : Int32) (fun v83_0 => ((kk7 + 1), v83_0, U55_1))))) else (if (fX1_itemAt 60 f u (nI kk7)) = 59 then (bd2 ((if (fX1_itemAt 60 f u (nI x7_3)) = 45 then (bd2 (fX5_doRise f u U7_2 (x7_3 + 1) (nI kk7)) (fun r65 U65 => (r65, U65))) else (bd2 (fX5_doSit f u U7_2 x7_3 (nI kk7)) (fun r76 U76 => (r76, U76)))) : Int32 × PV) (fun v55_0 U55_1 => (bd ((if v55_0 = 0 then x7_2 else (x7_2 + 1)) : Int32) (fun v83_0 => ((kk7 + 1), v83_0, U55_1))))) else (x7_3, x7_2, U7_2))) : Nat × Int32 × PV) = (if (nI kk7) = (fX1_length 60 f u) then (bd2 ((if (fX1_itemAt 60 f u (nI x7_3)) = 45 then (bd2 (fX5_doRise f u U7_2 (x7_3 + 1) (nI kk7)) (fun r65 U65 => (r65, U65))) else (bd2 (fX5_doSit f u U7_2 x7_3 (nI kk7)) (fun r76 U76 => (r76, U76)))) : Int32 × PV) (fun v55_0 U55_1 => (bd ((if v55_0 = 0 then x7_2 else (x7_2 + 1)) : Int32) (fun v83_0 => ((kk7 + 1), v83_0, U55_1))))) else (if (fX1_itemAt 60 f u (nI kk7)) = 59 then (bd2 ((if (fX1_itemAt 60 f u (nI x7_3)) = 45 then (bd2 (fX5_doRise f u U7_2 (x7_3 + 1) (nI kk7)) (fun r65 U65 => (r65, U65))) else (bd2 (fX5_doSit f u U7_2 x7_3 (nI kk7)) (fun r76 U76 => (r76, U76)))) : Int32 × PV) (fun v55_0 U55_1 => (bd ((if v55_0 = 0 then x7_2 else (x7_2 + 1)) : Int32) (fun v83_0 => ((kk7 + 1), v83_0, U55_1))))) else (x7_3, x7_2, U7_2))) := rfl
      refine lv_icmp_eq (tgt := 45) hx hb dX5_doParts_28 (by decide) (fun c_28 => ?_) (fun c_28 => ?_)
      · have hF := hF.trans (if_pos c_28)
        refine lv_aload_n hx hb dX5_doParts_45 rfl (lv_at hl 3 rfl) ?_
        refine va_get (D := (dC, dI)) (ci := 3) (v := .ref t1) (C := RX5) (T := TX5) (N := 1) hx hb htX5 (fun _ h => h) hown hK hP 0 rfl rfl 0 (by decide) (hts _ u_138) (fun _ h9 => h9) rfl dX5_doParts_46 ?_
        refine lv_iload_n hx hb dX5_doParts_49 rfl (lv_at hl 1 rfl) ?_
        refine k_calli (W.runV (As := [.int (nI x7_3)]) (rest := []) ⟨hx, hb, hml, hown, hts0⟩ (mX1_itemAt l dC dI cI t1 t2 60 (by decide) f u (nI x7_3)) (cwV 1 hts0 (gi_V u_304 u_228 u_229 u_3 u_230) rfl rfl rfl (by decide +kernel) ⟨Nat.le_of_ble_eq_true rfl, Nat.le_of_ble_eq_true rfl⟩) (pcR_V (ci := 1) (q0 := 0) (hP.sub (ws' := lW cI t1 t2 60 f u) [1, 2] rfl) hK hn rfl rfl) rfl rfl hl.1 rfl (lv_room (Nat.le_of_ble_eq_true rfl)) dX5_doParts_50 ⟨Nat.zero_le _, Nat.zero_le _⟩) ?_
        refine lv_bipush (v := 45) hx hb dX5_doParts_53 (by decide) ?_
        have K55 : ∀ (v55_0 : Int32) (U55_1 : PV), (v55_0, U55_1) = (if (fX1_itemAt 60 f u (nI x7_3)) = 45 then (bd2 (fX5_doRise f u U7_2 (x7_3 + 1) (nI kk7)) (fun r65 U65 => (r65, U65))) else (bd2 (fX5_doSit f u U7_2 x7_3 (nI kk7)) (fun r76 U76 => (r76, U76)))) → ∀ (H : Heap) (locs : List Loc), va_P (dC, dI) vwCl (xW cI t0 t1 t2 f u ++ pW cI ad U55_1) H → va_D A (xW cI t0 t1 t2 f u ++ pW cI ad U55_1) → va_S A s.heap H locs → ∀ (ls : Array Slot), lv_has ls 6 [(4, .int (nI kk7)), (3, .int (nI x7_3)), (2, .int x7_2), (0, .ref t0), (1, .ref (ad 0))] → W p l e rmX5_doParts s m args below meth c H locs 0 0 Q (F0 m 79 ls [.int v55_0]) := by
          intro v55_0 U55_1 hz55 H locs hP hD hS ls hl
          have hz := hz55
          have hF := bd2_at hF hz
          refine lv_istore (lv' := [(5, .int v55_0), (4, .int (nI kk7)), (3, .int (nI x7_3)), (2, .int x7_2), (0, .ref t0), (1, .ref (ad 0))]) hx hb dX5_doParts_79 hl (by decide) rfl (fun ls hl => ?_)
          refine lv_iload hx hb dX5_doParts_81 (lv_at hl 0 rfl) ?_
          have K83 : ∀ (v83_0 : Int32), v83_0 = (if v55_0 = 0 then x7_2 else (x7_2 + 1)) → ∀ (H : Heap) (locs : List Loc), va_P (dC, dI) vwCl (xW cI t0 t1 t2 f u ++ pW cI ad U55_1) H → va_D A (xW cI t0 t1 t2 f u ++ pW cI ad U55_1) → va_S A s.heap H locs → ∀ (ls : Array Slot), lv_has ls 6 [(5, .int v55_0), (4, .int (nI kk7)), (3, .int (nI x7_3)), (2, .int v83_0), (0, .ref t0), (1, .ref (ad 0))] → W p l e rmX5_doParts s m args below meth c H locs 0 0 Q (F0 m 89 ls []) := by
            intro v83_0 hz83 H locs hP hD hS ls hl
            have hz := hz83
            have hF := bd_at hF hz
            refine lv_iload hx hb dX5_doParts_89 (lv_at hl 1 rfl) ?_
            refine lv_iconst (v := 1) hx hb dX5_doParts_91 (by decide) ?_
            refine lv_iadd hx hb dX5_doParts_92 ?_
            refine lv_tope (y := (nI (kk7 + 1))) (nI_add kk7 1) ?_
            refine lv_istore_n (lv' := [(3, .int (nI (kk7 + 1))), (5, .int v55_0), (4, .int (nI kk7)), (2, .int v83_0), (0, .ref t0), (1, .ref (ad 0))]) hx hb dX5_doParts_93 rfl hl (by decide) rfl (fun ls hl => ?_)
            exact K28 _ _ _ hF.symm _ _ hP hD hS  ls (lv_sub hl [0, 2, 3, 4, 5] rfl)
          have hF : ((if v55_0 = 0 then x7_2 else (x7_2 + 1)) : Int32) = (if v55_0 = 0 then x7_2 else (x7_2 + 1)) := rfl
          refine lv_if_eq (tgt := 89) hx hb dX5_doParts_83 (by decide) (fun c_83 => ?_) (fun c_83 => ?_)
          · have hF := hF.trans (if_pos c_83)
            exact K83 _ hF.symm _ _ hP hD hS  ls (lv_sub hl [0, 1, 2, 3, 4, 5] rfl)
          have hF := hF.trans (if_neg c_83)
          refine lv_iinc (v := (x7_2 + 1)) (lv' := [(2, .int (x7_2 + 1)), (5, .int v55_0), (4, .int (nI kk7)), (3, .int (nI x7_3)), (0, .ref t0), (1, .ref (ad 0))]) hx hb dX5_doParts_86 hl (k := 3) rfl rfl (by decide) rfl (fun ls hl => ?_)
          exact K83 _ hF.symm _ _ hP hD hS  ls (lv_sub hl [1, 2, 3, 0, 4, 5] rfl)
        have hF : ((if (fX1_itemAt 60 f u (nI x7_3)) = 45 then (bd2 (fX5_doRise f u U7_2 (x7_3 + 1) (nI kk7)) (fun r65 U65 => (r65, U65))) else (bd2 (fX5_doSit f u U7_2 x7_3 (nI kk7)) (fun r76 U76 => (r76, U76)))) : Int32 × PV) = (if (fX1_itemAt 60 f u (nI x7_3)) = 45 then (bd2 (fX5_doRise f u U7_2 (x7_3 + 1) (nI kk7)) (fun r65 U65 => (r65, U65))) else (bd2 (fX5_doSit f u U7_2 x7_3 (nI kk7)) (fun r76 U76 => (r76, U76)))) := rfl
        refine lv_icmp_ne (tgt := 71) hx hb dX5_doParts_55 (by decide) (fun c_55 => ?_) (fun c_55 => ?_)
        · have hF := hF.trans (if_neg c_55)
          refine lv_aload_n hx hb dX5_doParts_71 rfl (lv_at hl 3 rfl) ?_
          refine lv_aload_n hx hb dX5_doParts_72 rfl (lv_at hl 4 rfl) ?_
          refine lv_iload_n hx hb dX5_doParts_73 rfl (lv_at hl 1 rfl) ?_
          refine lv_iload hx hb dX5_doParts_74 (lv_at hl 0 rfl) ?_
          refine k_muti (Wd := (fun (v : PV) => xW cI t0 t1 t2 f u ++ pW cI ad v)) (va_runV (As := [.ref (ad 0), .int (nI x7_3), .int (nI kk7)]) (rest := []) ⟨hx, hb, hml, hown, hts0⟩ (mX5_doSit l dC dI cI t0 t1 t2 f u ad U7_2 x7_3 (nI kk7) (by first | omega | assumption)) (cwV 3 hts0 (gi_V u_721 u_723 us_13 u_6 u_724) rfl rfl rfl (by decide +kernel) ⟨Nat.le_of_ble_eq_true rfl, Nat.le_of_ble_eq_true rfl⟩) (pcM_V (ci := 3) (q0 := 0) hP hK hn hD rfl rfl) rfl rfl hl.1 rfl (lv_room (Nat.le_of_ble_eq_true rfl)) dX5_doParts_76 ⟨Nat.zero_le _, Nat.zero_le _⟩) hP hD hS [0, 1, 2, 3, 4, 5, 6, 7, 8, 9, 10, 11, 12, 13, 14, 15] rfl rfl (fun _ => rfl) (fun r76 U76 H locs hU76 hP hD hS => ?_)
          obtain ⟨hU76, br76⟩ := hU76
          have hP : va_P (dC, dI) vwCl (xW cI t0 t1 t2 f u ++ pW cI ad U76) H := hP
          have hD : va_D A (xW cI t0 t1 t2 f u ++ pW cI ad U76) := hD
          have hF := bd2_at hF hU76
          exact K55 _ _ hF.symm _ _ hP hD hS  ls (lv_sub hl [0, 1, 2, 3, 4] rfl)
        have hF := hF.trans (if_pos c_55)
        refine lv_aload_n hx hb dX5_doParts_58 rfl (lv_at hl 3 rfl) ?_
        refine lv_aload_n hx hb dX5_doParts_59 rfl (lv_at hl 4 rfl) ?_
        refine lv_iload_n hx hb dX5_doParts_60 rfl (lv_at hl 1 rfl) ?_
        refine lv_iconst (v := 1) hx hb dX5_doParts_61 (by decide) ?_
        refine lv_iadd hx hb dX5_doParts_62 ?_
        refine lv_tope (y := (nI (x7_3 + 1))) (nI_add x7_3 1) ?_
        refine lv_iload hx hb dX5_doParts_63 (lv_at hl 0 rfl) ?_
        refine k_muti (Wd := (fun (v : PV) => xW cI t0 t1 t2 f u ++ pW cI ad v)) (va_runV (As := [.ref (ad 0), .int (nI (x7_3 + 1)), .int (nI kk7)]) (rest := []) ⟨hx, hb, hml, hown, hts0⟩ (mX5_doRise l dC dI cI t0 t1 t2 f u ad U7_2 (x7_3 + 1) (nI kk7) (by first | omega | assumption)) (cwV 3 hts0 (gi_V u_710 u_712 us_11 u_6 u_713) rfl rfl rfl (by decide +kernel) ⟨Nat.le_of_ble_eq_true rfl, Nat.le_of_ble_eq_true rfl⟩) (pcM_V (ci := 3) (q0 := 0) hP hK hn hD rfl rfl) rfl rfl hl.1 rfl (lv_room (Nat.le_of_ble_eq_true rfl)) dX5_doParts_65 ⟨Nat.zero_le _, Nat.zero_le _⟩) hP hD hS [0, 1, 2, 3, 4, 5, 6, 7, 8, 9, 10, 11, 12, 13, 14, 15] rfl rfl (fun _ => rfl) (fun r65 U65 H locs hU65 hP hD hS => ?_)
        obtain ⟨hU65, br65⟩ := hU65
        have hP : va_P (dC, dI) vwCl (xW cI t0 t1 t2 f u ++ pW cI ad U65) H := hP
        have hD : va_D A (xW cI t0 t1 t2 f u ++ pW cI ad U65) := hD
        have hF := bd2_at hF hU65
        refine lv_goto (tgt := 79) hx hb dX5_doParts_68 (by decide) ?_
        exact K55 _ _ hF.symm _ _ hP hD hS  ls (lv_sub hl [0, 1, 2, 3, 4] rfl)
      have hF := hF.trans (if_neg c_28)
      refine lv_aload_n hx hb dX5_doParts_31 rfl (lv_at hl 3 rfl) ?_
      refine va_get (D := (dC, dI)) (ci := 3) (v := .ref t1) (C := RX5) (T := TX5) (N := 1) hx hb htX5 (fun _ h => h) hown hK hP 0 rfl rfl 0 (by decide) (hts _ u_138) (fun _ h9 => h9) rfl dX5_doParts_32 ?_
      refine lv_iload hx hb dX5_doParts_35 (lv_at hl 0 rfl) ?_
      refine k_calli (W.runV (As := [.int (nI kk7)]) (rest := []) ⟨hx, hb, hml, hown, hts0⟩ (mX1_itemAt l dC dI cI t1 t2 60 (by decide) f u (nI kk7)) (cwV 1 hts0 (gi_V u_304 u_228 u_229 u_3 u_230) rfl rfl rfl (by decide +kernel) ⟨Nat.le_of_ble_eq_true rfl, Nat.le_of_ble_eq_true rfl⟩) (pcR_V (ci := 1) (q0 := 0) (hP.sub (ws' := lW cI t1 t2 60 f u) [1, 2] rfl) hK hn rfl rfl) rfl rfl hl.1 rfl (lv_room (Nat.le_of_ble_eq_true rfl)) dX5_doParts_37 ⟨Nat.zero_le _, Nat.zero_le _⟩) ?_
      refine lv_bipush (v := 59) hx hb dX5_doParts_40 (by decide) ?_
      refine lv_icmp_ne (tgt := 94) hx hb dX5_doParts_42 (by decide) (fun c_42 => ?_) (fun c_42 => ?_)
      · have hF := hF.trans (if_neg c_42)
        exact K28 _ _ _ hF.symm _ _ hP hD hS  ls (lv_sub hl [1, 0, 2, 3, 4] rfl)
      have hF := hF.trans (if_pos c_42)
      refine lv_aload_n hx hb dX5_doParts_45 rfl (lv_at hl 3 rfl) ?_
      refine va_get (D := (dC, dI)) (ci := 3) (v := .ref t1) (C := RX5) (T := TX5) (N := 1) hx hb htX5 (fun _ h => h) hown hK hP 0 rfl rfl 0 (by decide) (hts _ u_138) (fun _ h9 => h9) rfl dX5_doParts_46 ?_
      refine lv_iload_n hx hb dX5_doParts_49 rfl (lv_at hl 1 rfl) ?_
      refine k_calli (W.runV (As := [.int (nI x7_3)]) (rest := []) ⟨hx, hb, hml, hown, hts0⟩ (mX1_itemAt l dC dI cI t1 t2 60 (by decide) f u (nI x7_3)) (cwV 1 hts0 (gi_V u_304 u_228 u_229 u_3 u_230) rfl rfl rfl (by decide +kernel) ⟨Nat.le_of_ble_eq_true rfl, Nat.le_of_ble_eq_true rfl⟩) (pcR_V (ci := 1) (q0 := 0) (hP.sub (ws' := lW cI t1 t2 60 f u) [1, 2] rfl) hK hn rfl rfl) rfl rfl hl.1 rfl (lv_room (Nat.le_of_ble_eq_true rfl)) dX5_doParts_50 ⟨Nat.zero_le _, Nat.zero_le _⟩) ?_
      refine lv_bipush (v := 45) hx hb dX5_doParts_53 (by decide) ?_
      have K55 : ∀ (v55_0 : Int32) (U55_1 : PV), (v55_0, U55_1) = (if (fX1_itemAt 60 f u (nI x7_3)) = 45 then (bd2 (fX5_doRise f u U7_2 (x7_3 + 1) (nI kk7)) (fun r65 U65 => (r65, U65))) else (bd2 (fX5_doSit f u U7_2 x7_3 (nI kk7)) (fun r76 U76 => (r76, U76)))) → ∀ (H : Heap) (locs : List Loc), va_P (dC, dI) vwCl (xW cI t0 t1 t2 f u ++ pW cI ad U55_1) H → va_D A (xW cI t0 t1 t2 f u ++ pW cI ad U55_1) → va_S A s.heap H locs → ∀ (ls : Array Slot), lv_has ls 6 [(4, .int (nI kk7)), (3, .int (nI x7_3)), (2, .int x7_2), (0, .ref t0), (1, .ref (ad 0))] → W p l e rmX5_doParts s m args below meth c H locs 0 0 Q (F0 m 79 ls [.int v55_0]) := by
        intro v55_0 U55_1 hz55 H locs hP hD hS ls hl
        have hz := hz55
        have hF := bd2_at hF hz
        refine lv_istore (lv' := [(5, .int v55_0), (4, .int (nI kk7)), (3, .int (nI x7_3)), (2, .int x7_2), (0, .ref t0), (1, .ref (ad 0))]) hx hb dX5_doParts_79 hl (by decide) rfl (fun ls hl => ?_)
        refine lv_iload hx hb dX5_doParts_81 (lv_at hl 0 rfl) ?_
        have K83 : ∀ (v83_0 : Int32), v83_0 = (if v55_0 = 0 then x7_2 else (x7_2 + 1)) → ∀ (H : Heap) (locs : List Loc), va_P (dC, dI) vwCl (xW cI t0 t1 t2 f u ++ pW cI ad U55_1) H → va_D A (xW cI t0 t1 t2 f u ++ pW cI ad U55_1) → va_S A s.heap H locs → ∀ (ls : Array Slot), lv_has ls 6 [(5, .int v55_0), (4, .int (nI kk7)), (3, .int (nI x7_3)), (2, .int v83_0), (0, .ref t0), (1, .ref (ad 0))] → W p l e rmX5_doParts s m args below meth c H locs 0 0 Q (F0 m 89 ls []) := by
          intro v83_0 hz83 H locs hP hD hS ls hl
          have hz := hz83
          have hF := bd_at hF hz
          refine lv_iload hx hb dX5_doParts_89 (lv_at hl 1 rfl) ?_
          refine lv_iconst (v := 1) hx hb dX5_doParts_91 (by decide) ?_
          refine lv_iadd hx hb dX5_doParts_92 ?_
          refine lv_tope (y := (nI (kk7 + 1))) (nI_add kk7 1) ?_
          refine lv_istore_n (lv' := [(3, .int (nI (kk7 + 1))), (5, .int v55_0), (4, .int (nI kk7)), (2, .int v83_0), (0, .ref t0), (1, .ref (ad 0))]) hx hb dX5_doParts_93 rfl hl (by decide) rfl (fun ls hl => ?_)
          exact K28 _ _ _ hF.symm _ _ hP hD hS  ls (lv_sub hl [0, 2, 3, 4, 5] rfl)
        have hF : ((if v55_0 = 0 then x7_2 else (x7_2 + 1)) : Int32) = (if v55_0 = 0 then x7_2 else (x7_2 + 1)) := rfl
        refine lv_if_eq (tgt := 89) hx hb dX5_doParts_83 (by decide) (fun c_83 => ?_) (fun c_83 => ?_)
        · have hF := hF.trans (if_pos c_83)
          exact K83 _ hF.symm _ _ hP hD hS  ls (lv_sub hl [0, 1, 2, 3, 4, 5] rfl)
        have hF := hF.trans (if_neg c_83)
        refine lv_iinc (v := (x7_2 + 1)) (lv' := [(2, .int (x7_2 + 1)), (5, .int v55_0), (4, .int (nI kk7)), (3, .int (nI x7_3)), (0, .ref t0), (1, .ref (ad 0))]) hx hb dX5_doParts_86 hl (k := 3) rfl rfl (by decide) rfl (fun ls hl => ?_)
        exact K83 _ hF.symm _ _ hP hD hS  ls (lv_sub hl [1, 2, 3, 0, 4, 5] rfl)
      have hF : ((if (fX1_itemAt 60 f u (nI x7_3)) = 45 then (bd2 (fX5_doRise f u U7_2 (x7_3 + 1) (nI kk7)) (fun r65 U65 => (r65, U65))) else (bd2 (fX5_doSit f u U7_2 x7_3 (nI kk7)) (fun r76 U76 => (r76, U76)))) : Int32 × PV) = (if (fX1_itemAt 60 f u (nI x7_3)) = 45 then (bd2 (fX5_doRise f u U7_2 (x7_3 + 1) (nI kk7)) (fun r65 U65 => (r65, U65))) else (bd2 (fX5_doSit f u U7_2 x7_3 (nI kk7)) (fun r76 U76 => (r76, U76)))) := rfl
      refine lv_icmp_ne (tgt := 71) hx hb dX5_doParts_55 (by decide) (fun c_55 => ?_) (fun c_55 => ?_)
      · have hF := hF.trans (if_neg c_55)
        refine lv_aload_n hx hb dX5_doParts_71 rfl (lv_at hl 3 rfl) ?_
        refine lv_aload_n hx hb dX5_doParts_72 rfl (lv_at hl 4 rfl) ?_
        refine lv_iload_n hx hb dX5_doParts_73 rfl (lv_at hl 1 rfl) ?_
        refine lv_iload hx hb dX5_doParts_74 (lv_at hl 0 rfl) ?_
        refine k_muti (Wd := (fun (v : PV) => xW cI t0 t1 t2 f u ++ pW cI ad v)) (va_runV (As := [.ref (ad 0), .int (nI x7_3), .int (nI kk7)]) (rest := []) ⟨hx, hb, hml, hown, hts0⟩ (mX5_doSit l dC dI cI t0 t1 t2 f u ad U7_2 x7_3 (nI kk7) (by first | omega | assumption)) (cwV 3 hts0 (gi_V u_721 u_723 us_13 u_6 u_724) rfl rfl rfl (by decide +kernel) ⟨Nat.le_of_ble_eq_true rfl, Nat.le_of_ble_eq_true rfl⟩) (pcM_V (ci := 3) (q0 := 0) hP hK hn hD rfl rfl) rfl rfl hl.1 rfl (lv_room (Nat.le_of_ble_eq_true rfl)) dX5_doParts_76 ⟨Nat.zero_le _, Nat.zero_le _⟩) hP hD hS [0, 1, 2, 3, 4, 5, 6, 7, 8, 9, 10, 11, 12, 13, 14, 15] rfl rfl (fun _ => rfl) (fun r76 U76 H locs hU76 hP hD hS => ?_)
        obtain ⟨hU76, br76⟩ := hU76
        have hP : va_P (dC, dI) vwCl (xW cI t0 t1 t2 f u ++ pW cI ad U76) H := hP
        have hD : va_D A (xW cI t0 t1 t2 f u ++ pW cI ad U76) := hD
        have hF := bd2_at hF hU76
        exact K55 _ _ hF.symm _ _ hP hD hS  ls (lv_sub hl [0, 1, 2, 3, 4] rfl)
      have hF := hF.trans (if_pos c_55)
      refine lv_aload_n hx hb dX5_doParts_58 rfl (lv_at hl 3 rfl) ?_
      refine lv_aload_n hx hb dX5_doParts_59 rfl (lv_at hl 4 rfl) ?_
      refine lv_iload_n hx hb dX5_doParts_60 rfl (lv_at hl 1 rfl) ?_
      refine lv_iconst (v := 1) hx hb dX5_doParts_61 (by decide) ?_
      refine lv_iadd hx hb dX5_doParts_62 ?_
      refine lv_tope (y := (nI (x7_3 + 1))) (nI_add x7_3 1) ?_
      refine lv_iload hx hb dX5_doParts_63 (lv_at hl 0 rfl) ?_
      refine k_muti (Wd := (fun (v : PV) => xW cI t0 t1 t2 f u ++ pW cI ad v)) (va_runV (As := [.ref (ad 0), .int (nI (x7_3 + 1)), .int (nI kk7)]) (rest := []) ⟨hx, hb, hml, hown, hts0⟩ (mX5_doRise l dC dI cI t0 t1 t2 f u ad U7_2 (x7_3 + 1) (nI kk7) (by first | omega | assumption)) (cwV 3 hts0 (gi_V u_710 u_712 us_11 u_6 u_713) rfl rfl rfl (by decide +kernel) ⟨Nat.le_of_ble_eq_true rfl, Nat.le_of_ble_eq_true rfl⟩) (pcM_V (ci := 3) (q0 := 0) hP hK hn hD rfl rfl) rfl rfl hl.1 rfl (lv_room (Nat.le_of_ble_eq_true rfl)) dX5_doParts_65 ⟨Nat.zero_le _, Nat.zero_le _⟩) hP hD hS [0, 1, 2, 3, 4, 5, 6, 7, 8, 9, 10, 11, 12, 13, 14, 15] rfl rfl (fun _ => rfl) (fun r65 U65 H locs hU65 hP hD hS => ?_)
      obtain ⟨hU65, br65⟩ := hU65
      have hP : va_P (dC, dI) vwCl (xW cI t0 t1 t2 f u ++ pW cI ad U65) H := hP
      have hD : va_D A (xW cI t0 t1 t2 f u ++ pW cI ad U65) := hD
      have hF := bd2_at hF hU65
      refine lv_goto (tgt := 79) hx hb dX5_doParts_68 (by decide) ?_
      exact K55 _ _ hF.symm _ _ hP hD hS  ls (lv_sub hl [0, 1, 2, 3, 4] rfl)
  exact L7 (u.toNatClampNeg + 1) 0 0 0 P (Nat.zero_add _) hF (Nat.le_refl 0) _ _ hP hD hS ls (lv_sub hl [0, 1, 2, 3, 4] rfl)
