def fX7_ofGuest (f : Nat → Int32) (g : Nat) (w9 : Nat) : Int32 :=
  (if 5 ≤ (nI w9) then (if (nI w9) = 5 then (fX7_metBy f 0 g) else (fX7_pointsOf f 0 g)) else (fX7_of f 0 g w9))
abbrev rmX7_ofGuest : Room := { frames := 3, cells := 0, slots := 0, locals := 72 }
set_option maxHeartbeats 4000000 in
set_option maxRecDepth 100000 in
theorem mX7_ofGuest (l : Launch) (dC : Nat → ClassId) (dI : Nat → Nat → Nat) (cI : ClassId) (o q0 q1 : Nat) (f x M : Nat → Int32) (h : Int64) (g : Nat) (w9 : Nat) (hR : RW f 0) (hg : g < 16) (hw9 : w9 ≤ 6) : Met l yX7_ofGuest (ws_ yX7_ofGuest cX7_ofGuest 3 (some .int)) rmX7_ofGuest (pcR (dC, dI) [(cI, .int)] (mW cI o q0 q1 f x M h) [.ref o, .int (nI g), .int (nI w9)]) (vp_Si (fun r => r = fX7_ofGuest f g w9)) 0 0 (fun _ => False) := by
  refine Met.ofW (cc := cX7_ofGuest) (maxL := 3) (ret := (some .int)) (by decide) rfl ?_
  intro p e s m args below meth c s₁ B hml hv
  obtain ⟨ha, hP, hK, hn⟩ := hv
  have hx := B.exec
  have hb := B.bytes
  have hr := B.returns
  have hts0 := atoms_spec (ws := (ws_ yX7_ofGuest cX7_ofGuest 3 (some .int))) B.pre
  have hts : ∀ w ∈ lw_all, w.before args s = true := fun w h => hts0 w (List.mem_cons_of_mem _ h)
  have hown : s.vm.findClass RX7 = some m.cls := findClass_of_methodNamed B.named
  have hlocks := B.notSynchronized
  obtain ⟨Q, hQ⟩ : ∃ Q, Q = MQ below (vp_Si (fun r => r = fX7_ofGuest f g w9)) args s 0 0 (fun _ => False) := ⟨_, rfl⟩
  rw [← hQ]
  have hl := lv_entry ([.ref o, .int (nI g), .int (nI w9)]) (n := 3) (Nat.le_of_ble_eq_true rfl)
  rw [ha, lg_entry_eq, ← ha]
  generalize (lg_sl ([.ref o, .int (nI g), .int (nI w9)]) ++ List.replicate (3 - (lg_sl ([.ref o, .int (nI g), .int (nI w9)])).length) Slot.unset).toArray = ls at hl ⊢
  have hl : lv_has ls 3 [(0, .ref o), (1, .int (nI g)), (2, .int (nI w9))] := hl
  show W p l e rmX7_ofGuest s m args below meth c s.heap [] 0 0 Q (F0 m 0 ls [])
  have hF : fX7_ofGuest f g w9 = fX7_ofGuest f g w9 := rfl
  obtain ⟨-, rG0, rT0, -⟩ := id hR
  have rG : (f 0).toNatClampNeg ≤ 16 := rG0.c (by decide)
  have rT : (f 1).toNatClampNeg ≤ 4 := rT0.c (by decide)
  refine lv_iload_n hx hb dX7_ofGuest_0 rfl (lv_at hl 2 rfl) ?_
  refine lv_iconst (v := 5) hx hb dX7_ofGuest_1 (by decide) ?_
  refine lv_icmp_ge (tgt := 15) hx hb dX7_ofGuest_2 (by decide) (fun c_2 => ?_) (fun c_2 => ?_)
  · have hF := hF.trans (if_pos c_2)
    refine lv_iload_n hx hb dX7_ofGuest_15 rfl (lv_at hl 2 rfl) ?_
    refine lv_iconst (v := 5) hx hb dX7_ofGuest_16 (by decide) ?_
    refine lv_icmp_ne (tgt := 29) hx hb dX7_ofGuest_17 (by decide) (fun c_17 => ?_) (fun c_17 => ?_)
    · have hF := hF.trans (if_neg c_17)
      refine lv_aload_n hx hb dX7_ofGuest_29 rfl (lv_at hl 0 rfl) ?_
      refine lv_iconst (v := 0) hx hb dX7_ofGuest_30 (by decide) ?_
      refine lv_iload_n hx hb dX7_ofGuest_31 rfl (lv_at hl 1 rfl) ?_
      refine k_calli (W.runV (As := [.int 0, .int (nI g)]) (rest := []) ⟨hx, hb, hml, hown, hts0⟩ (mX7_pointsOf l dC dI cI o q0 q1 f x M h 0 g (by first | omega | assumption) (by first | omega | assumption)) (cwV 2 hts0 (gi_V u_1008 u_1010 us_31 u_7 u_1011) rfl rfl rfl (by decide +kernel) ⟨Nat.le_of_ble_eq_true rfl, Nat.le_of_ble_eq_true rfl⟩) (pcR_V (ci := 5) (q0 := 0) hP hK hn rfl rfl) rfl rfl hl.1 rfl (lv_room (Nat.le_of_ble_eq_true rfl)) dX7_ofGuest_32 ⟨Nat.zero_le _, Nat.zero_le _⟩) ?_
      rw [hQ]
      exact W.iret (v := (fX7_pointsOf f 0 g)) hx hb hr (fun t ht hW => ⟨(fX7_pointsOf f 0 g), rfl, hF.symm, ht⟩) (fun q hq => absurd hq List.not_mem_nil) dX7_ofGuest_35
    have hF := hF.trans (if_pos c_17)
    refine lv_aload_n hx hb dX7_ofGuest_20 rfl (lv_at hl 0 rfl) ?_
    refine lv_iconst (v := 0) hx hb dX7_ofGuest_21 (by decide) ?_
    refine lv_iload_n hx hb dX7_ofGuest_22 rfl (lv_at hl 1 rfl) ?_
    refine k_calli (W.runV (As := [.int 0, .int (nI g)]) (rest := []) ⟨hx, hb, hml, hown, hts0⟩ (mX7_metBy l dC dI cI o q0 q1 f x M h 0 g (by first | omega | assumption) (by first | omega | assumption)) (cwV 2 hts0 (gi_V u_1012 u_1014 us_32 u_7 u_1015) rfl rfl rfl (by decide +kernel) ⟨Nat.le_of_ble_eq_true rfl, Nat.le_of_ble_eq_true rfl⟩) (pcR_V (ci := 5) (q0 := 0) hP hK hn rfl rfl) rfl rfl hl.1 rfl (lv_room (Nat.le_of_ble_eq_true rfl)) dX7_ofGuest_23 ⟨Nat.zero_le _, Nat.zero_le _⟩) ?_
    refine lv_goto (tgt := 35) hx hb dX7_ofGuest_26 (by decide) ?_
    rw [hQ]
    exact W.iret (v := (fX7_metBy f 0 g)) hx hb hr (fun t ht hW => ⟨(fX7_metBy f 0 g), rfl, hF.symm, ht⟩) (fun q hq => absurd hq List.not_mem_nil) dX7_ofGuest_35
  have hF := hF.trans (if_neg c_2)
  have hw5 : w9 < 5 := Nat.lt_of_not_le (fun z => c_2 (nI_le (a := 5) z (by omega)))
  refine lv_aload_n hx hb dX7_ofGuest_5 rfl (lv_at hl 0 rfl) ?_
  refine lv_iconst (v := 0) hx hb dX7_ofGuest_6 (by decide) ?_
  refine lv_iload_n hx hb dX7_ofGuest_7 rfl (lv_at hl 1 rfl) ?_
  refine lv_iload_n hx hb dX7_ofGuest_8 rfl (lv_at hl 2 rfl) ?_
  refine k_calli (W.runV (As := [.int 0, .int (nI g), .int (nI w9)]) (rest := []) ⟨hx, hb, hml, hown, hts0⟩ (mX7_of l dC dI cI o q0 q1 f x M h 0 g w9 (by first | omega | assumption)) (cwV 3 hts0 (gi_V u_932 u_934 us_20 u_7 u_935) rfl rfl rfl (by decide +kernel) ⟨Nat.le_of_ble_eq_true rfl, Nat.le_of_ble_eq_true rfl⟩) (pcR_V (ci := 5) (q0 := 0) hP hK hn rfl rfl) rfl rfl hl.1 rfl (lv_room (Nat.le_of_ble_eq_true rfl)) dX7_ofGuest_9 ⟨Nat.zero_le _, Nat.zero_le _⟩) ?_
  refine lv_goto (tgt := 35) hx hb dX7_ofGuest_12 (by decide) ?_
  rw [hQ]
  exact W.iret (v := (fX7_of f 0 g w9)) hx hb hr (fun t ht hW => ⟨(fX7_of f 0 g w9), rfl, hF.symm, ht⟩) (fun q hq => absurd hq List.not_mem_nil) dX7_ofGuest_35

def fX7_character_b5 (f : Nat → Int32) (t5 : Nat) (kk5 : Nat) (x5_3 : Int32) (nextkk5 : Int32 → Int32) : Int32 :=
  (if x5_3 = 0 then (if (fX7_whoSits f 0 (nI t5) (nI kk5)) = (-1) then 46 else (65 + (fX7_of f 0 ((fX7_whoSits f 0 (nI t5) (nI kk5)).toNatClampNeg) 0))) else (if (fX7_isAtLeg (nI kk5)) = 0 then (nextkk5 (x5_3 + (-1))) else (if (x5_3 + (-1)) = 0 then 124 else (nextkk5 ((x5_3 + (-1)) + (-1))))))
def fX7_character_r5 (x5_3 : Int32) : Int32 :=
  (-1)
def fX7_character (f : Nat → Int32) (t5 : Nat) (i : Int32) : Int32 :=
  (lq1 (fX7_character_b5 f t5) fX7_character_r5 ((f (18 + t5)).toNatClampNeg) 0 i)
abbrev rmX7_character : Room := { frames := 2, cells := 0, slots := 0, locals := 47 }
set_option maxHeartbeats 4000000 in
set_option maxRecDepth 100000 in
theorem mX7_character (l : Launch) (dC : Nat → ClassId) (dI : Nat → Nat → Nat) (cI : ClassId) (o q0 q1 : Nat) (f x M : Nat → Int32) (h : Int64) (t5 : Nat) (i : Int32) (hR : RW f 0) (ht : t5 < 4) : Met l yX7_character (ws_ yX7_character cX7_character 6 (some .int)) rmX7_character (pcR (dC, dI) [(cI, .int)] (mW cI o q0 q1 f x M h) [.ref o, .int (nI t5), .int i]) (vp_Si (fun r => r = fX7_character f t5 i)) 0 0 (fun _ => False) := by
  refine Met.ofW (cc := cX7_character) (maxL := 6) (ret := (some .int)) (by decide) rfl ?_
  intro p e s m args below meth c s₁ B hml hv
  obtain ⟨ha, hP, hK, hn⟩ := hv
  have hx := B.exec
  have hb := B.bytes
  have hr := B.returns
  have hts0 := atoms_spec (ws := (ws_ yX7_character cX7_character 6 (some .int))) B.pre
  have hts : ∀ w ∈ lw_all, w.before args s = true := fun w h => hts0 w (List.mem_cons_of_mem _ h)
  have hown : s.vm.findClass RX7 = some m.cls := findClass_of_methodNamed B.named
  have hlocks := B.notSynchronized
  have htX7 : ∀ w ∈ wsX70, w.before args s = true := fun w h => hts w (wX7 w h)
  obtain ⟨Q, hQ⟩ : ∃ Q, Q = MQ below (vp_Si (fun r => r = fX7_character f t5 i)) args s 0 0 (fun _ => False) := ⟨_, rfl⟩
  rw [← hQ]
  have hl := lv_entry ([.ref o, .int (nI t5), .int i]) (n := 6) (Nat.le_of_ble_eq_true rfl)
  rw [ha, lg_entry_eq, ← ha]
  generalize (lg_sl ([.ref o, .int (nI t5), .int i]) ++ List.replicate (6 - (lg_sl ([.ref o, .int (nI t5), .int i])).length) Slot.unset).toArray = ls at hl ⊢
  have hl : lv_has ls 6 [(0, .ref o), (1, .int (nI t5)), (2, .int i)] := hl
  show W p l e rmX7_character s m args below meth c s.heap [] 0 0 Q (F0 m 0 ls [])
  have hF : fX7_character f t5 i = fX7_character f t5 i := rfl
  obtain ⟨-, rG0, rT0, -⟩ := id hR
  have rG : (f 0).toNatClampNeg ≤ 16 := rG0.c (by decide)
  have rT : (f 1).toNatClampNeg ≤ 4 := rT0.c (by decide)
  refine lv_iload_n hx hb dX7_character_0 rfl (lv_at hl 2 rfl) ?_
  refine lv_istore_n (lv' := [(3, .int i), (0, .ref o), (1, .int (nI t5)), (2, .int i)]) hx hb dX7_character_1 rfl hl (by decide) rfl (fun ls hl => ?_)
  refine lv_iconst (v := 0) hx hb dX7_character_2 (by decide) ?_
  refine lv_istore (lv' := [(4, .int 0), (3, .int i), (0, .ref o), (1, .int (nI t5)), (2, .int i)]) hx hb dX7_character_3 hl (by decide) rfl (fun ls hl => ?_)
  have L5 : ∀ (jj5 kk5 : Nat) (x5_3 : Int32), kk5 + jj5 = ((f (18 + t5)).toNatClampNeg) → fX7_character f t5 i = lq1 (fX7_character_b5 f t5) fX7_character_r5 jj5 kk5 x5_3 → ∀ (ls : Array Slot), lv_has ls 6 [(4, .int (nI kk5)), (3, .int x5_3), (0, .ref o), (1, .int (nI t5)), (2, .int i)] → W p l e rmX7_character s m args below meth c s.heap [] 0 0 Q (F0 m 5 ls []) := by
    intro jj5
    induction jj5 using Nat.strongRecOn with
    | _ jj5 ihkk5 =>
      intro kk5 x5_3 hkkk5 hF  ls hl
      refine lv_iload hx hb dX7_character_5 (lv_at hl 0 rfl) ?_
      refine lv_aload_n hx hb dX7_character_7 rfl (lv_at hl 2 rfl) ?_
      refine va_get (D := (dC, dI)) (ci := 5) (v := .ref q0) (C := RX7) (T := TX7) (N := 12) hx hb htX7 (fun _ h => h) hown hK hP 0 rfl rfl 1 (by decide) (hts _ u_858) (fun _ h9 => h9) rfl dX7_character_8 ?_
      refine lv_bipush (v := 18) hx hb dX7_character_11 (by decide) ?_
      refine lv_iload_n hx hb dX7_character_13 rfl (lv_at hl 3 rfl) ?_
      refine lv_iadd hx hb dX7_character_14 ?_
      refine lv_tope (y := (nI (18 + t5))) (nI_add 18 t5) ?_
      refine va_iald hx hb hK hP 1 0 rfl rfl (vp_in_nI (n := (18 + t5)) (by omega) (by decide)) dX7_character_15 ?_
      refine lv_tope (y := (f (18 + t5))) (at_nI (k := (18 + t5)) (by omega)) ?_
      refine lv_icmp_ge (tgt := 83) hx hb dX7_character_16 (by decide) (fun c_16 => ?_) (fun c_16 => ?_)
      · obtain rfl := cn_exit hkkk5 c_16
        have hF := hF.trans (lq1_z _ _ _ _)
        refine lv_iconst (v := (-1)) hx hb dX7_character_83 (by decide) ?_
        rw [hQ]
        exact W.iret (v := (-1)) hx hb hr (fun t ht hW => ⟨(-1), rfl, hF.symm, ht⟩) (fun q hq => absurd hq List.not_mem_nil) dX7_character_84
      obtain ⟨jj5, rfl⟩ := cn_go hkkk5 c_16
      have hF := hF.trans (lq1_s _ _ _ _ _)
      obtain ⟨nextkk5, hnextkk5⟩ : ∃ y9, y9 = lq1 (fX7_character_b5 f t5) fX7_character_r5 jj5 (kk5 + 1) := ⟨_, rfl⟩
      rw [← hnextkk5] at hF
      refine lv_aload_n hx hb dX7_character_19 rfl (lv_at hl 2 rfl) ?_
      refine lv_iconst (v := 0) hx hb dX7_character_20 (by decide) ?_
      refine lv_iload_n hx hb dX7_character_21 rfl (lv_at hl 3 rfl) ?_
      refine lv_iload hx hb dX7_character_22 (lv_at hl 0 rfl) ?_
      refine k_calli (W.runV (As := [.int 0, .int (nI t5), .int (nI kk5)]) (rest := []) ⟨hx, hb, hml, hown, hts0⟩ (mX7_whoSits l dC dI cI o q0 q1 f x M h 0 (nI t5) (nI kk5) (by first | omega | assumption)) (cwV 3 hts0 (gi_V u_993 u_995 us_28 u_7 u_996) rfl rfl rfl (by decide +kernel) ⟨Nat.le_of_ble_eq_true rfl, Nat.le_of_ble_eq_true rfl⟩) (pcR_V (ci := 5) (q0 := 0) hP hK hn rfl rfl) rfl rfl hl.1 rfl (lv_room (Nat.le_of_ble_eq_true rfl)) dX7_character_24 ⟨Nat.zero_le _, Nat.zero_le _⟩) ?_
      refine lv_istore (lv' := [(5, .int (fX7_whoSits f 0 (nI t5) (nI kk5))), (4, .int (nI kk5)), (3, .int x5_3), (0, .ref o), (1, .int (nI t5)), (2, .int i)]) hx hb dX7_character_27 hl (by decide) rfl (fun ls hl => ?_)
      refine lv_iload_n hx hb dX7_character_29 rfl (lv_at hl 2 rfl) ?_
      refine lv_if_ne (tgt := 56) hx hb dX7_character_30 (by decide) (fun c_30 => ?_) (fun c_30 => ?_)
      · have hF := hF.trans (if_neg c_30)
        refine lv_iinc (v := (x5_3 + (-1))) (lv' := [(3, .int (x5_3 + (-1))), (5, .int (fX7_whoSits f 0 (nI t5) (nI kk5))), (4, .int (nI kk5)), (0, .ref o), (1, .int (nI t5)), (2, .int i)]) hx hb dX7_character_56 hl (k := 2) rfl rfl (by decide) rfl (fun ls hl => ?_)
        refine lv_iload hx hb dX7_character_59 (lv_at hl 2 rfl) ?_
        refine k_callb (W.runS (As := [.int (nI kk5)]) (rest := []) ⟨hx, hb, hml, hown, hts0⟩ (mX7_isAtLeg l dC dI  (nI kk5)) (va_cwS 1 hts0 (gi_S u_997 u_998 u_7 u_999) rfl rfl rfl (by decide +kernel) ⟨Nat.le_of_ble_eq_true rfl, Nat.le_of_ble_eq_true rfl⟩) (pcR_S (hP.sub (ws' := []) [] rfl) (hK.sub (tys' := []) [] rfl) hn) rfl rfl hl.1 rfl (lv_room (Nat.le_of_ble_eq_true rfl)) dX7_character_61 ⟨Nat.zero_le _, Nat.zero_le _⟩) (fun br61 => ?_)
        refine lv_if_eq (tgt := 77) hx hb dX7_character_64 (by decide) (fun c_64 => ?_) (fun c_64 => ?_)
        · have hF := hF.trans (if_pos c_64)
          refine lv_iinc (v := (nI (kk5 + 1))) (lv' := [(4, .int (nI (kk5 + 1))), (3, .int (x5_3 + (-1))), (5, .int (fX7_whoSits f 0 (nI t5) (nI kk5))), (0, .ref o), (1, .int (nI t5)), (2, .int i)]) hx hb dX7_character_77 hl (k := 2) rfl (nI_1 _) (by decide) rfl (fun ls hl => ?_)
          refine lv_goto (tgt := 5) hx hb dX7_character_80 (by decide) ?_
          have hF : fX7_character f t5 i = nextkk5 (x5_3 + (-1)) := hF
          rw [hnextkk5] at hF
          exact ihkk5 jj5 (Nat.lt_succ_self _) (kk5 + 1) (x5_3 + (-1)) (cn_next hkkk5) hF ls (lv_sub hl [0, 1, 3, 4, 5] rfl)
        have hF := hF.trans (if_neg c_64)
        refine lv_iload_n hx hb dX7_character_67 rfl (lv_at hl 0 rfl) ?_
        refine lv_if_ne (tgt := 74) hx hb dX7_character_68 (by decide) (fun c_68 => ?_) (fun c_68 => ?_)
        · have hF := hF.trans (if_neg c_68)
          refine lv_iinc (v := ((x5_3 + (-1)) + (-1))) (lv' := [(3, .int ((x5_3 + (-1)) + (-1))), (5, .int (fX7_whoSits f 0 (nI t5) (nI kk5))), (4, .int (nI kk5)), (0, .ref o), (1, .int (nI t5)), (2, .int i)]) hx hb dX7_character_74 hl (k := 0) rfl rfl (by decide) rfl (fun ls hl => ?_)
          refine lv_iinc (v := (nI (kk5 + 1))) (lv' := [(4, .int (nI (kk5 + 1))), (3, .int ((x5_3 + (-1)) + (-1))), (5, .int (fX7_whoSits f 0 (nI t5) (nI kk5))), (0, .ref o), (1, .int (nI t5)), (2, .int i)]) hx hb dX7_character_77 hl (k := 2) rfl (nI_1 _) (by decide) rfl (fun ls hl => ?_)
          refine lv_goto (tgt := 5) hx hb dX7_character_80 (by decide) ?_
          have hF : fX7_character f t5 i = nextkk5 ((x5_3 + (-1)) + (-1)) := hF
          rw [hnextkk5] at hF
          exact ihkk5 jj5 (Nat.lt_succ_self _) (kk5 + 1) ((x5_3 + (-1)) + (-1)) (cn_next hkkk5) hF ls (lv_sub hl [0, 1, 3, 4, 5] rfl)
        have hF := hF.trans (if_pos c_68)
        refine lv_bipush (v := 124) hx hb dX7_character_71 (by decide) ?_
        rw [hQ]
        exact W.iret (v := 124) hx hb hr (fun t ht hW => ⟨124, rfl, hF.symm, ht⟩) (fun q hq => absurd hq List.not_mem_nil) dX7_character_73
      have hF := hF.trans (if_pos c_30)
      refine lv_iload hx hb dX7_character_33 (lv_at hl 0 rfl) ?_
      refine lv_iconst (v := (-1)) hx hb dX7_character_35 (by decide) ?_
      refine lv_icmp_ne (tgt := 44) hx hb dX7_character_36 (by decide) (fun c_36 => ?_) (fun c_36 => ?_)
      · have hF := hF.trans (if_neg c_36)
        refine lv_bipush (v := 65) hx hb dX7_character_44 (by decide) ?_
        obtain ⟨hwn, hwb⟩ := WW_nat (x := fX7_whoSits f 0 (nI t5) (nI kk5)) (whoSits_ww hR _ _) c_36
        refine lv_aload_n hx hb dX7_character_46 rfl (lv_at hl 3 rfl) ?_
        refine lv_iconst (v := 0) hx hb dX7_character_47 (by decide) ?_
        refine lv_iload hx hb dX7_character_48 (lv_at hl 0 rfl) ?_
        refine lv_tope (y := (nI (fX7_whoSits f 0 (nI t5) (nI kk5)).toNatClampNeg)) hwn ?_
        refine lv_iconst (v := 0) hx hb dX7_character_50 (by decide) ?_
        refine k_calli (W.runV (As := [.int 0, .int (nI (fX7_whoSits f 0 (nI t5) (nI kk5)).toNatClampNeg), .int 0]) (rest := [.int 65]) ⟨hx, hb, hml, hown, hts0⟩ (mX7_of l dC dI cI o q0 q1 f x M h 0 ((fX7_whoSits f 0 (nI t5) (nI kk5)).toNatClampNeg) 0 (by first | omega | assumption)) (cwV 3 hts0 (gi_V u_932 u_934 us_20 u_7 u_935) rfl rfl rfl (by decide +kernel) ⟨Nat.le_of_ble_eq_true rfl, Nat.le_of_ble_eq_true rfl⟩) (pcR_V (ci := 5) (q0 := 0) hP hK hn rfl rfl) rfl rfl hl.1 rfl (lv_room (Nat.le_of_ble_eq_true rfl)) dX7_character_51 ⟨Nat.zero_le _, Nat.zero_le _⟩) ?_
        refine lv_iadd hx hb dX7_character_54 ?_
        rw [hQ]
        exact W.iret (v := (65 + (fX7_of f 0 ((fX7_whoSits f 0 (nI t5) (nI kk5)).toNatClampNeg) 0))) hx hb hr (fun t ht hW => ⟨(65 + (fX7_of f 0 ((fX7_whoSits f 0 (nI t5) (nI kk5)).toNatClampNeg) 0)), rfl, hF.symm, ht⟩) (fun q hq => absurd hq List.not_mem_nil) dX7_character_55
      have hF := hF.trans (if_pos c_36)
      refine lv_bipush (v := 46) hx hb dX7_character_39 (by decide) ?_
      refine lv_goto (tgt := 55) hx hb dX7_character_41 (by decide) ?_
      rw [hQ]
      exact W.iret (v := 46) hx hb hr (fun t ht hW => ⟨46, rfl, hF.symm, ht⟩) (fun q hq => absurd hq List.not_mem_nil) dX7_character_55
  exact L5 ((f (18 + t5)).toNatClampNeg) 0 i (Nat.zero_add _) hF ls (lv_sub hl [0, 1, 2, 3, 4] rfl)

def fX7_ofTable_b11 (f : Nat → Int32) (t5 : Nat) (kk11 : Nat) (x11_5 : Int32) (x11_4 : Int32) (x11_3 : Int32) (nextkk11 : Int32 → Int32 → Int32 → Int32) : Int32 :=
  (bd ((if (fX7_whoSits f 0 (nI t5) (nI kk11)) = (-1) then 0 else 1) : Nat) (fun v39_0 => (bd ((if (fX7_whoSits f 0 (nI t5) (nI kk11)) = (-1) then 0 else ((1 : Int32) <<< ((fX7_of f 0 ((fX7_whoSits f 0 (nI t5) (nI kk11)).toNatClampNeg) 0) &&& 31))) : Int32) (fun v54_0 => (bd ((if (fX7_whoSits f 0 (nI t5) (nI kk11)) = (-1) then (if (fX7_isAtLeg (nI kk11)) = 0 then 1 else 0) else 0) : Nat) (fun v79_0 => (nextkk11 (x11_5 + (nI v79_0)) (x11_4 ||| v54_0) (x11_3 + (nI v39_0)))))))))
def fX7_ofTable_r11 (f : Nat → Int32) (t5 : Nat) (w : Int32) (x11_5 : Int32) (x11_4 : Int32) (x11_3 : Int32) : Int32 :=
  (if w = 0 then (f (18 + t5)) else (if w = 1 then x11_3 else (if w = 2 then x11_4 else (if w = 3 then (fX7_points f 0 (nI t5)) else x11_5))))
def fX7_ofTable (f : Nat → Int32) (t5 : Nat) (w : Int32) : Int32 :=
  (lq3 (fX7_ofTable_b11 f t5) (fX7_ofTable_r11 f t5 w) ((f (18 + t5)).toNatClampNeg) 0 0 0 0)
abbrev rmX7_ofTable : Room := { frames := 4, cells := 0, slots := 0, locals := 96 }
set_option maxHeartbeats 4000000 in
set_option maxRecDepth 100000 in
theorem mX7_ofTable (l : Launch) (dC : Nat → ClassId) (dI : Nat → Nat → Nat) (cI : ClassId) (o q0 q1 : Nat) (f x M : Nat → Int32) (h : Int64) (t5 : Nat) (w : Int32) (hR : RW f 0) (ht : t5 < 4) : Met l yX7_ofTable (ws_ yX7_ofTable cX7_ofTable 8 (some .int)) rmX7_ofTable (pcR (dC, dI) [(cI, .int)] (mW cI o q0 q1 f x M h) [.ref o, .int (nI t5), .int w]) (vp_Si (fun r => r = fX7_ofTable f t5 w)) 0 0 (fun _ => False) := by
  refine Met.ofW (cc := cX7_ofTable) (maxL := 8) (ret := (some .int)) (by decide) rfl ?_
  intro p e s m args below meth c s₁ B hml hv
  obtain ⟨ha, hP, hK, hn⟩ := hv
  have hx := B.exec
  have hb := B.bytes
  have hr := B.returns
  have hts0 := atoms_spec (ws := (ws_ yX7_ofTable cX7_ofTable 8 (some .int))) B.pre
  have hts : ∀ w ∈ lw_all, w.before args s = true := fun w h => hts0 w (List.mem_cons_of_mem _ h)
  have hown : s.vm.findClass RX7 = some m.cls := findClass_of_methodNamed B.named
  have hlocks := B.notSynchronized
  have htX7 : ∀ w ∈ wsX70, w.before args s = true := fun w h => hts w (wX7 w h)
  obtain ⟨Q, hQ⟩ : ∃ Q, Q = MQ below (vp_Si (fun r => r = fX7_ofTable f t5 w)) args s 0 0 (fun _ => False) := ⟨_, rfl⟩
  rw [← hQ]
  have hl := lv_entry ([.ref o, .int (nI t5), .int w]) (n := 8) (Nat.le_of_ble_eq_true rfl)
  rw [ha, lg_entry_eq, ← ha]
  generalize (lg_sl ([.ref o, .int (nI t5), .int w]) ++ List.replicate (8 - (lg_sl ([.ref o, .int (nI t5), .int w])).length) Slot.unset).toArray = ls at hl ⊢
  have hl : lv_has ls 8 [(0, .ref o), (1, .int (nI t5)), (2, .int w)] := hl
  show W p l e rmX7_ofTable s m args below meth c s.heap [] 0 0 Q (F0 m 0 ls [])
  have hF : fX7_ofTable f t5 w = fX7_ofTable f t5 w := rfl
  obtain ⟨-, rG0, rT0, -⟩ := id hR
  have rG : (f 0).toNatClampNeg ≤ 16 := rG0.c (by decide)
  have rT : (f 1).toNatClampNeg ≤ 4 := rT0.c (by decide)
  refine lv_iconst (v := 0) hx hb dX7_ofTable_0 (by decide) ?_
  refine lv_istore_n (lv' := [(3, .int 0), (0, .ref o), (1, .int (nI t5)), (2, .int w)]) hx hb dX7_ofTable_1 rfl hl (by decide) rfl (fun ls hl => ?_)
  refine lv_iconst (v := 0) hx hb dX7_ofTable_2 (by decide) ?_
  refine lv_istore (lv' := [(4, .int 0), (3, .int 0), (0, .ref o), (1, .int (nI t5)), (2, .int w)]) hx hb dX7_ofTable_3 hl (by decide) rfl (fun ls hl => ?_)
  refine lv_iconst (v := 0) hx hb dX7_ofTable_5 (by decide) ?_
  refine lv_istore (lv' := [(5, .int 0), (4, .int 0), (3, .int 0), (0, .ref o), (1, .int (nI t5)), (2, .int w)]) hx hb dX7_ofTable_6 hl (by decide) rfl (fun ls hl => ?_)
  refine lv_iconst (v := 0) hx hb dX7_ofTable_8 (by decide) ?_
  refine lv_istore (lv' := [(6, .int 0), (5, .int 0), (4, .int 0), (3, .int 0), (0, .ref o), (1, .int (nI t5)), (2, .int w)]) hx hb dX7_ofTable_9 hl (by decide) rfl (fun ls hl => ?_)
  have L11 : ∀ (jj11 kk11 : Nat) (x11_5 : Int32) (x11_4 : Int32) (x11_3 : Int32), kk11 + jj11 = ((f (18 + t5)).toNatClampNeg) → fX7_ofTable f t5 w = lq3 (fX7_ofTable_b11 f t5) (fX7_ofTable_r11 f t5 w) jj11 kk11 x11_5 x11_4 x11_3 → ∀ (ls : Array Slot), lv_has ls 8 [(6, .int (nI kk11)), (5, .int x11_5), (4, .int x11_4), (3, .int x11_3), (0, .ref o), (1, .int (nI t5)), (2, .int w)] → W p l e rmX7_ofTable s m args below meth c s.heap [] 0 0 Q (F0 m 11 ls []) := by
    intro jj11
    induction jj11 using Nat.strongRecOn with
    | _ jj11 ihkk11 =>
      intro kk11 x11_5 x11_4 x11_3 hkkk11 hF  ls hl
      refine lv_iload hx hb dX7_ofTable_11 (lv_at hl 0 rfl) ?_
      refine lv_aload_n hx hb dX7_ofTable_13 rfl (lv_at hl 4 rfl) ?_
      refine va_get (D := (dC, dI)) (ci := 5) (v := .ref q0) (C := RX7) (T := TX7) (N := 12) hx hb htX7 (fun _ h => h) hown hK hP 0 rfl rfl 1 (by decide) (hts _ u_858) (fun _ h9 => h9) rfl dX7_ofTable_14 ?_
      refine lv_bipush (v := 18) hx hb dX7_ofTable_17 (by decide) ?_
      refine lv_iload_n hx hb dX7_ofTable_19 rfl (lv_at hl 5 rfl) ?_
      refine lv_iadd hx hb dX7_ofTable_20 ?_
      refine lv_tope (y := (nI (18 + t5))) (nI_add 18 t5) ?_
      refine va_iald hx hb hK hP 1 0 rfl rfl (vp_in_nI (n := (18 + t5)) (by omega) (by decide)) dX7_ofTable_21 ?_
      refine lv_tope (y := (f (18 + t5))) (at_nI (k := (18 + t5)) (by omega)) ?_
      refine lv_icmp_ge (tgt := 104) hx hb dX7_ofTable_22 (by decide) (fun c_22 => ?_) (fun c_22 => ?_)
      · obtain rfl := cn_exit hkkk11 c_22
        have hF := hF.trans (lq3_z _ _ _ _ _ _)
        refine lv_iload_n hx hb dX7_ofTable_104 rfl (lv_at hl 6 rfl) ?_
        by_cases c_105_0 : w = 0
        · have hF := hF.trans (if_pos c_105_0)
          refine lv_tableIn (off := 31) (tgt := 136) hx hb dX7_ofTable_105 (by rw [c_105_0]; decide) (by rw [c_105_0]; decide) (by rw [c_105_0]; rfl) (by decide) ?_
          refine lv_aload_n hx hb dX7_ofTable_136 rfl (lv_at hl 4 rfl) ?_
          refine va_get (D := (dC, dI)) (ci := 5) (v := .ref q0) (C := RX7) (T := TX7) (N := 12) hx hb htX7 (fun _ h => h) hown hK hP 0 rfl rfl 1 (by decide) (hts _ u_858) (fun _ h9 => h9) rfl dX7_ofTable_137 ?_
          refine lv_bipush (v := 18) hx hb dX7_ofTable_140 (by decide) ?_
          refine lv_iload_n hx hb dX7_ofTable_142 rfl (lv_at hl 5 rfl) ?_
          refine lv_iadd hx hb dX7_ofTable_143 ?_
          refine lv_tope (y := (nI (18 + t5))) (nI_add 18 t5) ?_
          refine va_iald hx hb hK hP 1 0 rfl rfl (vp_in_nI (n := (18 + t5)) (by omega) (by decide)) dX7_ofTable_144 ?_
          refine lv_tope (y := (f (18 + t5))) (at_nI (k := (18 + t5)) (by omega)) ?_
          rw [hQ]
          exact W.iret (v := (f (18 + t5))) hx hb hr (fun t ht hW => ⟨(f (18 + t5)), rfl, hF.symm, ht⟩) (fun q hq => absurd hq List.not_mem_nil) dX7_ofTable_145
        have hF := hF.trans (if_neg c_105_0)
        by_cases c_105_1 : w = 1
        · have hF := hF.trans (if_pos c_105_1)
          refine lv_tableIn (off := 41) (tgt := 146) hx hb dX7_ofTable_105 (by rw [c_105_1]; decide) (by rw [c_105_1]; decide) (by rw [c_105_1]; rfl) (by decide) ?_
          refine lv_iload_n hx hb dX7_ofTable_146 rfl (lv_at hl 3 rfl) ?_
          rw [hQ]
          exact W.iret (v := x11_3) hx hb hr (fun t ht hW => ⟨x11_3, rfl, hF.symm, ht⟩) (fun q hq => absurd hq List.not_mem_nil) dX7_ofTable_147
        have hF := hF.trans (if_neg c_105_1)
        by_cases c_105_2 : w = 2
        · have hF := hF.trans (if_pos c_105_2)
          refine lv_tableIn (off := 43) (tgt := 148) hx hb dX7_ofTable_105 (by rw [c_105_2]; decide) (by rw [c_105_2]; decide) (by rw [c_105_2]; rfl) (by decide) ?_
          refine lv_iload hx hb dX7_ofTable_148 (lv_at hl 2 rfl) ?_
          rw [hQ]
          exact W.iret (v := x11_4) hx hb hr (fun t ht hW => ⟨x11_4, rfl, hF.symm, ht⟩) (fun q hq => absurd hq List.not_mem_nil) dX7_ofTable_150
        have hF := hF.trans (if_neg c_105_2)
        by_cases c_105_3 : w = 3
        · have hF := hF.trans (if_pos c_105_3)
          refine lv_tableIn (off := 46) (tgt := 151) hx hb dX7_ofTable_105 (by rw [c_105_3]; decide) (by rw [c_105_3]; decide) (by rw [c_105_3]; rfl) (by decide) ?_
          refine lv_aload_n hx hb dX7_ofTable_151 rfl (lv_at hl 4 rfl) ?_
          refine lv_iconst (v := 0) hx hb dX7_ofTable_152 (by decide) ?_
          refine lv_iload_n hx hb dX7_ofTable_153 rfl (lv_at hl 5 rfl) ?_
          refine k_calli (W.runV (As := [.int 0, .int (nI t5)]) (rest := []) ⟨hx, hb, hml, hown, hts0⟩ (mX7_points l dC dI cI o q0 q1 f x M h 0 (nI t5) (by first | omega | assumption)) (cwV 2 hts0 (gi_V u_1004 u_1006 us_30 u_7 u_1007) rfl rfl rfl (by decide +kernel) ⟨Nat.le_of_ble_eq_true rfl, Nat.le_of_ble_eq_true rfl⟩) (pcR_V (ci := 5) (q0 := 0) hP hK hn rfl rfl) rfl rfl hl.1 rfl (lv_room (Nat.le_of_ble_eq_true rfl)) dX7_ofTable_154 ⟨Nat.zero_le _, Nat.zero_le _⟩) ?_
          rw [hQ]
          exact W.iret (v := (fX7_points f 0 (nI t5))) hx hb hr (fun t ht hW => ⟨(fX7_points f 0 (nI t5)), rfl, hF.symm, ht⟩) (fun q hq => absurd hq List.not_mem_nil) dX7_ofTable_157
        have hF := hF.trans (if_neg c_105_3)
        refine lv_tableOut (tgt := 158) hx hb dX7_ofTable_105 (by have hc_105_0 : (w).toInt ≠ 0 := neI c_105_0; have hc_105_1 : (w).toInt ≠ 1 := neI c_105_1; have hc_105_2 : (w).toInt ≠ 2 := neI c_105_2; have hc_105_3 : (w).toInt ≠ 3 := neI c_105_3; omega) (by decide) ?_
        refine lv_iload hx hb dX7_ofTable_158 (lv_at hl 1 rfl) ?_
        rw [hQ]
        exact W.iret (v := x11_5) hx hb hr (fun t ht hW => ⟨x11_5, rfl, hF.symm, ht⟩) (fun q hq => absurd hq List.not_mem_nil) dX7_ofTable_160
      obtain ⟨jj11, rfl⟩ := cn_go hkkk11 c_22
      have hF := hF.trans (lq3_s _ _ _ _ _ _ _)
      obtain ⟨nextkk11, hnextkk11⟩ : ∃ y9, y9 = lq3 (fX7_ofTable_b11 f t5) (fX7_ofTable_r11 f t5 w) jj11 (kk11 + 1) := ⟨_, rfl⟩
      rw [← hnextkk11] at hF
      refine lv_aload_n hx hb dX7_ofTable_25 rfl (lv_at hl 4 rfl) ?_
      refine lv_iconst (v := 0) hx hb dX7_ofTable_26 (by decide) ?_
      refine lv_iload_n hx hb dX7_ofTable_27 rfl (lv_at hl 5 rfl) ?_
      refine lv_iload hx hb dX7_ofTable_28 (lv_at hl 0 rfl) ?_
      refine k_calli (W.runV (As := [.int 0, .int (nI t5), .int (nI kk11)]) (rest := []) ⟨hx, hb, hml, hown, hts0⟩ (mX7_whoSits l dC dI cI o q0 q1 f x M h 0 (nI t5) (nI kk11) (by first | omega | assumption)) (cwV 3 hts0 (gi_V u_993 u_995 us_28 u_7 u_996) rfl rfl rfl (by decide +kernel) ⟨Nat.le_of_ble_eq_true rfl, Nat.le_of_ble_eq_true rfl⟩) (pcR_V (ci := 5) (q0 := 0) hP hK hn rfl rfl) rfl rfl hl.1 rfl (lv_room (Nat.le_of_ble_eq_true rfl)) dX7_ofTable_30 ⟨Nat.zero_le _, Nat.zero_le _⟩) ?_
      refine lv_istore (lv' := [(7, .int (fX7_whoSits f 0 (nI t5) (nI kk11))), (6, .int (nI kk11)), (5, .int x11_5), (4, .int x11_4), (3, .int x11_3), (0, .ref o), (1, .int (nI t5)), (2, .int w)]) hx hb dX7_ofTable_33 hl (by decide) rfl (fun ls hl => ?_)
      refine lv_iload_n hx hb dX7_ofTable_35 rfl (lv_at hl 4 rfl) ?_
      refine lv_iload hx hb dX7_ofTable_36 (lv_at hl 0 rfl) ?_
      refine lv_iconst (v := (-1)) hx hb dX7_ofTable_38 (by decide) ?_
      have K39 : ∀ (v39_0 : Nat), v39_0 = (if (fX7_whoSits f 0 (nI t5) (nI kk11)) = (-1) then 0 else 1) → ∀ (ls : Array Slot), lv_has ls 8 [(7, .int (fX7_whoSits f 0 (nI t5) (nI kk11))), (6, .int (nI kk11)), (5, .int x11_5), (4, .int x11_4), (3, .int x11_3), (0, .ref o), (1, .int (nI t5)), (2, .int w)] → W p l e rmX7_ofTable s m args below meth c s.heap [] 0 0 Q (F0 m 47 ls [.int (nI v39_0), .int x11_3]) := by
        intro v39_0 hz39  ls hl
        have hz := hz39
        have bz39 : (nI v39_0 : Int32) = 0 ∨ nI v39_0 = 1 := by rw [hz]; (repeat' split); all_goals first | exact Or.inl rfl | exact Or.inr rfl
        have hF := bd_at hF hz
        refine lv_iadd hx hb dX7_ofTable_47 ?_
        refine lv_istore_n (lv' := [(3, .int (x11_3 + (nI v39_0))), (7, .int (fX7_whoSits f 0 (nI t5) (nI kk11))), (6, .int (nI kk11)), (5, .int x11_5), (4, .int x11_4), (0, .ref o), (1, .int (nI t5)), (2, .int w)]) hx hb dX7_ofTable_48 rfl hl (by decide) rfl (fun ls hl => ?_)
        refine lv_iload hx hb dX7_ofTable_49 (lv_at hl 4 rfl) ?_
        refine lv_iload hx hb dX7_ofTable_51 (lv_at hl 1 rfl) ?_
        refine lv_iconst (v := (-1)) hx hb dX7_ofTable_53 (by decide) ?_
        have K54 : ∀ (v54_0 : Int32), v54_0 = (if (fX7_whoSits f 0 (nI t5) (nI kk11)) = (-1) then 0 else ((1 : Int32) <<< ((fX7_of f 0 ((fX7_whoSits f 0 (nI t5) (nI kk11)).toNatClampNeg) 0) &&& 31))) → ∀ (ls : Array Slot), lv_has ls 8 [(3, .int (x11_3 + (nI v39_0))), (7, .int (fX7_whoSits f 0 (nI t5) (nI kk11))), (6, .int (nI kk11)), (5, .int x11_5), (4, .int x11_4), (0, .ref o), (1, .int (nI t5)), (2, .int w)] → W p l e rmX7_ofTable s m args below meth c s.heap [] 0 0 Q (F0 m 71 ls [.int v54_0, .int x11_4]) := by
          intro v54_0 hz54  ls hl
          have hz := hz54
          have hF := bd_at hF hz
          refine lv_ior hx hb dX7_ofTable_71 ?_
          refine lv_istore (lv' := [(4, .int (x11_4 ||| v54_0)), (3, .int (x11_3 + (nI v39_0))), (7, .int (fX7_whoSits f 0 (nI t5) (nI kk11))), (6, .int (nI kk11)), (5, .int x11_5), (0, .ref o), (1, .int (nI t5)), (2, .int w)]) hx hb dX7_ofTable_72 hl (by decide) rfl (fun ls hl => ?_)
          refine lv_iload hx hb dX7_ofTable_74 (lv_at hl 4 rfl) ?_
          refine lv_iload hx hb dX7_ofTable_76 (lv_at hl 2 rfl) ?_
          refine lv_iconst (v := (-1)) hx hb dX7_ofTable_78 (by decide) ?_
          have K79 : ∀ (v79_0 : Nat), v79_0 = (if (fX7_whoSits f 0 (nI t5) (nI kk11)) = (-1) then (if (fX7_isAtLeg (nI kk11)) = 0 then 1 else 0) else 0) → ∀ (ls : Array Slot), lv_has ls 8 [(4, .int (x11_4 ||| v54_0)), (3, .int (x11_3 + (nI v39_0))), (7, .int (fX7_whoSits f 0 (nI t5) (nI kk11))), (6, .int (nI kk11)), (5, .int x11_5), (0, .ref o), (1, .int (nI t5)), (2, .int w)] → W p l e rmX7_ofTable s m args below meth c s.heap [] 0 0 Q (F0 m 95 ls [.int (nI v79_0), .int x11_5]) := by
            intro v79_0 hz79  ls hl
            have hz := hz79
            have bz79 : (nI v79_0 : Int32) = 0 ∨ nI v79_0 = 1 := by rw [hz]; (repeat' split); all_goals first | exact Or.inl rfl | exact Or.inr rfl
            have hF := bd_at hF hz
            refine lv_iadd hx hb dX7_ofTable_95 ?_
            refine lv_istore (lv' := [(5, .int (x11_5 + (nI v79_0))), (4, .int (x11_4 ||| v54_0)), (3, .int (x11_3 + (nI v39_0))), (7, .int (fX7_whoSits f 0 (nI t5) (nI kk11))), (6, .int (nI kk11)), (0, .ref o), (1, .int (nI t5)), (2, .int w)]) hx hb dX7_ofTable_96 hl (by decide) rfl (fun ls hl => ?_)
            refine lv_iinc (v := (nI (kk11 + 1))) (lv' := [(6, .int (nI (kk11 + 1))), (5, .int (x11_5 + (nI v79_0))), (4, .int (x11_4 ||| v54_0)), (3, .int (x11_3 + (nI v39_0))), (7, .int (fX7_whoSits f 0 (nI t5) (nI kk11))), (0, .ref o), (1, .int (nI t5)), (2, .int w)]) hx hb dX7_ofTable_98 hl (k := 4) rfl (nI_1 _) (by decide) rfl (fun ls hl => ?_)
            refine lv_goto (tgt := 11) hx hb dX7_ofTable_101 (by decide) ?_
            have hF : fX7_ofTable f t5 w = nextkk11 (x11_5 + (nI v79_0)) (x11_4 ||| v54_0) (x11_3 + (nI v39_0)) := hF
            rw [hnextkk11] at hF
            exact ihkk11 jj11 (Nat.lt_succ_self _) (kk11 + 1) (x11_5 + (nI v79_0)) (x11_4 ||| v54_0) (x11_3 + (nI v39_0)) (cn_next hkkk11) hF ls (lv_sub hl [0, 1, 2, 3, 5, 6, 7] rfl)
          have hF : ((if (fX7_whoSits f 0 (nI t5) (nI kk11)) = (-1) then (if (fX7_isAtLeg (nI kk11)) = 0 then 1 else 0) else 0) : Nat) = (if (fX7_whoSits f 0 (nI t5) (nI kk11)) = (-1) then (if (fX7_isAtLeg (nI kk11)) = 0 then 1 else 0) else 0) := rfl
          refine lv_icmp_ne (tgt := 94) hx hb dX7_ofTable_79 (by decide) (fun c_79 => ?_) (fun c_79 => ?_)
          · have hF := hF.trans (if_neg c_79)
            refine lv_iconst (v := 0) hx hb dX7_ofTable_94 (by decide) ?_
            exact K79 _ hF.symm  ls (lv_sub hl [0, 1, 2, 3, 4, 5, 6, 7] rfl)
          have hF := hF.trans (if_pos c_79)
          refine lv_iload hx hb dX7_ofTable_82 (lv_at hl 3 rfl) ?_
          refine k_callb (W.runS (As := [.int (nI kk11)]) (rest := [.int x11_5]) ⟨hx, hb, hml, hown, hts0⟩ (mX7_isAtLeg l dC dI  (nI kk11)) (va_cwS 1 hts0 (gi_S u_997 u_998 u_7 u_999) rfl rfl rfl (by decide +kernel) ⟨Nat.le_of_ble_eq_true rfl, Nat.le_of_ble_eq_true rfl⟩) (pcR_S (hP.sub (ws' := []) [] rfl) (hK.sub (tys' := []) [] rfl) hn) rfl rfl hl.1 rfl (lv_room (Nat.le_of_ble_eq_true rfl)) dX7_ofTable_84 ⟨Nat.zero_le _, Nat.zero_le _⟩) (fun br84 => ?_)
          refine lv_if_ne (tgt := 94) hx hb dX7_ofTable_87 (by decide) (fun c_87 => ?_) (fun c_87 => ?_)
          · have hF := hF.trans (if_neg c_87)
            refine lv_iconst (v := 0) hx hb dX7_ofTable_94 (by decide) ?_
            exact K79 _ hF.symm  ls (lv_sub hl [0, 1, 2, 3, 4, 5, 6, 7] rfl)
          have hF := hF.trans (if_pos c_87)
          refine lv_iconst (v := 1) hx hb dX7_ofTable_90 (by decide) ?_
          refine lv_goto (tgt := 95) hx hb dX7_ofTable_91 (by decide) ?_
          exact K79 _ hF.symm  ls (lv_sub hl [0, 1, 2, 3, 4, 5, 6, 7] rfl)
        have hF : ((if (fX7_whoSits f 0 (nI t5) (nI kk11)) = (-1) then 0 else ((1 : Int32) <<< ((fX7_of f 0 ((fX7_whoSits f 0 (nI t5) (nI kk11)).toNatClampNeg) 0) &&& 31))) : Int32) = (if (fX7_whoSits f 0 (nI t5) (nI kk11)) = (-1) then 0 else ((1 : Int32) <<< ((fX7_of f 0 ((fX7_whoSits f 0 (nI t5) (nI kk11)).toNatClampNeg) 0) &&& 31))) := rfl
        refine lv_icmp_ne (tgt := 61) hx hb dX7_ofTable_54 (by decide) (fun c_54 => ?_) (fun c_54 => ?_)
        · have hF := hF.trans (if_neg c_54)
          obtain ⟨hwn, hwb⟩ := WW_nat (x := fX7_whoSits f 0 (nI t5) (nI kk11)) (whoSits_ww hR _ _) c_54
          refine lv_iconst (v := 1) hx hb dX7_ofTable_61 (by decide) ?_
          refine lv_aload_n hx hb dX7_ofTable_62 rfl (lv_at hl 5 rfl) ?_
          refine lv_iconst (v := 0) hx hb dX7_ofTable_63 (by decide) ?_
          refine lv_iload hx hb dX7_ofTable_64 (lv_at hl 1 rfl) ?_
          refine lv_tope (y := (nI (fX7_whoSits f 0 (nI t5) (nI kk11)).toNatClampNeg)) hwn ?_
          refine lv_iconst (v := 0) hx hb dX7_ofTable_66 (by decide) ?_
          refine k_calli (W.runV (As := [.int 0, .int (nI (fX7_whoSits f 0 (nI t5) (nI kk11)).toNatClampNeg), .int 0]) (rest := [.int 1, .int x11_4]) ⟨hx, hb, hml, hown, hts0⟩ (mX7_of l dC dI cI o q0 q1 f x M h 0 ((fX7_whoSits f 0 (nI t5) (nI kk11)).toNatClampNeg) 0 (by first | omega | assumption)) (cwV 3 hts0 (gi_V u_932 u_934 us_20 u_7 u_935) rfl rfl rfl (by decide +kernel) ⟨Nat.le_of_ble_eq_true rfl, Nat.le_of_ble_eq_true rfl⟩) (pcR_V (ci := 5) (q0 := 0) hP hK hn rfl rfl) rfl rfl hl.1 rfl (lv_room (Nat.le_of_ble_eq_true rfl)) dX7_ofTable_67 ⟨Nat.zero_le _, Nat.zero_le _⟩) ?_
          refine lv_ishl hx hb dX7_ofTable_70 ?_
          exact K54 _ hF.symm  ls (lv_sub hl [0, 1, 2, 3, 4, 5, 6, 7] rfl)
        have hF := hF.trans (if_pos c_54)
        refine lv_iconst (v := 0) hx hb dX7_ofTable_57 (by decide) ?_
        refine lv_goto (tgt := 71) hx hb dX7_ofTable_58 (by decide) ?_
        exact K54 _ hF.symm  ls (lv_sub hl [0, 1, 2, 3, 4, 5, 6, 7] rfl)
      have hF : ((if (fX7_whoSits f 0 (nI t5) (nI kk11)) = (-1) then 0 else 1) : Nat) = (if (fX7_whoSits f 0 (nI t5) (nI kk11)) = (-1) then 0 else 1) := rfl
      refine lv_icmp_ne (tgt := 46) hx hb dX7_ofTable_39 (by decide) (fun c_39 => ?_) (fun c_39 => ?_)
      · have hF := hF.trans (if_neg c_39)
        refine lv_iconst (v := 1) hx hb dX7_ofTable_46 (by decide) ?_
        exact K39 _ hF.symm  ls (lv_sub hl [0, 1, 2, 3, 4, 5, 6, 7] rfl)
      have hF := hF.trans (if_pos c_39)
      refine lv_iconst (v := 0) hx hb dX7_ofTable_42 (by decide) ?_
      refine lv_goto (tgt := 47) hx hb dX7_ofTable_43 (by decide) ?_
      exact K39 _ hF.symm  ls (lv_sub hl [0, 1, 2, 3, 4, 5, 6, 7] rfl)
  exact L11 ((f (18 + t5)).toNatClampNeg) 0 0 0 0 (Nat.zero_add _) hF ls (lv_sub hl [0, 1, 2, 3, 4, 5, 6] rfl)

def fX7_counted (f : Nat → Int32) (M : Nat → Int32) (w9 : Nat) : Int32 :=
  (if (nI w9) = 4 then (fX7_points f 0 (-1)) else (if (nI w9) = 5 then (fX7_points f 0 (-1)) else (if (nI w9) = 6 then (fX7_wishes f 1) else (if (nI w9) = 7 then (f ((4 + w9) - 7)) else (if (nI w9) = 8 then (f ((4 + w9) - 7)) else (if (nI w9) = 9 then (if 4 ≤ (nI w9) then (f ((6 + w9) - 9)) else (f w9)) else (if (nI w9) = 10 then (if 4 ≤ (nI w9) then (f ((6 + w9) - 9)) else (f w9)) else (if (nI w9) = 11 then (if 4 ≤ (nI w9) then (f ((6 + w9) - 9)) else (f w9)) else (if (nI w9) = 12 then (if 4 ≤ (nI w9) then (f ((6 + w9) - 9)) else (f w9)) else (if (nI w9) = 13 then (M 1) else (if 4 ≤ (nI w9) then (f ((6 + w9) - 9)) else (f w9))))))))))))
abbrev rmX7_counted : Room := { frames := 4, cells := 0, slots := 0, locals := 96 }
set_option maxHeartbeats 4000000 in
set_option maxRecDepth 100000 in
theorem mX7_counted (l : Launch) (dC : Nat → ClassId) (dI : Nat → Nat → Nat) (cI : ClassId) (o q0 q1 : Nat) (f x M : Nat → Int32) (h : Int64) (w9 : Nat) (hR : RW f 0) (hw9 : w9 ≤ 13) : Met l yX7_counted (ws_ yX7_counted cX7_counted 2 (some .int)) rmX7_counted (pcR (dC, dI) [(cI, .int)] (mW cI o q0 q1 f x M h) [.ref o, .int (nI w9)]) (vp_Si (fun r => r = fX7_counted f M w9)) 0 0 (fun _ => False) := by
  refine Met.ofW (cc := cX7_counted) (maxL := 2) (ret := (some .int)) (by decide) rfl ?_
  intro p e s m args below meth c s₁ B hml hv
  obtain ⟨ha, hP, hK, hn⟩ := hv
  have hx := B.exec
  have hb := B.bytes
  have hr := B.returns
  have hts0 := atoms_spec (ws := (ws_ yX7_counted cX7_counted 2 (some .int))) B.pre
  have hts : ∀ w ∈ lw_all, w.before args s = true := fun w h => hts0 w (List.mem_cons_of_mem _ h)
  have hown : s.vm.findClass RX7 = some m.cls := findClass_of_methodNamed B.named
  have hlocks := B.notSynchronized
  have htX7 : ∀ w ∈ wsX70, w.before args s = true := fun w h => hts w (wX7 w h)
  obtain ⟨Q, hQ⟩ : ∃ Q, Q = MQ below (vp_Si (fun r => r = fX7_counted f M w9)) args s 0 0 (fun _ => False) := ⟨_, rfl⟩
  rw [← hQ]
  have hl := lv_entry ([.ref o, .int (nI w9)]) (n := 2) (Nat.le_of_ble_eq_true rfl)
  rw [ha, lg_entry_eq, ← ha]
  generalize (lg_sl ([.ref o, .int (nI w9)]) ++ List.replicate (2 - (lg_sl ([.ref o, .int (nI w9)])).length) Slot.unset).toArray = ls at hl ⊢
  have hl : lv_has ls 2 [(0, .ref o), (1, .int (nI w9))] := hl
  show W p l e rmX7_counted s m args below meth c s.heap [] 0 0 Q (F0 m 0 ls [])
  have hF : fX7_counted f M w9 = fX7_counted f M w9 := rfl
  obtain ⟨-, rG0, rT0, -⟩ := id hR
  have rG : (f 0).toNatClampNeg ≤ 16 := rG0.c (by decide)
  have rT : (f 1).toNatClampNeg ≤ 4 := rT0.c (by decide)
  refine lv_iload_n hx hb dX7_counted_0 rfl (lv_at hl 1 rfl) ?_
  by_cases c_1_0 : (nI w9) = 4
  · have nc_1_0 : w9 = 4 := (nI_eq (b := 4) (by omega) (by decide)).mp c_1_0
    have hF := hF.trans (if_pos c_1_0)
    refine lv_tableIn (off := 55) (tgt := 56) hx hb dX7_counted_1 (by rw [c_1_0]; decide) (by rw [c_1_0]; decide) (by rw [c_1_0]; rfl) (by decide) ?_
    refine lv_aload_n hx hb dX7_counted_56 rfl (lv_at hl 0 rfl) ?_
    refine lv_iconst (v := 0) hx hb dX7_counted_57 (by decide) ?_
    refine lv_iconst (v := (-1)) hx hb dX7_counted_58 (by decide) ?_
    refine k_calli (W.runV (As := [.int 0, .int (-1)]) (rest := []) ⟨hx, hb, hml, hown, hts0⟩ (mX7_points l dC dI cI o q0 q1 f x M h 0 (-1) (by first | omega | assumption)) (cwV 2 hts0 (gi_V u_1004 u_1006 us_30 u_7 u_1007) rfl rfl rfl (by decide +kernel) ⟨Nat.le_of_ble_eq_true rfl, Nat.le_of_ble_eq_true rfl⟩) (pcR_V (ci := 5) (q0 := 0) hP hK hn rfl rfl) rfl rfl hl.1 rfl (lv_room (Nat.le_of_ble_eq_true rfl)) dX7_counted_59 ⟨Nat.zero_le _, Nat.zero_le _⟩) ?_
    rw [hQ]
    exact W.iret (v := (fX7_points f 0 (-1))) hx hb hr (fun t ht hW => ⟨(fX7_points f 0 (-1)), rfl, hF.symm, ht⟩) (fun q hq => absurd hq List.not_mem_nil) dX7_counted_62
  have hF := hF.trans (if_neg c_1_0)
  have nc_1_0 : ¬ w9 = 4 := fun z => c_1_0 (by rw [z]; rfl)
  by_cases c_1_1 : (nI w9) = 5
  · have nc_1_1 : w9 = 5 := (nI_eq (b := 5) (by omega) (by decide)).mp c_1_1
    have hF := hF.trans (if_pos c_1_1)
    refine lv_tableIn (off := 55) (tgt := 56) hx hb dX7_counted_1 (by rw [c_1_1]; decide) (by rw [c_1_1]; decide) (by rw [c_1_1]; rfl) (by decide) ?_
    refine lv_aload_n hx hb dX7_counted_56 rfl (lv_at hl 0 rfl) ?_
    refine lv_iconst (v := 0) hx hb dX7_counted_57 (by decide) ?_
    refine lv_iconst (v := (-1)) hx hb dX7_counted_58 (by decide) ?_
    refine k_calli (W.runV (As := [.int 0, .int (-1)]) (rest := []) ⟨hx, hb, hml, hown, hts0⟩ (mX7_points l dC dI cI o q0 q1 f x M h 0 (-1) (by first | omega | assumption)) (cwV 2 hts0 (gi_V u_1004 u_1006 us_30 u_7 u_1007) rfl rfl rfl (by decide +kernel) ⟨Nat.le_of_ble_eq_true rfl, Nat.le_of_ble_eq_true rfl⟩) (pcR_V (ci := 5) (q0 := 0) hP hK hn rfl rfl) rfl rfl hl.1 rfl (lv_room (Nat.le_of_ble_eq_true rfl)) dX7_counted_59 ⟨Nat.zero_le _, Nat.zero_le _⟩) ?_
    rw [hQ]
    exact W.iret (v := (fX7_points f 0 (-1))) hx hb hr (fun t ht hW => ⟨(fX7_points f 0 (-1)), rfl, hF.symm, ht⟩) (fun q hq => absurd hq List.not_mem_nil) dX7_counted_62
  have hF := hF.trans (if_neg c_1_1)
  have nc_1_1 : ¬ w9 = 5 := fun z => c_1_1 (by rw [z]; rfl)
  by_cases c_1_2 : (nI w9) = 6
  · have nc_1_2 : w9 = 6 := (nI_eq (b := 6) (by omega) (by decide)).mp c_1_2
    have hF := hF.trans (if_pos c_1_2)
    refine lv_tableIn (off := 62) (tgt := 63) hx hb dX7_counted_1 (by rw [c_1_2]; decide) (by rw [c_1_2]; decide) (by rw [c_1_2]; rfl) (by decide) ?_
    refine lv_aload_n hx hb dX7_counted_63 rfl (lv_at hl 0 rfl) ?_
    refine lv_iconst (v := 1) hx hb dX7_counted_64 (by decide) ?_
    refine k_calli (W.runV (As := [.int 1]) (rest := []) ⟨hx, hb, hml, hown, hts0⟩ (mX7_wishes l dC dI cI o q0 q1 f x M h 1 (by first | omega | assumption)) (cwV 1 hts0 (gi_V u_1144 u_1146 us_48 u_7 u_1147) rfl rfl rfl (by decide +kernel) ⟨Nat.le_of_ble_eq_true rfl, Nat.le_of_ble_eq_true rfl⟩) (pcR_V (ci := 5) (q0 := 0) hP hK hn rfl rfl) rfl rfl hl.1 rfl (lv_room (Nat.le_of_ble_eq_true rfl)) dX7_counted_65 ⟨Nat.zero_le _, Nat.zero_le _⟩) ?_
    rw [hQ]
    exact W.iret (v := (fX7_wishes f 1)) hx hb hr (fun t ht hW => ⟨(fX7_wishes f 1), rfl, hF.symm, ht⟩) (fun q hq => absurd hq List.not_mem_nil) dX7_counted_68
  have hF := hF.trans (if_neg c_1_2)
  have nc_1_2 : ¬ w9 = 6 := fun z => c_1_2 (by rw [z]; rfl)
  by_cases c_1_3 : (nI w9) = 7
  · have nc_1_3 : w9 = 7 := (nI_eq (b := 7) (by omega) (by decide)).mp c_1_3
    have hF := hF.trans (if_pos c_1_3)
    refine lv_tableIn (off := 68) (tgt := 69) hx hb dX7_counted_1 (by rw [c_1_3]; decide) (by rw [c_1_3]; decide) (by rw [c_1_3]; rfl) (by decide) ?_
    refine lv_aload_n hx hb dX7_counted_69 rfl (lv_at hl 0 rfl) ?_
    refine va_get (D := (dC, dI)) (ci := 5) (v := .ref q0) (C := RX7) (T := TX7) (N := 12) hx hb htX7 (fun _ h => h) hown hK hP 0 rfl rfl 1 (by decide) (hts _ u_858) (fun _ h9 => h9) rfl dX7_counted_70 ?_
    refine lv_iconst (v := 4) hx hb dX7_counted_73 (by decide) ?_
    refine lv_iload_n hx hb dX7_counted_74 rfl (lv_at hl 1 rfl) ?_
    refine lv_iadd hx hb dX7_counted_75 ?_
    refine lv_tope (y := (nI (4 + w9))) (nI_add 4 w9) ?_
    refine lv_bipush (v := 7) hx hb dX7_counted_76 (by decide) ?_
    refine lv_isub hx hb dX7_counted_78 ?_
    refine lv_tope (y := (nI ((4 + w9) - 7))) (pk_sub (a := (4 + w9)) (b := 7) (by omega)) ?_
    refine va_iald hx hb hK hP 1 0 rfl rfl (vp_in_nI (n := ((4 + w9) - 7)) (by omega) (by decide)) dX7_counted_79 ?_
    refine lv_tope (y := (f ((4 + w9) - 7))) (at_nI (k := ((4 + w9) - 7)) (by omega)) ?_
    rw [hQ]
    exact W.iret (v := (f ((4 + w9) - 7))) hx hb hr (fun t ht hW => ⟨(f ((4 + w9) - 7)), rfl, hF.symm, ht⟩) (fun q hq => absurd hq List.not_mem_nil) dX7_counted_80
  have hF := hF.trans (if_neg c_1_3)
  have nc_1_3 : ¬ w9 = 7 := fun z => c_1_3 (by rw [z]; rfl)
  by_cases c_1_4 : (nI w9) = 8
  · have nc_1_4 : w9 = 8 := (nI_eq (b := 8) (by omega) (by decide)).mp c_1_4
    have hF := hF.trans (if_pos c_1_4)
    refine lv_tableIn (off := 68) (tgt := 69) hx hb dX7_counted_1 (by rw [c_1_4]; decide) (by rw [c_1_4]; decide) (by rw [c_1_4]; rfl) (by decide) ?_
    refine lv_aload_n hx hb dX7_counted_69 rfl (lv_at hl 0 rfl) ?_
    refine va_get (D := (dC, dI)) (ci := 5) (v := .ref q0) (C := RX7) (T := TX7) (N := 12) hx hb htX7 (fun _ h => h) hown hK hP 0 rfl rfl 1 (by decide) (hts _ u_858) (fun _ h9 => h9) rfl dX7_counted_70 ?_
    refine lv_iconst (v := 4) hx hb dX7_counted_73 (by decide) ?_
    refine lv_iload_n hx hb dX7_counted_74 rfl (lv_at hl 1 rfl) ?_
    refine lv_iadd hx hb dX7_counted_75 ?_
    refine lv_tope (y := (nI (4 + w9))) (nI_add 4 w9) ?_
    refine lv_bipush (v := 7) hx hb dX7_counted_76 (by decide) ?_
    refine lv_isub hx hb dX7_counted_78 ?_
    refine lv_tope (y := (nI ((4 + w9) - 7))) (pk_sub (a := (4 + w9)) (b := 7) (by omega)) ?_
    refine va_iald hx hb hK hP 1 0 rfl rfl (vp_in_nI (n := ((4 + w9) - 7)) (by omega) (by decide)) dX7_counted_79 ?_
    refine lv_tope (y := (f ((4 + w9) - 7))) (at_nI (k := ((4 + w9) - 7)) (by omega)) ?_
    rw [hQ]
    exact W.iret (v := (f ((4 + w9) - 7))) hx hb hr (fun t ht hW => ⟨(f ((4 + w9) - 7)), rfl, hF.symm, ht⟩) (fun q hq => absurd hq List.not_mem_nil) dX7_counted_80
  have hF := hF.trans (if_neg c_1_4)
  have nc_1_4 : ¬ w9 = 8 := fun z => c_1_4 (by rw [z]; rfl)
  by_cases c_1_5 : (nI w9) = 9
  · have nc_1_5 : w9 = 9 := (nI_eq (b := 9) (by omega) (by decide)).mp c_1_5
    have hF := hF.trans (if_pos c_1_5)
    refine lv_tableIn (off := 85) (tgt := 86) hx hb dX7_counted_1 (by rw [c_1_5]; decide) (by rw [c_1_5]; decide) (by rw [c_1_5]; rfl) (by decide) ?_
    refine lv_iload_n hx hb dX7_counted_86 rfl (lv_at hl 1 rfl) ?_
    refine lv_iconst (v := 4) hx hb dX7_counted_87 (by decide) ?_
    refine lv_icmp_ge (tgt := 100) hx hb dX7_counted_88 (by decide) (fun c_88 => ?_) (fun c_88 => ?_)
    · have hF := hF.trans (if_pos c_88)
      have h100 : 4 ≤ w9 := Nat.le_of_not_lt (fun z => nI_ge (a := w9) (b := 4) z (by decide) c_88)
      refine lv_aload_n hx hb dX7_counted_100 rfl (lv_at hl 0 rfl) ?_
      refine va_get (D := (dC, dI)) (ci := 5) (v := .ref q0) (C := RX7) (T := TX7) (N := 12) hx hb htX7 (fun _ h => h) hown hK hP 0 rfl rfl 1 (by decide) (hts _ u_858) (fun _ h9 => h9) rfl dX7_counted_101 ?_
      refine lv_bipush (v := 6) hx hb dX7_counted_104 (by decide) ?_
      refine lv_iload_n hx hb dX7_counted_106 rfl (lv_at hl 1 rfl) ?_
      refine lv_iadd hx hb dX7_counted_107 ?_
      refine lv_tope (y := (nI (6 + w9))) (nI_add 6 w9) ?_
      refine lv_bipush (v := 9) hx hb dX7_counted_108 (by decide) ?_
      refine lv_isub hx hb dX7_counted_110 ?_
      refine lv_tope (y := (nI ((6 + w9) - 9))) (pk_sub (a := (6 + w9)) (b := 9) (by omega)) ?_
      refine va_iald hx hb hK hP 1 0 rfl rfl (vp_in_nI (n := ((6 + w9) - 9)) (by omega) (by decide)) dX7_counted_111 ?_
      refine lv_tope (y := (f ((6 + w9) - 9))) (at_nI (k := ((6 + w9) - 9)) (by omega)) ?_
      rw [hQ]
      exact W.iret (v := (f ((6 + w9) - 9))) hx hb hr (fun t ht hW => ⟨(f ((6 + w9) - 9)), rfl, hF.symm, ht⟩) (fun q hq => absurd hq List.not_mem_nil) dX7_counted_112
    have hF := hF.trans (if_neg c_88)
    have h91 : w9 < 4 := Nat.lt_of_not_le (fun z => c_88 (nI_le (a := 4) z (by omega)))
    refine lv_aload_n hx hb dX7_counted_91 rfl (lv_at hl 0 rfl) ?_
    refine va_get (D := (dC, dI)) (ci := 5) (v := .ref q0) (C := RX7) (T := TX7) (N := 12) hx hb htX7 (fun _ h => h) hown hK hP 0 rfl rfl 1 (by decide) (hts _ u_858) (fun _ h9 => h9) rfl dX7_counted_92 ?_
    refine lv_iload_n hx hb dX7_counted_95 rfl (lv_at hl 1 rfl) ?_
    refine va_iald hx hb hK hP 1 0 rfl rfl (vp_in_nI (n := w9) (by omega) (by decide)) dX7_counted_96 ?_
    refine lv_tope (y := (f w9)) (at_nI (k := w9) (by omega)) ?_
    refine lv_goto (tgt := 112) hx hb dX7_counted_97 (by decide) ?_
    rw [hQ]
    exact W.iret (v := (f w9)) hx hb hr (fun t ht hW => ⟨(f w9), rfl, hF.symm, ht⟩) (fun q hq => absurd hq List.not_mem_nil) dX7_counted_112
  have hF := hF.trans (if_neg c_1_5)
  have nc_1_5 : ¬ w9 = 9 := fun z => c_1_5 (by rw [z]; rfl)
  by_cases c_1_6 : (nI w9) = 10
  · have nc_1_6 : w9 = 10 := (nI_eq (b := 10) (by omega) (by decide)).mp c_1_6
    have hF := hF.trans (if_pos c_1_6)
    refine lv_tableIn (off := 85) (tgt := 86) hx hb dX7_counted_1 (by rw [c_1_6]; decide) (by rw [c_1_6]; decide) (by rw [c_1_6]; rfl) (by decide) ?_
    refine lv_iload_n hx hb dX7_counted_86 rfl (lv_at hl 1 rfl) ?_
    refine lv_iconst (v := 4) hx hb dX7_counted_87 (by decide) ?_
    refine lv_icmp_ge (tgt := 100) hx hb dX7_counted_88 (by decide) (fun c_88 => ?_) (fun c_88 => ?_)
    · have hF := hF.trans (if_pos c_88)
      have h100 : 4 ≤ w9 := Nat.le_of_not_lt (fun z => nI_ge (a := w9) (b := 4) z (by decide) c_88)
      refine lv_aload_n hx hb dX7_counted_100 rfl (lv_at hl 0 rfl) ?_
      refine va_get (D := (dC, dI)) (ci := 5) (v := .ref q0) (C := RX7) (T := TX7) (N := 12) hx hb htX7 (fun _ h => h) hown hK hP 0 rfl rfl 1 (by decide) (hts _ u_858) (fun _ h9 => h9) rfl dX7_counted_101 ?_
      refine lv_bipush (v := 6) hx hb dX7_counted_104 (by decide) ?_
      refine lv_iload_n hx hb dX7_counted_106 rfl (lv_at hl 1 rfl) ?_
      refine lv_iadd hx hb dX7_counted_107 ?_
      refine lv_tope (y := (nI (6 + w9))) (nI_add 6 w9) ?_
      refine lv_bipush (v := 9) hx hb dX7_counted_108 (by decide) ?_
      refine lv_isub hx hb dX7_counted_110 ?_
      refine lv_tope (y := (nI ((6 + w9) - 9))) (pk_sub (a := (6 + w9)) (b := 9) (by omega)) ?_
      refine va_iald hx hb hK hP 1 0 rfl rfl (vp_in_nI (n := ((6 + w9) - 9)) (by omega) (by decide)) dX7_counted_111 ?_
      refine lv_tope (y := (f ((6 + w9) - 9))) (at_nI (k := ((6 + w9) - 9)) (by omega)) ?_
      rw [hQ]
      exact W.iret (v := (f ((6 + w9) - 9))) hx hb hr (fun t ht hW => ⟨(f ((6 + w9) - 9)), rfl, hF.symm, ht⟩) (fun q hq => absurd hq List.not_mem_nil) dX7_counted_112
    have hF := hF.trans (if_neg c_88)
    have h91 : w9 < 4 := Nat.lt_of_not_le (fun z => c_88 (nI_le (a := 4) z (by omega)))
    refine lv_aload_n hx hb dX7_counted_91 rfl (lv_at hl 0 rfl) ?_
    refine va_get (D := (dC, dI)) (ci := 5) (v := .ref q0) (C := RX7) (T := TX7) (N := 12) hx hb htX7 (fun _ h => h) hown hK hP 0 rfl rfl 1 (by decide) (hts _ u_858) (fun _ h9 => h9) rfl dX7_counted_92 ?_
    refine lv_iload_n hx hb dX7_counted_95 rfl (lv_at hl 1 rfl) ?_
    refine va_iald hx hb hK hP 1 0 rfl rfl (vp_in_nI (n := w9) (by omega) (by decide)) dX7_counted_96 ?_
    refine lv_tope (y := (f w9)) (at_nI (k := w9) (by omega)) ?_
    refine lv_goto (tgt := 112) hx hb dX7_counted_97 (by decide) ?_
    rw [hQ]
    exact W.iret (v := (f w9)) hx hb hr (fun t ht hW => ⟨(f w9), rfl, hF.symm, ht⟩) (fun q hq => absurd hq List.not_mem_nil) dX7_counted_112
  have hF := hF.trans (if_neg c_1_6)
  have nc_1_6 : ¬ w9 = 10 := fun z => c_1_6 (by rw [z]; rfl)
  by_cases c_1_7 : (nI w9) = 11
  · have nc_1_7 : w9 = 11 := (nI_eq (b := 11) (by omega) (by decide)).mp c_1_7
    have hF := hF.trans (if_pos c_1_7)
    refine lv_tableIn (off := 85) (tgt := 86) hx hb dX7_counted_1 (by rw [c_1_7]; decide) (by rw [c_1_7]; decide) (by rw [c_1_7]; rfl) (by decide) ?_
    refine lv_iload_n hx hb dX7_counted_86 rfl (lv_at hl 1 rfl) ?_
    refine lv_iconst (v := 4) hx hb dX7_counted_87 (by decide) ?_
    refine lv_icmp_ge (tgt := 100) hx hb dX7_counted_88 (by decide) (fun c_88 => ?_) (fun c_88 => ?_)
    · have hF := hF.trans (if_pos c_88)
      have h100 : 4 ≤ w9 := Nat.le_of_not_lt (fun z => nI_ge (a := w9) (b := 4) z (by decide) c_88)
      refine lv_aload_n hx hb dX7_counted_100 rfl (lv_at hl 0 rfl) ?_
      refine va_get (D := (dC, dI)) (ci := 5) (v := .ref q0) (C := RX7) (T := TX7) (N := 12) hx hb htX7 (fun _ h => h) hown hK hP 0 rfl rfl 1 (by decide) (hts _ u_858) (fun _ h9 => h9) rfl dX7_counted_101 ?_
      refine lv_bipush (v := 6) hx hb dX7_counted_104 (by decide) ?_
      refine lv_iload_n hx hb dX7_counted_106 rfl (lv_at hl 1 rfl) ?_
      refine lv_iadd hx hb dX7_counted_107 ?_
      refine lv_tope (y := (nI (6 + w9))) (nI_add 6 w9) ?_
      refine lv_bipush (v := 9) hx hb dX7_counted_108 (by decide) ?_
      refine lv_isub hx hb dX7_counted_110 ?_
      refine lv_tope (y := (nI ((6 + w9) - 9))) (pk_sub (a := (6 + w9)) (b := 9) (by omega)) ?_
      refine va_iald hx hb hK hP 1 0 rfl rfl (vp_in_nI (n := ((6 + w9) - 9)) (by omega) (by decide)) dX7_counted_111 ?_
      refine lv_tope (y := (f ((6 + w9) - 9))) (at_nI (k := ((6 + w9) - 9)) (by omega)) ?_
      rw [hQ]
      exact W.iret (v := (f ((6 + w9) - 9))) hx hb hr (fun t ht hW => ⟨(f ((6 + w9) - 9)), rfl, hF.symm, ht⟩) (fun q hq => absurd hq List.not_mem_nil) dX7_counted_112
    have hF := hF.trans (if_neg c_88)
    have h91 : w9 < 4 := Nat.lt_of_not_le (fun z => c_88 (nI_le (a := 4) z (by omega)))
    refine lv_aload_n hx hb dX7_counted_91 rfl (lv_at hl 0 rfl) ?_
    refine va_get (D := (dC, dI)) (ci := 5) (v := .ref q0) (C := RX7) (T := TX7) (N := 12) hx hb htX7 (fun _ h => h) hown hK hP 0 rfl rfl 1 (by decide) (hts _ u_858) (fun _ h9 => h9) rfl dX7_counted_92 ?_
    refine lv_iload_n hx hb dX7_counted_95 rfl (lv_at hl 1 rfl) ?_
    refine va_iald hx hb hK hP 1 0 rfl rfl (vp_in_nI (n := w9) (by omega) (by decide)) dX7_counted_96 ?_
    refine lv_tope (y := (f w9)) (at_nI (k := w9) (by omega)) ?_
    refine lv_goto (tgt := 112) hx hb dX7_counted_97 (by decide) ?_
    rw [hQ]
    exact W.iret (v := (f w9)) hx hb hr (fun t ht hW => ⟨(f w9), rfl, hF.symm, ht⟩) (fun q hq => absurd hq List.not_mem_nil) dX7_counted_112
  have hF := hF.trans (if_neg c_1_7)
  have nc_1_7 : ¬ w9 = 11 := fun z => c_1_7 (by rw [z]; rfl)
  by_cases c_1_8 : (nI w9) = 12
  · have nc_1_8 : w9 = 12 := (nI_eq (b := 12) (by omega) (by decide)).mp c_1_8
    have hF := hF.trans (if_pos c_1_8)
    refine lv_tableIn (off := 85) (tgt := 86) hx hb dX7_counted_1 (by rw [c_1_8]; decide) (by rw [c_1_8]; decide) (by rw [c_1_8]; rfl) (by decide) ?_
    refine lv_iload_n hx hb dX7_counted_86 rfl (lv_at hl 1 rfl) ?_
    refine lv_iconst (v := 4) hx hb dX7_counted_87 (by decide) ?_
    refine lv_icmp_ge (tgt := 100) hx hb dX7_counted_88 (by decide) (fun c_88 => ?_) (fun c_88 => ?_)
    · have hF := hF.trans (if_pos c_88)
      have h100 : 4 ≤ w9 := Nat.le_of_not_lt (fun z => nI_ge (a := w9) (b := 4) z (by decide) c_88)
      refine lv_aload_n hx hb dX7_counted_100 rfl (lv_at hl 0 rfl) ?_
      refine va_get (D := (dC, dI)) (ci := 5) (v := .ref q0) (C := RX7) (T := TX7) (N := 12) hx hb htX7 (fun _ h => h) hown hK hP 0 rfl rfl 1 (by decide) (hts _ u_858) (fun _ h9 => h9) rfl dX7_counted_101 ?_
      refine lv_bipush (v := 6) hx hb dX7_counted_104 (by decide) ?_
      refine lv_iload_n hx hb dX7_counted_106 rfl (lv_at hl 1 rfl) ?_
      refine lv_iadd hx hb dX7_counted_107 ?_
      refine lv_tope (y := (nI (6 + w9))) (nI_add 6 w9) ?_
      refine lv_bipush (v := 9) hx hb dX7_counted_108 (by decide) ?_
      refine lv_isub hx hb dX7_counted_110 ?_
      refine lv_tope (y := (nI ((6 + w9) - 9))) (pk_sub (a := (6 + w9)) (b := 9) (by omega)) ?_
      refine va_iald hx hb hK hP 1 0 rfl rfl (vp_in_nI (n := ((6 + w9) - 9)) (by omega) (by decide)) dX7_counted_111 ?_
      refine lv_tope (y := (f ((6 + w9) - 9))) (at_nI (k := ((6 + w9) - 9)) (by omega)) ?_
      rw [hQ]
      exact W.iret (v := (f ((6 + w9) - 9))) hx hb hr (fun t ht hW => ⟨(f ((6 + w9) - 9)), rfl, hF.symm, ht⟩) (fun q hq => absurd hq List.not_mem_nil) dX7_counted_112
    have hF := hF.trans (if_neg c_88)
    have h91 : w9 < 4 := Nat.lt_of_not_le (fun z => c_88 (nI_le (a := 4) z (by omega)))
    refine lv_aload_n hx hb dX7_counted_91 rfl (lv_at hl 0 rfl) ?_
    refine va_get (D := (dC, dI)) (ci := 5) (v := .ref q0) (C := RX7) (T := TX7) (N := 12) hx hb htX7 (fun _ h => h) hown hK hP 0 rfl rfl 1 (by decide) (hts _ u_858) (fun _ h9 => h9) rfl dX7_counted_92 ?_
    refine lv_iload_n hx hb dX7_counted_95 rfl (lv_at hl 1 rfl) ?_
    refine va_iald hx hb hK hP 1 0 rfl rfl (vp_in_nI (n := w9) (by omega) (by decide)) dX7_counted_96 ?_
    refine lv_tope (y := (f w9)) (at_nI (k := w9) (by omega)) ?_
    refine lv_goto (tgt := 112) hx hb dX7_counted_97 (by decide) ?_
    rw [hQ]
    exact W.iret (v := (f w9)) hx hb hr (fun t ht hW => ⟨(f w9), rfl, hF.symm, ht⟩) (fun q hq => absurd hq List.not_mem_nil) dX7_counted_112
  have hF := hF.trans (if_neg c_1_8)
  have nc_1_8 : ¬ w9 = 12 := fun z => c_1_8 (by rw [z]; rfl)
  by_cases c_1_9 : (nI w9) = 13
  · have nc_1_9 : w9 = 13 := (nI_eq (b := 13) (by omega) (by decide)).mp c_1_9
    have hF := hF.trans (if_pos c_1_9)
    refine lv_tableIn (off := 80) (tgt := 81) hx hb dX7_counted_1 (by rw [c_1_9]; decide) (by rw [c_1_9]; decide) (by rw [c_1_9]; rfl) (by decide) ?_
    refine lv_aload_n hx hb dX7_counted_81 rfl (lv_at hl 0 rfl) ?_
    refine va_get (D := (dC, dI)) (ci := 5) (v := .int (M 1)) (C := RX7) (T := TX7) (N := 12) hx hb htX7 (fun _ h => h) hown hK hP 0 rfl rfl 2 (by decide) (hts _ u_859) (fun _ h9 => h9) rfl dX7_counted_82 ?_
    rw [hQ]
    exact W.iret (v := (M 1)) hx hb hr (fun t ht hW => ⟨(M 1), rfl, hF.symm, ht⟩) (fun q hq => absurd hq List.not_mem_nil) dX7_counted_85
  have hF := hF.trans (if_neg c_1_9)
  have nc_1_9 : ¬ w9 = 13 := fun z => c_1_9 (by rw [z]; rfl)
  refine lv_tableOut (tgt := 86) hx hb dX7_counted_1 (by have hc_1_0 : ((nI w9)).toInt ≠ 4 := neI c_1_0; have hc_1_1 : ((nI w9)).toInt ≠ 5 := neI c_1_1; have hc_1_2 : ((nI w9)).toInt ≠ 6 := neI c_1_2; have hc_1_3 : ((nI w9)).toInt ≠ 7 := neI c_1_3; have hc_1_4 : ((nI w9)).toInt ≠ 8 := neI c_1_4; have hc_1_5 : ((nI w9)).toInt ≠ 9 := neI c_1_5; have hc_1_6 : ((nI w9)).toInt ≠ 10 := neI c_1_6; have hc_1_7 : ((nI w9)).toInt ≠ 11 := neI c_1_7; have hc_1_8 : ((nI w9)).toInt ≠ 12 := neI c_1_8; have hc_1_9 : ((nI w9)).toInt ≠ 13 := neI c_1_9; omega) (by decide) ?_
  refine lv_iload_n hx hb dX7_counted_86 rfl (lv_at hl 1 rfl) ?_
  refine lv_iconst (v := 4) hx hb dX7_counted_87 (by decide) ?_
  refine lv_icmp_ge (tgt := 100) hx hb dX7_counted_88 (by decide) (fun c_88 => ?_) (fun c_88 => ?_)
  · have hF := hF.trans (if_pos c_88)
    have h100 : 4 ≤ w9 := Nat.le_of_not_lt (fun z => nI_ge (a := w9) (b := 4) z (by decide) c_88)
    refine lv_aload_n hx hb dX7_counted_100 rfl (lv_at hl 0 rfl) ?_
    refine va_get (D := (dC, dI)) (ci := 5) (v := .ref q0) (C := RX7) (T := TX7) (N := 12) hx hb htX7 (fun _ h => h) hown hK hP 0 rfl rfl 1 (by decide) (hts _ u_858) (fun _ h9 => h9) rfl dX7_counted_101 ?_
    refine lv_bipush (v := 6) hx hb dX7_counted_104 (by decide) ?_
    refine lv_iload_n hx hb dX7_counted_106 rfl (lv_at hl 1 rfl) ?_
    refine lv_iadd hx hb dX7_counted_107 ?_
    refine lv_tope (y := (nI (6 + w9))) (nI_add 6 w9) ?_
    refine lv_bipush (v := 9) hx hb dX7_counted_108 (by decide) ?_
    refine lv_isub hx hb dX7_counted_110 ?_
    refine lv_tope (y := (nI ((6 + w9) - 9))) (pk_sub (a := (6 + w9)) (b := 9) (by omega)) ?_
    refine va_iald hx hb hK hP 1 0 rfl rfl (vp_in_nI (n := ((6 + w9) - 9)) (by omega) (by decide)) dX7_counted_111 ?_
    refine lv_tope (y := (f ((6 + w9) - 9))) (at_nI (k := ((6 + w9) - 9)) (by omega)) ?_
    rw [hQ]
    exact W.iret (v := (f ((6 + w9) - 9))) hx hb hr (fun t ht hW => ⟨(f ((6 + w9) - 9)), rfl, hF.symm, ht⟩) (fun q hq => absurd hq List.not_mem_nil) dX7_counted_112
  have hF := hF.trans (if_neg c_88)
  have h91 : w9 < 4 := Nat.lt_of_not_le (fun z => c_88 (nI_le (a := 4) z (by omega)))
  refine lv_aload_n hx hb dX7_counted_91 rfl (lv_at hl 0 rfl) ?_
  refine va_get (D := (dC, dI)) (ci := 5) (v := .ref q0) (C := RX7) (T := TX7) (N := 12) hx hb htX7 (fun _ h => h) hown hK hP 0 rfl rfl 1 (by decide) (hts _ u_858) (fun _ h9 => h9) rfl dX7_counted_92 ?_
  refine lv_iload_n hx hb dX7_counted_95 rfl (lv_at hl 1 rfl) ?_
  refine va_iald hx hb hK hP 1 0 rfl rfl (vp_in_nI (n := w9) (by omega) (by decide)) dX7_counted_96 ?_
  refine lv_tope (y := (f w9)) (at_nI (k := w9) (by omega)) ?_
  refine lv_goto (tgt := 112) hx hb dX7_counted_97 (by decide) ?_
  rw [hQ]
  exact W.iret (v := (f w9)) hx hb hr (fun t ht hW => ⟨(f w9), rfl, hF.symm, ht⟩) (fun q hq => absurd hq List.not_mem_nil) dX7_counted_112

def fX7_canSwap (f : Nat → Int32) (g : Nat) (g2 : Nat) : Int32 × ((Nat → Int32)) :=
  (bd (fX7_copies f 0 8) (fun U39 => (bd (fX7_standsUp U39 944 g) (fun U47 => (bd (fX7_standsUp U47 944 g2) (fun U55 => (bd ((if (fX7_reason U55 944 g (fX7_of f 0 g2 3) (fX7_of f 0 g2 4)) = 0 then 1 else 0) : Nat) (fun v70_0 => (bd (fX7_sitsDown U55 944 g (fX7_of f 0 g2 3) (fX7_of f 0 g2 4)) (fun U89 => (bd ((if (nI v70_0) = 0 then 0 else (if (fX7_reason U89 944 g2 (fX7_of f 0 g 3) (fX7_of f 0 g 4)) = 0 then 1 else 0)) : Nat) (fun v94_0 => (bd (fX7_sitsDown U89 944 g2 (fX7_of f 0 g 3) (fX7_of f 0 g 4)) (fun U126 => ((nI v94_0), U126)))))))))))))))
abbrev rmX7_canSwap : Room := { frames := 3, cells := 0, slots := 0, locals := 75 }
set_option maxHeartbeats 4000000 in
set_option maxRecDepth 100000 in
theorem mX7_canSwap (l : Launch) (dC : Nat → ClassId) (dI : Nat → Nat → Nat) (cI : ClassId) (o q0 q1 : Nat) (f x M : Nat → Int32) (h : Int64) (g : Nat) (g2 : Nat) (hR : RW f 0) (G9 : Nat) (L9 : List Nat) (hL : RO f 0 G9 L9) (hg : g < G9) (hg2 : g2 < G9) (hgg : g ≠ g2) (hs1 : f (0 + 38 + 5 * g + 3) ≠ -1) (hs2 : f (0 + 38 + 5 * g2 + 3) ≠ -1) : Met l yX7_canSwap (ws_ yX7_canSwap cX7_canSwap 8 (some .boolean)) rmX7_canSwap (pcM (dC, dI) [(cI, .int)] (mW cI o q0 q1 f x M h) [.ref o, .int (nI g), .int (nI g2)]) (va_Qi (fun (r9 : Int32) (u9 : (Nat → Int32)) => (r9, u9) = fX7_canSwap f g g2 ∧ (r9 = 0 ∨ r9 = 1)) (fun u9 t => va_P (dC, dI) vwCl ((fun (v9 : (Nat → Int32)) => mW cI o q0 q1 v9 x M h) u9) t.heap) (adr (mW cI o q0 q1 f x M h))) 0 0 (adr (mW cI o q0 q1 f x M h)) := by
  refine Met.ofW (cc := cX7_canSwap) (maxL := 8) (ret := (some .boolean)) (by decide) rfl ?_
  intro p e s m args below meth c s₁ B hml hv
  obtain ⟨ha, hP, hK, hn, hD0⟩ := hv
  have hx := B.exec
  have hb := B.bytes
  have hr := B.returns
  have hts0 := atoms_spec (ws := (ws_ yX7_canSwap cX7_canSwap 8 (some .boolean))) B.pre
  have hts : ∀ w ∈ lw_all, w.before args s = true := fun w h => hts0 w (List.mem_cons_of_mem _ h)
  have hown : s.vm.findClass RX7 = some m.cls := findClass_of_methodNamed B.named
  have hlocks := B.notSynchronized
  have hD := adr_self hD0
  obtain ⟨A, hA⟩ : ∃ A, A = adr (mW cI o q0 q1 f x M h) := ⟨_, rfl⟩
  rw [← hA] at hD
  have hS : va_S A s.heap s.heap [] := va_S.rf
  obtain ⟨Q, hQ⟩ : ∃ Q, Q = MQ below (va_Qi (fun (r9 : Int32) (u9 : (Nat → Int32)) => (r9, u9) = fX7_canSwap f g g2 ∧ (r9 = 0 ∨ r9 = 1)) (fun u9 t => va_P (dC, dI) vwCl ((fun (v9 : (Nat → Int32)) => mW cI o q0 q1 v9 x M h) u9) t.heap) (adr (mW cI o q0 q1 f x M h))) args s 0 0 (adr (mW cI o q0 q1 f x M h)) := ⟨_, rfl⟩
  rw [← hQ]
  rw [← hA] at hQ
  have hl := lv_entry ([.ref o, .int (nI g), .int (nI g2)]) (n := 8) (Nat.le_of_ble_eq_true rfl)
  rw [ha, lg_entry_eq, ← ha]
  generalize (lg_sl ([.ref o, .int (nI g), .int (nI g2)]) ++ List.replicate (8 - (lg_sl ([.ref o, .int (nI g), .int (nI g2)])).length) Slot.unset).toArray = ls at hl ⊢
  have hl : lv_has ls 8 [(0, .ref o), (1, .int (nI g)), (2, .int (nI g2))] := hl
  show W p l e rmX7_canSwap s m args below meth c s.heap [] 0 0 Q (F0 m 0 ls [])
  have hF : fX7_canSwap f g g2 = fX7_canSwap f g g2 := rfl
  have hG16 := hL.2.2.1
  refine lv_aload_n hx hb dX7_canSwap_0 rfl (lv_at hl 0 rfl) ?_
  refine lv_iconst (v := 0) hx hb dX7_canSwap_1 (by decide) ?_
  refine lv_iload_n hx hb dX7_canSwap_2 rfl (lv_at hl 1 rfl) ?_
  refine lv_iconst (v := 3) hx hb dX7_canSwap_3 (by decide) ?_
  refine k_calli (W.runV (As := [.int 0, .int (nI g), .int 3]) (rest := []) ⟨hx, hb, hml, hown, hts0⟩ (mX7_of l dC dI cI o q0 q1 f x M h 0 g 3 (by first | omega | assumption)) (cwV 3 hts0 (gi_V u_932 u_934 us_20 u_7 u_935) rfl rfl rfl (by decide +kernel) ⟨Nat.le_of_ble_eq_true rfl, Nat.le_of_ble_eq_true rfl⟩) (pcR_V (ci := 5) (q0 := 0) hP hK hn rfl rfl) rfl rfl hl.1 rfl (lv_room (Nat.le_of_ble_eq_true rfl)) dX7_canSwap_4 ⟨Nat.zero_le _, Nat.zero_le _⟩) ?_
  refine lv_istore_n (lv' := [(3, .int (fX7_of f 0 g 3)), (0, .ref o), (1, .int (nI g)), (2, .int (nI g2))]) hx hb dX7_canSwap_7 rfl hl (by decide) rfl (fun ls hl => ?_)
  refine lv_aload_n hx hb dX7_canSwap_8 rfl (lv_at hl 1 rfl) ?_
  refine lv_iconst (v := 0) hx hb dX7_canSwap_9 (by decide) ?_
  refine lv_iload_n hx hb dX7_canSwap_10 rfl (lv_at hl 2 rfl) ?_
  refine lv_iconst (v := 4) hx hb dX7_canSwap_11 (by decide) ?_
  refine k_calli (W.runV (As := [.int 0, .int (nI g), .int 4]) (rest := []) ⟨hx, hb, hml, hown, hts0⟩ (mX7_of l dC dI cI o q0 q1 f x M h 0 g 4 (by first | omega | assumption)) (cwV 3 hts0 (gi_V u_932 u_934 us_20 u_7 u_935) rfl rfl rfl (by decide +kernel) ⟨Nat.le_of_ble_eq_true rfl, Nat.le_of_ble_eq_true rfl⟩) (pcR_V (ci := 5) (q0 := 0) hP hK hn rfl rfl) rfl rfl hl.1 rfl (lv_room (Nat.le_of_ble_eq_true rfl)) dX7_canSwap_12 ⟨Nat.zero_le _, Nat.zero_le _⟩) ?_
  refine lv_istore (lv' := [(4, .int (fX7_of f 0 g 4)), (3, .int (fX7_of f 0 g 3)), (0, .ref o), (1, .int (nI g)), (2, .int (nI g2))]) hx hb dX7_canSwap_15 hl (by decide) rfl (fun ls hl => ?_)
  refine lv_aload_n hx hb dX7_canSwap_17 rfl (lv_at hl 2 rfl) ?_
  refine lv_iconst (v := 0) hx hb dX7_canSwap_18 (by decide) ?_
  refine lv_iload_n hx hb dX7_canSwap_19 rfl (lv_at hl 4 rfl) ?_
  refine lv_iconst (v := 3) hx hb dX7_canSwap_20 (by decide) ?_
  refine k_calli (W.runV (As := [.int 0, .int (nI g2), .int 3]) (rest := []) ⟨hx, hb, hml, hown, hts0⟩ (mX7_of l dC dI cI o q0 q1 f x M h 0 g2 3 (by first | omega | assumption)) (cwV 3 hts0 (gi_V u_932 u_934 us_20 u_7 u_935) rfl rfl rfl (by decide +kernel) ⟨Nat.le_of_ble_eq_true rfl, Nat.le_of_ble_eq_true rfl⟩) (pcR_V (ci := 5) (q0 := 0) hP hK hn rfl rfl) rfl rfl hl.1 rfl (lv_room (Nat.le_of_ble_eq_true rfl)) dX7_canSwap_21 ⟨Nat.zero_le _, Nat.zero_le _⟩) ?_
  refine lv_istore (lv' := [(5, .int (fX7_of f 0 g2 3)), (4, .int (fX7_of f 0 g 4)), (3, .int (fX7_of f 0 g 3)), (0, .ref o), (1, .int (nI g)), (2, .int (nI g2))]) hx hb dX7_canSwap_24 hl (by decide) rfl (fun ls hl => ?_)
  refine lv_aload_n hx hb dX7_canSwap_26 rfl (lv_at hl 3 rfl) ?_
  refine lv_iconst (v := 0) hx hb dX7_canSwap_27 (by decide) ?_
  refine lv_iload_n hx hb dX7_canSwap_28 rfl (lv_at hl 5 rfl) ?_
  refine lv_iconst (v := 4) hx hb dX7_canSwap_29 (by decide) ?_
  refine k_calli (W.runV (As := [.int 0, .int (nI g2), .int 4]) (rest := []) ⟨hx, hb, hml, hown, hts0⟩ (mX7_of l dC dI cI o q0 q1 f x M h 0 g2 4 (by first | omega | assumption)) (cwV 3 hts0 (gi_V u_932 u_934 us_20 u_7 u_935) rfl rfl rfl (by decide +kernel) ⟨Nat.le_of_ble_eq_true rfl, Nat.le_of_ble_eq_true rfl⟩) (pcR_V (ci := 5) (q0 := 0) hP hK hn rfl rfl) rfl rfl hl.1 rfl (lv_room (Nat.le_of_ble_eq_true rfl)) dX7_canSwap_30 ⟨Nat.zero_le _, Nat.zero_le _⟩) ?_
  refine lv_istore (lv' := [(6, .int (fX7_of f 0 g2 4)), (5, .int (fX7_of f 0 g2 3)), (4, .int (fX7_of f 0 g 4)), (3, .int (fX7_of f 0 g 3)), (0, .ref o), (1, .int (nI g)), (2, .int (nI g2))]) hx hb dX7_canSwap_33 hl (by decide) rfl (fun ls hl => ?_)
  refine lv_aload_n hx hb dX7_canSwap_35 rfl (lv_at hl 4 rfl) ?_
  refine lv_iconst (v := 0) hx hb dX7_canSwap_36 (by decide) ?_
  refine lv_bipush (v := 8) hx hb dX7_canSwap_37 (by decide) ?_
  refine k_mutv (Wd := (fun (v9 : (Nat → Int32)) => mW cI o q0 q1 v9 x M h)) (va_runV (As := [.int 0, .int 8]) (rest := []) ⟨hx, hb, hml, hown, hts0⟩ (mX7_copies l dC dI cI o q0 q1 f x M h 0 8 (by decide) (by decide)) (cwV 2 hts0 (gi_V u_916 u_918 us_17 u_7 u_919) rfl rfl rfl (by decide +kernel) ⟨Nat.le_of_ble_eq_true rfl, Nat.le_of_ble_eq_true rfl⟩) (pcM_V (ci := 5) (q0 := 0) hP hK hn hD rfl rfl) rfl rfl hl.1 rfl (lv_room (Nat.le_of_ble_eq_true rfl)) dX7_canSwap_39 ⟨Nat.zero_le _, Nat.zero_le _⟩) hP hD hS [0, 1, 2] rfl rfl (fun _ => rfl) (fun U39 H locs hU39 hP hD hS => ?_)
  have hP : va_P (dC, dI) vwCl (mW cI o q0 q1 U39 x M h) H := hP
  have hD : va_D A (mW cI o q0 q1 U39 x M h) := hD
  have hF := bd_at hF hU39
  have hL1 : RO U39 944 G9 L9 := by rw [hU39]; exact RO_there hL
  refine lv_aload_n hx hb dX7_canSwap_42 rfl (lv_at hl 4 rfl) ?_
  refine lv_sipush (v := 944) hx hb dX7_canSwap_43 (by decide) ?_
  refine lv_iload_n hx hb dX7_canSwap_46 rfl (lv_at hl 5 rfl) ?_
  refine k_mutv (Wd := (fun (v9 : (Nat → Int32)) => mW cI o q0 q1 v9 x M h)) (va_runV (As := [.int 944, .int (nI g)]) (rest := []) ⟨hx, hb, hml, hown, hts0⟩ (mX7_standsUp l dC dI cI o q0 q1 U39 x M h 944 g hL1.1 (by omega)) (cwV 2 hts0 (gi_V u_962 u_964 us_24 u_7 u_965) rfl rfl rfl (by decide +kernel) ⟨Nat.le_of_ble_eq_true rfl, Nat.le_of_ble_eq_true rfl⟩) (pcM_V (ci := 5) (q0 := 0) hP hK hn hD rfl rfl) rfl rfl hl.1 rfl (lv_room (Nat.le_of_ble_eq_true rfl)) dX7_canSwap_47 ⟨Nat.zero_le _, Nat.zero_le _⟩) hP hD hS [0, 1, 2] rfl rfl (fun _ => rfl) (fun U47 H locs hU47 hP hD hS => ?_)
  have hP : va_P (dC, dI) vwCl (mW cI o q0 q1 U47 x M h) H := hP
  have hD : va_D A (mW cI o q0 q1 U47 x M h) := hD
  have hF := bd_at hF hU47
  have hL2 := RO_stands hL1 (g := g) (by omega)
  rw [← hU47] at hL2
  refine lv_aload_n hx hb dX7_canSwap_50 rfl (lv_at hl 4 rfl) ?_
  refine lv_sipush (v := 944) hx hb dX7_canSwap_51 (by decide) ?_
  refine lv_iload_n hx hb dX7_canSwap_54 rfl (lv_at hl 6 rfl) ?_
  refine k_mutv (Wd := (fun (v9 : (Nat → Int32)) => mW cI o q0 q1 v9 x M h)) (va_runV (As := [.int 944, .int (nI g2)]) (rest := []) ⟨hx, hb, hml, hown, hts0⟩ (mX7_standsUp l dC dI cI o q0 q1 U47 x M h 944 g2 hL2.1 (by omega)) (cwV 2 hts0 (gi_V u_962 u_964 us_24 u_7 u_965) rfl rfl rfl (by decide +kernel) ⟨Nat.le_of_ble_eq_true rfl, Nat.le_of_ble_eq_true rfl⟩) (pcM_V (ci := 5) (q0 := 0) hP hK hn hD rfl rfl) rfl rfl hl.1 rfl (lv_room (Nat.le_of_ble_eq_true rfl)) dX7_canSwap_55 ⟨Nat.zero_le _, Nat.zero_le _⟩) hP hD hS [0, 1, 2] rfl rfl (fun _ => rfl) (fun U55 H locs hU55 hP hD hS => ?_)
  have hP : va_P (dC, dI) vwCl (mW cI o q0 q1 U55 x M h) H := hP
  have hD : va_D A (mW cI o q0 q1 U55 x M h) := hD
  have hF := bd_at hF hU55
  have hL3 := RO_stands hL2 (g := g2) (by omega)
  rw [← hU55] at hL3
  refine lv_aload_n hx hb dX7_canSwap_58 rfl (lv_at hl 4 rfl) ?_
  refine lv_sipush (v := 944) hx hb dX7_canSwap_59 (by decide) ?_
  refine lv_iload_n hx hb dX7_canSwap_62 rfl (lv_at hl 5 rfl) ?_
  refine lv_iload hx hb dX7_canSwap_63 (lv_at hl 1 rfl) ?_
  refine lv_iload hx hb dX7_canSwap_65 (lv_at hl 0 rfl) ?_
  refine k_calli (W.runV (As := [.int 944, .int (nI g), .int (fX7_of f 0 g2 3), .int (fX7_of f 0 g2 4)]) (rest := []) ⟨hx, hb, hml, hown, hts0⟩ (mX7_reason l dC dI cI o q0 q1 U55 x M h 944 g (fX7_of f 0 g2 3) (fX7_of f 0 g2 4) hL3.1 (by omega)) (cwV 4 hts0 (gi_V u_989 u_991 us_27 u_7 u_992) rfl rfl rfl (by decide +kernel) ⟨Nat.le_of_ble_eq_true rfl, Nat.le_of_ble_eq_true rfl⟩) (pcR_V (ci := 5) (q0 := 0) hP hK hn rfl rfl) rfl rfl hl.1 rfl (lv_room (Nat.le_of_ble_eq_true rfl)) dX7_canSwap_67 ⟨Nat.zero_le _, Nat.zero_le _⟩) ?_
  have K70 : ∀ (v70_0 : Nat), v70_0 = (if (fX7_reason U55 944 g (fX7_of f 0 g2 3) (fX7_of f 0 g2 4)) = 0 then 1 else 0) → ∀ (H : Heap) (locs : List Loc), va_P (dC, dI) vwCl (mW cI o q0 q1 U55 x M h) H → va_D A (mW cI o q0 q1 U55 x M h) → va_S A s.heap H locs → ∀ (ls : Array Slot), lv_has ls 8 [(6, .int (fX7_of f 0 g2 4)), (5, .int (fX7_of f 0 g2 3)), (4, .int (fX7_of f 0 g 4)), (3, .int (fX7_of f 0 g 3)), (0, .ref o), (1, .int (nI g)), (2, .int (nI g2))] → W p l e rmX7_canSwap s m args below meth c H locs 0 0 Q (F0 m 78 ls [.int (nI v70_0)]) := by
    intro v70_0 hz70 H locs hP hD hS ls hl
    have hz := hz70
    have bz70 : (nI v70_0 : Int32) = 0 ∨ nI v70_0 = 1 := by rw [hz]; (repeat' split); all_goals first | exact Or.inl rfl | exact Or.inr rfl
    have hF := bd_at hF hz
    refine lv_istore (lv' := [(7, .int (nI v70_0)), (6, .int (fX7_of f 0 g2 4)), (5, .int (fX7_of f 0 g2 3)), (4, .int (fX7_of f 0 g 4)), (3, .int (fX7_of f 0 g 3)), (0, .ref o), (1, .int (nI g)), (2, .int (nI g2))]) hx hb dX7_canSwap_78 hl (by decide) rfl (fun ls hl => ?_)
    obtain ⟨S1, hS1, hSe1⟩ := RO_midS hL3 hg
    refine lv_aload_n hx hb dX7_canSwap_80 rfl (lv_at hl 5 rfl) ?_
    refine lv_sipush (v := 944) hx hb dX7_canSwap_81 (by decide) ?_
    refine lv_iload_n hx hb dX7_canSwap_84 rfl (lv_at hl 6 rfl) ?_
    refine lv_iload hx hb dX7_canSwap_85 (lv_at hl 2 rfl) ?_
    refine lv_iload hx hb dX7_canSwap_87 (lv_at hl 1 rfl) ?_
    refine k_mutv (Wd := (fun (v9 : (Nat → Int32)) => mW cI o q0 q1 v9 x M h)) (va_runV (As := [.int 944, .int (nI g), .int (fX7_of f 0 g2 3), .int (fX7_of f 0 g2 4)]) (rest := []) ⟨hx, hb, hml, hown, hts0⟩ (mX7_sitsDown l dC dI cI o q0 q1 U55 x M h 944 g (fX7_of f 0 g2 3) (fX7_of f 0 g2 4) hL3.1 (by omega) S1 hS1 hSe1) (cwV 4 hts0 (gi_V u_1000 u_1002 us_29 u_7 u_1003) rfl rfl rfl (by decide +kernel) ⟨Nat.le_of_ble_eq_true rfl, Nat.le_of_ble_eq_true rfl⟩) (pcM_V (ci := 5) (q0 := 0) hP hK hn hD rfl rfl) rfl rfl hl.1 rfl (lv_room (Nat.le_of_ble_eq_true rfl)) dX7_canSwap_89 ⟨Nat.zero_le _, Nat.zero_le _⟩) hP hD hS [0, 1, 2] rfl rfl (fun _ => rfl) (fun U89 H locs hU89 hP hD hS => ?_)
    have hP : va_P (dC, dI) vwCl (mW cI o q0 q1 U89 x M h) H := hP
    have hD : va_D A (mW cI o q0 q1 U89 x M h) := hD
    have hF := bd_at hF hU89
    have hL4 := RO_sits hL3 hg (tb := fX7_of f 0 g2 3) (z := fX7_of f 0 g2 4) (hR.2.2.2.2.2.1 g2 (by omega)) hs2
    rw [← hU89] at hL4
    refine lv_iload hx hb dX7_canSwap_92 (lv_at hl 0 rfl) ?_
    have K94 : ∀ (v94_0 : Nat), v94_0 = (if (nI v70_0) = 0 then 0 else (if (fX7_reason U89 944 g2 (fX7_of f 0 g 3) (fX7_of f 0 g 4)) = 0 then 1 else 0)) → ∀ (H : Heap) (locs : List Loc), va_P (dC, dI) vwCl (mW cI o q0 q1 U89 x M h) H → va_D A (mW cI o q0 q1 U89 x M h) → va_S A s.heap H locs → ∀ (ls : Array Slot), lv_has ls 8 [(7, .int (nI v70_0)), (6, .int (fX7_of f 0 g2 4)), (5, .int (fX7_of f 0 g2 3)), (4, .int (fX7_of f 0 g 4)), (3, .int (fX7_of f 0 g 3)), (0, .ref o), (1, .int (nI g)), (2, .int (nI g2))] → W p l e rmX7_canSwap s m args below meth c H locs 0 0 Q (F0 m 116 ls [.int (nI v94_0)]) := by
      intro v94_0 hz94 H locs hP hD hS ls hl
      have hz := hz94
      have bz94 : (nI v94_0 : Int32) = 0 ∨ nI v94_0 = 1 := by rw [hz]; (repeat' split); all_goals first | exact Or.inl rfl | exact Or.inr rfl
      have hF := bd_at hF hz
      refine lv_istore (lv' := [(7, .int (nI v94_0)), (6, .int (fX7_of f 0 g2 4)), (5, .int (fX7_of f 0 g2 3)), (4, .int (fX7_of f 0 g 4)), (3, .int (fX7_of f 0 g 3)), (0, .ref o), (1, .int (nI g)), (2, .int (nI g2))]) hx hb dX7_canSwap_116 hl (by decide) rfl (fun ls hl => ?_)
      obtain ⟨S2, hS2, hSe2⟩ := RO_midS hL4 hg2
      refine lv_aload_n hx hb dX7_canSwap_118 rfl (lv_at hl 5 rfl) ?_
      refine lv_sipush (v := 944) hx hb dX7_canSwap_119 (by decide) ?_
      refine lv_iload_n hx hb dX7_canSwap_122 rfl (lv_at hl 7 rfl) ?_
      refine lv_iload_n hx hb dX7_canSwap_123 rfl (lv_at hl 4 rfl) ?_
      refine lv_iload hx hb dX7_canSwap_124 (lv_at hl 3 rfl) ?_
      refine k_mutv (Wd := (fun (v9 : (Nat → Int32)) => mW cI o q0 q1 v9 x M h)) (va_runV (As := [.int 944, .int (nI g2), .int (fX7_of f 0 g 3), .int (fX7_of f 0 g 4)]) (rest := []) ⟨hx, hb, hml, hown, hts0⟩ (mX7_sitsDown l dC dI cI o q0 q1 U89 x M h 944 g2 (fX7_of f 0 g 3) (fX7_of f 0 g 4) hL4.1 (by omega) S2 hS2 hSe2) (cwV 4 hts0 (gi_V u_1000 u_1002 us_29 u_7 u_1003) rfl rfl rfl (by decide +kernel) ⟨Nat.le_of_ble_eq_true rfl, Nat.le_of_ble_eq_true rfl⟩) (pcM_V (ci := 5) (q0 := 0) hP hK hn hD rfl rfl) rfl rfl hl.1 rfl (lv_room (Nat.le_of_ble_eq_true rfl)) dX7_canSwap_126 ⟨Nat.zero_le _, Nat.zero_le _⟩) hP hD hS [0, 1, 2] rfl rfl (fun _ => rfl) (fun U126 H locs hU126 hP hD hS => ?_)
      have hP : va_P (dC, dI) vwCl (mW cI o q0 q1 U126 x M h) H := hP
      have hD : va_D A (mW cI o q0 q1 U126 x M h) := hD
      have hF := bd_at hF hU126
      refine lv_iload hx hb dX7_canSwap_129 (lv_at hl 0 rfl) ?_
      rw [hQ]
      exact W.zret (ty := .boolean) (v := (nI v94_0)) hx hb hr (nb01 (bz94)) (fun t ht hW => ⟨⟨(nI v94_0), U126, rfl, ⟨hF.symm, bz94⟩, toH ht hP⟩, hS.F ht⟩) hS.2.2 dX7_canSwap_131
    have hF : ((if (nI v70_0) = 0 then 0 else (if (fX7_reason U89 944 g2 (fX7_of f 0 g 3) (fX7_of f 0 g 4)) = 0 then 1 else 0)) : Nat) = (if (nI v70_0) = 0 then 0 else (if (fX7_reason U89 944 g2 (fX7_of f 0 g 3) (fX7_of f 0 g 4)) = 0 then 1 else 0)) := rfl
    refine lv_if_eq (tgt := 115) hx hb dX7_canSwap_94 (by decide) (fun c_94 => ?_) (fun c_94 => ?_)
    · have hF := hF.trans (if_pos c_94)
      refine lv_iconst (v := 0) hx hb dX7_canSwap_115 (by decide) ?_
      exact K94 _ hF.symm _ _ hP hD hS  ls (lv_sub hl [0, 1, 2, 3, 4, 5, 6, 7] rfl)
    have hF := hF.trans (if_neg c_94)
    refine lv_aload_n hx hb dX7_canSwap_97 rfl (lv_at hl 5 rfl) ?_
    refine lv_sipush (v := 944) hx hb dX7_canSwap_98 (by decide) ?_
    refine lv_iload_n hx hb dX7_canSwap_101 rfl (lv_at hl 7 rfl) ?_
    refine lv_iload_n hx hb dX7_canSwap_102 rfl (lv_at hl 4 rfl) ?_
    refine lv_iload hx hb dX7_canSwap_103 (lv_at hl 3 rfl) ?_
    refine k_calli (W.runV (As := [.int 944, .int (nI g2), .int (fX7_of f 0 g 3), .int (fX7_of f 0 g 4)]) (rest := []) ⟨hx, hb, hml, hown, hts0⟩ (mX7_reason l dC dI cI o q0 q1 U89 x M h 944 g2 (fX7_of f 0 g 3) (fX7_of f 0 g 4) hL4.1 (by omega)) (cwV 4 hts0 (gi_V u_989 u_991 us_27 u_7 u_992) rfl rfl rfl (by decide +kernel) ⟨Nat.le_of_ble_eq_true rfl, Nat.le_of_ble_eq_true rfl⟩) (pcR_V (ci := 5) (q0 := 0) hP hK hn rfl rfl) rfl rfl hl.1 rfl (lv_room (Nat.le_of_ble_eq_true rfl)) dX7_canSwap_105 ⟨Nat.zero_le _, Nat.zero_le _⟩) ?_
    refine lv_if_ne (tgt := 115) hx hb dX7_canSwap_108 (by decide) (fun c_108 => ?_) (fun c_108 => ?_)
    · have hF := hF.trans (if_neg c_108)
      refine lv_iconst (v := 0) hx hb dX7_canSwap_115 (by decide) ?_
      exact K94 _ hF.symm _ _ hP hD hS  ls (lv_sub hl [0, 1, 2, 3, 4, 5, 6, 7] rfl)
    have hF := hF.trans (if_pos c_108)
    refine lv_iconst (v := 1) hx hb dX7_canSwap_111 (by decide) ?_
    refine lv_goto (tgt := 116) hx hb dX7_canSwap_112 (by decide) ?_
    exact K94 _ hF.symm _ _ hP hD hS  ls (lv_sub hl [0, 1, 2, 3, 4, 5, 6, 7] rfl)
  have hF : ((if (fX7_reason U55 944 g (fX7_of f 0 g2 3) (fX7_of f 0 g2 4)) = 0 then 1 else 0) : Nat) = (if (fX7_reason U55 944 g (fX7_of f 0 g2 3) (fX7_of f 0 g2 4)) = 0 then 1 else 0) := rfl
  refine lv_if_ne (tgt := 77) hx hb dX7_canSwap_70 (by decide) (fun c_70 => ?_) (fun c_70 => ?_)
  · have hF := hF.trans (if_neg c_70)
    refine lv_iconst (v := 0) hx hb dX7_canSwap_77 (by decide) ?_
    exact K70 _ hF.symm _ _ hP hD hS  ls (lv_sub hl [0, 1, 2, 3, 4, 5, 6] rfl)
  have hF := hF.trans (if_pos c_70)
  refine lv_iconst (v := 1) hx hb dX7_canSwap_73 (by decide) ?_
  refine lv_goto (tgt := 78) hx hb dX7_canSwap_74 (by decide) ?_
  exact K70 _ hF.symm _ _ hP hD hS  ls (lv_sub hl [0, 1, 2, 3, 4, 5, 6] rfl)

def fX7_seatedIf (f : Nat → Int32) (w : Int32) : Int32 × ((Nat → Int32)) :=
  (bd (fX7_copies f 0 8) (fun U4 => (bd2 (fX7_seatsAll U4 944) (fun r11 U11 => (if w = 0 then (r11, U11) else (((fX7_points U11 944 (-1)) + 1000), U11))))))
abbrev rmX7_seatedIf : Room := { frames := 7, cells := 0, slots := 0, locals := 173 }
set_option maxHeartbeats 4000000 in
set_option maxRecDepth 100000 in
theorem mX7_seatedIf (l : Launch) (dC : Nat → ClassId) (dI : Nat → Nat → Nat) (cI : ClassId) (o q0 q1 : Nat) (f x M : Nat → Int32) (h : Int64) (w : Int32) (hR : RW f 0) (G9 : Nat) (L9 : List Nat) (hL : RO f 0 G9 L9) : Met l yX7_seatedIf (ws_ yX7_seatedIf cX7_seatedIf 3 (some .int)) rmX7_seatedIf (pcM (dC, dI) [(cI, .int)] (mW cI o q0 q1 f x M h) [.ref o, .int w]) (va_Qi (fun (r9 : Int32) (u9 : (Nat → Int32)) => (r9, u9) = fX7_seatedIf f w) (fun u9 t => va_P (dC, dI) vwCl ((fun (v9 : (Nat → Int32)) => mW cI o q0 q1 v9 x M h) u9) t.heap) (adr (mW cI o q0 q1 f x M h))) 0 0 (adr (mW cI o q0 q1 f x M h)) := by
  refine Met.ofW (cc := cX7_seatedIf) (maxL := 3) (ret := (some .int)) (by decide) rfl ?_
  intro p e s m args below meth c s₁ B hml hv
  obtain ⟨ha, hP, hK, hn, hD0⟩ := hv
  have hx := B.exec
  have hb := B.bytes
  have hr := B.returns
  have hts0 := atoms_spec (ws := (ws_ yX7_seatedIf cX7_seatedIf 3 (some .int))) B.pre
  have hts : ∀ w ∈ lw_all, w.before args s = true := fun w h => hts0 w (List.mem_cons_of_mem _ h)
  have hown : s.vm.findClass RX7 = some m.cls := findClass_of_methodNamed B.named
  have hlocks := B.notSynchronized
  have hD := adr_self hD0
  obtain ⟨A, hA⟩ : ∃ A, A = adr (mW cI o q0 q1 f x M h) := ⟨_, rfl⟩
  rw [← hA] at hD
  have hS : va_S A s.heap s.heap [] := va_S.rf
  obtain ⟨Q, hQ⟩ : ∃ Q, Q = MQ below (va_Qi (fun (r9 : Int32) (u9 : (Nat → Int32)) => (r9, u9) = fX7_seatedIf f w) (fun u9 t => va_P (dC, dI) vwCl ((fun (v9 : (Nat → Int32)) => mW cI o q0 q1 v9 x M h) u9) t.heap) (adr (mW cI o q0 q1 f x M h))) args s 0 0 (adr (mW cI o q0 q1 f x M h)) := ⟨_, rfl⟩
  rw [← hQ]
  rw [← hA] at hQ
  have hl := lv_entry ([.ref o, .int w]) (n := 3) (Nat.le_of_ble_eq_true rfl)
  rw [ha, lg_entry_eq, ← ha]
  generalize (lg_sl ([.ref o, .int w]) ++ List.replicate (3 - (lg_sl ([.ref o, .int w])).length) Slot.unset).toArray = ls at hl ⊢
  have hl : lv_has ls 3 [(0, .ref o), (1, .int w)] := hl
  show W p l e rmX7_seatedIf s m args below meth c s.heap [] 0 0 Q (F0 m 0 ls [])
  have hF : fX7_seatedIf f w = fX7_seatedIf f w := rfl
  refine lv_aload_n hx hb dX7_seatedIf_0 rfl (lv_at hl 0 rfl) ?_
  refine lv_iconst (v := 0) hx hb dX7_seatedIf_1 (by decide) ?_
  refine lv_bipush (v := 8) hx hb dX7_seatedIf_2 (by decide) ?_
  refine k_mutv (Wd := (fun (v9 : (Nat → Int32)) => mW cI o q0 q1 v9 x M h)) (va_runV (As := [.int 0, .int 8]) (rest := []) ⟨hx, hb, hml, hown, hts0⟩ (mX7_copies l dC dI cI o q0 q1 f x M h 0 8 (by decide) (by decide)) (cwV 2 hts0 (gi_V u_916 u_918 us_17 u_7 u_919) rfl rfl rfl (by decide +kernel) ⟨Nat.le_of_ble_eq_true rfl, Nat.le_of_ble_eq_true rfl⟩) (pcM_V (ci := 5) (q0 := 0) hP hK hn hD rfl rfl) rfl rfl hl.1 rfl (lv_room (Nat.le_of_ble_eq_true rfl)) dX7_seatedIf_4 ⟨Nat.zero_le _, Nat.zero_le _⟩) hP hD hS [0, 1, 2] rfl rfl (fun _ => rfl) (fun U4 H locs hU4 hP hD hS => ?_)
  have hP : va_P (dC, dI) vwCl (mW cI o q0 q1 U4 x M h) H := hP
  have hD : va_D A (mW cI o q0 q1 U4 x M h) := hD
  have hF := bd_at hF hU4
  have hL1 : RO U4 944 G9 L9 := by rw [hU4]; exact RO_there hL
  refine lv_aload_n hx hb dX7_seatedIf_7 rfl (lv_at hl 0 rfl) ?_
  refine lv_sipush (v := 944) hx hb dX7_seatedIf_8 (by decide) ?_
  refine k_muti (Wd := (fun (v9 : (Nat → Int32)) => mW cI o q0 q1 v9 x M h)) (va_runV (As := [.int 944]) (rest := []) ⟨hx, hb, hml, hown, hts0⟩ (mX7_seatsAll l dC dI cI o q0 q1 U4 x M h 944 G9 L9 hL1) (cwV 1 hts0 (gi_V u_1032 u_1034 us_34 u_7 u_1035) rfl rfl rfl (by decide +kernel) ⟨Nat.le_of_ble_eq_true rfl, Nat.le_of_ble_eq_true rfl⟩) (pcM_V (ci := 5) (q0 := 0) hP hK hn hD rfl rfl) rfl rfl hl.1 rfl (lv_room (Nat.le_of_ble_eq_true rfl)) dX7_seatedIf_11 ⟨Nat.zero_le _, Nat.zero_le _⟩) hP hD hS [0, 1, 2] rfl rfl (fun _ => rfl) (fun r11 U11 H locs hU11 hP hD hS => ?_)
  have hP : va_P (dC, dI) vwCl (mW cI o q0 q1 U11 x M h) H := hP
  have hD : va_D A (mW cI o q0 q1 U11 x M h) := hD
  have hF := bd2_at hF hU11
  obtain ⟨L2, hL2⟩ := RO_seatsAll hL1
  rw [← (congrArg Prod.snd hU11 : U11 = _)] at hL2
  refine lv_istore_n (lv' := [(2, .int r11), (0, .ref o), (1, .int w)]) hx hb dX7_seatedIf_14 rfl hl (by decide) rfl (fun ls hl => ?_)
  refine lv_iload_n hx hb dX7_seatedIf_15 rfl (lv_at hl 2 rfl) ?_
  refine lv_if_ne (tgt := 23) hx hb dX7_seatedIf_16 (by decide) (fun c_16 => ?_) (fun c_16 => ?_)
  · have hF := hF.trans (if_neg c_16)
    refine lv_aload_n hx hb dX7_seatedIf_23 rfl (lv_at hl 1 rfl) ?_
    refine lv_sipush (v := 944) hx hb dX7_seatedIf_24 (by decide) ?_
    refine lv_iconst (v := (-1)) hx hb dX7_seatedIf_27 (by decide) ?_
    refine k_calli (W.runV (As := [.int 944, .int (-1)]) (rest := []) ⟨hx, hb, hml, hown, hts0⟩ (mX7_points l dC dI cI o q0 q1 U11 x M h 944 (-1) hL2.1) (cwV 2 hts0 (gi_V u_1004 u_1006 us_30 u_7 u_1007) rfl rfl rfl (by decide +kernel) ⟨Nat.le_of_ble_eq_true rfl, Nat.le_of_ble_eq_true rfl⟩) (pcR_V (ci := 5) (q0 := 0) hP hK hn rfl rfl) rfl rfl hl.1 rfl (lv_room (Nat.le_of_ble_eq_true rfl)) dX7_seatedIf_28 ⟨Nat.zero_le _, Nat.zero_le _⟩) ?_
    refine lv_sipush (v := 1000) hx hb dX7_seatedIf_31 (by decide) ?_
    refine lv_iadd hx hb dX7_seatedIf_34 ?_
    rw [hQ]
    exact W.iret (v := ((fX7_points U11 944 (-1)) + 1000)) hx hb hr (fun t ht hW => ⟨⟨((fX7_points U11 944 (-1)) + 1000), U11, rfl, hF.symm, toH ht hP⟩, hS.F ht⟩) hS.2.2 dX7_seatedIf_35
  have hF := hF.trans (if_pos c_16)
  refine lv_iload_n hx hb dX7_seatedIf_19 rfl (lv_at hl 0 rfl) ?_
  refine lv_goto (tgt := 35) hx hb dX7_seatedIf_20 (by decide) ?_
  rw [hQ]
  exact W.iret (v := r11) hx hb hr (fun t ht hW => ⟨⟨r11, U11, rfl, hF.symm, toH ht hP⟩, hS.F ht⟩) hS.2.2 dX7_seatedIf_35

def fX7_sign (x : Nat → Int32) (M : Nat → Int32) : Int32 :=
  (if (nI (M 3).toNatClampNeg) ≤ (nI (M 4).toNatClampNeg) then 0 else (x ((M 4).toNatClampNeg)))
abbrev rmX7_sign : Room := { frames := 0, cells := 0, slots := 0, locals := 0 }
set_option maxHeartbeats 4000000 in
set_option maxRecDepth 100000 in
theorem mX7_sign (l : Launch) (dC : Nat → ClassId) (dI : Nat → Nat → Nat) (cI : ClassId) (o q0 q1 : Nat) (f x M : Nat → Int32) (h : Int64) (hTX : TX M) : Met l yX7_sign (ws_ yX7_sign cX7_sign 1 (some .int)) rmX7_sign (pcR (dC, dI) [(cI, .int)] (mW cI o q0 q1 f x M h) [.ref o]) (vp_Si (fun r => r = fX7_sign x M)) 0 0 (fun _ => False) := by
  refine Met.ofW (cc := cX7_sign) (maxL := 1) (ret := (some .int)) (by decide) rfl ?_
  intro p e s m args below meth c s₁ B hml hv
  obtain ⟨ha, hP, hK, hn⟩ := hv
  have hx := B.exec
  have hb := B.bytes
  have hr := B.returns
  have hts0 := atoms_spec (ws := (ws_ yX7_sign cX7_sign 1 (some .int))) B.pre
  have hts : ∀ w ∈ lw_all, w.before args s = true := fun w h => hts0 w (List.mem_cons_of_mem _ h)
  have hown : s.vm.findClass RX7 = some m.cls := findClass_of_methodNamed B.named
  have hlocks := B.notSynchronized
  have htX7 : ∀ w ∈ wsX70, w.before args s = true := fun w h => hts w (wX7 w h)
  obtain ⟨Q, hQ⟩ : ∃ Q, Q = MQ below (vp_Si (fun r => r = fX7_sign x M)) args s 0 0 (fun _ => False) := ⟨_, rfl⟩
  rw [← hQ]
  have hl := lv_entry ([.ref o]) (n := 1) (Nat.le_of_ble_eq_true rfl)
  rw [ha, lg_entry_eq, ← ha]
  generalize (lg_sl ([.ref o]) ++ List.replicate (1 - (lg_sl ([.ref o])).length) Slot.unset).toArray = ls at hl ⊢
  have hl : lv_has ls 1 [(0, .ref o)] := hl
  show W p l e rmX7_sign s m args below meth c s.heap [] 0 0 Q (F0 m 0 ls [])
  have hF : fX7_sign x M = fX7_sign x M := rfl
  obtain ⟨hl3, hl4, hl34⟩ := id hTX
  have hb3 := hl3.c (by decide)
  have hb4 := hl4.c (by decide)
  have he3 := hl3.e (by decide)
  have he4 := hl4.e (by decide)
  refine lv_aload_n hx hb dX7_sign_0 rfl (lv_at hl 0 rfl) ?_
  refine va_get (D := (dC, dI)) (ci := 5) (v := .int (M 4)) (C := RX7) (T := TX7) (N := 12) hx hb htX7 (fun _ h => h) hown hK hP 0 rfl rfl 6 (by decide) (hts _ u_863) (fun _ h9 => h9) rfl dX7_sign_1 ?_
  refine lv_tope (y := (nI (M 4).toNatClampNeg)) he4 ?_
  refine lv_aload_n hx hb dX7_sign_4 rfl (lv_at hl 0 rfl) ?_
  refine va_get (D := (dC, dI)) (ci := 5) (v := .int (M 3)) (C := RX7) (T := TX7) (N := 12) hx hb htX7 (fun _ h => h) hown hK hP 0 rfl rfl 5 (by decide) (hts _ u_862) (fun _ h9 => h9) rfl dX7_sign_5 ?_
  refine lv_tope (y := (nI (M 3).toNatClampNeg)) he3 ?_
  refine lv_icmp_ge (tgt := 23) hx hb dX7_sign_8 (by decide) (fun c_8 => ?_) (fun c_8 => ?_)
  · have hF := hF.trans (if_pos c_8)
    refine lv_iconst (v := 0) hx hb dX7_sign_23 (by decide) ?_
    rw [hQ]
    exact W.iret (v := 0) hx hb hr (fun t ht hW => ⟨0, rfl, hF.symm, ht⟩) (fun q hq => absurd hq List.not_mem_nil) dX7_sign_24
  have hF := hF.trans (if_neg c_8)
  have hlt := TX_lt hTX c_8
  refine lv_aload_n hx hb dX7_sign_11 rfl (lv_at hl 0 rfl) ?_
  refine va_get (D := (dC, dI)) (ci := 5) (v := .ref q1) (C := RX7) (T := TX7) (N := 12) hx hb htX7 (fun _ h => h) hown hK hP 0 rfl rfl 4 (by decide) (hts _ u_861) (fun _ h9 => h9) rfl dX7_sign_12 ?_
  refine lv_aload_n hx hb dX7_sign_15 rfl (lv_at hl 0 rfl) ?_
  refine va_get (D := (dC, dI)) (ci := 5) (v := .int (M 4)) (C := RX7) (T := TX7) (N := 12) hx hb htX7 (fun _ h => h) hown hK hP 0 rfl rfl 6 (by decide) (hts _ u_863) (fun _ h9 => h9) rfl dX7_sign_16 ?_
  refine lv_tope (y := (nI (M 4).toNatClampNeg)) he4 ?_
  refine va_iald hx hb hK hP 2 0 rfl rfl (vp_in_nI (n := (M 4).toNatClampNeg) (by omega) (by decide)) dX7_sign_19 ?_
  refine lv_tope (y := (x ((M 4).toNatClampNeg))) (at_nI (k := (M 4).toNatClampNeg) (by omega)) ?_
  refine lv_goto (tgt := 24) hx hb dX7_sign_20 (by decide) ?_
  rw [hQ]
  exact W.iret (v := (x ((M 4).toNatClampNeg))) hx hb hr (fun t ht hW => ⟨(x ((M 4).toNatClampNeg)), rfl, hF.symm, ht⟩) (fun q hq => absurd hq List.not_mem_nil) dX7_sign_24

def fX7_takes (x : Nat → Int32) (M : Nat → Int32) (v : Int32) : Int32 × ((Nat → Int32)) :=
  (bd ((if (fX7_sign x M) = v then 1 else 0) : Nat) (fun v5_0 => (bd ((if (nI v5_0) = 0 then 0 else 1) : Nat) (fun v20_0 => ((nI v5_0), (upd M 4 ((M 4) + (nI v20_0))))))))
abbrev rmX7_takes : Room := { frames := 1, cells := 0, slots := 0, locals := 20 }
set_option maxHeartbeats 4000000 in
set_option maxRecDepth 100000 in
theorem mX7_takes (l : Launch) (dC : Nat → ClassId) (dI : Nat → Nat → Nat) (cI : ClassId) (o q0 q1 : Nat) (f x M : Nat → Int32) (h : Int64) (v : Int32) (hTX : TX M) : Met l yX7_takes (ws_ yX7_takes cX7_takes 3 (some .boolean)) rmX7_takes (pcM (dC, dI) [(cI, .int)] (mW cI o q0 q1 f x M h) [.ref o, .int v]) (va_Qi (fun (r9 : Int32) (u9 : (Nat → Int32)) => (r9, u9) = fX7_takes x M v ∧ (r9 = 0 ∨ r9 = 1)) (fun u9 t => va_P (dC, dI) vwCl ((fun (v9 : (Nat → Int32)) => mW cI o q0 q1 f x v9 h) u9) t.heap) (adr (mW cI o q0 q1 f x M h))) 0 0 (adr (mW cI o q0 q1 f x M h)) := by
  refine Met.ofW (cc := cX7_takes) (maxL := 3) (ret := (some .boolean)) (by decide) rfl ?_
  intro p e s m args below meth c s₁ B hml hv
  obtain ⟨ha, hP, hK, hn, hD0⟩ := hv
  have hx := B.exec
  have hb := B.bytes
  have hr := B.returns
  have hts0 := atoms_spec (ws := (ws_ yX7_takes cX7_takes 3 (some .boolean))) B.pre
  have hts : ∀ w ∈ lw_all, w.before args s = true := fun w h => hts0 w (List.mem_cons_of_mem _ h)
  have hown : s.vm.findClass RX7 = some m.cls := findClass_of_methodNamed B.named
  have hlocks := B.notSynchronized
  have htX7 : ∀ w ∈ wsX70, w.before args s = true := fun w h => hts w (wX7 w h)
  have hD := adr_self hD0
  obtain ⟨A, hA⟩ : ∃ A, A = adr (mW cI o q0 q1 f x M h) := ⟨_, rfl⟩
  rw [← hA] at hD
  have hS : va_S A s.heap s.heap [] := va_S.rf
  obtain ⟨Q, hQ⟩ : ∃ Q, Q = MQ below (va_Qi (fun (r9 : Int32) (u9 : (Nat → Int32)) => (r9, u9) = fX7_takes x M v ∧ (r9 = 0 ∨ r9 = 1)) (fun u9 t => va_P (dC, dI) vwCl ((fun (v9 : (Nat → Int32)) => mW cI o q0 q1 f x v9 h) u9) t.heap) (adr (mW cI o q0 q1 f x M h))) args s 0 0 (adr (mW cI o q0 q1 f x M h)) := ⟨_, rfl⟩
  rw [← hQ]
  rw [← hA] at hQ
  have hl := lv_entry ([.ref o, .int v]) (n := 3) (Nat.le_of_ble_eq_true rfl)
  rw [ha, lg_entry_eq, ← ha]
  generalize (lg_sl ([.ref o, .int v]) ++ List.replicate (3 - (lg_sl ([.ref o, .int v])).length) Slot.unset).toArray = ls at hl ⊢
  have hl : lv_has ls 3 [(0, .ref o), (1, .int v)] := hl
  show W p l e rmX7_takes s m args below meth c s.heap [] 0 0 Q (F0 m 0 ls [])
  have hF : fX7_takes x M v = fX7_takes x M v := rfl
  refine lv_aload_n hx hb dX7_takes_0 rfl (lv_at hl 0 rfl) ?_
  refine k_calli (W.runV (As := []) (rest := []) ⟨hx, hb, hml, hown, hts0⟩ (mX7_sign l dC dI cI o q0 q1 f x M h  (by first | omega | assumption)) (cwV 0 hts0 (gi_V u_1068 u_1070 us_40 u_7 u_1071) rfl rfl rfl (by decide +kernel) ⟨Nat.le_of_ble_eq_true rfl, Nat.le_of_ble_eq_true rfl⟩) (pcR_V (ci := 5) (q0 := 0) hP hK hn rfl rfl) rfl rfl hl.1 rfl (lv_room (Nat.le_of_ble_eq_true rfl)) dX7_takes_1 ⟨Nat.zero_le _, Nat.zero_le _⟩) ?_
  refine lv_iload_n hx hb dX7_takes_4 rfl (lv_at hl 1 rfl) ?_
  have K5 : ∀ (v5_0 : Nat), v5_0 = (if (fX7_sign x M) = v then 1 else 0) → ∀ (H : Heap) (locs : List Loc), va_P (dC, dI) vwCl (mW cI o q0 q1 f x M h) H → va_D A (mW cI o q0 q1 f x M h) → va_S A s.heap H locs → ∀ (ls : Array Slot), lv_has ls 3 [(0, .ref o), (1, .int v)] → W p l e rmX7_takes s m args below meth c H locs 0 0 Q (F0 m 13 ls [.int (nI v5_0)]) := by
    intro v5_0 hz5 H locs hP hD hS ls hl
    have hz := hz5
    have bz5 : (nI v5_0 : Int32) = 0 ∨ nI v5_0 = 1 := by rw [hz]; (repeat' split); all_goals first | exact Or.inl rfl | exact Or.inr rfl
    have hF := bd_at hF hz
    refine lv_istore_n (lv' := [(2, .int (nI v5_0)), (0, .ref o), (1, .int v)]) hx hb dX7_takes_13 rfl hl (by decide) rfl (fun ls hl => ?_)
    refine lv_aload_n hx hb dX7_takes_14 rfl (lv_at hl 1 rfl) ?_
    refine lv_dup hx hb dX7_takes_15 rfl ?_
    refine va_get (D := (dC, dI)) (ci := 5) (v := .int (M 4)) (C := RX7) (T := TX7) (N := 12) hx hb htX7 (fun _ h => h) hown hK hP 0 rfl rfl 6 (by decide) (hts _ u_863) (fun _ h9 => h9) rfl dX7_takes_16 ?_
    refine lv_iload_n hx hb dX7_takes_19 rfl (lv_at hl 0 rfl) ?_
    have K20 : ∀ (v20_0 : Nat), v20_0 = (if (nI v5_0) = 0 then 0 else 1) → ∀ (H : Heap) (locs : List Loc), va_P (dC, dI) vwCl (mW cI o q0 q1 f x M h) H → va_D A (mW cI o q0 q1 f x M h) → va_S A s.heap H locs → ∀ (ls : Array Slot), lv_has ls 3 [(2, .int (nI v5_0)), (0, .ref o), (1, .int v)] → W p l e rmX7_takes s m args below meth c H locs 0 0 Q (F0 m 28 ls [.int (nI v20_0), .int (M 4), .ref o]) := by
      intro v20_0 hz20 H locs hP hD hS ls hl
      have hz := hz20
      have bz20 : (nI v20_0 : Int32) = 0 ∨ nI v20_0 = 1 := by rw [hz]; (repeat' split); all_goals first | exact Or.inl rfl | exact Or.inr rfl
      have hF := bd_at hF hz
      refine lv_iadd hx hb dX7_takes_28 ?_
      refine va_put (D := (dC, dI)) (ci := 5) (v := .int ((M 4) + (nI v20_0))) (ty := .int) (C := RX7) (T := TX7) (N := 12) hx hb htX7 (fun _ h => h) tyX7 tyX7_ok nmX7 hown hK hP hD hS 0 rfl rfl 6 (by decide) (hts _ u_863) (fun _ h9 => h9) rfl (by decide +kernel) rfl rfl (Nat.le_of_ble_eq_true rfl) dX7_takes_29 (fun H locs hP hD hS => ?_)
      have hP : va_P (dC, dI) vwCl (mW cI o q0 q1 f x (upd M 4 ((M 4) + (nI v20_0))) h) H := hP
      have hD : va_D A (mW cI o q0 q1 f x (upd M 4 ((M 4) + (nI v20_0))) h) := hD
      refine lv_iload_n hx hb dX7_takes_32 rfl (lv_at hl 0 rfl) ?_
      rw [hQ]
      exact W.zret (ty := .boolean) (v := (nI v5_0)) hx hb hr (nb01 (bz5)) (fun t ht hW => ⟨⟨(nI v5_0), (upd M 4 ((M 4) + (nI v20_0))), rfl, ⟨hF.symm, bz5⟩, toH ht hP⟩, hS.F ht⟩) hS.2.2 dX7_takes_33
    have hF : ((if (nI v5_0) = 0 then 0 else 1) : Nat) = (if (nI v5_0) = 0 then 0 else 1) := rfl
    refine lv_if_eq (tgt := 27) hx hb dX7_takes_20 (by decide) (fun c_20 => ?_) (fun c_20 => ?_)
    · have hF := hF.trans (if_pos c_20)
      refine lv_iconst (v := 0) hx hb dX7_takes_27 (by decide) ?_
      exact K20 _ hF.symm _ _ hP hD hS  ls (lv_sub hl [0, 1, 2] rfl)
    have hF := hF.trans (if_neg c_20)
    refine lv_iconst (v := 1) hx hb dX7_takes_23 (by decide) ?_
    refine lv_goto (tgt := 28) hx hb dX7_takes_24 (by decide) ?_
    exact K20 _ hF.symm _ _ hP hD hS  ls (lv_sub hl [0, 1, 2] rfl)
  have hF : ((if (fX7_sign x M) = v then 1 else 0) : Nat) = (if (fX7_sign x M) = v then 1 else 0) := rfl
  refine lv_icmp_ne (tgt := 12) hx hb dX7_takes_5 (by decide) (fun c_5 => ?_) (fun c_5 => ?_)
  · have hF := hF.trans (if_neg c_5)
    refine lv_iconst (v := 0) hx hb dX7_takes_12 (by decide) ?_
    exact K5 _ hF.symm _ _ hP hD hS  ls (lv_sub hl [0, 1] rfl)
  have hF := hF.trans (if_pos c_5)
  refine lv_iconst (v := 1) hx hb dX7_takes_8 (by decide) ?_
  refine lv_goto (tgt := 13) hx hb dX7_takes_9 (by decide) ?_
  exact K5 _ hF.symm _ _ hP hD hS  ls (lv_sub hl [0, 1] rfl)

def fX7_readsOne (x : Nat → Int32) (M : Nat → Int32) (v : Int32) (a : Int32) : Int32 × ((Nat → Int32)) :=
  (bd ((if (fX7_in (fX7_sign x M) v a) = 0 then (-1) else ((fX7_sign x M) - v)) : Int32) (fun v9_0 => (bd ((if v9_0 = (-1) then 0 else 1) : Nat) (fun v30_0 => (v9_0, (upd M 4 ((M 4) + (nI v30_0))))))))
abbrev rmX7_readsOne : Room := { frames := 1, cells := 0, slots := 0, locals := 22 }
set_option maxHeartbeats 4000000 in
set_option maxRecDepth 100000 in
theorem mX7_readsOne (l : Launch) (dC : Nat → ClassId) (dI : Nat → Nat → Nat) (cI : ClassId) (o q0 q1 : Nat) (f x M : Nat → Int32) (h : Int64) (v : Int32) (a : Int32) (hTX : TX M) : Met l yX7_readsOne (ws_ yX7_readsOne cX7_readsOne 4 (some .int)) rmX7_readsOne (pcM (dC, dI) [(cI, .int)] (mW cI o q0 q1 f x M h) [.ref o, .int v, .int a]) (va_Qi (fun (r9 : Int32) (u9 : (Nat → Int32)) => (r9, u9) = fX7_readsOne x M v a) (fun u9 t => va_P (dC, dI) vwCl ((fun (v9 : (Nat → Int32)) => mW cI o q0 q1 f x v9 h) u9) t.heap) (adr (mW cI o q0 q1 f x M h))) 0 0 (adr (mW cI o q0 q1 f x M h)) := by
  refine Met.ofW (cc := cX7_readsOne) (maxL := 4) (ret := (some .int)) (by decide) rfl ?_
  intro p e s m args below meth c s₁ B hml hv
  obtain ⟨ha, hP, hK, hn, hD0⟩ := hv
  have hx := B.exec
  have hb := B.bytes
  have hr := B.returns
  have hts0 := atoms_spec (ws := (ws_ yX7_readsOne cX7_readsOne 4 (some .int))) B.pre
  have hts : ∀ w ∈ lw_all, w.before args s = true := fun w h => hts0 w (List.mem_cons_of_mem _ h)
  have hown : s.vm.findClass RX7 = some m.cls := findClass_of_methodNamed B.named
  have hlocks := B.notSynchronized
  have htX7 : ∀ w ∈ wsX70, w.before args s = true := fun w h => hts w (wX7 w h)
  have hD := adr_self hD0
  obtain ⟨A, hA⟩ : ∃ A, A = adr (mW cI o q0 q1 f x M h) := ⟨_, rfl⟩
  rw [← hA] at hD
  have hS : va_S A s.heap s.heap [] := va_S.rf
  obtain ⟨Q, hQ⟩ : ∃ Q, Q = MQ below (va_Qi (fun (r9 : Int32) (u9 : (Nat → Int32)) => (r9, u9) = fX7_readsOne x M v a) (fun u9 t => va_P (dC, dI) vwCl ((fun (v9 : (Nat → Int32)) => mW cI o q0 q1 f x v9 h) u9) t.heap) (adr (mW cI o q0 q1 f x M h))) args s 0 0 (adr (mW cI o q0 q1 f x M h)) := ⟨_, rfl⟩
  rw [← hQ]
  rw [← hA] at hQ
  have hl := lv_entry ([.ref o, .int v, .int a]) (n := 4) (Nat.le_of_ble_eq_true rfl)
  rw [ha, lg_entry_eq, ← ha]
  generalize (lg_sl ([.ref o, .int v, .int a]) ++ List.replicate (4 - (lg_sl ([.ref o, .int v, .int a])).length) Slot.unset).toArray = ls at hl ⊢
  have hl : lv_has ls 4 [(0, .ref o), (1, .int v), (2, .int a)] := hl
  show W p l e rmX7_readsOne s m args below meth c s.heap [] 0 0 Q (F0 m 0 ls [])
  have hF : fX7_readsOne x M v a = fX7_readsOne x M v a := rfl
  refine lv_aload_n hx hb dX7_readsOne_0 rfl (lv_at hl 0 rfl) ?_
  refine k_calli (W.runV (As := []) (rest := []) ⟨hx, hb, hml, hown, hts0⟩ (mX7_sign l dC dI cI o q0 q1 f x M h  (by first | omega | assumption)) (cwV 0 hts0 (gi_V u_1068 u_1070 us_40 u_7 u_1071) rfl rfl rfl (by decide +kernel) ⟨Nat.le_of_ble_eq_true rfl, Nat.le_of_ble_eq_true rfl⟩) (pcR_V (ci := 5) (q0 := 0) hP hK hn rfl rfl) rfl rfl hl.1 rfl (lv_room (Nat.le_of_ble_eq_true rfl)) dX7_readsOne_1 ⟨Nat.zero_le _, Nat.zero_le _⟩) ?_
  refine lv_iload_n hx hb dX7_readsOne_4 rfl (lv_at hl 1 rfl) ?_
  refine lv_iload_n hx hb dX7_readsOne_5 rfl (lv_at hl 2 rfl) ?_
  refine k_callb (W.runS (As := [.int (fX7_sign x M), .int v, .int a]) (rest := []) ⟨hx, hb, hml, hown, hts0⟩ (mX7_in l dC dI  (fX7_sign x M) v a) (va_cwS 3 hts0 (gi_S u_905 u_906 u_7 u_907) rfl rfl rfl (by decide +kernel) ⟨Nat.le_of_ble_eq_true rfl, Nat.le_of_ble_eq_true rfl⟩) (pcR_S (hP.sub (ws' := []) [] rfl) (hK.sub (tys' := []) [] rfl) hn) rfl rfl hl.1 rfl (lv_room (Nat.le_of_ble_eq_true rfl)) dX7_readsOne_6 ⟨Nat.zero_le _, Nat.zero_le _⟩) (fun br6 => ?_)
  have K9 : ∀ (v9_0 : Int32), v9_0 = (if (fX7_in (fX7_sign x M) v a) = 0 then (-1) else ((fX7_sign x M) - v)) → ∀ (H : Heap) (locs : List Loc), va_P (dC, dI) vwCl (mW cI o q0 q1 f x M h) H → va_D A (mW cI o q0 q1 f x M h) → va_S A s.heap H locs → ∀ (ls : Array Slot), lv_has ls 4 [(0, .ref o), (1, .int v), (2, .int a)] → W p l e rmX7_readsOne s m args below meth c H locs 0 0 Q (F0 m 22 ls [.int v9_0]) := by
    intro v9_0 hz9 H locs hP hD hS ls hl
    have hz := hz9
    have hF := bd_at hF hz
    refine lv_istore_n (lv' := [(3, .int v9_0), (0, .ref o), (1, .int v), (2, .int a)]) hx hb dX7_readsOne_22 rfl hl (by decide) rfl (fun ls hl => ?_)
    refine lv_aload_n hx hb dX7_readsOne_23 rfl (lv_at hl 1 rfl) ?_
    refine lv_dup hx hb dX7_readsOne_24 rfl ?_
    refine va_get (D := (dC, dI)) (ci := 5) (v := .int (M 4)) (C := RX7) (T := TX7) (N := 12) hx hb htX7 (fun _ h => h) hown hK hP 0 rfl rfl 6 (by decide) (hts _ u_863) (fun _ h9 => h9) rfl dX7_readsOne_25 ?_
    refine lv_iload_n hx hb dX7_readsOne_28 rfl (lv_at hl 0 rfl) ?_
    refine lv_iconst (v := (-1)) hx hb dX7_readsOne_29 (by decide) ?_
    have K30 : ∀ (v30_0 : Nat), v30_0 = (if v9_0 = (-1) then 0 else 1) → ∀ (H : Heap) (locs : List Loc), va_P (dC, dI) vwCl (mW cI o q0 q1 f x M h) H → va_D A (mW cI o q0 q1 f x M h) → va_S A s.heap H locs → ∀ (ls : Array Slot), lv_has ls 4 [(3, .int v9_0), (0, .ref o), (1, .int v), (2, .int a)] → W p l e rmX7_readsOne s m args below meth c H locs 0 0 Q (F0 m 38 ls [.int (nI v30_0), .int (M 4), .ref o]) := by
      intro v30_0 hz30 H locs hP hD hS ls hl
      have hz := hz30
      have bz30 : (nI v30_0 : Int32) = 0 ∨ nI v30_0 = 1 := by rw [hz]; (repeat' split); all_goals first | exact Or.inl rfl | exact Or.inr rfl
      have hF := bd_at hF hz
      refine lv_iadd hx hb dX7_readsOne_38 ?_
      refine va_put (D := (dC, dI)) (ci := 5) (v := .int ((M 4) + (nI v30_0))) (ty := .int) (C := RX7) (T := TX7) (N := 12) hx hb htX7 (fun _ h => h) tyX7 tyX7_ok nmX7 hown hK hP hD hS 0 rfl rfl 6 (by decide) (hts _ u_863) (fun _ h9 => h9) rfl (by decide +kernel) rfl rfl (Nat.le_of_ble_eq_true rfl) dX7_readsOne_39 (fun H locs hP hD hS => ?_)
      have hP : va_P (dC, dI) vwCl (mW cI o q0 q1 f x (upd M 4 ((M 4) + (nI v30_0))) h) H := hP
      have hD : va_D A (mW cI o q0 q1 f x (upd M 4 ((M 4) + (nI v30_0))) h) := hD
      refine lv_iload_n hx hb dX7_readsOne_42 rfl (lv_at hl 0 rfl) ?_
      rw [hQ]
      exact W.iret (v := v9_0) hx hb hr (fun t ht hW => ⟨⟨v9_0, (upd M 4 ((M 4) + (nI v30_0))), rfl, hF.symm, toH ht hP⟩, hS.F ht⟩) hS.2.2 dX7_readsOne_43
    have hF : ((if v9_0 = (-1) then 0 else 1) : Nat) = (if v9_0 = (-1) then 0 else 1) := rfl
    refine lv_icmp_ne (tgt := 37) hx hb dX7_readsOne_30 (by decide) (fun c_30 => ?_) (fun c_30 => ?_)
    · have hF := hF.trans (if_neg c_30)
      refine lv_iconst (v := 1) hx hb dX7_readsOne_37 (by decide) ?_
      exact K30 _ hF.symm _ _ hP hD hS  ls (lv_sub hl [0, 1, 2, 3] rfl)
    have hF := hF.trans (if_pos c_30)
    refine lv_iconst (v := 0) hx hb dX7_readsOne_33 (by decide) ?_
    refine lv_goto (tgt := 38) hx hb dX7_readsOne_34 (by decide) ?_
    exact K30 _ hF.symm _ _ hP hD hS  ls (lv_sub hl [0, 1, 2, 3] rfl)
  have hF : ((if (fX7_in (fX7_sign x M) v a) = 0 then (-1) else ((fX7_sign x M) - v)) : Int32) = (if (fX7_in (fX7_sign x M) v a) = 0 then (-1) else ((fX7_sign x M) - v)) := rfl
  refine lv_if_eq (tgt := 21) hx hb dX7_readsOne_9 (by decide) (fun c_9 => ?_) (fun c_9 => ?_)
  · have hF := hF.trans (if_pos c_9)
    refine lv_iconst (v := (-1)) hx hb dX7_readsOne_21 (by decide) ?_
    exact K9 _ hF.symm _ _ hP hD hS  ls (lv_sub hl [0, 1, 2] rfl)
  have hF := hF.trans (if_neg c_9)
  refine lv_aload_n hx hb dX7_readsOne_12 rfl (lv_at hl 0 rfl) ?_
  refine k_calli (W.runV (As := []) (rest := []) ⟨hx, hb, hml, hown, hts0⟩ (mX7_sign l dC dI cI o q0 q1 f x M h  (by first | omega | assumption)) (cwV 0 hts0 (gi_V u_1068 u_1070 us_40 u_7 u_1071) rfl rfl rfl (by decide +kernel) ⟨Nat.le_of_ble_eq_true rfl, Nat.le_of_ble_eq_true rfl⟩) (pcR_V (ci := 5) (q0 := 0) hP hK hn rfl rfl) rfl rfl hl.1 rfl (lv_room (Nat.le_of_ble_eq_true rfl)) dX7_readsOne_13 ⟨Nat.zero_le _, Nat.zero_le _⟩) ?_
  refine lv_iload_n hx hb dX7_readsOne_16 rfl (lv_at hl 1 rfl) ?_
  refine lv_isub hx hb dX7_readsOne_17 ?_
  refine lv_goto (tgt := 22) hx hb dX7_readsOne_18 (by decide) ?_
  exact K9 _ hF.symm _ _ hP hD hS  ls (lv_sub hl [0, 1, 2] rfl)
