def fX7_metBy (f : Nat → Int32) (b : Nat) (g : Nat) : Int32 :=
  (if (fX7_of f b g 2) = (-1) then 0 else (if (fX7_of f b g 3) = (-1) then 0 else (if (fX7_of f b ((fX7_of f b g 2).toNatClampNeg) 3) = (fX7_of f b g 3) then (if ((fX7_of f b g 4) - (fX7_of f b ((fX7_of f b g 2).toNatClampNeg) 4)) = 1 then 2 else (if ((fX7_of f b g 4) - (fX7_of f b ((fX7_of f b g 2).toNatClampNeg) 4)) = (-1) then 2 else (if ((fX7_of f b g 4) - (fX7_of f b ((fX7_of f b g 2).toNatClampNeg) 4)) = ((f ((b + 18) + (fX7_of f b g 3).toNatClampNeg)) - 1) then 2 else (if ((fX7_of f b g 4) - (fX7_of f b ((fX7_of f b g 2).toNatClampNeg) 4)) = (-((f ((b + 18) + (fX7_of f b g 3).toNatClampNeg)) - 1)) then 2 else 1)))) else 0)))
abbrev rmX7_metBy : Room := { frames := 1, cells := 0, slots := 0, locals := 23 }
set_option maxHeartbeats 4000000 in
set_option maxRecDepth 100000 in
theorem mX7_metBy (l : Launch) (dC : Nat → ClassId) (dI : Nat → Nat → Nat) (cI : ClassId) (o q0 q1 : Nat) (f x M : Nat → Int32) (h : Int64) (b : Nat) (g : Nat) (hR : RW f b) (hg : g < 16) : Met l yX7_metBy (ws_ yX7_metBy cX7_metBy 6 (some .int)) rmX7_metBy (pcR (dC, dI) [(cI, .int)] (mW cI o q0 q1 f x M h) [.ref o, .int (nI b), .int (nI g)]) (vp_Si (fun r => r = fX7_metBy f b g)) 0 0 (fun _ => False) := by
  refine Met.ofW (cc := cX7_metBy) (maxL := 6) (ret := (some .int)) (by decide) rfl ?_
  intro p e s m args below meth c s₁ B hml hv
  obtain ⟨ha, hP, hK, hn⟩ := hv
  have hx := B.exec
  have hb := B.bytes
  have hr := B.returns
  have hts0 := atoms_spec (ws := (ws_ yX7_metBy cX7_metBy 6 (some .int))) B.pre
  have hts : ∀ w ∈ lw_all, w.before args s = true := fun w h => hts0 w (List.mem_cons_of_mem _ h)
  have hown : s.vm.findClass RX7 = some m.cls := findClass_of_methodNamed B.named
  have hlocks := B.notSynchronized
  have htX7 : ∀ w ∈ wsX70, w.before args s = true := fun w h => hts w (wX7 w h)
  obtain ⟨Q, hQ⟩ : ∃ Q, Q = MQ below (vp_Si (fun r => r = fX7_metBy f b g)) args s 0 0 (fun _ => False) := ⟨_, rfl⟩
  rw [← hQ]
  have hl := lv_entry ([.ref o, .int (nI b), .int (nI g)]) (n := 6) (Nat.le_of_ble_eq_true rfl)
  rw [ha, lg_entry_eq, ← ha]
  generalize (lg_sl ([.ref o, .int (nI b), .int (nI g)]) ++ List.replicate (6 - (lg_sl ([.ref o, .int (nI b), .int (nI g)])).length) Slot.unset).toArray = ls at hl ⊢
  have hl : lv_has ls 6 [(0, .ref o), (1, .int (nI b)), (2, .int (nI g))] := hl
  show W p l e rmX7_metBy s m args below meth c s.heap [] 0 0 Q (F0 m 0 ls [])
  have hF : fX7_metBy f b g = fX7_metBy f b g := rfl
  obtain ⟨rB, rG0, rT0, rF0, rS0, rTW, rWW⟩ := id hR
  have rG := rG0.c (by decide)
  have rT := rT0.c (by decide)
  have rF := rF0.c (by decide)
  have rS := rS0.c (by decide)
  refine lv_aload_n hx hb dX7_metBy_0 rfl (lv_at hl 0 rfl) ?_
  refine lv_iload_n hx hb dX7_metBy_1 rfl (lv_at hl 1 rfl) ?_
  refine lv_iload_n hx hb dX7_metBy_2 rfl (lv_at hl 2 rfl) ?_
  refine lv_iconst (v := 2) hx hb dX7_metBy_3 (by decide) ?_
  refine k_calli (W.runV (As := [.int (nI b), .int (nI g), .int 2]) (rest := []) ⟨hx, hb, hml, hown, hts0⟩ (mX7_of l dC dI cI o q0 q1 f x M h b g 2 (by first | omega | assumption)) (cwV 3 hts0 (gi_V u_932 u_934 us_20 u_7 u_935) rfl rfl rfl (by decide +kernel) ⟨Nat.le_of_ble_eq_true rfl, Nat.le_of_ble_eq_true rfl⟩) (pcR_V (ci := 5) (q0 := 0) hP hK hn rfl rfl) rfl rfl hl.1 rfl (lv_room (Nat.le_of_ble_eq_true rfl)) dX7_metBy_4 ⟨Nat.zero_le _, Nat.zero_le _⟩) ?_
  refine lv_istore_n (lv' := [(3, .int (fX7_of f b g 2)), (0, .ref o), (1, .int (nI b)), (2, .int (nI g))]) hx hb dX7_metBy_7 rfl hl (by decide) rfl (fun ls hl => ?_)
  refine lv_iload_n hx hb dX7_metBy_8 rfl (lv_at hl 0 rfl) ?_
  refine lv_iconst (v := (-1)) hx hb dX7_metBy_9 (by decide) ?_
  refine lv_icmp_eq (tgt := 41) hx hb dX7_metBy_10 (by decide) (fun c_10 => ?_) (fun c_10 => ?_)
  · have hF := hF.trans (if_pos c_10)
    refine lv_iconst (v := 0) hx hb dX7_metBy_41 (by decide) ?_
    rw [hQ]
    exact W.iret (v := 0) hx hb hr (fun t ht hW => ⟨0, rfl, hF.symm, ht⟩) (fun q hq => absurd hq List.not_mem_nil) dX7_metBy_42
  have hF := hF.trans (if_neg c_10)
  obtain ⟨hfr, hfb⟩ := WW_nat (x := fX7_of f b g 2) (rWW g hg) c_10
  refine lv_aload_n hx hb dX7_metBy_13 rfl (lv_at hl 1 rfl) ?_
  refine lv_iload_n hx hb dX7_metBy_14 rfl (lv_at hl 2 rfl) ?_
  refine lv_iload_n hx hb dX7_metBy_15 rfl (lv_at hl 3 rfl) ?_
  refine lv_iconst (v := 3) hx hb dX7_metBy_16 (by decide) ?_
  refine k_calli (W.runV (As := [.int (nI b), .int (nI g), .int 3]) (rest := []) ⟨hx, hb, hml, hown, hts0⟩ (mX7_of l dC dI cI o q0 q1 f x M h b g 3 (by first | omega | assumption)) (cwV 3 hts0 (gi_V u_932 u_934 us_20 u_7 u_935) rfl rfl rfl (by decide +kernel) ⟨Nat.le_of_ble_eq_true rfl, Nat.le_of_ble_eq_true rfl⟩) (pcR_V (ci := 5) (q0 := 0) hP hK hn rfl rfl) rfl rfl hl.1 rfl (lv_room (Nat.le_of_ble_eq_true rfl)) dX7_metBy_17 ⟨Nat.zero_le _, Nat.zero_le _⟩) ?_
  refine lv_iconst (v := (-1)) hx hb dX7_metBy_20 (by decide) ?_
  refine lv_icmp_eq (tgt := 41) hx hb dX7_metBy_21 (by decide) (fun c_21 => ?_) (fun c_21 => ?_)
  · have hF := hF.trans (if_pos c_21)
    refine lv_iconst (v := 0) hx hb dX7_metBy_41 (by decide) ?_
    rw [hQ]
    exact W.iret (v := 0) hx hb hr (fun t ht hW => ⟨0, rfl, hF.symm, ht⟩) (fun q hq => absurd hq List.not_mem_nil) dX7_metBy_42
  have hF := hF.trans (if_neg c_21)
  refine lv_aload_n hx hb dX7_metBy_24 rfl (lv_at hl 1 rfl) ?_
  refine lv_iload_n hx hb dX7_metBy_25 rfl (lv_at hl 2 rfl) ?_
  refine lv_iload_n hx hb dX7_metBy_26 rfl (lv_at hl 0 rfl) ?_
  refine lv_tope (y := (nI (fX7_of f b g 2).toNatClampNeg)) hfr ?_
  refine lv_iconst (v := 3) hx hb dX7_metBy_27 (by decide) ?_
  refine k_calli (W.runV (As := [.int (nI b), .int (nI (fX7_of f b g 2).toNatClampNeg), .int 3]) (rest := []) ⟨hx, hb, hml, hown, hts0⟩ (mX7_of l dC dI cI o q0 q1 f x M h b ((fX7_of f b g 2).toNatClampNeg) 3 (by first | omega | assumption)) (cwV 3 hts0 (gi_V u_932 u_934 us_20 u_7 u_935) rfl rfl rfl (by decide +kernel) ⟨Nat.le_of_ble_eq_true rfl, Nat.le_of_ble_eq_true rfl⟩) (pcR_V (ci := 5) (q0 := 0) hP hK hn rfl rfl) rfl rfl hl.1 rfl (lv_room (Nat.le_of_ble_eq_true rfl)) dX7_metBy_28 ⟨Nat.zero_le _, Nat.zero_le _⟩) ?_
  refine lv_aload_n hx hb dX7_metBy_31 rfl (lv_at hl 1 rfl) ?_
  refine lv_iload_n hx hb dX7_metBy_32 rfl (lv_at hl 2 rfl) ?_
  refine lv_iload_n hx hb dX7_metBy_33 rfl (lv_at hl 3 rfl) ?_
  refine lv_iconst (v := 3) hx hb dX7_metBy_34 (by decide) ?_
  refine k_calli (W.runV (As := [.int (nI b), .int (nI g), .int 3]) (rest := [.int (fX7_of f b ((fX7_of f b g 2).toNatClampNeg) 3)]) ⟨hx, hb, hml, hown, hts0⟩ (mX7_of l dC dI cI o q0 q1 f x M h b g 3 (by first | omega | assumption)) (cwV 3 hts0 (gi_V u_932 u_934 us_20 u_7 u_935) rfl rfl rfl (by decide +kernel) ⟨Nat.le_of_ble_eq_true rfl, Nat.le_of_ble_eq_true rfl⟩) (pcR_V (ci := 5) (q0 := 0) hP hK hn rfl rfl) rfl rfl hl.1 rfl (lv_room (Nat.le_of_ble_eq_true rfl)) dX7_metBy_35 ⟨Nat.zero_le _, Nat.zero_le _⟩) ?_
  refine lv_icmp_eq (tgt := 43) hx hb dX7_metBy_38 (by decide) (fun c_38 => ?_) (fun c_38 => ?_)
  · have hF := hF.trans (if_pos c_38)
    refine lv_aload_n hx hb dX7_metBy_43 rfl (lv_at hl 1 rfl) ?_
    refine lv_iload_n hx hb dX7_metBy_44 rfl (lv_at hl 2 rfl) ?_
    refine lv_iload_n hx hb dX7_metBy_45 rfl (lv_at hl 3 rfl) ?_
    refine lv_iconst (v := 4) hx hb dX7_metBy_46 (by decide) ?_
    refine k_calli (W.runV (As := [.int (nI b), .int (nI g), .int 4]) (rest := []) ⟨hx, hb, hml, hown, hts0⟩ (mX7_of l dC dI cI o q0 q1 f x M h b g 4 (by first | omega | assumption)) (cwV 3 hts0 (gi_V u_932 u_934 us_20 u_7 u_935) rfl rfl rfl (by decide +kernel) ⟨Nat.le_of_ble_eq_true rfl, Nat.le_of_ble_eq_true rfl⟩) (pcR_V (ci := 5) (q0 := 0) hP hK hn rfl rfl) rfl rfl hl.1 rfl (lv_room (Nat.le_of_ble_eq_true rfl)) dX7_metBy_47 ⟨Nat.zero_le _, Nat.zero_le _⟩) ?_
    refine lv_aload_n hx hb dX7_metBy_50 rfl (lv_at hl 1 rfl) ?_
    refine lv_iload_n hx hb dX7_metBy_51 rfl (lv_at hl 2 rfl) ?_
    refine lv_iload_n hx hb dX7_metBy_52 rfl (lv_at hl 0 rfl) ?_
    refine lv_tope (y := (nI (fX7_of f b g 2).toNatClampNeg)) hfr ?_
    refine lv_iconst (v := 4) hx hb dX7_metBy_53 (by decide) ?_
    refine k_calli (W.runV (As := [.int (nI b), .int (nI (fX7_of f b g 2).toNatClampNeg), .int 4]) (rest := [.int (fX7_of f b g 4)]) ⟨hx, hb, hml, hown, hts0⟩ (mX7_of l dC dI cI o q0 q1 f x M h b ((fX7_of f b g 2).toNatClampNeg) 4 (by first | omega | assumption)) (cwV 3 hts0 (gi_V u_932 u_934 us_20 u_7 u_935) rfl rfl rfl (by decide +kernel) ⟨Nat.le_of_ble_eq_true rfl, Nat.le_of_ble_eq_true rfl⟩) (pcR_V (ci := 5) (q0 := 0) hP hK hn rfl rfl) rfl rfl hl.1 rfl (lv_room (Nat.le_of_ble_eq_true rfl)) dX7_metBy_54 ⟨Nat.zero_le _, Nat.zero_le _⟩) ?_
    refine lv_isub hx hb dX7_metBy_57 ?_
    refine lv_istore (lv' := [(4, .int ((fX7_of f b g 4) - (fX7_of f b ((fX7_of f b g 2).toNatClampNeg) 4))), (3, .int (fX7_of f b g 2)), (0, .ref o), (1, .int (nI b)), (2, .int (nI g))]) hx hb dX7_metBy_58 hl (by decide) rfl (fun ls hl => ?_)
    obtain ⟨htr, htb⟩ := TW_nat (x := fX7_of f b g 3) (rTW g hg) c_21
    refine lv_aload_n hx hb dX7_metBy_60 rfl (lv_at hl 2 rfl) ?_
    refine va_get (D := (dC, dI)) (ci := 5) (v := .ref q0) (C := RX7) (T := TX7) (N := 12) hx hb htX7 (fun _ h => h) hown hK hP 0 rfl rfl 1 (by decide) (hts _ u_858) (fun _ h9 => h9) rfl dX7_metBy_61 ?_
    refine lv_iload_n hx hb dX7_metBy_64 rfl (lv_at hl 3 rfl) ?_
    refine lv_bipush (v := 18) hx hb dX7_metBy_65 (by decide) ?_
    refine lv_iadd hx hb dX7_metBy_67 ?_
    refine lv_tope (y := (nI (b + 18))) (nI_add b 18) ?_
    refine lv_aload_n hx hb dX7_metBy_68 rfl (lv_at hl 2 rfl) ?_
    refine lv_iload_n hx hb dX7_metBy_69 rfl (lv_at hl 3 rfl) ?_
    refine lv_iload_n hx hb dX7_metBy_70 rfl (lv_at hl 4 rfl) ?_
    refine lv_iconst (v := 3) hx hb dX7_metBy_71 (by decide) ?_
    refine k_calli (W.runV (As := [.int (nI b), .int (nI g), .int 3]) (rest := [.int (nI (b + 18)), .ref q0]) ⟨hx, hb, hml, hown, hts0⟩ (mX7_of l dC dI cI o q0 q1 f x M h b g 3 (by first | omega | assumption)) (cwV 3 hts0 (gi_V u_932 u_934 us_20 u_7 u_935) rfl rfl rfl (by decide +kernel) ⟨Nat.le_of_ble_eq_true rfl, Nat.le_of_ble_eq_true rfl⟩) (pcR_V (ci := 5) (q0 := 0) hP hK hn rfl rfl) rfl rfl hl.1 rfl (lv_room (Nat.le_of_ble_eq_true rfl)) dX7_metBy_72 ⟨Nat.zero_le _, Nat.zero_le _⟩) ?_
    refine lv_tope (y := (nI (fX7_of f b g 3).toNatClampNeg)) htr ?_
    refine lv_iadd hx hb dX7_metBy_75 ?_
    refine lv_tope (y := (nI ((b + 18) + (fX7_of f b g 3).toNatClampNeg))) (nI_add (b + 18) ((fX7_of f b g 3).toNatClampNeg)) ?_
    refine va_iald hx hb hK hP 1 0 rfl rfl (vp_in_nI (n := ((b + 18) + (fX7_of f b g 3).toNatClampNeg)) (by omega) (by decide)) dX7_metBy_76 ?_
    refine lv_tope (y := (f ((b + 18) + (fX7_of f b g 3).toNatClampNeg))) (at_nI (k := ((b + 18) + (fX7_of f b g 3).toNatClampNeg)) (by omega)) ?_
    refine lv_iconst (v := 1) hx hb dX7_metBy_77 (by decide) ?_
    refine lv_isub hx hb dX7_metBy_78 ?_
    refine lv_istore (lv' := [(5, .int ((f ((b + 18) + (fX7_of f b g 3).toNatClampNeg)) - 1)), (4, .int ((fX7_of f b g 4) - (fX7_of f b ((fX7_of f b g 2).toNatClampNeg) 4))), (3, .int (fX7_of f b g 2)), (0, .ref o), (1, .int (nI b)), (2, .int (nI g))]) hx hb dX7_metBy_79 hl (by decide) rfl (fun ls hl => ?_)
    refine lv_iload hx hb dX7_metBy_81 (lv_at hl 1 rfl) ?_
    refine lv_iconst (v := 1) hx hb dX7_metBy_83 (by decide) ?_
    refine lv_icmp_eq (tgt := 108) hx hb dX7_metBy_84 (by decide) (fun c_84 => ?_) (fun c_84 => ?_)
    · have hF := hF.trans (if_pos c_84)
      refine lv_iconst (v := 2) hx hb dX7_metBy_108 (by decide) ?_
      refine lv_goto (tgt := 113) hx hb dX7_metBy_109 (by decide) ?_
      rw [hQ]
      exact W.iret (v := 2) hx hb hr (fun t ht hW => ⟨2, rfl, hF.symm, ht⟩) (fun q hq => absurd hq List.not_mem_nil) dX7_metBy_113
    have hF := hF.trans (if_neg c_84)
    refine lv_iload hx hb dX7_metBy_87 (lv_at hl 1 rfl) ?_
    refine lv_iconst (v := (-1)) hx hb dX7_metBy_89 (by decide) ?_
    refine lv_icmp_eq (tgt := 108) hx hb dX7_metBy_90 (by decide) (fun c_90 => ?_) (fun c_90 => ?_)
    · have hF := hF.trans (if_pos c_90)
      refine lv_iconst (v := 2) hx hb dX7_metBy_108 (by decide) ?_
      refine lv_goto (tgt := 113) hx hb dX7_metBy_109 (by decide) ?_
      rw [hQ]
      exact W.iret (v := 2) hx hb hr (fun t ht hW => ⟨2, rfl, hF.symm, ht⟩) (fun q hq => absurd hq List.not_mem_nil) dX7_metBy_113
    have hF := hF.trans (if_neg c_90)
    refine lv_iload hx hb dX7_metBy_93 (lv_at hl 1 rfl) ?_
    refine lv_iload hx hb dX7_metBy_95 (lv_at hl 0 rfl) ?_
    refine lv_icmp_eq (tgt := 108) hx hb dX7_metBy_97 (by decide) (fun c_97 => ?_) (fun c_97 => ?_)
    · have hF := hF.trans (if_pos c_97)
      refine lv_iconst (v := 2) hx hb dX7_metBy_108 (by decide) ?_
      refine lv_goto (tgt := 113) hx hb dX7_metBy_109 (by decide) ?_
      rw [hQ]
      exact W.iret (v := 2) hx hb hr (fun t ht hW => ⟨2, rfl, hF.symm, ht⟩) (fun q hq => absurd hq List.not_mem_nil) dX7_metBy_113
    have hF := hF.trans (if_neg c_97)
    refine lv_iload hx hb dX7_metBy_100 (lv_at hl 1 rfl) ?_
    refine lv_iload hx hb dX7_metBy_102 (lv_at hl 0 rfl) ?_
    refine lv_ineg hx hb dX7_metBy_104 ?_
    refine lv_icmp_ne (tgt := 112) hx hb dX7_metBy_105 (by decide) (fun c_105 => ?_) (fun c_105 => ?_)
    · have hF := hF.trans (if_neg c_105)
      refine lv_iconst (v := 1) hx hb dX7_metBy_112 (by decide) ?_
      rw [hQ]
      exact W.iret (v := 1) hx hb hr (fun t ht hW => ⟨1, rfl, hF.symm, ht⟩) (fun q hq => absurd hq List.not_mem_nil) dX7_metBy_113
    have hF := hF.trans (if_pos c_105)
    refine lv_iconst (v := 2) hx hb dX7_metBy_108 (by decide) ?_
    refine lv_goto (tgt := 113) hx hb dX7_metBy_109 (by decide) ?_
    rw [hQ]
    exact W.iret (v := 2) hx hb hr (fun t ht hW => ⟨2, rfl, hF.symm, ht⟩) (fun q hq => absurd hq List.not_mem_nil) dX7_metBy_113
  have hF := hF.trans (if_neg c_38)
  refine lv_iconst (v := 0) hx hb dX7_metBy_41 (by decide) ?_
  rw [hQ]
  exact W.iret (v := 0) hx hb hr (fun t ht hW => ⟨0, rfl, hF.symm, ht⟩) (fun q hq => absurd hq List.not_mem_nil) dX7_metBy_42

def fX7_pointsOf (f : Nat → Int32) (b : Nat) (g : Nat) : Int32 :=
  (if (fX7_of f b g 3) = (-1) then 0 else (bd ((if (fX7_isAtLeg (fX7_of f b g 4)) = 0 then 0 else (if (fX7_of f b g 1) = 2 then (f ((b + 6) + 3)) else 0)) : Int32) (fun v30_0 => (bd ((if (fX7_metBy f b g) ≤ 0 then 0 else (f ((b + 6) + 1))) : Int32) (fun v66_0 => (bd ((if (fX7_metBy f b g) ≤ 1 then 0 else (f ((b + 6) + 2))) : Int32) (fun v87_0 => (((1 - v30_0) + v66_0) + v87_0))))))))
abbrev rmX7_pointsOf : Room := { frames := 2, cells := 0, slots := 0, locals := 48 }
set_option maxHeartbeats 4000000 in
set_option maxRecDepth 100000 in
theorem mX7_pointsOf (l : Launch) (dC : Nat → ClassId) (dI : Nat → Nat → Nat) (cI : ClassId) (o q0 q1 : Nat) (f x M : Nat → Int32) (h : Int64) (b : Nat) (g : Nat) (hR : RW f b) (hg : g < 16) : Met l yX7_pointsOf (ws_ yX7_pointsOf cX7_pointsOf 5 (some .int)) rmX7_pointsOf (pcR (dC, dI) [(cI, .int)] (mW cI o q0 q1 f x M h) [.ref o, .int (nI b), .int (nI g)]) (vp_Si (fun r => r = fX7_pointsOf f b g)) 0 0 (fun _ => False) := by
  refine Met.ofW (cc := cX7_pointsOf) (maxL := 5) (ret := (some .int)) (by decide) rfl ?_
  intro p e s m args below meth c s₁ B hml hv
  obtain ⟨ha, hP, hK, hn⟩ := hv
  have hx := B.exec
  have hb := B.bytes
  have hr := B.returns
  have hts0 := atoms_spec (ws := (ws_ yX7_pointsOf cX7_pointsOf 5 (some .int))) B.pre
  have hts : ∀ w ∈ lw_all, w.before args s = true := fun w h => hts0 w (List.mem_cons_of_mem _ h)
  have hown : s.vm.findClass RX7 = some m.cls := findClass_of_methodNamed B.named
  have hlocks := B.notSynchronized
  have htX7 : ∀ w ∈ wsX70, w.before args s = true := fun w h => hts w (wX7 w h)
  obtain ⟨Q, hQ⟩ : ∃ Q, Q = MQ below (vp_Si (fun r => r = fX7_pointsOf f b g)) args s 0 0 (fun _ => False) := ⟨_, rfl⟩
  rw [← hQ]
  have hl := lv_entry ([.ref o, .int (nI b), .int (nI g)]) (n := 5) (Nat.le_of_ble_eq_true rfl)
  rw [ha, lg_entry_eq, ← ha]
  generalize (lg_sl ([.ref o, .int (nI b), .int (nI g)]) ++ List.replicate (5 - (lg_sl ([.ref o, .int (nI b), .int (nI g)])).length) Slot.unset).toArray = ls at hl ⊢
  have hl : lv_has ls 5 [(0, .ref o), (1, .int (nI b)), (2, .int (nI g))] := hl
  show W p l e rmX7_pointsOf s m args below meth c s.heap [] 0 0 Q (F0 m 0 ls [])
  have hF : fX7_pointsOf f b g = fX7_pointsOf f b g := rfl
  obtain ⟨rB, rG0, rT0, rF0, rS0, rTW, rWW⟩ := id hR
  have rG := rG0.c (by decide)
  have rT := rT0.c (by decide)
  have rF := rF0.c (by decide)
  have rS := rS0.c (by decide)
  refine lv_aload_n hx hb dX7_pointsOf_0 rfl (lv_at hl 0 rfl) ?_
  refine lv_iload_n hx hb dX7_pointsOf_1 rfl (lv_at hl 1 rfl) ?_
  refine lv_iload_n hx hb dX7_pointsOf_2 rfl (lv_at hl 2 rfl) ?_
  refine lv_iconst (v := 3) hx hb dX7_pointsOf_3 (by decide) ?_
  refine k_calli (W.runV (As := [.int (nI b), .int (nI g), .int 3]) (rest := []) ⟨hx, hb, hml, hown, hts0⟩ (mX7_of l dC dI cI o q0 q1 f x M h b g 3 (by first | omega | assumption)) (cwV 3 hts0 (gi_V u_932 u_934 us_20 u_7 u_935) rfl rfl rfl (by decide +kernel) ⟨Nat.le_of_ble_eq_true rfl, Nat.le_of_ble_eq_true rfl⟩) (pcR_V (ci := 5) (q0 := 0) hP hK hn rfl rfl) rfl rfl hl.1 rfl (lv_room (Nat.le_of_ble_eq_true rfl)) dX7_pointsOf_4 ⟨Nat.zero_le _, Nat.zero_le _⟩) ?_
  refine lv_iconst (v := (-1)) hx hb dX7_pointsOf_7 (by decide) ?_
  refine lv_icmp_ne (tgt := 13) hx hb dX7_pointsOf_8 (by decide) (fun c_8 => ?_) (fun c_8 => ?_)
  · have hF := hF.trans (if_neg c_8)
    refine lv_aload_n hx hb dX7_pointsOf_13 rfl (lv_at hl 0 rfl) ?_
    refine lv_iload_n hx hb dX7_pointsOf_14 rfl (lv_at hl 1 rfl) ?_
    refine lv_iload_n hx hb dX7_pointsOf_15 rfl (lv_at hl 2 rfl) ?_
    refine k_calli (W.runV (As := [.int (nI b), .int (nI g)]) (rest := []) ⟨hx, hb, hml, hown, hts0⟩ (mX7_metBy l dC dI cI o q0 q1 f x M h b g (by first | omega | assumption) (by first | omega | assumption)) (cwV 2 hts0 (gi_V u_1012 u_1014 us_32 u_7 u_1015) rfl rfl rfl (by decide +kernel) ⟨Nat.le_of_ble_eq_true rfl, Nat.le_of_ble_eq_true rfl⟩) (pcR_V (ci := 5) (q0 := 0) hP hK hn rfl rfl) rfl rfl hl.1 rfl (lv_room (Nat.le_of_ble_eq_true rfl)) dX7_pointsOf_16 ⟨Nat.zero_le _, Nat.zero_le _⟩) ?_
    refine lv_istore_n (lv' := [(3, .int (fX7_metBy f b g)), (0, .ref o), (1, .int (nI b)), (2, .int (nI g))]) hx hb dX7_pointsOf_19 rfl hl (by decide) rfl (fun ls hl => ?_)
    refine lv_aload_n hx hb dX7_pointsOf_20 rfl (lv_at hl 1 rfl) ?_
    refine lv_iload_n hx hb dX7_pointsOf_21 rfl (lv_at hl 2 rfl) ?_
    refine lv_iload_n hx hb dX7_pointsOf_22 rfl (lv_at hl 3 rfl) ?_
    refine lv_iconst (v := 4) hx hb dX7_pointsOf_23 (by decide) ?_
    refine k_calli (W.runV (As := [.int (nI b), .int (nI g), .int 4]) (rest := []) ⟨hx, hb, hml, hown, hts0⟩ (mX7_of l dC dI cI o q0 q1 f x M h b g 4 (by first | omega | assumption)) (cwV 3 hts0 (gi_V u_932 u_934 us_20 u_7 u_935) rfl rfl rfl (by decide +kernel) ⟨Nat.le_of_ble_eq_true rfl, Nat.le_of_ble_eq_true rfl⟩) (pcR_V (ci := 5) (q0 := 0) hP hK hn rfl rfl) rfl rfl hl.1 rfl (lv_room (Nat.le_of_ble_eq_true rfl)) dX7_pointsOf_24 ⟨Nat.zero_le _, Nat.zero_le _⟩) ?_
    refine k_callb (W.runS (As := [.int (fX7_of f b g 4)]) (rest := []) ⟨hx, hb, hml, hown, hts0⟩ (mX7_isAtLeg l dC dI  (fX7_of f b g 4)) (va_cwS 1 hts0 (gi_S u_997 u_998 u_7 u_999) rfl rfl rfl (by decide +kernel) ⟨Nat.le_of_ble_eq_true rfl, Nat.le_of_ble_eq_true rfl⟩) (pcR_S (hP.sub (ws' := []) [] rfl) (hK.sub (tys' := []) [] rfl) hn) rfl rfl hl.1 rfl (lv_room (Nat.le_of_ble_eq_true rfl)) dX7_pointsOf_27 ⟨Nat.zero_le _, Nat.zero_le _⟩) (fun br27 => ?_)
    have K30 : ∀ (v30_0 : Int32), v30_0 = (if (fX7_isAtLeg (fX7_of f b g 4)) = 0 then 0 else (if (fX7_of f b g 1) = 2 then (f ((b + 6) + 3)) else 0)) → ∀ (ls : Array Slot), lv_has ls 5 [(3, .int (fX7_metBy f b g)), (0, .ref o), (1, .int (nI b)), (2, .int (nI g))] → W p l e rmX7_pointsOf s m args below meth c s.heap [] 0 0 Q (F0 m 59 ls [.int v30_0]) := by
      intro v30_0 hz30  ls hl
      have hz := hz30
      have hF := bd_at hF hz
      refine lv_istore (lv' := [(4, .int v30_0), (3, .int (fX7_metBy f b g)), (0, .ref o), (1, .int (nI b)), (2, .int (nI g))]) hx hb dX7_pointsOf_59 hl (by decide) rfl (fun ls hl => ?_)
      refine lv_iconst (v := 1) hx hb dX7_pointsOf_61 (by decide) ?_
      refine lv_iload hx hb dX7_pointsOf_62 (lv_at hl 0 rfl) ?_
      refine lv_isub hx hb dX7_pointsOf_64 ?_
      refine lv_iload_n hx hb dX7_pointsOf_65 rfl (lv_at hl 1 rfl) ?_
      have K66 : ∀ (v66_0 : Int32), v66_0 = (if (fX7_metBy f b g) ≤ 0 then 0 else (f ((b + 6) + 1))) → ∀ (ls : Array Slot), lv_has ls 5 [(4, .int v30_0), (3, .int (fX7_metBy f b g)), (0, .ref o), (1, .int (nI b)), (2, .int (nI g))] → W p l e rmX7_pointsOf s m args below meth c s.heap [] 0 0 Q (F0 m 84 ls [.int v66_0, .int (1 - v30_0)]) := by
        intro v66_0 hz66  ls hl
        have hz := hz66
        have hF := bd_at hF hz
        refine lv_iadd hx hb dX7_pointsOf_84 ?_
        refine lv_iload_n hx hb dX7_pointsOf_85 rfl (lv_at hl 1 rfl) ?_
        refine lv_iconst (v := 1) hx hb dX7_pointsOf_86 (by decide) ?_
        have K87 : ∀ (v87_0 : Int32), v87_0 = (if (fX7_metBy f b g) ≤ 1 then 0 else (f ((b + 6) + 2))) → ∀ (ls : Array Slot), lv_has ls 5 [(4, .int v30_0), (3, .int (fX7_metBy f b g)), (0, .ref o), (1, .int (nI b)), (2, .int (nI g))] → W p l e rmX7_pointsOf s m args below meth c s.heap [] 0 0 Q (F0 m 105 ls [.int v87_0, .int ((1 - v30_0) + v66_0)]) := by
          intro v87_0 hz87  ls hl
          have hz := hz87
          have hF := bd_at hF hz
          refine lv_iadd hx hb dX7_pointsOf_105 ?_
          rw [hQ]
          exact W.iret (v := (((1 - v30_0) + v66_0) + v87_0)) hx hb hr (fun t ht hW => ⟨(((1 - v30_0) + v66_0) + v87_0), rfl, hF.symm, ht⟩) (fun q hq => absurd hq List.not_mem_nil) dX7_pointsOf_106
        have hF : ((if (fX7_metBy f b g) ≤ 1 then 0 else (f ((b + 6) + 2))) : Int32) = (if (fX7_metBy f b g) ≤ 1 then 0 else (f ((b + 6) + 2))) := rfl
        refine lv_icmp_le (tgt := 104) hx hb dX7_pointsOf_87 (by decide) (fun c_87 => ?_) (fun c_87 => ?_)
        · have hF := hF.trans (if_pos c_87)
          refine lv_iconst (v := 0) hx hb dX7_pointsOf_104 (by decide) ?_
          exact K87 _ hF.symm  ls (lv_sub hl [0, 1, 2, 3, 4] rfl)
        have hF := hF.trans (if_neg c_87)
        refine lv_aload_n hx hb dX7_pointsOf_90 rfl (lv_at hl 2 rfl) ?_
        refine va_get (D := (dC, dI)) (ci := 5) (v := .ref q0) (C := RX7) (T := TX7) (N := 12) hx hb htX7 (fun _ h => h) hown hK hP 0 rfl rfl 1 (by decide) (hts _ u_858) (fun _ h9 => h9) rfl dX7_pointsOf_91 ?_
        refine lv_iload_n hx hb dX7_pointsOf_94 rfl (lv_at hl 3 rfl) ?_
        refine lv_bipush (v := 6) hx hb dX7_pointsOf_95 (by decide) ?_
        refine lv_iadd hx hb dX7_pointsOf_97 ?_
        refine lv_tope (y := (nI (b + 6))) (nI_add b 6) ?_
        refine lv_iconst (v := 2) hx hb dX7_pointsOf_98 (by decide) ?_
        refine lv_iadd hx hb dX7_pointsOf_99 ?_
        refine lv_tope (y := (nI ((b + 6) + 2))) (nI_add (b + 6) 2) ?_
        refine va_iald hx hb hK hP 1 0 rfl rfl (vp_in_nI (n := ((b + 6) + 2)) (by omega) (by decide)) dX7_pointsOf_100 ?_
        refine lv_tope (y := (f ((b + 6) + 2))) (at_nI (k := ((b + 6) + 2)) (by omega)) ?_
        refine lv_goto (tgt := 105) hx hb dX7_pointsOf_101 (by decide) ?_
        exact K87 _ hF.symm  ls (lv_sub hl [0, 1, 2, 3, 4] rfl)
      have hF : ((if (fX7_metBy f b g) ≤ 0 then 0 else (f ((b + 6) + 1))) : Int32) = (if (fX7_metBy f b g) ≤ 0 then 0 else (f ((b + 6) + 1))) := rfl
      refine lv_if_le (tgt := 83) hx hb dX7_pointsOf_66 (by decide) (fun c_66 => ?_) (fun c_66 => ?_)
      · have hF := hF.trans (if_pos c_66)
        refine lv_iconst (v := 0) hx hb dX7_pointsOf_83 (by decide) ?_
        exact K66 _ hF.symm  ls (lv_sub hl [0, 1, 2, 3, 4] rfl)
      have hF := hF.trans (if_neg c_66)
      refine lv_aload_n hx hb dX7_pointsOf_69 rfl (lv_at hl 2 rfl) ?_
      refine va_get (D := (dC, dI)) (ci := 5) (v := .ref q0) (C := RX7) (T := TX7) (N := 12) hx hb htX7 (fun _ h => h) hown hK hP 0 rfl rfl 1 (by decide) (hts _ u_858) (fun _ h9 => h9) rfl dX7_pointsOf_70 ?_
      refine lv_iload_n hx hb dX7_pointsOf_73 rfl (lv_at hl 3 rfl) ?_
      refine lv_bipush (v := 6) hx hb dX7_pointsOf_74 (by decide) ?_
      refine lv_iadd hx hb dX7_pointsOf_76 ?_
      refine lv_tope (y := (nI (b + 6))) (nI_add b 6) ?_
      refine lv_iconst (v := 1) hx hb dX7_pointsOf_77 (by decide) ?_
      refine lv_iadd hx hb dX7_pointsOf_78 ?_
      refine lv_tope (y := (nI ((b + 6) + 1))) (nI_add (b + 6) 1) ?_
      refine va_iald hx hb hK hP 1 0 rfl rfl (vp_in_nI (n := ((b + 6) + 1)) (by omega) (by decide)) dX7_pointsOf_79 ?_
      refine lv_tope (y := (f ((b + 6) + 1))) (at_nI (k := ((b + 6) + 1)) (by omega)) ?_
      refine lv_goto (tgt := 84) hx hb dX7_pointsOf_80 (by decide) ?_
      exact K66 _ hF.symm  ls (lv_sub hl [0, 1, 2, 3, 4] rfl)
    have hF : ((if (fX7_isAtLeg (fX7_of f b g 4)) = 0 then 0 else (if (fX7_of f b g 1) = 2 then (f ((b + 6) + 3)) else 0)) : Int32) = (if (fX7_isAtLeg (fX7_of f b g 4)) = 0 then 0 else (if (fX7_of f b g 1) = 2 then (f ((b + 6) + 3)) else 0)) := rfl
    refine lv_if_eq (tgt := 58) hx hb dX7_pointsOf_30 (by decide) (fun c_30 => ?_) (fun c_30 => ?_)
    · have hF := hF.trans (if_pos c_30)
      refine lv_iconst (v := 0) hx hb dX7_pointsOf_58 (by decide) ?_
      exact K30 _ hF.symm  ls (lv_sub hl [0, 1, 2, 3] rfl)
    have hF := hF.trans (if_neg c_30)
    refine lv_aload_n hx hb dX7_pointsOf_33 rfl (lv_at hl 1 rfl) ?_
    refine lv_iload_n hx hb dX7_pointsOf_34 rfl (lv_at hl 2 rfl) ?_
    refine lv_iload_n hx hb dX7_pointsOf_35 rfl (lv_at hl 3 rfl) ?_
    refine lv_iconst (v := 1) hx hb dX7_pointsOf_36 (by decide) ?_
    refine k_calli (W.runV (As := [.int (nI b), .int (nI g), .int 1]) (rest := []) ⟨hx, hb, hml, hown, hts0⟩ (mX7_of l dC dI cI o q0 q1 f x M h b g 1 (by first | omega | assumption)) (cwV 3 hts0 (gi_V u_932 u_934 us_20 u_7 u_935) rfl rfl rfl (by decide +kernel) ⟨Nat.le_of_ble_eq_true rfl, Nat.le_of_ble_eq_true rfl⟩) (pcR_V (ci := 5) (q0 := 0) hP hK hn rfl rfl) rfl rfl hl.1 rfl (lv_room (Nat.le_of_ble_eq_true rfl)) dX7_pointsOf_37 ⟨Nat.zero_le _, Nat.zero_le _⟩) ?_
    refine lv_iconst (v := 2) hx hb dX7_pointsOf_40 (by decide) ?_
    refine lv_icmp_ne (tgt := 58) hx hb dX7_pointsOf_41 (by decide) (fun c_41 => ?_) (fun c_41 => ?_)
    · have hF := hF.trans (if_neg c_41)
      refine lv_iconst (v := 0) hx hb dX7_pointsOf_58 (by decide) ?_
      exact K30 _ hF.symm  ls (lv_sub hl [0, 1, 2, 3] rfl)
    have hF := hF.trans (if_pos c_41)
    refine lv_aload_n hx hb dX7_pointsOf_44 rfl (lv_at hl 1 rfl) ?_
    refine va_get (D := (dC, dI)) (ci := 5) (v := .ref q0) (C := RX7) (T := TX7) (N := 12) hx hb htX7 (fun _ h => h) hown hK hP 0 rfl rfl 1 (by decide) (hts _ u_858) (fun _ h9 => h9) rfl dX7_pointsOf_45 ?_
    refine lv_iload_n hx hb dX7_pointsOf_48 rfl (lv_at hl 2 rfl) ?_
    refine lv_bipush (v := 6) hx hb dX7_pointsOf_49 (by decide) ?_
    refine lv_iadd hx hb dX7_pointsOf_51 ?_
    refine lv_tope (y := (nI (b + 6))) (nI_add b 6) ?_
    refine lv_iconst (v := 3) hx hb dX7_pointsOf_52 (by decide) ?_
    refine lv_iadd hx hb dX7_pointsOf_53 ?_
    refine lv_tope (y := (nI ((b + 6) + 3))) (nI_add (b + 6) 3) ?_
    refine va_iald hx hb hK hP 1 0 rfl rfl (vp_in_nI (n := ((b + 6) + 3)) (by omega) (by decide)) dX7_pointsOf_54 ?_
    refine lv_tope (y := (f ((b + 6) + 3))) (at_nI (k := ((b + 6) + 3)) (by omega)) ?_
    refine lv_goto (tgt := 59) hx hb dX7_pointsOf_55 (by decide) ?_
    exact K30 _ hF.symm  ls (lv_sub hl [0, 1, 2, 3] rfl)
  have hF := hF.trans (if_pos c_8)
  refine lv_iconst (v := 0) hx hb dX7_pointsOf_11 (by decide) ?_
  rw [hQ]
  exact W.iret (v := 0) hx hb hr (fun t ht hW => ⟨0, rfl, hF.symm, ht⟩) (fun q hq => absurd hq List.not_mem_nil) dX7_pointsOf_12

def fX7_points_b5 (f : Nat → Int32) (b : Nat) (tb : Int32) (kk5 : Nat) (x5_3 : Int32) (nextkk5 : Int32 → Int32) : Int32 :=
  (bd ((if tb = (-1) then (fX7_pointsOf f b kk5) else (if (fX7_of f b kk5 3) = tb then (fX7_pointsOf f b kk5) else 0)) : Int32) (fun v21_0 => (nextkk5 (x5_3 + v21_0))))
def fX7_points_r5 (x5_3 : Int32) : Int32 :=
  x5_3
def fX7_points (f : Nat → Int32) (b : Nat) (tb : Int32) : Int32 :=
  (lq1 (fX7_points_b5 f b tb) fX7_points_r5 ((f (b + 0)).toNatClampNeg) 0 0)
abbrev rmX7_points : Room := { frames := 3, cells := 0, slots := 0, locals := 72 }
set_option maxHeartbeats 4000000 in
set_option maxRecDepth 100000 in
theorem mX7_points (l : Launch) (dC : Nat → ClassId) (dI : Nat → Nat → Nat) (cI : ClassId) (o q0 q1 : Nat) (f x M : Nat → Int32) (h : Int64) (b : Nat) (tb : Int32) (hR : RW f b) : Met l yX7_points (ws_ yX7_points cX7_points 5 (some .int)) rmX7_points (pcR (dC, dI) [(cI, .int)] (mW cI o q0 q1 f x M h) [.ref o, .int (nI b), .int tb]) (vp_Si (fun r => r = fX7_points f b tb)) 0 0 (fun _ => False) := by
  refine Met.ofW (cc := cX7_points) (maxL := 5) (ret := (some .int)) (by decide) rfl ?_
  intro p e s m args below meth c s₁ B hml hv
  obtain ⟨ha, hP, hK, hn⟩ := hv
  have hx := B.exec
  have hb := B.bytes
  have hr := B.returns
  have hts0 := atoms_spec (ws := (ws_ yX7_points cX7_points 5 (some .int))) B.pre
  have hts : ∀ w ∈ lw_all, w.before args s = true := fun w h => hts0 w (List.mem_cons_of_mem _ h)
  have hown : s.vm.findClass RX7 = some m.cls := findClass_of_methodNamed B.named
  have hlocks := B.notSynchronized
  have htX7 : ∀ w ∈ wsX70, w.before args s = true := fun w h => hts w (wX7 w h)
  obtain ⟨Q, hQ⟩ : ∃ Q, Q = MQ below (vp_Si (fun r => r = fX7_points f b tb)) args s 0 0 (fun _ => False) := ⟨_, rfl⟩
  rw [← hQ]
  have hl := lv_entry ([.ref o, .int (nI b), .int tb]) (n := 5) (Nat.le_of_ble_eq_true rfl)
  rw [ha, lg_entry_eq, ← ha]
  generalize (lg_sl ([.ref o, .int (nI b), .int tb]) ++ List.replicate (5 - (lg_sl ([.ref o, .int (nI b), .int tb])).length) Slot.unset).toArray = ls at hl ⊢
  have hl : lv_has ls 5 [(0, .ref o), (1, .int (nI b)), (2, .int tb)] := hl
  show W p l e rmX7_points s m args below meth c s.heap [] 0 0 Q (F0 m 0 ls [])
  have hF : fX7_points f b tb = fX7_points f b tb := rfl
  obtain ⟨rB, rG0, rT0, rF0, rS0, rTW, rWW⟩ := id hR
  have rG := rG0.c (by decide)
  have rT := rT0.c (by decide)
  have rF := rF0.c (by decide)
  have rS := rS0.c (by decide)
  refine lv_iconst (v := 0) hx hb dX7_points_0 (by decide) ?_
  refine lv_istore_n (lv' := [(3, .int 0), (0, .ref o), (1, .int (nI b)), (2, .int tb)]) hx hb dX7_points_1 rfl hl (by decide) rfl (fun ls hl => ?_)
  refine lv_iconst (v := 0) hx hb dX7_points_2 (by decide) ?_
  refine lv_istore (lv' := [(4, .int 0), (3, .int 0), (0, .ref o), (1, .int (nI b)), (2, .int tb)]) hx hb dX7_points_3 hl (by decide) rfl (fun ls hl => ?_)
  have L5 : ∀ (jj5 kk5 : Nat) (x5_3 : Int32), kk5 + jj5 = ((f (b + 0)).toNatClampNeg) → fX7_points f b tb = lq1 (fX7_points_b5 f b tb) fX7_points_r5 jj5 kk5 x5_3 → ∀ (ls : Array Slot), lv_has ls 5 [(4, .int (nI kk5)), (3, .int x5_3), (0, .ref o), (1, .int (nI b)), (2, .int tb)] → W p l e rmX7_points s m args below meth c s.heap [] 0 0 Q (F0 m 5 ls []) := by
    intro jj5
    induction jj5 using Nat.strongRecOn with
    | _ jj5 ihkk5 =>
      intro kk5 x5_3 hkkk5 hF  ls hl
      refine lv_iload hx hb dX7_points_5 (lv_at hl 0 rfl) ?_
      refine lv_aload_n hx hb dX7_points_7 rfl (lv_at hl 2 rfl) ?_
      refine va_get (D := (dC, dI)) (ci := 5) (v := .ref q0) (C := RX7) (T := TX7) (N := 12) hx hb htX7 (fun _ h => h) hown hK hP 0 rfl rfl 1 (by decide) (hts _ u_858) (fun _ h9 => h9) rfl dX7_points_8 ?_
      refine lv_iload_n hx hb dX7_points_11 rfl (lv_at hl 3 rfl) ?_
      refine lv_iconst (v := 0) hx hb dX7_points_12 (by decide) ?_
      refine lv_iadd hx hb dX7_points_13 ?_
      refine lv_tope (y := (nI (b + 0))) (nI_add b 0) ?_
      refine va_iald hx hb hK hP 1 0 rfl rfl (vp_in_nI (n := (b + 0)) (by omega) (by decide)) dX7_points_14 ?_
      refine lv_tope (y := (f (b + 0))) (at_nI (k := (b + 0)) (by omega)) ?_
      refine lv_icmp_ge (tgt := 55) hx hb dX7_points_15 (by decide) (fun c_15 => ?_) (fun c_15 => ?_)
      · obtain rfl := cn_exit hkkk5 c_15
        have hF := hF.trans (lq1_z _ _ _ _)
        refine lv_iload_n hx hb dX7_points_55 rfl (lv_at hl 1 rfl) ?_
        rw [hQ]
        exact W.iret (v := x5_3) hx hb hr (fun t ht hW => ⟨x5_3, rfl, hF.symm, ht⟩) (fun q hq => absurd hq List.not_mem_nil) dX7_points_56
      obtain ⟨jj5, rfl⟩ := cn_go hkkk5 c_15
      have hF := hF.trans (lq1_s _ _ _ _ _)
      obtain ⟨nextkk5, hnextkk5⟩ : ∃ y9, y9 = lq1 (fX7_points_b5 f b tb) fX7_points_r5 jj5 (kk5 + 1) := ⟨_, rfl⟩
      rw [← hnextkk5] at hF
      refine lv_iload_n hx hb dX7_points_18 rfl (lv_at hl 1 rfl) ?_
      refine lv_iload_n hx hb dX7_points_19 rfl (lv_at hl 4 rfl) ?_
      refine lv_iconst (v := (-1)) hx hb dX7_points_20 (by decide) ?_
      have K21 : ∀ (v21_0 : Int32), v21_0 = (if tb = (-1) then (fX7_pointsOf f b kk5) else (if (fX7_of f b kk5 3) = tb then (fX7_pointsOf f b kk5) else 0)) → ∀ (ls : Array Slot), lv_has ls 5 [(4, .int (nI kk5)), (3, .int x5_3), (0, .ref o), (1, .int (nI b)), (2, .int tb)] → W p l e rmX7_points s m args below meth c s.heap [] 0 0 Q (F0 m 47 ls [.int v21_0, .int x5_3]) := by
        intro v21_0 hz21  ls hl
        have hz := hz21
        have hF := bd_at hF hz
        refine lv_iadd hx hb dX7_points_47 ?_
        refine lv_istore_n (lv' := [(3, .int (x5_3 + v21_0)), (4, .int (nI kk5)), (0, .ref o), (1, .int (nI b)), (2, .int tb)]) hx hb dX7_points_48 rfl hl (by decide) rfl (fun ls hl => ?_)
        refine lv_iinc (v := (nI (kk5 + 1))) (lv' := [(4, .int (nI (kk5 + 1))), (3, .int (x5_3 + v21_0)), (0, .ref o), (1, .int (nI b)), (2, .int tb)]) hx hb dX7_points_49 hl (k := 1) rfl (nI_1 _) (by decide) rfl (fun ls hl => ?_)
        refine lv_goto (tgt := 5) hx hb dX7_points_52 (by decide) ?_
        have hF : fX7_points f b tb = nextkk5 (x5_3 + v21_0) := hF
        rw [hnextkk5] at hF
        exact ihkk5 jj5 (Nat.lt_succ_self _) (kk5 + 1) (x5_3 + v21_0) (cn_next hkkk5) hF ls (lv_sub hl [0, 1, 2, 3, 4] rfl)
      have hF : ((if tb = (-1) then (fX7_pointsOf f b kk5) else (if (fX7_of f b kk5 3) = tb then (fX7_pointsOf f b kk5) else 0)) : Int32) = (if tb = (-1) then (fX7_pointsOf f b kk5) else (if (fX7_of f b kk5 3) = tb then (fX7_pointsOf f b kk5) else 0)) := rfl
      refine lv_icmp_eq (tgt := 36) hx hb dX7_points_21 (by decide) (fun c_21 => ?_) (fun c_21 => ?_)
      · have hF := hF.trans (if_pos c_21)
        refine lv_aload_n hx hb dX7_points_36 rfl (lv_at hl 2 rfl) ?_
        refine lv_iload_n hx hb dX7_points_37 rfl (lv_at hl 3 rfl) ?_
        refine lv_iload hx hb dX7_points_38 (lv_at hl 0 rfl) ?_
        refine k_calli (W.runV (As := [.int (nI b), .int (nI kk5)]) (rest := [.int x5_3]) ⟨hx, hb, hml, hown, hts0⟩ (mX7_pointsOf l dC dI cI o q0 q1 f x M h b kk5 (by first | omega | assumption) (by first | omega | assumption)) (cwV 2 hts0 (gi_V u_1008 u_1010 us_31 u_7 u_1011) rfl rfl rfl (by decide +kernel) ⟨Nat.le_of_ble_eq_true rfl, Nat.le_of_ble_eq_true rfl⟩) (pcR_V (ci := 5) (q0 := 0) hP hK hn rfl rfl) rfl rfl hl.1 rfl (lv_room (Nat.le_of_ble_eq_true rfl)) dX7_points_40 ⟨Nat.zero_le _, Nat.zero_le _⟩) ?_
        refine lv_goto (tgt := 47) hx hb dX7_points_43 (by decide) ?_
        exact K21 _ hF.symm  ls (lv_sub hl [0, 1, 2, 3, 4] rfl)
      have hF := hF.trans (if_neg c_21)
      refine lv_aload_n hx hb dX7_points_24 rfl (lv_at hl 2 rfl) ?_
      refine lv_iload_n hx hb dX7_points_25 rfl (lv_at hl 3 rfl) ?_
      refine lv_iload hx hb dX7_points_26 (lv_at hl 0 rfl) ?_
      refine lv_iconst (v := 3) hx hb dX7_points_28 (by decide) ?_
      refine k_calli (W.runV (As := [.int (nI b), .int (nI kk5), .int 3]) (rest := [.int x5_3]) ⟨hx, hb, hml, hown, hts0⟩ (mX7_of l dC dI cI o q0 q1 f x M h b kk5 3 (by first | omega | assumption)) (cwV 3 hts0 (gi_V u_932 u_934 us_20 u_7 u_935) rfl rfl rfl (by decide +kernel) ⟨Nat.le_of_ble_eq_true rfl, Nat.le_of_ble_eq_true rfl⟩) (pcR_V (ci := 5) (q0 := 0) hP hK hn rfl rfl) rfl rfl hl.1 rfl (lv_room (Nat.le_of_ble_eq_true rfl)) dX7_points_29 ⟨Nat.zero_le _, Nat.zero_le _⟩) ?_
      refine lv_iload_n hx hb dX7_points_32 rfl (lv_at hl 4 rfl) ?_
      refine lv_icmp_ne (tgt := 46) hx hb dX7_points_33 (by decide) (fun c_33 => ?_) (fun c_33 => ?_)
      · have hF := hF.trans (if_neg c_33)
        refine lv_iconst (v := 0) hx hb dX7_points_46 (by decide) ?_
        exact K21 _ hF.symm  ls (lv_sub hl [0, 1, 2, 3, 4] rfl)
      have hF := hF.trans (if_pos c_33)
      refine lv_aload_n hx hb dX7_points_36 rfl (lv_at hl 2 rfl) ?_
      refine lv_iload_n hx hb dX7_points_37 rfl (lv_at hl 3 rfl) ?_
      refine lv_iload hx hb dX7_points_38 (lv_at hl 0 rfl) ?_
      refine k_calli (W.runV (As := [.int (nI b), .int (nI kk5)]) (rest := [.int x5_3]) ⟨hx, hb, hml, hown, hts0⟩ (mX7_pointsOf l dC dI cI o q0 q1 f x M h b kk5 (by first | omega | assumption) (by first | omega | assumption)) (cwV 2 hts0 (gi_V u_1008 u_1010 us_31 u_7 u_1011) rfl rfl rfl (by decide +kernel) ⟨Nat.le_of_ble_eq_true rfl, Nat.le_of_ble_eq_true rfl⟩) (pcR_V (ci := 5) (q0 := 0) hP hK hn rfl rfl) rfl rfl hl.1 rfl (lv_room (Nat.le_of_ble_eq_true rfl)) dX7_points_40 ⟨Nat.zero_le _, Nat.zero_le _⟩) ?_
      refine lv_goto (tgt := 47) hx hb dX7_points_43 (by decide) ?_
      exact K21 _ hF.symm  ls (lv_sub hl [0, 1, 2, 3, 4] rfl)
  exact L5 ((f (b + 0)).toNatClampNeg) 0 0 (Nat.zero_add _) hF ls (lv_sub hl [0, 1, 2, 3, 4] rfl)

def fX7_pointsIf (f : Nat → Int32) (b : Nat) (g : Nat) (tb : Nat) (z : Int32) : Int32 :=
  (bd (fX7_lay f b g 3 (nI tb)) (fun U23 => (bd (fX7_lay U23 b g 4 z) (fun U32 => (bd (fX7_lay U32 b g 3 (fX7_of f b g 3)) (fun U49 => (bd (fX7_lay U49 b g 4 (fX7_of f b g 4)) (fun U58 => (fX7_points U32 b (-1))))))))))
abbrev rmX7_pointsIf : Room := { frames := 4, cells := 0, slots := 0, locals := 96 }
set_option maxHeartbeats 4000000 in
set_option maxRecDepth 100000 in
theorem mX7_pointsIf (l : Launch) (dC : Nat → ClassId) (dI : Nat → Nat → Nat) (cI : ClassId) (o q0 q1 : Nat) (f x M : Nat → Int32) (h : Int64) (b : Nat) (g : Nat) (tb : Nat) (z : Int32) (hR : RW f b) (hg : g < 16) (ht : tb < 4) : Met l yX7_pointsIf (ws_ yX7_pointsIf cX7_pointsIf 8 (some .int)) rmX7_pointsIf (pcM (dC, dI) [(cI, .int)] (mW cI o q0 q1 f x M h) [.ref o, .int (nI b), .int (nI g), .int (nI tb), .int z]) (va_Qi (fun (r9 : Int32) (u9 : (Nat → Int32)) => (r9, u9) = (fX7_pointsIf f b g tb z, f)) (fun u9 t => va_P (dC, dI) vwCl ((fun (v9 : (Nat → Int32)) => mW cI o q0 q1 v9 x M h) u9) t.heap) (adr (mW cI o q0 q1 f x M h))) 0 0 (adr (mW cI o q0 q1 f x M h)) := by
  refine Met.ofW (cc := cX7_pointsIf) (maxL := 8) (ret := (some .int)) (by decide) rfl ?_
  intro p e s m args below meth c s₁ B hml hv
  obtain ⟨ha, hP, hK, hn, hD0⟩ := hv
  have hx := B.exec
  have hb := B.bytes
  have hr := B.returns
  have hts0 := atoms_spec (ws := (ws_ yX7_pointsIf cX7_pointsIf 8 (some .int))) B.pre
  have hts : ∀ w ∈ lw_all, w.before args s = true := fun w h => hts0 w (List.mem_cons_of_mem _ h)
  have hown : s.vm.findClass RX7 = some m.cls := findClass_of_methodNamed B.named
  have hlocks := B.notSynchronized
  have hD := adr_self hD0
  obtain ⟨A, hA⟩ : ∃ A, A = adr (mW cI o q0 q1 f x M h) := ⟨_, rfl⟩
  rw [← hA] at hD
  have hS : va_S A s.heap s.heap [] := va_S.rf
  obtain ⟨Q, hQ⟩ : ∃ Q, Q = MQ below (va_Qi (fun (r9 : Int32) (u9 : (Nat → Int32)) => (r9, u9) = (fX7_pointsIf f b g tb z, f)) (fun u9 t => va_P (dC, dI) vwCl ((fun (v9 : (Nat → Int32)) => mW cI o q0 q1 v9 x M h) u9) t.heap) (adr (mW cI o q0 q1 f x M h))) args s 0 0 (adr (mW cI o q0 q1 f x M h)) := ⟨_, rfl⟩
  rw [← hQ]
  rw [← hA] at hQ
  have hl := lv_entry ([.ref o, .int (nI b), .int (nI g), .int (nI tb), .int z]) (n := 8) (Nat.le_of_ble_eq_true rfl)
  rw [ha, lg_entry_eq, ← ha]
  generalize (lg_sl ([.ref o, .int (nI b), .int (nI g), .int (nI tb), .int z]) ++ List.replicate (8 - (lg_sl ([.ref o, .int (nI b), .int (nI g), .int (nI tb), .int z])).length) Slot.unset).toArray = ls at hl ⊢
  have hl : lv_has ls 8 [(0, .ref o), (1, .int (nI b)), (2, .int (nI g)), (3, .int (nI tb)), (4, .int z)] := hl
  show W p l e rmX7_pointsIf s m args below meth c s.heap [] 0 0 Q (F0 m 0 ls [])
  have hF : fX7_pointsIf f b g tb z = fX7_pointsIf f b g tb z := rfl
  obtain ⟨rB, rG0, rT0, rF0, rS0, rTW, rWW⟩ := id hR
  have rG := rG0.c (by decide)
  have rT := rT0.c (by decide)
  have rF := rF0.c (by decide)
  have rS := rS0.c (by decide)
  refine lv_aload_n hx hb dX7_pointsIf_0 rfl (lv_at hl 0 rfl) ?_
  refine lv_iload_n hx hb dX7_pointsIf_1 rfl (lv_at hl 1 rfl) ?_
  refine lv_iload_n hx hb dX7_pointsIf_2 rfl (lv_at hl 2 rfl) ?_
  refine lv_iconst (v := 3) hx hb dX7_pointsIf_3 (by decide) ?_
  refine k_calli (W.runV (As := [.int (nI b), .int (nI g), .int 3]) (rest := []) ⟨hx, hb, hml, hown, hts0⟩ (mX7_of l dC dI cI o q0 q1 f x M h b g 3 (by first | omega | assumption)) (cwV 3 hts0 (gi_V u_932 u_934 us_20 u_7 u_935) rfl rfl rfl (by decide +kernel) ⟨Nat.le_of_ble_eq_true rfl, Nat.le_of_ble_eq_true rfl⟩) (pcR_V (ci := 5) (q0 := 0) hP hK hn rfl rfl) rfl rfl hl.1 rfl (lv_room (Nat.le_of_ble_eq_true rfl)) dX7_pointsIf_4 ⟨Nat.zero_le _, Nat.zero_le _⟩) ?_
  refine lv_istore (lv' := [(5, .int (fX7_of f b g 3)), (0, .ref o), (1, .int (nI b)), (2, .int (nI g)), (3, .int (nI tb)), (4, .int z)]) hx hb dX7_pointsIf_7 hl (by decide) rfl (fun ls hl => ?_)
  refine lv_aload_n hx hb dX7_pointsIf_9 rfl (lv_at hl 1 rfl) ?_
  refine lv_iload_n hx hb dX7_pointsIf_10 rfl (lv_at hl 2 rfl) ?_
  refine lv_iload_n hx hb dX7_pointsIf_11 rfl (lv_at hl 3 rfl) ?_
  refine lv_iconst (v := 4) hx hb dX7_pointsIf_12 (by decide) ?_
  refine k_calli (W.runV (As := [.int (nI b), .int (nI g), .int 4]) (rest := []) ⟨hx, hb, hml, hown, hts0⟩ (mX7_of l dC dI cI o q0 q1 f x M h b g 4 (by first | omega | assumption)) (cwV 3 hts0 (gi_V u_932 u_934 us_20 u_7 u_935) rfl rfl rfl (by decide +kernel) ⟨Nat.le_of_ble_eq_true rfl, Nat.le_of_ble_eq_true rfl⟩) (pcR_V (ci := 5) (q0 := 0) hP hK hn rfl rfl) rfl rfl hl.1 rfl (lv_room (Nat.le_of_ble_eq_true rfl)) dX7_pointsIf_13 ⟨Nat.zero_le _, Nat.zero_le _⟩) ?_
  refine lv_istore (lv' := [(6, .int (fX7_of f b g 4)), (5, .int (fX7_of f b g 3)), (0, .ref o), (1, .int (nI b)), (2, .int (nI g)), (3, .int (nI tb)), (4, .int z)]) hx hb dX7_pointsIf_16 hl (by decide) rfl (fun ls hl => ?_)
  refine lv_aload_n hx hb dX7_pointsIf_18 rfl (lv_at hl 2 rfl) ?_
  refine lv_iload_n hx hb dX7_pointsIf_19 rfl (lv_at hl 3 rfl) ?_
  refine lv_iload_n hx hb dX7_pointsIf_20 rfl (lv_at hl 4 rfl) ?_
  refine lv_iconst (v := 3) hx hb dX7_pointsIf_21 (by decide) ?_
  refine lv_iload_n hx hb dX7_pointsIf_22 rfl (lv_at hl 5 rfl) ?_
  refine k_mutv (Wd := (fun (v9 : (Nat → Int32)) => mW cI o q0 q1 v9 x M h)) (va_runV (As := [.int (nI b), .int (nI g), .int 3, .int (nI tb)]) (rest := []) ⟨hx, hb, hml, hown, hts0⟩ (mX7_lay l dC dI cI o q0 q1 f x M h b g 3 (nI tb) (by first | omega | assumption)) (cwV 4 hts0 (gi_V u_920 u_922 us_18 u_7 u_923) rfl rfl rfl (by decide +kernel) ⟨Nat.le_of_ble_eq_true rfl, Nat.le_of_ble_eq_true rfl⟩) (pcM_V (ci := 5) (q0 := 0) hP hK hn hD rfl rfl) rfl rfl hl.1 rfl (lv_room (Nat.le_of_ble_eq_true rfl)) dX7_pointsIf_23 ⟨Nat.zero_le _, Nat.zero_le _⟩) hP hD hS [0, 1, 2] rfl rfl (fun _ => rfl) (fun U23 H locs hU23 hP hD hS => ?_)
  have hP : va_P (dC, dI) vwCl (mW cI o q0 q1 U23 x M h) H := hP
  have hD : va_D A (mW cI o q0 q1 U23 x M h) := hD
  have hF := bd_at hF hU23
  refine lv_aload_n hx hb dX7_pointsIf_26 rfl (lv_at hl 2 rfl) ?_
  refine lv_iload_n hx hb dX7_pointsIf_27 rfl (lv_at hl 3 rfl) ?_
  refine lv_iload_n hx hb dX7_pointsIf_28 rfl (lv_at hl 4 rfl) ?_
  refine lv_iconst (v := 4) hx hb dX7_pointsIf_29 (by decide) ?_
  refine lv_iload hx hb dX7_pointsIf_30 (lv_at hl 6 rfl) ?_
  refine k_mutv (Wd := (fun (v9 : (Nat → Int32)) => mW cI o q0 q1 v9 x M h)) (va_runV (As := [.int (nI b), .int (nI g), .int 4, .int z]) (rest := []) ⟨hx, hb, hml, hown, hts0⟩ (mX7_lay l dC dI cI o q0 q1 U23 x M h b g 4 z (by first | omega | assumption)) (cwV 4 hts0 (gi_V u_920 u_922 us_18 u_7 u_923) rfl rfl rfl (by decide +kernel) ⟨Nat.le_of_ble_eq_true rfl, Nat.le_of_ble_eq_true rfl⟩) (pcM_V (ci := 5) (q0 := 0) hP hK hn hD rfl rfl) rfl rfl hl.1 rfl (lv_room (Nat.le_of_ble_eq_true rfl)) dX7_pointsIf_32 ⟨Nat.zero_le _, Nat.zero_le _⟩) hP hD hS [0, 1, 2] rfl rfl (fun _ => rfl) (fun U32 H locs hU32 hP hD hS => ?_)
  have hP : va_P (dC, dI) vwCl (mW cI o q0 q1 U32 x M h) H := hP
  have hD : va_D A (mW cI o q0 q1 U32 x M h) := hD
  have hF := bd_at hF hU32
  have hR2 : RW U32 b := by rw [hU32, hU23]; exact RW_lay2 hR hg ht z
  refine lv_aload_n hx hb dX7_pointsIf_35 rfl (lv_at hl 2 rfl) ?_
  refine lv_iload_n hx hb dX7_pointsIf_36 rfl (lv_at hl 3 rfl) ?_
  refine lv_iconst (v := (-1)) hx hb dX7_pointsIf_37 (by decide) ?_
  refine k_calli (W.runV (As := [.int (nI b), .int (-1)]) (rest := []) ⟨hx, hb, hml, hown, hts0⟩ (mX7_points l dC dI cI o q0 q1 U32 x M h b (-1) (by first | omega | assumption)) (cwV 2 hts0 (gi_V u_1004 u_1006 us_30 u_7 u_1007) rfl rfl rfl (by decide +kernel) ⟨Nat.le_of_ble_eq_true rfl, Nat.le_of_ble_eq_true rfl⟩) (pcR_V (ci := 5) (q0 := 0) hP hK hn rfl rfl) rfl rfl hl.1 rfl (lv_room (Nat.le_of_ble_eq_true rfl)) dX7_pointsIf_38 ⟨Nat.zero_le _, Nat.zero_le _⟩) ?_
  refine lv_istore (lv' := [(7, .int (fX7_points U32 b (-1))), (6, .int (fX7_of f b g 4)), (5, .int (fX7_of f b g 3)), (0, .ref o), (1, .int (nI b)), (2, .int (nI g)), (3, .int (nI tb)), (4, .int z)]) hx hb dX7_pointsIf_41 hl (by decide) rfl (fun ls hl => ?_)
  refine lv_aload_n hx hb dX7_pointsIf_43 rfl (lv_at hl 3 rfl) ?_
  refine lv_iload_n hx hb dX7_pointsIf_44 rfl (lv_at hl 4 rfl) ?_
  refine lv_iload_n hx hb dX7_pointsIf_45 rfl (lv_at hl 5 rfl) ?_
  refine lv_iconst (v := 3) hx hb dX7_pointsIf_46 (by decide) ?_
  refine lv_iload hx hb dX7_pointsIf_47 (lv_at hl 2 rfl) ?_
  refine k_mutv (Wd := (fun (v9 : (Nat → Int32)) => mW cI o q0 q1 v9 x M h)) (va_runV (As := [.int (nI b), .int (nI g), .int 3, .int (fX7_of f b g 3)]) (rest := []) ⟨hx, hb, hml, hown, hts0⟩ (mX7_lay l dC dI cI o q0 q1 U32 x M h b g 3 (fX7_of f b g 3) (by first | omega | assumption)) (cwV 4 hts0 (gi_V u_920 u_922 us_18 u_7 u_923) rfl rfl rfl (by decide +kernel) ⟨Nat.le_of_ble_eq_true rfl, Nat.le_of_ble_eq_true rfl⟩) (pcM_V (ci := 5) (q0 := 0) hP hK hn hD rfl rfl) rfl rfl hl.1 rfl (lv_room (Nat.le_of_ble_eq_true rfl)) dX7_pointsIf_49 ⟨Nat.zero_le _, Nat.zero_le _⟩) hP hD hS [0, 1, 2] rfl rfl (fun _ => rfl) (fun U49 H locs hU49 hP hD hS => ?_)
  have hP : va_P (dC, dI) vwCl (mW cI o q0 q1 U49 x M h) H := hP
  have hD : va_D A (mW cI o q0 q1 U49 x M h) := hD
  have hF := bd_at hF hU49
  refine lv_aload_n hx hb dX7_pointsIf_52 rfl (lv_at hl 3 rfl) ?_
  refine lv_iload_n hx hb dX7_pointsIf_53 rfl (lv_at hl 4 rfl) ?_
  refine lv_iload_n hx hb dX7_pointsIf_54 rfl (lv_at hl 5 rfl) ?_
  refine lv_iconst (v := 4) hx hb dX7_pointsIf_55 (by decide) ?_
  refine lv_iload hx hb dX7_pointsIf_56 (lv_at hl 1 rfl) ?_
  refine k_mutv (Wd := (fun (v9 : (Nat → Int32)) => mW cI o q0 q1 v9 x M h)) (va_runV (As := [.int (nI b), .int (nI g), .int 4, .int (fX7_of f b g 4)]) (rest := []) ⟨hx, hb, hml, hown, hts0⟩ (mX7_lay l dC dI cI o q0 q1 U49 x M h b g 4 (fX7_of f b g 4) (by first | omega | assumption)) (cwV 4 hts0 (gi_V u_920 u_922 us_18 u_7 u_923) rfl rfl rfl (by decide +kernel) ⟨Nat.le_of_ble_eq_true rfl, Nat.le_of_ble_eq_true rfl⟩) (pcM_V (ci := 5) (q0 := 0) hP hK hn hD rfl rfl) rfl rfl hl.1 rfl (lv_room (Nat.le_of_ble_eq_true rfl)) dX7_pointsIf_58 ⟨Nat.zero_le _, Nat.zero_le _⟩) hP hD hS [0, 1, 2] rfl rfl (fun _ => rfl) (fun U58 H locs hU58 hP hD hS => ?_)
  have hP : va_P (dC, dI) vwCl (mW cI o q0 q1 U58 x M h) H := hP
  have hD : va_D A (mW cI o q0 q1 U58 x M h) := hD
  have hF := bd_at hF hU58
  have hsame : U58 = f := by rw [hU58, hU49, hU32, hU23]; exact lay4_same f b g
  have hP : va_P (dC, dI) vwCl (mW cI o q0 q1 f x M h) H := by rw [← hsame]; exact hP
  refine lv_iload hx hb dX7_pointsIf_61 (lv_at hl 0 rfl) ?_
  rw [hQ]
  exact W.iret (v := (fX7_points U32 b (-1))) hx hb hr (fun t ht hW => ⟨⟨(fX7_points U32 b (-1)), f, rfl, congrArg (fun r9 => (r9, f)) hF.symm, toH ht hP⟩, hS.F ht⟩) hS.2.2 dX7_pointsIf_63
