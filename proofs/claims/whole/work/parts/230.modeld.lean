def fX7_sitsDown (f : Nat → Int32) (b : Nat) (g : Nat) (tb : Int32) (z : Int32) : (Nat → Int32) :=
  (bd ((if (fX7_of f b g 3) = (-1) then f else (bd (fX7_standsUp f b g) (fun U14 => U14))) : (Nat → Int32)) (fun U8_0 => (bd (fX7_lay U8_0 b g 3 tb) (fun U22 => (bd (fX7_lay U22 b g 4 z) (fun U31 => (upd (upd (upd U31 ((b + 22) + (U31 (b + 3)).toNatClampNeg) (nI g)) (b + 3) (((upd U31 ((b + 22) + (U31 (b + 3)).toNatClampNeg) (nI g)) (b + 3)) + 1)) (b + 4) (((upd (upd U31 ((b + 22) + (U31 (b + 3)).toNatClampNeg) (nI g)) (b + 3) (((upd U31 ((b + 22) + (U31 (b + 3)).toNatClampNeg) (nI g)) (b + 3)) + 1)) (b + 4)) + 1))))))))
abbrev rmX7_sitsDown : Room := { frames := 2, cells := 0, slots := 0, locals := 49 }
set_option maxHeartbeats 4000000 in
set_option maxRecDepth 100000 in
theorem mX7_sitsDown (l : Launch) (dC : Nat → ClassId) (dI : Nat → Nat → Nat) (cI : ClassId) (o q0 q1 : Nat) (f x M : Nat → Int32) (h : Int64) (b : Nat) (g : Nat) (tb : Int32) (z : Int32) (hR : RW f b) (hg : g < 16) (S0 : Nat) (hS0 : S0 ≤ 15) (hSe : sitMid f b g (b + 3) = nI S0) : Met l yX7_sitsDown (ws_ yX7_sitsDown cX7_sitsDown 5 none) rmX7_sitsDown (pcM (dC, dI) [(cI, .int)] (mW cI o q0 q1 f x M h) [.ref o, .int (nI b), .int (nI g), .int tb, .int z]) (va_Qv (fun (u9 : (Nat → Int32)) => u9 = fX7_sitsDown f b g tb z) (fun u9 t => va_P (dC, dI) vwCl ((fun (v9 : (Nat → Int32)) => mW cI o q0 q1 v9 x M h) u9) t.heap) (adr (mW cI o q0 q1 f x M h))) 0 0 (adr (mW cI o q0 q1 f x M h)) := by
  refine Met.ofW (cc := cX7_sitsDown) (maxL := 5) (ret := none) (by decide) rfl ?_
  intro p e s m args below meth c s₁ B hml hv
  obtain ⟨ha, hP, hK, hn, hD0⟩ := hv
  have hx := B.exec
  have hb := B.bytes
  have hr := B.returns
  have hts0 := atoms_spec (ws := (ws_ yX7_sitsDown cX7_sitsDown 5 none)) B.pre
  have hts : ∀ w ∈ lw_all, w.before args s = true := fun w h => hts0 w (List.mem_cons_of_mem _ h)
  have hown : s.vm.findClass RX7 = some m.cls := findClass_of_methodNamed B.named
  have hlocks := B.notSynchronized
  have htX7 : ∀ w ∈ wsX70, w.before args s = true := fun w h => hts w (wX7 w h)
  have hD := adr_self hD0
  obtain ⟨A, hA⟩ : ∃ A, A = adr (mW cI o q0 q1 f x M h) := ⟨_, rfl⟩
  rw [← hA] at hD
  have hS : va_S A s.heap s.heap [] := va_S.rf
  obtain ⟨Q, hQ⟩ : ∃ Q, Q = MQ below (va_Qv (fun (u9 : (Nat → Int32)) => u9 = fX7_sitsDown f b g tb z) (fun u9 t => va_P (dC, dI) vwCl ((fun (v9 : (Nat → Int32)) => mW cI o q0 q1 v9 x M h) u9) t.heap) (adr (mW cI o q0 q1 f x M h))) args s 0 0 (adr (mW cI o q0 q1 f x M h)) := ⟨_, rfl⟩
  rw [← hQ]
  rw [← hA] at hQ
  have hl := lv_entry ([.ref o, .int (nI b), .int (nI g), .int tb, .int z]) (n := 5) (Nat.le_of_ble_eq_true rfl)
  rw [ha, lg_entry_eq, ← ha]
  generalize (lg_sl ([.ref o, .int (nI b), .int (nI g), .int tb, .int z]) ++ List.replicate (5 - (lg_sl ([.ref o, .int (nI b), .int (nI g), .int tb, .int z])).length) Slot.unset).toArray = ls at hl ⊢
  have hl : lv_has ls 5 [(0, .ref o), (1, .int (nI b)), (2, .int (nI g)), (3, .int tb), (4, .int z)] := hl
  show W p l e rmX7_sitsDown s m args below meth c s.heap [] 0 0 Q (F0 m 0 ls [])
  have hF : fX7_sitsDown f b g tb z = fX7_sitsDown f b g tb z := rfl
  obtain ⟨rB, rG0, rT0, rF0, rS0, rTW, rWW⟩ := id hR
  have rG := rG0.c (by decide)
  have rT := rT0.c (by decide)
  have rF := rF0.c (by decide)
  have rS := rS0.c (by decide)
  refine lv_aload_n hx hb dX7_sitsDown_0 rfl (lv_at hl 0 rfl) ?_
  refine lv_iload_n hx hb dX7_sitsDown_1 rfl (lv_at hl 1 rfl) ?_
  refine lv_iload_n hx hb dX7_sitsDown_2 rfl (lv_at hl 2 rfl) ?_
  refine lv_iconst (v := 3) hx hb dX7_sitsDown_3 (by decide) ?_
  refine k_calli (W.runV (As := [.int (nI b), .int (nI g), .int 3]) (rest := []) ⟨hx, hb, hml, hown, hts0⟩ (mX7_of l dC dI cI o q0 q1 f x M h b g 3 (by first | omega | assumption)) (cwV 3 hts0 (gi_V u_932 u_934 us_20 u_7 u_935) rfl rfl rfl (by decide +kernel) ⟨Nat.le_of_ble_eq_true rfl, Nat.le_of_ble_eq_true rfl⟩) (pcR_V (ci := 5) (q0 := 0) hP hK hn rfl rfl) rfl rfl hl.1 rfl (lv_room (Nat.le_of_ble_eq_true rfl)) dX7_sitsDown_4 ⟨Nat.zero_le _, Nat.zero_le _⟩) ?_
  refine lv_iconst (v := (-1)) hx hb dX7_sitsDown_7 (by decide) ?_
  have K8 : ∀ (U8_0 : Nat → Int32), U8_0 = (if (fX7_of f b g 3) = (-1) then f else (bd (fX7_standsUp f b g) (fun U14 => U14))) → ∀ (H : Heap) (locs : List Loc), va_P (dC, dI) vwCl (mW cI o q0 q1 U8_0 x M h) H → va_D A (mW cI o q0 q1 U8_0 x M h) → va_S A s.heap H locs → ∀ (ls : Array Slot), lv_has ls 5 [(0, .ref o), (1, .int (nI b)), (2, .int (nI g)), (3, .int tb), (4, .int z)] → W p l e rmX7_sitsDown s m args below meth c H locs 0 0 Q (F0 m 17 ls []) := by
    intro U8_0 hz8 H locs hP hD hS ls hl
    have hz := hz8
    have hF := bd_at hF hz
    have hS3 : U8_0 (b + 3) = nI S0 := by rw [hz]; exact hSe
    refine lv_aload_n hx hb dX7_sitsDown_17 rfl (lv_at hl 0 rfl) ?_
    refine lv_iload_n hx hb dX7_sitsDown_18 rfl (lv_at hl 1 rfl) ?_
    refine lv_iload_n hx hb dX7_sitsDown_19 rfl (lv_at hl 2 rfl) ?_
    refine lv_iconst (v := 3) hx hb dX7_sitsDown_20 (by decide) ?_
    refine lv_iload_n hx hb dX7_sitsDown_21 rfl (lv_at hl 3 rfl) ?_
    refine k_mutv (Wd := (fun (v9 : (Nat → Int32)) => mW cI o q0 q1 v9 x M h)) (va_runV (As := [.int (nI b), .int (nI g), .int 3, .int tb]) (rest := []) ⟨hx, hb, hml, hown, hts0⟩ (mX7_lay l dC dI cI o q0 q1 U8_0 x M h b g 3 tb (by first | omega | assumption)) (cwV 4 hts0 (gi_V u_920 u_922 us_18 u_7 u_923) rfl rfl rfl (by decide +kernel) ⟨Nat.le_of_ble_eq_true rfl, Nat.le_of_ble_eq_true rfl⟩) (pcM_V (ci := 5) (q0 := 0) hP hK hn hD rfl rfl) rfl rfl hl.1 rfl (lv_room (Nat.le_of_ble_eq_true rfl)) dX7_sitsDown_22 ⟨Nat.zero_le _, Nat.zero_le _⟩) hP hD hS [0, 1, 2] rfl rfl (fun _ => rfl) (fun U22 H locs hU22 hP hD hS => ?_)
    have hP : va_P (dC, dI) vwCl (mW cI o q0 q1 U22 x M h) H := hP
    have hD : va_D A (mW cI o q0 q1 U22 x M h) := hD
    have hF := bd_at hF hU22
    refine lv_aload_n hx hb dX7_sitsDown_25 rfl (lv_at hl 0 rfl) ?_
    refine lv_iload_n hx hb dX7_sitsDown_26 rfl (lv_at hl 1 rfl) ?_
    refine lv_iload_n hx hb dX7_sitsDown_27 rfl (lv_at hl 2 rfl) ?_
    refine lv_iconst (v := 4) hx hb dX7_sitsDown_28 (by decide) ?_
    refine lv_iload hx hb dX7_sitsDown_29 (lv_at hl 4 rfl) ?_
    refine k_mutv (Wd := (fun (v9 : (Nat → Int32)) => mW cI o q0 q1 v9 x M h)) (va_runV (As := [.int (nI b), .int (nI g), .int 4, .int z]) (rest := []) ⟨hx, hb, hml, hown, hts0⟩ (mX7_lay l dC dI cI o q0 q1 U22 x M h b g 4 z (by first | omega | assumption)) (cwV 4 hts0 (gi_V u_920 u_922 us_18 u_7 u_923) rfl rfl rfl (by decide +kernel) ⟨Nat.le_of_ble_eq_true rfl, Nat.le_of_ble_eq_true rfl⟩) (pcM_V (ci := 5) (q0 := 0) hP hK hn hD rfl rfl) rfl rfl hl.1 rfl (lv_room (Nat.le_of_ble_eq_true rfl)) dX7_sitsDown_31 ⟨Nat.zero_le _, Nat.zero_le _⟩) hP hD hS [0, 1, 2] rfl rfl (fun _ => rfl) (fun U31 H locs hU31 hP hD hS => ?_)
    have hP : va_P (dC, dI) vwCl (mW cI o q0 q1 U31 x M h) H := hP
    have hD : va_D A (mW cI o q0 q1 U31 x M h) := hD
    have hF := bd_at hF hU31
    have hS4 : U31 (b + 3) = nI S0 := by rw [hU31, hU22, lay_eq, lay_eq, upd_ne (by omega), upd_ne (by omega)]; exact hS3
    have hc49 := IN.e ⟨S0, hS0, hS4⟩ (by decide)
    have hb49 := IN.c ⟨S0, hS0, hS4⟩ (by decide)
    refine lv_aload_n hx hb dX7_sitsDown_34 rfl (lv_at hl 0 rfl) ?_
    refine va_get (D := (dC, dI)) (ci := 5) (v := .ref q0) (C := RX7) (T := TX7) (N := 12) hx hb htX7 (fun _ h => h) hown hK hP 0 rfl rfl 1 (by decide) (hts _ u_858) (fun _ h9 => h9) rfl dX7_sitsDown_35 ?_
    refine lv_iload_n hx hb dX7_sitsDown_38 rfl (lv_at hl 1 rfl) ?_
    refine lv_bipush (v := 22) hx hb dX7_sitsDown_39 (by decide) ?_
    refine lv_iadd hx hb dX7_sitsDown_41 ?_
    refine lv_tope (y := (nI (b + 22))) (nI_add b 22) ?_
    refine lv_aload_n hx hb dX7_sitsDown_42 rfl (lv_at hl 0 rfl) ?_
    refine va_get (D := (dC, dI)) (ci := 5) (v := .ref q0) (C := RX7) (T := TX7) (N := 12) hx hb htX7 (fun _ h => h) hown hK hP 0 rfl rfl 1 (by decide) (hts _ u_858) (fun _ h9 => h9) rfl dX7_sitsDown_43 ?_
    refine lv_iload_n hx hb dX7_sitsDown_46 rfl (lv_at hl 1 rfl) ?_
    refine lv_iconst (v := 3) hx hb dX7_sitsDown_47 (by decide) ?_
    refine lv_iadd hx hb dX7_sitsDown_48 ?_
    refine lv_tope (y := (nI (b + 3))) (nI_add b 3) ?_
    refine va_iald hx hb hK hP 1 0 rfl rfl (vp_in_nI (n := (b + 3)) (by omega) (by decide)) dX7_sitsDown_49 ?_
    refine lv_tope (y := (U31 (b + 3))) (at_nI (k := (b + 3)) (by omega)) ?_
    refine lv_tope (y := (nI (U31 (b + 3)).toNatClampNeg)) hc49 ?_
    refine lv_iadd hx hb dX7_sitsDown_50 ?_
    refine lv_tope (y := (nI ((b + 22) + (U31 (b + 3)).toNatClampNeg))) (nI_add (b + 22) ((U31 (b + 3)).toNatClampNeg)) ?_
    refine lv_iload_n hx hb dX7_sitsDown_51 rfl (lv_at hl 2 rfl) ?_
    refine va_iast hx hb hK hP hD hS 1 0 rfl rfl (vp_in_nI (n := ((b + 22) + (U31 (b + 3)).toNatClampNeg)) (by omega) (by decide)) dX7_sitsDown_52 (fun H locs hP hD hS => ?_)
    rw [show ((nI ((b + 22) + (U31 (b + 3)).toNatClampNeg)) : Int32).toNatClampNeg = ((b + 22) + (U31 (b + 3)).toNatClampNeg) from nI_clamp (n := ((b + 22) + (U31 (b + 3)).toNatClampNeg)) (by omega)] at hP hD
    have hP : va_P (dC, dI) vwCl (mW cI o q0 q1 (upd U31 ((b + 22) + (U31 (b + 3)).toNatClampNeg) (nI g)) x M h) H := hP
    have hD : va_D A (mW cI o q0 q1 (upd U31 ((b + 22) + (U31 (b + 3)).toNatClampNeg) (nI g)) x M h) := hD
    refine lv_aload_n hx hb dX7_sitsDown_53 rfl (lv_at hl 0 rfl) ?_
    refine va_get (D := (dC, dI)) (ci := 5) (v := .ref q0) (C := RX7) (T := TX7) (N := 12) hx hb htX7 (fun _ h => h) hown hK hP 0 rfl rfl 1 (by decide) (hts _ u_858) (fun _ h9 => h9) rfl dX7_sitsDown_54 ?_
    refine lv_iload_n hx hb dX7_sitsDown_57 rfl (lv_at hl 1 rfl) ?_
    refine lv_iconst (v := 3) hx hb dX7_sitsDown_58 (by decide) ?_
    refine lv_iadd hx hb dX7_sitsDown_59 ?_
    refine lv_tope (y := (nI (b + 3))) (nI_add b 3) ?_
    refine lv_dup2_11 hx hb dX7_sitsDown_60 rfl rfl ?_
    refine va_iald hx hb hK hP 1 0 rfl rfl (vp_in_nI (n := (b + 3)) (by omega) (by decide)) dX7_sitsDown_61 ?_
    refine lv_tope (y := ((upd U31 ((b + 22) + (U31 (b + 3)).toNatClampNeg) (nI g)) (b + 3))) (at_nI (k := (b + 3)) (by omega)) ?_
    refine lv_iconst (v := 1) hx hb dX7_sitsDown_62 (by decide) ?_
    refine lv_iadd hx hb dX7_sitsDown_63 ?_
    refine va_iast hx hb hK hP hD hS 1 0 rfl rfl (vp_in_nI (n := (b + 3)) (by omega) (by decide)) dX7_sitsDown_64 (fun H locs hP hD hS => ?_)
    rw [show ((nI (b + 3)) : Int32).toNatClampNeg = (b + 3) from nI_clamp (n := (b + 3)) (by omega)] at hP hD
    have hP : va_P (dC, dI) vwCl (mW cI o q0 q1 (upd (upd U31 ((b + 22) + (U31 (b + 3)).toNatClampNeg) (nI g)) (b + 3) (((upd U31 ((b + 22) + (U31 (b + 3)).toNatClampNeg) (nI g)) (b + 3)) + 1)) x M h) H := hP
    have hD : va_D A (mW cI o q0 q1 (upd (upd U31 ((b + 22) + (U31 (b + 3)).toNatClampNeg) (nI g)) (b + 3) (((upd U31 ((b + 22) + (U31 (b + 3)).toNatClampNeg) (nI g)) (b + 3)) + 1)) x M h) := hD
    refine lv_aload_n hx hb dX7_sitsDown_65 rfl (lv_at hl 0 rfl) ?_
    refine va_get (D := (dC, dI)) (ci := 5) (v := .ref q0) (C := RX7) (T := TX7) (N := 12) hx hb htX7 (fun _ h => h) hown hK hP 0 rfl rfl 1 (by decide) (hts _ u_858) (fun _ h9 => h9) rfl dX7_sitsDown_66 ?_
    refine lv_iload_n hx hb dX7_sitsDown_69 rfl (lv_at hl 1 rfl) ?_
    refine lv_iconst (v := 4) hx hb dX7_sitsDown_70 (by decide) ?_
    refine lv_iadd hx hb dX7_sitsDown_71 ?_
    refine lv_tope (y := (nI (b + 4))) (nI_add b 4) ?_
    refine lv_dup2_11 hx hb dX7_sitsDown_72 rfl rfl ?_
    refine va_iald hx hb hK hP 1 0 rfl rfl (vp_in_nI (n := (b + 4)) (by omega) (by decide)) dX7_sitsDown_73 ?_
    refine lv_tope (y := ((upd (upd U31 ((b + 22) + (U31 (b + 3)).toNatClampNeg) (nI g)) (b + 3) (((upd U31 ((b + 22) + (U31 (b + 3)).toNatClampNeg) (nI g)) (b + 3)) + 1)) (b + 4))) (at_nI (k := (b + 4)) (by omega)) ?_
    refine lv_iconst (v := 1) hx hb dX7_sitsDown_74 (by decide) ?_
    refine lv_iadd hx hb dX7_sitsDown_75 ?_
    refine va_iast hx hb hK hP hD hS 1 0 rfl rfl (vp_in_nI (n := (b + 4)) (by omega) (by decide)) dX7_sitsDown_76 (fun H locs hP hD hS => ?_)
    rw [show ((nI (b + 4)) : Int32).toNatClampNeg = (b + 4) from nI_clamp (n := (b + 4)) (by omega)] at hP hD
    have hP : va_P (dC, dI) vwCl (mW cI o q0 q1 (upd (upd (upd U31 ((b + 22) + (U31 (b + 3)).toNatClampNeg) (nI g)) (b + 3) (((upd U31 ((b + 22) + (U31 (b + 3)).toNatClampNeg) (nI g)) (b + 3)) + 1)) (b + 4) (((upd (upd U31 ((b + 22) + (U31 (b + 3)).toNatClampNeg) (nI g)) (b + 3) (((upd U31 ((b + 22) + (U31 (b + 3)).toNatClampNeg) (nI g)) (b + 3)) + 1)) (b + 4)) + 1)) x M h) H := hP
    have hD : va_D A (mW cI o q0 q1 (upd (upd (upd U31 ((b + 22) + (U31 (b + 3)).toNatClampNeg) (nI g)) (b + 3) (((upd U31 ((b + 22) + (U31 (b + 3)).toNatClampNeg) (nI g)) (b + 3)) + 1)) (b + 4) (((upd (upd U31 ((b + 22) + (U31 (b + 3)).toNatClampNeg) (nI g)) (b + 3) (((upd U31 ((b + 22) + (U31 (b + 3)).toNatClampNeg) (nI g)) (b + 3)) + 1)) (b + 4)) + 1)) x M h) := hD
    rw [hQ]
    exact W.vret hx hb hr (fun t ht hW => ⟨⟨(upd (upd (upd U31 ((b + 22) + (U31 (b + 3)).toNatClampNeg) (nI g)) (b + 3) (((upd U31 ((b + 22) + (U31 (b + 3)).toNatClampNeg) (nI g)) (b + 3)) + 1)) (b + 4) (((upd (upd U31 ((b + 22) + (U31 (b + 3)).toNatClampNeg) (nI g)) (b + 3) (((upd U31 ((b + 22) + (U31 (b + 3)).toNatClampNeg) (nI g)) (b + 3)) + 1)) (b + 4)) + 1)), rfl, hF.symm, toH ht hP⟩, hS.F ht⟩) hS.2.2 dX7_sitsDown_77
  have hF : ((if (fX7_of f b g 3) = (-1) then f else (bd (fX7_standsUp f b g) (fun U14 => U14))) : (Nat → Int32)) = (if (fX7_of f b g 3) = (-1) then f else (bd (fX7_standsUp f b g) (fun U14 => U14))) := rfl
  refine lv_icmp_eq (tgt := 17) hx hb dX7_sitsDown_8 (by decide) (fun c_8 => ?_) (fun c_8 => ?_)
  · have hF := hF.trans (if_pos c_8)
    exact K8 _ hF.symm _ _ hP hD hS  ls (lv_sub hl [0, 1, 2, 3, 4] rfl)
  have hF := hF.trans (if_neg c_8)
  refine lv_aload_n hx hb dX7_sitsDown_11 rfl (lv_at hl 0 rfl) ?_
  refine lv_iload_n hx hb dX7_sitsDown_12 rfl (lv_at hl 1 rfl) ?_
  refine lv_iload_n hx hb dX7_sitsDown_13 rfl (lv_at hl 2 rfl) ?_
  refine k_mutv (Wd := (fun (v9 : (Nat → Int32)) => mW cI o q0 q1 v9 x M h)) (va_runV (As := [.int (nI b), .int (nI g)]) (rest := []) ⟨hx, hb, hml, hown, hts0⟩ (mX7_standsUp l dC dI cI o q0 q1 f x M h b g (by first | omega | assumption) (by first | omega | assumption)) (cwV 2 hts0 (gi_V u_962 u_964 us_24 u_7 u_965) rfl rfl rfl (by decide +kernel) ⟨Nat.le_of_ble_eq_true rfl, Nat.le_of_ble_eq_true rfl⟩) (pcM_V (ci := 5) (q0 := 0) hP hK hn hD rfl rfl) rfl rfl hl.1 rfl (lv_room (Nat.le_of_ble_eq_true rfl)) dX7_sitsDown_14 ⟨Nat.zero_le _, Nat.zero_le _⟩) hP hD hS [0, 1, 2] rfl rfl (fun _ => rfl) (fun U14 H locs hU14 hP hD hS => ?_)
  have hP : va_P (dC, dI) vwCl (mW cI o q0 q1 U14 x M h) H := hP
  have hD : va_D A (mW cI o q0 q1 U14 x M h) := hD
  have hF := bd_at hF hU14
  exact K8 _ hF.symm _ _ hP hD hS  ls (lv_sub hl [0, 1, 2, 3, 4] rfl)
