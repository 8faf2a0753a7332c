def fX7_standsUp_b5 (b : Nat) (g : Nat) (kk5 : Nat) (x5_3 : Nat) (U5_1 : Nat → Int32) (nextkk5 : Nat → (Nat → Int32) → (Nat → Int32)) : (Nat → Int32) :=
  (bd ((if (U5_1 ((b + 22) + kk5)) = (nI g) then 0 else 1) : Nat) (fun v49_0 => (nextkk5 (x5_3 + v49_0) (upd U5_1 ((b + 22) + x5_3) (U5_1 ((b + 22) + kk5))))))
def fX7_standsUp_r5 (b : Nat) (g : Nat) (x5_3 : Nat) (U5_1 : Nat → Int32) : (Nat → Int32) :=
  (bd (fX7_lay (upd U5_1 (b + 3) (nI x5_3)) b g 3 (-1)) (fun U79 => (bd (fX7_lay U79 b g 4 (-1)) (fun U87 => (upd U87 (b + 5) ((U87 (b + 5)) + 1))))))
def fX7_standsUp (f : Nat → Int32) (b : Nat) (g : Nat) : (Nat → Int32) :=
  (lq2 (fX7_standsUp_b5 b g) (fX7_standsUp_r5 b g) ((f (b + 3)).toNatClampNeg) 0 0 f)
abbrev rmX7_standsUp : Room := { frames := 1, cells := 0, slots := 0, locals := 24 }
set_option maxHeartbeats 4000000 in
set_option maxRecDepth 100000 in
theorem mX7_standsUp (l : Launch) (dC : Nat → ClassId) (dI : Nat → Nat → Nat) (cI : ClassId) (o q0 q1 : Nat) (f x M : Nat → Int32) (h : Int64) (b : Nat) (g : Nat) (hR : RW f b) (hg : g < 16) : Met l yX7_standsUp (ws_ yX7_standsUp cX7_standsUp 6 none) rmX7_standsUp (pcM (dC, dI) [(cI, .int)] (mW cI o q0 q1 f x M h) [.ref o, .int (nI b), .int (nI g)]) (va_Qv (fun (u9 : (Nat → Int32)) => u9 = fX7_standsUp f b g) (fun u9 t => va_P (dC, dI) vwCl ((fun (v9 : (Nat → Int32)) => mW cI o q0 q1 v9 x M h) u9) t.heap) (adr (mW cI o q0 q1 f x M h))) 0 0 (adr (mW cI o q0 q1 f x M h)) := by
  refine Met.ofW (cc := cX7_standsUp) (maxL := 6) (ret := none) (by decide) rfl ?_
  intro p e s m args below meth c s₁ B hml hv
  obtain ⟨ha, hP, hK, hn, hD0⟩ := hv
  have hx := B.exec
  have hb := B.bytes
  have hr := B.returns
  have hts0 := atoms_spec (ws := (ws_ yX7_standsUp cX7_standsUp 6 none)) B.pre
  have hts : ∀ w ∈ lw_all, w.before args s = true := fun w h => hts0 w (List.mem_cons_of_mem _ h)
  have hown : s.vm.findClass RX7 = some m.cls := findClass_of_methodNamed B.named
  have hlocks := B.notSynchronized
  have htX7 : ∀ w ∈ wsX70, w.before args s = true := fun w h => hts w (wX7 w h)
  have hD := adr_self hD0
  obtain ⟨A, hA⟩ : ∃ A, A = adr (mW cI o q0 q1 f x M h) := ⟨_, rfl⟩
  rw [← hA] at hD
  have hS : va_S A s.heap s.heap [] := va_S.rf
  obtain ⟨Q, hQ⟩ : ∃ Q, Q = MQ below (va_Qv (fun (u9 : (Nat → Int32)) => u9 = fX7_standsUp f b g) (fun u9 t => va_P (dC, dI) vwCl ((fun (v9 : (Nat → Int32)) => mW cI o q0 q1 v9 x M h) u9) t.heap) (adr (mW cI o q0 q1 f x M h))) args s 0 0 (adr (mW cI o q0 q1 f x M h)) := ⟨_, rfl⟩
  rw [← hQ]
  rw [← hA] at hQ
  have hl := lv_entry ([.ref o, .int (nI b), .int (nI g)]) (n := 6) (Nat.le_of_ble_eq_true rfl)
  rw [ha, lg_entry_eq, ← ha]
  generalize (lg_sl ([.ref o, .int (nI b), .int (nI g)]) ++ List.replicate (6 - (lg_sl ([.ref o, .int (nI b), .int (nI g)])).length) Slot.unset).toArray = ls at hl ⊢
  have hl : lv_has ls 6 [(0, .ref o), (1, .int (nI b)), (2, .int (nI g))] := hl
  show W p l e rmX7_standsUp s m args below meth c s.heap [] 0 0 Q (F0 m 0 ls [])
  have hF : fX7_standsUp f b g = fX7_standsUp f b g := rfl
  obtain ⟨rB, rG0, rT0, rF0, rS0, rTW, rWW⟩ := id hR
  have rG := rG0.c (by decide)
  have rT := rT0.c (by decide)
  have rF := rF0.c (by decide)
  have rS := rS0.c (by decide)
  refine lv_iconst (v := 0) hx hb dX7_standsUp_0 (by decide) ?_
  refine lv_istore_n (lv' := [(3, .int 0), (0, .ref o), (1, .int (nI b)), (2, .int (nI g))]) hx hb dX7_standsUp_1 rfl hl (by decide) rfl (fun ls hl => ?_)
  refine lv_iconst (v := 0) hx hb dX7_standsUp_2 (by decide) ?_
  refine lv_istore (lv' := [(4, .int 0), (3, .int 0), (0, .ref o), (1, .int (nI b)), (2, .int (nI g))]) hx hb dX7_standsUp_3 hl (by decide) rfl (fun ls hl => ?_)
  have L5 : ∀ (jj5 kk5 : Nat) (x5_3 : Nat) (U5_1 : Nat → Int32), kk5 + jj5 = ((f (b + 3)).toNatClampNeg) → fX7_standsUp f b g = lq2 (fX7_standsUp_b5 b g) (fX7_standsUp_r5 b g) jj5 kk5 x5_3 U5_1 → U5_1 (b + 3) = f (b + 3) ∧ x5_3 ≤ kk5 → ∀ (H : Heap) (locs : List Loc), va_P (dC, dI) vwCl (mW cI o q0 q1 U5_1 x M h) H → va_D A (mW cI o q0 q1 U5_1 x M h) → va_S A s.heap H locs → ∀ (ls : Array Slot), lv_has ls 6 [(4, .int (nI kk5)), (3, .int (nI x5_3)), (0, .ref o), (1, .int (nI b)), (2, .int (nI g))] → W p l e rmX7_standsUp s m args below meth c H locs 0 0 Q (F0 m 5 ls []) := by
    intro jj5
    induction jj5 using Nat.strongRecOn with
    | _ jj5 ihkk5 =>
      intro kk5 x5_3 U5_1 hkkk5 hF hikk5 H locs hP hD hS ls hl
      refine lv_iload hx hb dX7_standsUp_5 (lv_at hl 0 rfl) ?_
      refine lv_aload_n hx hb dX7_standsUp_7 rfl (lv_at hl 2 rfl) ?_
      refine va_get (D := (dC, dI)) (ci := 5) (v := .ref q0) (C := RX7) (T := TX7) (N := 12) hx hb htX7 (fun _ h => h) hown hK hP 0 rfl rfl 1 (by decide) (hts _ u_858) (fun _ h9 => h9) rfl dX7_standsUp_8 ?_
      refine lv_iload_n hx hb dX7_standsUp_11 rfl (lv_at hl 3 rfl) ?_
      refine lv_iconst (v := 3) hx hb dX7_standsUp_12 (by decide) ?_
      refine lv_iadd hx hb dX7_standsUp_13 ?_
      refine lv_tope (y := (nI (b + 3))) (nI_add b 3) ?_
      refine va_iald hx hb hK hP 1 0 rfl rfl (vp_in_nI (n := (b + 3)) (by omega) (by decide)) dX7_standsUp_14 ?_
      refine lv_tope (y := (U5_1 (b + 3))) (at_nI (k := (b + 3)) (by omega)) ?_
      refine lv_icmp_ge (tgt := 65) hx hb dX7_standsUp_15 (by decide) (fun c_15 => ?_) (fun c_15 => ?_)
      · obtain rfl := cn_exit hkkk5 (by rw [← hikk5.1]; exact c_15)
        have hF := hF.trans (lq2_z _ _ _ _ _)
        refine lv_aload_n hx hb dX7_standsUp_65 rfl (lv_at hl 2 rfl) ?_
        refine va_get (D := (dC, dI)) (ci := 5) (v := .ref q0) (C := RX7) (T := TX7) (N := 12) hx hb htX7 (fun _ h => h) hown hK hP 0 rfl rfl 1 (by decide) (hts _ u_858) (fun _ h9 => h9) rfl dX7_standsUp_66 ?_
        refine lv_iload_n hx hb dX7_standsUp_69 rfl (lv_at hl 3 rfl) ?_
        refine lv_iconst (v := 3) hx hb dX7_standsUp_70 (by decide) ?_
        refine lv_iadd hx hb dX7_standsUp_71 ?_
        refine lv_tope (y := (nI (b + 3))) (nI_add b 3) ?_
        refine lv_iload_n hx hb dX7_standsUp_72 rfl (lv_at hl 1 rfl) ?_
        refine va_iast hx hb hK hP hD hS 1 0 rfl rfl (vp_in_nI (n := (b + 3)) (by omega) (by decide)) dX7_standsUp_73 (fun H locs hP hD hS => ?_)
        rw [show ((nI (b + 3)) : Int32).toNatClampNeg = (b + 3) from nI_clamp (n := (b + 3)) (by omega)] at hP hD
        have hP : va_P (dC, dI) vwCl (mW cI o q0 q1 (upd U5_1 (b + 3) (nI x5_3)) x M h) H := hP
        have hD : va_D A (mW cI o q0 q1 (upd U5_1 (b + 3) (nI x5_3)) x M h) := hD
        refine lv_aload_n hx hb dX7_standsUp_74 rfl (lv_at hl 2 rfl) ?_
        refine lv_iload_n hx hb dX7_standsUp_75 rfl (lv_at hl 3 rfl) ?_
        refine lv_iload_n hx hb dX7_standsUp_76 rfl (lv_at hl 4 rfl) ?_
        refine lv_iconst (v := 3) hx hb dX7_standsUp_77 (by decide) ?_
        refine lv_iconst (v := (-1)) hx hb dX7_standsUp_78 (by decide) ?_
        refine k_mutv (Wd := (fun (v9 : (Nat → Int32)) => mW cI o q0 q1 v9 x M h)) (va_runV (As := [.int (nI b), .int (nI g), .int 3, .int (-1)]) (rest := []) ⟨hx, hb, hml, hown, hts0⟩ (mX7_lay l dC dI cI o q0 q1 (upd U5_1 (b + 3) (nI x5_3)) x M h b g 3 (-1) (by first | omega | assumption)) (cwV 4 hts0 (gi_V u_920 u_922 us_18 u_7 u_923) rfl rfl rfl (by decide +kernel) ⟨Nat.le_of_ble_eq_true rfl, Nat.le_of_ble_eq_true rfl⟩) (pcM_V (ci := 5) (q0 := 0) hP hK hn hD rfl rfl) rfl rfl hl.1 rfl (lv_room (Nat.le_of_ble_eq_true rfl)) dX7_standsUp_79 ⟨Nat.zero_le _, Nat.zero_le _⟩) hP hD hS [0, 1, 2] rfl rfl (fun _ => rfl) (fun U79 H locs hU79 hP hD hS => ?_)
        have hP : va_P (dC, dI) vwCl (mW cI o q0 q1 U79 x M h) H := hP
        have hD : va_D A (mW cI o q0 q1 U79 x M h) := hD
        have hF := bd_at hF hU79
        refine lv_aload_n hx hb dX7_standsUp_82 rfl (lv_at hl 2 rfl) ?_
        refine lv_iload_n hx hb dX7_standsUp_83 rfl (lv_at hl 3 rfl) ?_
        refine lv_iload_n hx hb dX7_standsUp_84 rfl (lv_at hl 4 rfl) ?_
        refine lv_iconst (v := 4) hx hb dX7_standsUp_85 (by decide) ?_
        refine lv_iconst (v := (-1)) hx hb dX7_standsUp_86 (by decide) ?_
        refine k_mutv (Wd := (fun (v9 : (Nat → Int32)) => mW cI o q0 q1 v9 x M h)) (va_runV (As := [.int (nI b), .int (nI g), .int 4, .int (-1)]) (rest := []) ⟨hx, hb, hml, hown, hts0⟩ (mX7_lay l dC dI cI o q0 q1 U79 x M h b g 4 (-1) (by first | omega | assumption)) (cwV 4 hts0 (gi_V u_920 u_922 us_18 u_7 u_923) rfl rfl rfl (by decide +kernel) ⟨Nat.le_of_ble_eq_true rfl, Nat.le_of_ble_eq_true rfl⟩) (pcM_V (ci := 5) (q0 := 0) hP hK hn hD rfl rfl) rfl rfl hl.1 rfl (lv_room (Nat.le_of_ble_eq_true rfl)) dX7_standsUp_87 ⟨Nat.zero_le _, Nat.zero_le _⟩) hP hD hS [0, 1, 2] rfl rfl (fun _ => rfl) (fun U87 H locs hU87 hP hD hS => ?_)
        have hP : va_P (dC, dI) vwCl (mW cI o q0 q1 U87 x M h) H := hP
        have hD : va_D A (mW cI o q0 q1 U87 x M h) := hD
        have hF := bd_at hF hU87
        refine lv_aload_n hx hb dX7_standsUp_90 rfl (lv_at hl 2 rfl) ?_
        refine va_get (D := (dC, dI)) (ci := 5) (v := .ref q0) (C := RX7) (T := TX7) (N := 12) hx hb htX7 (fun _ h => h) hown hK hP 0 rfl rfl 1 (by decide) (hts _ u_858) (fun _ h9 => h9) rfl dX7_standsUp_91 ?_
        refine lv_iload_n hx hb dX7_standsUp_94 rfl (lv_at hl 3 rfl) ?_
        refine lv_iconst (v := 5) hx hb dX7_standsUp_95 (by decide) ?_
        refine lv_iadd hx hb dX7_standsUp_96 ?_
        refine lv_tope (y := (nI (b + 5))) (nI_add b 5) ?_
        refine lv_dup2_11 hx hb dX7_standsUp_97 rfl rfl ?_
        refine va_iald hx hb hK hP 1 0 rfl rfl (vp_in_nI (n := (b + 5)) (by omega) (by decide)) dX7_standsUp_98 ?_
        refine lv_tope (y := (U87 (b + 5))) (at_nI (k := (b + 5)) (by omega)) ?_
        refine lv_iconst (v := 1) hx hb dX7_standsUp_99 (by decide) ?_
        refine lv_iadd hx hb dX7_standsUp_100 ?_
        refine va_iast hx hb hK hP hD hS 1 0 rfl rfl (vp_in_nI (n := (b + 5)) (by omega) (by decide)) dX7_standsUp_101 (fun H locs hP hD hS => ?_)
        rw [show ((nI (b + 5)) : Int32).toNatClampNeg = (b + 5) from nI_clamp (n := (b + 5)) (by omega)] at hP hD
        have hP : va_P (dC, dI) vwCl (mW cI o q0 q1 (upd U87 (b + 5) ((U87 (b + 5)) + 1)) x M h) H := hP
        have hD : va_D A (mW cI o q0 q1 (upd U87 (b + 5) ((U87 (b + 5)) + 1)) x M h) := hD
        rw [hQ]
        exact W.vret hx hb hr (fun t ht hW => ⟨⟨(upd U87 (b + 5) ((U87 (b + 5)) + 1)), rfl, hF.symm, toH ht hP⟩, hS.F ht⟩) hS.2.2 dX7_standsUp_102
      obtain ⟨jj5, rfl⟩ := cn_go hkkk5 (by rw [← hikk5.1]; exact c_15)
      have hF := hF.trans (lq2_s _ _ _ _ _ _)
      obtain ⟨nextkk5, hnextkk5⟩ : ∃ y9, y9 = lq2 (fX7_standsUp_b5 b g) (fX7_standsUp_r5 b g) jj5 (kk5 + 1) := ⟨_, rfl⟩
      rw [← hnextkk5] at hF
      have hi2 := hikk5.2
      refine lv_aload_n hx hb dX7_standsUp_18 rfl (lv_at hl 2 rfl) ?_
      refine va_get (D := (dC, dI)) (ci := 5) (v := .ref q0) (C := RX7) (T := TX7) (N := 12) hx hb htX7 (fun _ h => h) hown hK hP 0 rfl rfl 1 (by decide) (hts _ u_858) (fun _ h9 => h9) rfl dX7_standsUp_19 ?_
      refine lv_iload_n hx hb dX7_standsUp_22 rfl (lv_at hl 3 rfl) ?_
      refine lv_bipush (v := 22) hx hb dX7_standsUp_23 (by decide) ?_
      refine lv_iadd hx hb dX7_standsUp_25 ?_
      refine lv_tope (y := (nI (b + 22))) (nI_add b 22) ?_
      refine lv_iload hx hb dX7_standsUp_26 (lv_at hl 0 rfl) ?_
      refine lv_iadd hx hb dX7_standsUp_28 ?_
      refine lv_tope (y := (nI ((b + 22) + kk5))) (nI_add (b + 22) kk5) ?_
      refine va_iald hx hb hK hP 1 0 rfl rfl (vp_in_nI (n := ((b + 22) + kk5)) (by omega) (by decide)) dX7_standsUp_29 ?_
      refine lv_tope (y := (U5_1 ((b + 22) + kk5))) (at_nI (k := ((b + 22) + kk5)) (by omega)) ?_
      refine lv_istore (lv' := [(5, .int (U5_1 ((b + 22) + kk5))), (4, .int (nI kk5)), (3, .int (nI x5_3)), (0, .ref o), (1, .int (nI b)), (2, .int (nI g))]) hx hb dX7_standsUp_30 hl (by decide) rfl (fun ls hl => ?_)
      refine lv_aload_n hx hb dX7_standsUp_32 rfl (lv_at hl 3 rfl) ?_
      refine va_get (D := (dC, dI)) (ci := 5) (v := .ref q0) (C := RX7) (T := TX7) (N := 12) hx hb htX7 (fun _ h => h) hown hK hP 0 rfl rfl 1 (by decide) (hts _ u_858) (fun _ h9 => h9) rfl dX7_standsUp_33 ?_
      refine lv_iload_n hx hb dX7_standsUp_36 rfl (lv_at hl 4 rfl) ?_
      refine lv_bipush (v := 22) hx hb dX7_standsUp_37 (by decide) ?_
      refine lv_iadd hx hb dX7_standsUp_39 ?_
      refine lv_tope (y := (nI (b + 22))) (nI_add b 22) ?_
      refine lv_iload_n hx hb dX7_standsUp_40 rfl (lv_at hl 2 rfl) ?_
      refine lv_iadd hx hb dX7_standsUp_41 ?_
      refine lv_tope (y := (nI ((b + 22) + x5_3))) (nI_add (b + 22) x5_3) ?_
      refine lv_iload hx hb dX7_standsUp_42 (lv_at hl 0 rfl) ?_
      refine va_iast hx hb hK hP hD hS 1 0 rfl rfl (vp_in_nI (n := ((b + 22) + x5_3)) (by omega) (by decide)) dX7_standsUp_44 (fun H locs hP hD hS => ?_)
      rw [show ((nI ((b + 22) + x5_3)) : Int32).toNatClampNeg = ((b + 22) + x5_3) from nI_clamp (n := ((b + 22) + x5_3)) (by omega)] at hP hD
      have hP : va_P (dC, dI) vwCl (mW cI o q0 q1 (upd U5_1 ((b + 22) + x5_3) (U5_1 ((b + 22) + kk5))) x M h) H := hP
      have hD : va_D A (mW cI o q0 q1 (upd U5_1 ((b + 22) + x5_3) (U5_1 ((b + 22) + kk5))) x M h) := hD
      refine lv_iload_n hx hb dX7_standsUp_45 rfl (lv_at hl 2 rfl) ?_
      refine lv_iload hx hb dX7_standsUp_46 (lv_at hl 0 rfl) ?_
      refine lv_iload_n hx hb dX7_standsUp_48 rfl (lv_at hl 5 rfl) ?_
      have K49 : ∀ (v49_0 : Nat), v49_0 = (if (U5_1 ((b + 22) + kk5)) = (nI g) then 0 else 1) → ∀ (H : Heap) (locs : List Loc), va_P (dC, dI) vwCl (mW cI o q0 q1 (upd U5_1 ((b + 22) + x5_3) (U5_1 ((b + 22) + kk5))) x M h) H → va_D A (mW cI o q0 q1 (upd U5_1 ((b + 22) + x5_3) (U5_1 ((b + 22) + kk5))) x M h) → va_S A s.heap H locs → ∀ (ls : Array Slot), lv_has ls 6 [(5, .int (U5_1 ((b + 22) + kk5))), (4, .int (nI kk5)), (3, .int (nI x5_3)), (0, .ref o), (1, .int (nI b)), (2, .int (nI g))] → W p l e rmX7_standsUp s m args below meth c H locs 0 0 Q (F0 m 57 ls [.int (nI v49_0), .int (nI x5_3)]) := by
        intro v49_0 hz49 H locs hP hD hS ls hl
        have hz := hz49
        have hF := bd_at hF hz
        refine lv_iadd hx hb dX7_standsUp_57 ?_
        refine lv_tope (y := (nI (x5_3 + v49_0))) (nI_add x5_3 v49_0) ?_
        refine lv_istore_n (lv' := [(3, .int (nI (x5_3 + v49_0))), (5, .int (U5_1 ((b + 22) + kk5))), (4, .int (nI kk5)), (0, .ref o), (1, .int (nI b)), (2, .int (nI g))]) hx hb dX7_standsUp_58 rfl hl (by decide) rfl (fun ls hl => ?_)
        refine lv_iinc (v := (nI (kk5 + 1))) (lv' := [(4, .int (nI (kk5 + 1))), (3, .int (nI (x5_3 + v49_0))), (5, .int (U5_1 ((b + 22) + kk5))), (0, .ref o), (1, .int (nI b)), (2, .int (nI g))]) hx hb dX7_standsUp_59 hl (k := 2) rfl (nI_1 _) (by decide) rfl (fun ls hl => ?_)
        refine lv_goto (tgt := 5) hx hb dX7_standsUp_62 (by decide) ?_
        have hF : fX7_standsUp f b g = nextkk5 (x5_3 + v49_0) (upd U5_1 ((b + 22) + x5_3) (U5_1 ((b + 22) + kk5))) := hF
        rw [hnextkk5] at hF
        exact ihkk5 jj5 (Nat.lt_succ_self _) (kk5 + 1) (x5_3 + v49_0) (upd U5_1 ((b + 22) + x5_3) (U5_1 ((b + 22) + kk5))) (cn_next hkkk5) hF ⟨(upd_ne (by omega)).trans hikk5.1, (by have hv := hz; split at hv <;> omega)⟩ _ _ hP hD hS ls (lv_sub hl [0, 1, 3, 4, 5] rfl)
      have hF : ((if (U5_1 ((b + 22) + kk5)) = (nI g) then 0 else 1) : Nat) = (if (U5_1 ((b + 22) + kk5)) = (nI g) then 0 else 1) := rfl
      refine lv_icmp_ne (tgt := 56) hx hb dX7_standsUp_49 (by decide) (fun c_49 => ?_) (fun c_49 => ?_)
      · have hF := hF.trans (if_neg c_49)
        refine lv_iconst (v := 1) hx hb dX7_standsUp_56 (by decide) ?_
        exact K49 _ hF.symm _ _ hP hD hS  ls (lv_sub hl [0, 1, 2, 3, 4, 5] rfl)
      have hF := hF.trans (if_pos c_49)
      refine lv_iconst (v := 0) hx hb dX7_standsUp_52 (by decide) ?_
      refine lv_goto (tgt := 57) hx hb dX7_standsUp_53 (by decide) ?_
      exact K49 _ hF.symm _ _ hP hD hS  ls (lv_sub hl [0, 1, 2, 3, 4, 5] rfl)
  exact L5 ((f (b + 3)).toNatClampNeg) 0 0 f (Nat.zero_add _) hF ⟨rfl, Nat.le_refl 0⟩ _ _ hP hD hS ls (lv_sub hl [0, 1, 2, 3, 4] rfl)
