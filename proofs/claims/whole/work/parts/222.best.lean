def fX7_best_b8 (f : Nat → Int32) (b : Nat) (g : Nat) (kk8 : Nat) (x8_4 : Int32) (x8_3 : Int32) (nextkk8 : Int32 → Int32 → Int32) : Int32 :=
  (bd2 ((if (f ((b + 18) + (kk8 / 8))) ≤ (nI (kk8 % 8)) then (x8_4, x8_3) else (if (fX7_reason f b g (nI (kk8 / 8)) (nI (kk8 % 8))) = 0 then (bd ((if x8_3 = (-1) then (nI kk8) else (if (fX7_pointsIf f b g (kk8 / 8) (nI (kk8 % 8))) ≤ x8_4 then x8_3 else (nI kk8))) : Int32) (fun v86_0 => (bd ((if v86_0 = (nI kk8) then (fX7_pointsIf f b g (kk8 / 8) (nI (kk8 % 8))) else x8_4) : Int32) (fun v106_0 => (v106_0, v86_0))))) else (x8_4, x8_3))) : Int32 × Int32) (fun v44_0 v44_1 => (nextkk8 v44_0 v44_1)))
def fX7_best_r8 (x8_4 : Int32) (x8_3 : Int32) : Int32 :=
  x8_3
def fX7_best (f : Nat → Int32) (b : Nat) (g : Nat) : Int32 :=
  (lq2 (fX7_best_b8 f b g) fX7_best_r8 ((8 * (f (b + 1))).toNatClampNeg) 0 0 (-1))
abbrev rmX7_best : Room := { frames := 5, cells := 0, slots := 0, locals := 123 }
set_option maxHeartbeats 4000000 in
set_option maxRecDepth 100000 in
theorem mX7_best (l : Launch) (dC : Nat → ClassId) (dI : Nat → Nat → Nat) (cI : ClassId) (o q0 q1 : Nat) (f x M : Nat → Int32) (h : Int64) (b : Nat) (g : Nat) (hR : RW f b) (hg : g < 16) : Met l yX7_best (ws_ yX7_best cX7_best 7 (some .int)) rmX7_best (pcM (dC, dI) [(cI, .int)] (mW cI o q0 q1 f x M h) [.ref o, .int (nI b), .int (nI g)]) (va_Qi (fun (r9 : Int32) (u9 : (Nat → Int32)) => (r9, u9) = (fX7_best f b g, f)) (fun u9 t => va_P (dC, dI) vwCl ((fun (v9 : (Nat → Int32)) => mW cI o q0 q1 v9 x M h) u9) t.heap) (adr (mW cI o q0 q1 f x M h))) 0 0 (adr (mW cI o q0 q1 f x M h)) := by
  refine Met.ofW (cc := cX7_best) (maxL := 7) (ret := (some .int)) (by decide) rfl ?_
  intro p e s m args below meth c s₁ B hml hv
  obtain ⟨ha, hP, hK, hn, hD0⟩ := hv
  have hx := B.exec
  have hb := B.bytes
  have hr := B.returns
  have hts0 := atoms_spec (ws := (ws_ yX7_best cX7_best 7 (some .int))) B.pre
  have hts : ∀ w ∈ lw_all, w.before args s = true := fun w h => hts0 w (List.mem_cons_of_mem _ h)
  have hown : s.vm.findClass RX7 = some m.cls := findClass_of_methodNamed B.named
  have hlocks := B.notSynchronized
  have htX7 : ∀ w ∈ wsX70, w.before args s = true := fun w h => hts w (wX7 w h)
  have hD := adr_self hD0
  obtain ⟨A, hA⟩ : ∃ A, A = adr (mW cI o q0 q1 f x M h) := ⟨_, rfl⟩
  rw [← hA] at hD
  have hS : va_S A s.heap s.heap [] := va_S.rf
  obtain ⟨Q, hQ⟩ : ∃ Q, Q = MQ below (va_Qi (fun (r9 : Int32) (u9 : (Nat → Int32)) => (r9, u9) = (fX7_best f b g, f)) (fun u9 t => va_P (dC, dI) vwCl ((fun (v9 : (Nat → Int32)) => mW cI o q0 q1 v9 x M h) u9) t.heap) (adr (mW cI o q0 q1 f x M h))) args s 0 0 (adr (mW cI o q0 q1 f x M h)) := ⟨_, rfl⟩
  rw [← hQ]
  rw [← hA] at hQ
  have hl := lv_entry ([.ref o, .int (nI b), .int (nI g)]) (n := 7) (Nat.le_of_ble_eq_true rfl)
  rw [ha, lg_entry_eq, ← ha]
  generalize (lg_sl ([.ref o, .int (nI b), .int (nI g)]) ++ List.replicate (7 - (lg_sl ([.ref o, .int (nI b), .int (nI g)])).length) Slot.unset).toArray = ls at hl ⊢
  have hl : lv_has ls 7 [(0, .ref o), (1, .int (nI b)), (2, .int (nI g))] := hl
  show W p l e rmX7_best s m args below meth c s.heap [] 0 0 Q (F0 m 0 ls [])
  have hF : fX7_best f b g = fX7_best f b g := rfl
  obtain ⟨rB, rG0, rT0, rF0, rS0, rTW, rWW⟩ := id hR
  have rG := rG0.c (by decide)
  have rT := rT0.c (by decide)
  have rF := rF0.c (by decide)
  have rS := rS0.c (by decide)
  have r8 : (8 * (f (b + 1))).toNatClampNeg ≤ 32 := T8_le rT0
  obtain ⟨N8, eN8, r9⟩ : ∃ N8 : Nat, (∃ _u : Unit, N8 = (8 * (f (b + 1))).toNatClampNeg) ∧ N8 ≤ 32 := ⟨_, ⟨(), rfl⟩, r8⟩
  clear r8
  refine lv_iconst (v := (-1)) hx hb dX7_best_0 (by decide) ?_
  refine lv_istore_n (lv' := [(3, .int (-1)), (0, .ref o), (1, .int (nI b)), (2, .int (nI g))]) hx hb dX7_best_1 rfl hl (by decide) rfl (fun ls hl => ?_)
  refine lv_iconst (v := 0) hx hb dX7_best_2 (by decide) ?_
  refine lv_istore (lv' := [(4, .int 0), (3, .int (-1)), (0, .ref o), (1, .int (nI b)), (2, .int (nI g))]) hx hb dX7_best_3 hl (by decide) rfl (fun ls hl => ?_)
  refine lv_iconst (v := 0) hx hb dX7_best_5 (by decide) ?_
  refine lv_istore (lv' := [(5, .int 0), (4, .int 0), (3, .int (-1)), (0, .ref o), (1, .int (nI b)), (2, .int (nI g))]) hx hb dX7_best_6 hl (by decide) rfl (fun ls hl => ?_)
  have L8 : ∀ (jj8 kk8 : Nat) (x8_4 : Int32) (x8_3 : Int32), kk8 + jj8 = N8 → fX7_best f b g = lq2 (fX7_best_b8 f b g) fX7_best_r8 jj8 kk8 x8_4 x8_3 → ∀ (H : Heap) (locs : List Loc), va_P (dC, dI) vwCl (mW cI o q0 q1 f x M h) H → va_D A (mW cI o q0 q1 f x M h) → va_S A s.heap H locs → ∀ (ls : Array Slot), lv_has ls 7 [(5, .int (nI kk8)), (4, .int x8_4), (3, .int x8_3), (0, .ref o), (1, .int (nI b)), (2, .int (nI g))] → W p l e rmX7_best s m args below meth c H locs 0 0 Q (F0 m 8 ls []) := by
    intro jj8
    induction jj8 using Nat.strongRecOn with
    | _ jj8 ihkk8 =>
      intro kk8 x8_4 x8_3 hkkk8 hF H locs hP hD hS ls hl
      refine lv_iload hx hb dX7_best_8 (lv_at hl 0 rfl) ?_
      refine lv_bipush (v := 8) hx hb dX7_best_10 (by decide) ?_
      refine lv_aload_n hx hb dX7_best_12 rfl (lv_at hl 3 rfl) ?_
      refine va_get (D := (dC, dI)) (ci := 5) (v := .ref q0) (C := RX7) (T := TX7) (N := 12) hx hb htX7 (fun _ h => h) hown hK hP 0 rfl rfl 1 (by decide) (hts _ u_858) (fun _ h9 => h9) rfl dX7_best_13 ?_
      refine lv_iload_n hx hb dX7_best_16 rfl (lv_at hl 4 rfl) ?_
      refine lv_iconst (v := 1) hx hb dX7_best_17 (by decide) ?_
      refine lv_iadd hx hb dX7_best_18 ?_
      refine lv_tope (y := (nI (b + 1))) (nI_add b 1) ?_
      refine va_iald hx hb hK hP 1 0 rfl rfl (vp_in_nI (n := (b + 1)) (by omega) (by decide)) dX7_best_19 ?_
      refine lv_tope (y := (f (b + 1))) (at_nI (k := (b + 1)) (by omega)) ?_
      refine lv_imul hx hb dX7_best_20 ?_
      refine lv_icmp_ge (tgt := 124) hx hb dX7_best_21 (by decide) (fun c_21 => ?_) (fun c_21 => ?_)
      · obtain rfl := cn_exit (hkkk8.trans eN8.choose_spec) c_21
        have hF := hF.trans (lq2_z _ _ _ _ _)
        refine lv_iload_n hx hb dX7_best_124 rfl (lv_at hl 2 rfl) ?_
        rw [hQ]
        exact W.iret (v := x8_3) hx hb hr (fun t ht hW => ⟨⟨x8_3, f, rfl, congrArg (fun r9 => (r9, f)) hF.symm, toH ht hP⟩, hS.F ht⟩) hS.2.2 dX7_best_125
      obtain ⟨jj8, rfl⟩ := cn_go (hkkk8.trans eN8.choose_spec) c_21
      have hF := hF.trans (lq2_s _ _ _ _ _ _)
      obtain ⟨nextkk8, hnextkk8⟩ : ∃ y9, y9 = lq2 (fX7_best_b8 f b g) fX7_best_r8 jj8 (kk8 + 1) := ⟨_, rfl⟩
      rw [← hnextkk8] at hF
      refine lv_iload hx hb dX7_best_24 (lv_at hl 0 rfl) ?_
      refine lv_bipush (v := 8) hx hb dX7_best_26 (by decide) ?_
      refine lv_irem hx hb dX7_best_28 (by decide) ?_
      refine lv_tope (y := (nI (kk8 % 8))) (pk_rem (a := kk8) (d := 8) (by omega) (by decide) (by decide)) ?_
      refine lv_aload_n hx hb dX7_best_29 rfl (lv_at hl 3 rfl) ?_
      refine va_get (D := (dC, dI)) (ci := 5) (v := .ref q0) (C := RX7) (T := TX7) (N := 12) hx hb htX7 (fun _ h => h) hown hK hP 0 rfl rfl 1 (by decide) (hts _ u_858) (fun _ h9 => h9) rfl dX7_best_30 ?_
      refine lv_iload_n hx hb dX7_best_33 rfl (lv_at hl 4 rfl) ?_
      refine lv_bipush (v := 18) hx hb dX7_best_34 (by decide) ?_
      refine lv_iadd hx hb dX7_best_36 ?_
      refine lv_tope (y := (nI (b + 18))) (nI_add b 18) ?_
      refine lv_iload hx hb dX7_best_37 (lv_at hl 0 rfl) ?_
      refine lv_bipush (v := 8) hx hb dX7_best_39 (by decide) ?_
      refine lv_idiv hx hb dX7_best_41 (by decide) ?_
      refine lv_tope (y := (nI (kk8 / 8))) (pk_div (a := kk8) (d := 8) (by omega) (by decide) (by decide)) ?_
      refine lv_iadd hx hb dX7_best_42 ?_
      refine lv_tope (y := (nI ((b + 18) + (kk8 / 8)))) (nI_add (b + 18) (kk8 / 8)) ?_
      refine va_iald hx hb hK hP 1 0 rfl rfl (vp_in_nI (n := ((b + 18) + (kk8 / 8))) (by omega) (by decide)) dX7_best_43 ?_
      refine lv_tope (y := (f ((b + 18) + (kk8 / 8)))) (at_nI (k := ((b + 18) + (kk8 / 8))) (by omega)) ?_
      have K44 : ∀ (v44_0 : Int32) (v44_1 : Int32), (v44_0, v44_1) = (if (f ((b + 18) + (kk8 / 8))) ≤ (nI (kk8 % 8)) then (x8_4, x8_3) else (if (fX7_reason f b g (nI (kk8 / 8)) (nI (kk8 % 8))) = 0 then (bd ((if x8_3 = (-1) then (nI kk8) else (if (fX7_pointsIf f b g (kk8 / 8) (nI (kk8 % 8))) ≤ x8_4 then x8_3 else (nI kk8))) : Int32) (fun v86_0 => (bd ((if v86_0 = (nI kk8) then (fX7_pointsIf f b g (kk8 / 8) (nI (kk8 % 8))) else x8_4) : Int32) (fun v106_0 => (v106_0, v86_0))))) else (x8_4, x8_3))) → ∀ (H : Heap) (locs : List Loc), va_P (dC, dI) vwCl (mW cI o q0 q1 f x M h) H → va_D A (mW cI o q0 q1 f x M h) → va_S A s.heap H locs → ∀ (ls : Array Slot), lv_has ls 7 [(5, .int (nI kk8)), (4, .int v44_0), (3, .int v44_1), (0, .ref o), (1, .int (nI b)), (2, .int (nI g))] → W p l e rmX7_best s m args below meth c H locs 0 0 Q (F0 m 118 ls []) := by
        intro v44_0 v44_1 hz44 H locs hP hD hS ls hl
        have hz := hz44
        have hF := bd2_at hF hz
        refine lv_iinc (v := (nI (kk8 + 1))) (lv' := [(5, .int (nI (kk8 + 1))), (4, .int v44_0), (3, .int v44_1), (0, .ref o), (1, .int (nI b)), (2, .int (nI g))]) hx hb dX7_best_118 hl (k := 0) rfl (nI_1 _) (by decide) rfl (fun ls hl => ?_)
        refine lv_goto (tgt := 8) hx hb dX7_best_121 (by decide) ?_
        have hF : fX7_best f b g = nextkk8 v44_0 v44_1 := hF
        rw [hnextkk8] at hF
        exact ihkk8 jj8 (Nat.lt_succ_self _) (kk8 + 1) v44_0 v44_1 (cn_next hkkk8) hF _ _ hP hD hS ls (lv_sub hl [0, 1, 2, 3, 4, 5] rfl)
      have hF : ((if (f ((b + 18) + (kk8 / 8))) ≤ (nI (kk8 % 8)) then (x8_4, x8_3) else (if (fX7_reason f b g (nI (kk8 / 8)) (nI (kk8 % 8))) = 0 then (bd ((if x8_3 = (-1) then (nI kk8) else (if (fX7_pointsIf f b g (kk8 / 8) (nI (kk8 % 8))) ≤ x8_4 then x8_3 else (nI kk8))) : Int32) (fun v86_0 => (bd ((if v86_0 = (nI kk8) then (fX7_pointsIf f b g (kk8 / 8) (nI (kk8 % 8))) else x8_4) : Int32) (fun v106_0 => (v106_0, v86_0))))) else (x8_4, x8_3))) : Int32 × Int32) = (if (f ((b + 18) + (kk8 / 8))) ≤ (nI (kk8 % 8)) then (x8_4, x8_3) else (if (fX7_reason f b g (nI (kk8 / 8)) (nI (kk8 % 8))) = 0 then (bd ((if x8_3 = (-1) then (nI kk8) else (if (fX7_pointsIf f b g (kk8 / 8) (nI (kk8 % 8))) ≤ x8_4 then x8_3 else (nI kk8))) : Int32) (fun v86_0 => (bd ((if v86_0 = (nI kk8) then (fX7_pointsIf f b g (kk8 / 8) (nI (kk8 % 8))) else x8_4) : Int32) (fun v106_0 => (v106_0, v86_0))))) else (x8_4, x8_3))) := rfl
      refine lv_icmp_ge (tgt := 118) hx hb dX7_best_44 (by decide) (fun c_44 => ?_) (fun c_44 => ?_)
      · have hF := hF.trans (if_pos c_44)
        exact K44 _ _ hF.symm _ _ hP hD hS  ls (lv_sub hl [0, 1, 2, 3, 4, 5] rfl)
      have hF := hF.trans (if_neg c_44)
      refine lv_aload_n hx hb dX7_best_47 rfl (lv_at hl 3 rfl) ?_
      refine lv_iload_n hx hb dX7_best_48 rfl (lv_at hl 4 rfl) ?_
      refine lv_iload_n hx hb dX7_best_49 rfl (lv_at hl 5 rfl) ?_
      refine lv_iload hx hb dX7_best_50 (lv_at hl 0 rfl) ?_
      refine lv_bipush (v := 8) hx hb dX7_best_52 (by decide) ?_
      refine lv_idiv hx hb dX7_best_54 (by decide) ?_
      refine lv_tope (y := (nI (kk8 / 8))) (pk_div (a := kk8) (d := 8) (by omega) (by decide) (by decide)) ?_
      refine lv_iload hx hb dX7_best_55 (lv_at hl 0 rfl) ?_
      refine lv_bipush (v := 8) hx hb dX7_best_57 (by decide) ?_
      refine lv_irem hx hb dX7_best_59 (by decide) ?_
      refine lv_tope (y := (nI (kk8 % 8))) (pk_rem (a := kk8) (d := 8) (by omega) (by decide) (by decide)) ?_
      refine k_calli (W.runV (As := [.int (nI b), .int (nI g), .int (nI (kk8 / 8)), .int (nI (kk8 % 8))]) (rest := []) ⟨hx, hb, hml, hown, hts0⟩ (mX7_reason l dC dI cI o q0 q1 f x M h b g (nI (kk8 / 8)) (nI (kk8 % 8)) (by first | omega | assumption) (by first | omega | assumption)) (cwV 4 hts0 (gi_V u_989 u_991 us_27 u_7 u_992) rfl rfl rfl (by decide +kernel) ⟨Nat.le_of_ble_eq_true rfl, Nat.le_of_ble_eq_true rfl⟩) (pcR_V (ci := 5) (q0 := 0) hP hK hn rfl rfl) rfl rfl hl.1 rfl (lv_room (Nat.le_of_ble_eq_true rfl)) dX7_best_60 ⟨Nat.zero_le _, Nat.zero_le _⟩) ?_
      refine lv_if_ne (tgt := 118) hx hb dX7_best_63 (by decide) (fun c_63 => ?_) (fun c_63 => ?_)
      · have hF := hF.trans (if_neg c_63)
        exact K44 _ _ hF.symm _ _ hP hD hS  ls (lv_sub hl [0, 1, 2, 3, 4, 5] rfl)
      have hF := hF.trans (if_pos c_63)
      refine lv_aload_n hx hb dX7_best_66 rfl (lv_at hl 3 rfl) ?_
      refine lv_iload_n hx hb dX7_best_67 rfl (lv_at hl 4 rfl) ?_
      refine lv_iload_n hx hb dX7_best_68 rfl (lv_at hl 5 rfl) ?_
      refine lv_iload hx hb dX7_best_69 (lv_at hl 0 rfl) ?_
      refine lv_bipush (v := 8) hx hb dX7_best_71 (by decide) ?_
      refine lv_idiv hx hb dX7_best_73 (by decide) ?_
      refine lv_tope (y := (nI (kk8 / 8))) (pk_div (a := kk8) (d := 8) (by omega) (by decide) (by decide)) ?_
      refine lv_iload hx hb dX7_best_74 (lv_at hl 0 rfl) ?_
      refine lv_bipush (v := 8) hx hb dX7_best_76 (by decide) ?_
      refine lv_irem hx hb dX7_best_78 (by decide) ?_
      refine lv_tope (y := (nI (kk8 % 8))) (pk_rem (a := kk8) (d := 8) (by omega) (by decide) (by decide)) ?_
      refine k_same (Wd := (fun (v9 : (Nat → Int32)) => mW cI o q0 q1 v9 x M h)) (va_runV (As := [.int (nI b), .int (nI g), .int (nI (kk8 / 8)), .int (nI (kk8 % 8))]) (rest := []) ⟨hx, hb, hml, hown, hts0⟩ (mX7_pointsIf l dC dI cI o q0 q1 f x M h b g (kk8 / 8) (nI (kk8 % 8)) (by first | omega | assumption) (by first | omega | assumption) (by first | omega | assumption)) (cwV 4 hts0 (gi_V u_1040 u_1042 us_36 u_7 u_1043) rfl rfl rfl (by decide +kernel) ⟨Nat.le_of_ble_eq_true rfl, Nat.le_of_ble_eq_true rfl⟩) (pcM_V (ci := 5) (q0 := 0) hP hK hn hD rfl rfl) rfl rfl hl.1 rfl (lv_room (Nat.le_of_ble_eq_true rfl)) dX7_best_79 ⟨Nat.zero_le _, Nat.zero_le _⟩) hP hD hS [0, 1, 2] rfl rfl (fun _ => rfl) (fun H locs hP hD hS => ?_)
      have hP : va_P (dC, dI) vwCl (mW cI o q0 q1 f x M h) H := hP
      have hD : va_D A (mW cI o q0 q1 f x M h) := hD
      refine lv_istore (lv' := [(6, .int (fX7_pointsIf f b g (kk8 / 8) (nI (kk8 % 8)))), (5, .int (nI kk8)), (4, .int x8_4), (3, .int x8_3), (0, .ref o), (1, .int (nI b)), (2, .int (nI g))]) hx hb dX7_best_82 hl (by decide) rfl (fun ls hl => ?_)
      refine lv_iload_n hx hb dX7_best_84 rfl (lv_at hl 3 rfl) ?_
      refine lv_iconst (v := (-1)) hx hb dX7_best_85 (by decide) ?_
      have K86 : ∀ (v86_0 : Int32), v86_0 = (if x8_3 = (-1) then (nI kk8) else (if (fX7_pointsIf f b g (kk8 / 8) (nI (kk8 % 8))) ≤ x8_4 then x8_3 else (nI kk8))) → ∀ (H : Heap) (locs : List Loc), va_P (dC, dI) vwCl (mW cI o q0 q1 f x M h) H → va_D A (mW cI o q0 q1 f x M h) → va_S A s.heap H locs → ∀ (ls : Array Slot), lv_has ls 7 [(6, .int (fX7_pointsIf f b g (kk8 / 8) (nI (kk8 % 8)))), (5, .int (nI kk8)), (4, .int x8_4), (3, .int x8_3), (0, .ref o), (1, .int (nI b)), (2, .int (nI g))] → W p l e rmX7_best s m args below meth c H locs 0 0 Q (F0 m 102 ls [.int v86_0]) := by
        intro v86_0 hz86 H locs hP hD hS ls hl
        have hz := hz86
        have hF := bd_at hF hz
        refine lv_istore_n (lv' := [(3, .int v86_0), (6, .int (fX7_pointsIf f b g (kk8 / 8) (nI (kk8 % 8)))), (5, .int (nI kk8)), (4, .int x8_4), (0, .ref o), (1, .int (nI b)), (2, .int (nI g))]) hx hb dX7_best_102 rfl hl (by decide) rfl (fun ls hl => ?_)
        refine lv_iload_n hx hb dX7_best_103 rfl (lv_at hl 0 rfl) ?_
        refine lv_iload hx hb dX7_best_104 (lv_at hl 2 rfl) ?_
        have K106 : ∀ (v106_0 : Int32), v106_0 = (if v86_0 = (nI kk8) then (fX7_pointsIf f b g (kk8 / 8) (nI (kk8 % 8))) else x8_4) → ∀ (H : Heap) (locs : List Loc), va_P (dC, dI) vwCl (mW cI o q0 q1 f x M h) H → va_D A (mW cI o q0 q1 f x M h) → va_S A s.heap H locs → ∀ (ls : Array Slot), lv_has ls 7 [(3, .int v86_0), (6, .int (fX7_pointsIf f b g (kk8 / 8) (nI (kk8 % 8)))), (5, .int (nI kk8)), (4, .int x8_4), (0, .ref o), (1, .int (nI b)), (2, .int (nI g))] → W p l e rmX7_best s m args below meth c H locs 0 0 Q (F0 m 116 ls [.int v106_0]) := by
          intro v106_0 hz106 H locs hP hD hS ls hl
          have hz := hz106
          have hF := bd_at hF hz
          refine lv_istore (lv' := [(4, .int v106_0), (3, .int v86_0), (6, .int (fX7_pointsIf f b g (kk8 / 8) (nI (kk8 % 8)))), (5, .int (nI kk8)), (0, .ref o), (1, .int (nI b)), (2, .int (nI g))]) hx hb dX7_best_116 hl (by decide) rfl (fun ls hl => ?_)
          exact K44 _ _ hF.symm _ _ hP hD hS  ls (lv_sub hl [3, 0, 1, 4, 5, 6] rfl)
        have hF : ((if v86_0 = (nI kk8) then (fX7_pointsIf f b g (kk8 / 8) (nI (kk8 % 8))) else x8_4) : Int32) = (if v86_0 = (nI kk8) then (fX7_pointsIf f b g (kk8 / 8) (nI (kk8 % 8))) else x8_4) := rfl
        refine lv_icmp_ne (tgt := 114) hx hb dX7_best_106 (by decide) (fun c_106 => ?_) (fun c_106 => ?_)
        · have hF := hF.trans (if_neg c_106)
          refine lv_iload hx hb dX7_best_114 (lv_at hl 3 rfl) ?_
          exact K106 _ hF.symm _ _ hP hD hS  ls (lv_sub hl [0, 1, 2, 3, 4, 5, 6] rfl)
        have hF := hF.trans (if_pos c_106)
        refine lv_iload hx hb dX7_best_109 (lv_at hl 1 rfl) ?_
        refine lv_goto (tgt := 116) hx hb dX7_best_111 (by decide) ?_
        exact K106 _ hF.symm _ _ hP hD hS  ls (lv_sub hl [0, 1, 2, 3, 4, 5, 6] rfl)
      have hF : ((if x8_3 = (-1) then (nI kk8) else (if (fX7_pointsIf f b g (kk8 / 8) (nI (kk8 % 8))) ≤ x8_4 then x8_3 else (nI kk8))) : Int32) = (if x8_3 = (-1) then (nI kk8) else (if (fX7_pointsIf f b g (kk8 / 8) (nI (kk8 % 8))) ≤ x8_4 then x8_3 else (nI kk8))) := rfl
      refine lv_icmp_eq (tgt := 96) hx hb dX7_best_86 (by decide) (fun c_86 => ?_) (fun c_86 => ?_)
      · have hF := hF.trans (if_pos c_86)
        refine lv_iload hx hb dX7_best_96 (lv_at hl 1 rfl) ?_
        refine lv_goto (tgt := 102) hx hb dX7_best_98 (by decide) ?_
        exact K86 _ hF.symm _ _ hP hD hS  ls (lv_sub hl [0, 1, 2, 3, 4, 5, 6] rfl)
      have hF := hF.trans (if_neg c_86)
      refine lv_iload hx hb dX7_best_89 (lv_at hl 0 rfl) ?_
      refine lv_iload hx hb dX7_best_91 (lv_at hl 2 rfl) ?_
      refine lv_icmp_le (tgt := 101) hx hb dX7_best_93 (by decide) (fun c_93 => ?_) (fun c_93 => ?_)
      · have hF := hF.trans (if_pos c_93)
        refine lv_iload_n hx hb dX7_best_101 rfl (lv_at hl 3 rfl) ?_
        exact K86 _ hF.symm _ _ hP hD hS  ls (lv_sub hl [0, 1, 2, 3, 4, 5, 6] rfl)
      have hF := hF.trans (if_neg c_93)
      refine lv_iload hx hb dX7_best_96 (lv_at hl 1 rfl) ?_
      refine lv_goto (tgt := 102) hx hb dX7_best_98 (by decide) ?_
      exact K86 _ hF.symm _ _ hP hD hS  ls (lv_sub hl [0, 1, 2, 3, 4, 5, 6] rfl)
  have hF : fX7_best f b g = lq2 (fX7_best_b8 f b g) fX7_best_r8 N8 0 0 (-1) := by rw [eN8.choose_spec]; exact hF
  exact L8 N8 0 0 (-1) (Nat.zero_add _) hF _ _ hP hD hS ls (lv_sub hl [0, 1, 2, 3, 4, 5] rfl)
