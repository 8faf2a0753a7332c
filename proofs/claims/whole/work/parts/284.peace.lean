def fX7_peace_b72 (kk72 : Nat) (U72_0 : Nat → Int32) (nextkk72 : (Nat → Int32) → (Int32 × ((Nat → Int32) × (Nat → Int32)))) : Int32 × ((Nat → Int32) × (Nat → Int32)) :=
  (nextkk72 (upd U72_0 (10 + kk72) (U72_0 ((10 + kk72) + 1))))
def fX7_peace_r72 (U55 : (Nat → Int32) × (Nat → Int32)) (U72_0 : Nat → Int32) : Int32 × ((Nat → Int32) × (Nat → Int32)) :=
  ((U72_0 2), (U72_0, U55.2))
def fX7_peace (f : Nat → Int32) (M : Nat → Int32) (v : Int32) (a : Int32) : Int32 × ((Nat → Int32) × (Nat → Int32)) :=
  (bd ((if (fX7_arePair v a) = 0 then (-1) else (fX7_feudPlace f 0 (fX7_feudOf v a))) : Int32) (fun v7_0 => (bd ((if (fX7_arePair v a) = 0 then 1 else (if v7_0 = (-1) then 2 else 0)) : Nat) (fun v28_0 => (bd2 (fX7_holds M (nI v28_0)) (fun r46 U46 => (if r46 = 0 then (0, (f, U46)) else (bd (fX7_save f U46) (fun U55 => (lq1 fX7_peace_b72 (fX7_peace_r72 U55) ((((upd U55.1 2 ((U55.1 2) - 1)) 2).toNatClampNeg) - v7_0.toNatClampNeg) v7_0.toNatClampNeg (upd U55.1 2 ((U55.1 2) - 1))))))))))))
abbrev rmX7_peace : Room := { frames := 3, cells := 0, slots := 0, locals := 63 }
set_option maxHeartbeats 4000000 in
set_option maxRecDepth 100000 in
theorem mX7_peace (l : Launch) (dC : Nat → ClassId) (dI : Nat → Nat → Nat) (cI : ClassId) (o q0 q1 : Nat) (f x M : Nat → Int32) (h : Int64) (v : Int32) (a : Int32) (hR : RW f 0) (G9 : Nat) (L9 : List Nat) (hL : RO f 0 G9 L9) (m1 : Nat) (hm1 : m1 ≤ 6) (em1 : M 1 = nI m1) : Met l yX7_peace (ws_ yX7_peace cX7_peace 6 (some .int)) rmX7_peace (pcM (dC, dI) [(cI, .int)] (mW cI o q0 q1 f x M h) [.ref o, .int v, .int a]) (va_Qi (fun (r9 : Int32) (u9 : (Nat → Int32) × (Nat → Int32)) => (r9, u9) = fX7_peace f M v a) (fun u9 t => va_P (dC, dI) vwCl ((fun (v9 : (Nat → Int32) × (Nat → Int32)) => mW cI o q0 q1 v9.1 x v9.2 h) u9) t.heap) (adr (mW cI o q0 q1 f x M h))) 0 0 (adr (mW cI o q0 q1 f x M h)) := by
  refine Met.ofW (cc := cX7_peace) (maxL := 6) (ret := (some .int)) (by decide) rfl ?_
  intro p e s m args below meth c s₁ B hml hv
  obtain ⟨ha, hP, hK, hn, hD0⟩ := hv
  have hx := B.exec
  have hb := B.bytes
  have hr := B.returns
  have hts0 := atoms_spec (ws := (ws_ yX7_peace cX7_peace 6 (some .int))) B.pre
  have hts : ∀ w ∈ lw_all, w.before args s = true := fun w h => hts0 w (List.mem_cons_of_mem _ h)
  have hown : s.vm.findClass RX7 = some m.cls := findClass_of_methodNamed B.named
  have hlocks := B.notSynchronized
  have htX7 : ∀ w ∈ wsX70, w.before args s = true := fun w h => hts w (wX7 w h)
  have hD := adr_self hD0
  obtain ⟨A, hA⟩ : ∃ A, A = adr (mW cI o q0 q1 f x M h) := ⟨_, rfl⟩
  rw [← hA] at hD
  have hS : va_S A s.heap s.heap [] := va_S.rf
  obtain ⟨Q, hQ⟩ : ∃ Q, Q = MQ below (va_Qi (fun (r9 : Int32) (u9 : (Nat → Int32) × (Nat → Int32)) => (r9, u9) = fX7_peace f M v a) (fun u9 t => va_P (dC, dI) vwCl ((fun (v9 : (Nat → Int32) × (Nat → Int32)) => mW cI o q0 q1 v9.1 x v9.2 h) u9) t.heap) (adr (mW cI o q0 q1 f x M h))) args s 0 0 (adr (mW cI o q0 q1 f x M h)) := ⟨_, rfl⟩
  rw [← hQ]
  rw [← hA] at hQ
  have hl := lv_entry ([.ref o, .int v, .int a]) (n := 6) (Nat.le_of_ble_eq_true rfl)
  rw [ha, lg_entry_eq, ← ha]
  generalize (lg_sl ([.ref o, .int v, .int a]) ++ List.replicate (6 - (lg_sl ([.ref o, .int v, .int a])).length) Slot.unset).toArray = ls at hl ⊢
  have hl : lv_has ls 6 [(0, .ref o), (1, .int v), (2, .int a)] := hl
  show W p l e rmX7_peace s m args below meth c s.heap [] 0 0 Q (F0 m 0 ls [])
  have hF : fX7_peace f M v a = fX7_peace f M v a := rfl
  refine lv_iload_n hx hb dX7_peace_0 rfl (lv_at hl 1 rfl) ?_
  refine lv_iload_n hx hb dX7_peace_1 rfl (lv_at hl 2 rfl) ?_
  refine k_callb (W.runS (As := [.int v, .int a]) (rest := []) ⟨hx, hb, hml, hown, hts0⟩ (mX7_arePair l dC dI  v a) (va_cwS 2 hts0 (gi_S u_944 u_945 u_7 u_946) rfl rfl rfl (by decide +kernel) ⟨Nat.le_of_ble_eq_true rfl, Nat.le_of_ble_eq_true rfl⟩) (pcR_S (hP.sub (ws' := []) [] rfl) (hK.sub (tys' := []) [] rfl) hn) rfl rfl hl.1 rfl (lv_room (Nat.le_of_ble_eq_true rfl)) dX7_peace_2 ⟨Nat.zero_le _, Nat.zero_le _⟩) (fun br2 => ?_)
  refine lv_istore_n (lv' := [(3, .int (fX7_arePair v a)), (0, .ref o), (1, .int v), (2, .int a)]) hx hb dX7_peace_5 rfl hl (by decide) rfl (fun ls hl => ?_)
  refine lv_iload_n hx hb dX7_peace_6 rfl (lv_at hl 0 rfl) ?_
  have K7 : ∀ (v7_0 : Int32), v7_0 = (if (fX7_arePair v a) = 0 then (-1) else (fX7_feudPlace f 0 (fX7_feudOf v a))) → ∀ (H : Heap) (locs : List Loc), va_P (dC, dI) vwCl (mW cI o q0 q1 f x M h) H → va_D A (mW cI o q0 q1 f x M h) → va_S A s.heap H locs → ∀ (ls : Array Slot), lv_has ls 6 [(3, .int (fX7_arePair v a)), (0, .ref o), (1, .int v), (2, .int a)] → W p l e rmX7_peace s m args below meth c H locs 0 0 Q (F0 m 24 ls [.int v7_0]) := by
    intro v7_0 hz7 H locs hP hD hS ls hl
    have hz := hz7
    have hF := bd_at hF hz
    refine lv_istore (lv' := [(4, .int v7_0), (3, .int (fX7_arePair v a)), (0, .ref o), (1, .int v), (2, .int a)]) hx hb dX7_peace_24 hl (by decide) rfl (fun ls hl => ?_)
    refine lv_aload_n hx hb dX7_peace_26 rfl (lv_at hl 2 rfl) ?_
    refine lv_iload_n hx hb dX7_peace_27 rfl (lv_at hl 1 rfl) ?_
    have K28 : ∀ (v28_0 : Nat), v28_0 = (if (fX7_arePair v a) = 0 then 1 else (if v7_0 = (-1) then 2 else 0)) → ∀ (H : Heap) (locs : List Loc), va_P (dC, dI) vwCl (mW cI o q0 q1 f x M h) H → va_D A (mW cI o q0 q1 f x M h) → va_S A s.heap H locs → ∀ (ls : Array Slot), lv_has ls 6 [(4, .int v7_0), (3, .int (fX7_arePair v a)), (0, .ref o), (1, .int v), (2, .int a)] → W p l e rmX7_peace s m args below meth c H locs 0 0 Q (F0 m 46 ls [.int (nI v28_0), .ref o]) := by
      intro v28_0 hz28 H locs hP hD hS ls hl
      have hz := hz28
      have hF := bd_at hF hz
      refine k_muti (Wd := (fun (v9 : (Nat → Int32)) => mW cI o q0 q1 f x v9 h)) (va_runV (As := [.int (nI v28_0)]) (rest := []) ⟨hx, hb, hml, hown, hts0⟩ (mX7_holds l dC dI cI o q0 q1 f x M h (nI v28_0)) (cwV 1 hts0 (gi_V u_908 u_910 us_15 u_7 u_911) rfl rfl rfl (by decide +kernel) ⟨Nat.le_of_ble_eq_true rfl, Nat.le_of_ble_eq_true rfl⟩) (pcM_V (ci := 5) (q0 := 0) hP hK hn hD rfl rfl) rfl rfl hl.1 rfl (lv_room (Nat.le_of_ble_eq_true rfl)) dX7_peace_46 ⟨Nat.zero_le _, Nat.zero_le _⟩) hP hD hS [0, 1, 2] rfl rfl (fun _ => rfl) (fun r46 U46 H locs hU46 hP hD hS => ?_)
      obtain ⟨hU46, br46⟩ := hU46
      have hP : va_P (dC, dI) vwCl (mW cI o q0 q1 f x U46 h) H := hP
      have hD : va_D A (mW cI o q0 q1 f x U46 h) := hD
      have hF := bd2_at hF hU46
      refine lv_if_ne (tgt := 54) hx hb dX7_peace_49 (by decide) (fun c_49 => ?_) (fun c_49 => ?_)
      · have hF := hF.trans (if_neg c_49)
        have hv0 := holds_ok hU46 c_49
        rw [hz28] at hv0
        have k1 : ¬ (fX7_arePair v a) = 0 := fun z => by rw [if_pos z] at hv0; exact absurd hv0 (by decide)
        have k2 : ¬ v7_0 = -1 := fun z => by rw [if_neg k1, if_pos z] at hv0; exact absurd hv0 (by decide)
        have k4 : v7_0 = -1 ∨ ∃ k : Nat, k < 8 ∧ v7_0 = nI k := by rw [hz7, if_neg k1]; exact feudPlace_in hR _
        obtain ⟨hvp, hvb⟩ := nat_of_or (by decide) k4 k2
        have em2 : U46 1 = nI m1 := (holds_M hU46 (by decide)).trans em1
        refine lv_aload_n hx hb dX7_peace_54 rfl (lv_at hl 2 rfl) ?_
        refine k_mutv (Wd := (fun (v9 : (Nat → Int32) × (Nat → Int32)) => mW cI o q0 q1 v9.1 x v9.2 h)) (va_runV (As := []) (rest := []) ⟨hx, hb, hml, hown, hts0⟩ (mX7_save l dC dI cI o q0 q1 f x U46 h  m1 hm1 em2) (cwV 0 hts0 (gi_V u_912 u_914 us_16 u_7 u_915) rfl rfl rfl (by decide +kernel) ⟨Nat.le_of_ble_eq_true rfl, Nat.le_of_ble_eq_true rfl⟩) (pcM_V (ci := 5) (q0 := 0) hP hK hn hD rfl rfl) rfl rfl hl.1 rfl (lv_room (Nat.le_of_ble_eq_true rfl)) dX7_peace_55 ⟨Nat.zero_le _, Nat.zero_le _⟩) hP hD hS [0, 1, 2] rfl rfl (fun _ => rfl) (fun U55 H locs hU55 hP hD hS => ?_)
        have hP : va_P (dC, dI) vwCl (mW cI o q0 q1 U55.1 x U55.2 h) H := hP
        have hD : va_D A (mW cI o q0 q1 U55.1 x U55.2 h) := hD
        have hF := bd_at hF hU55
        have hR2 : RW U55.1 0 := by rw [hU55]; exact RW_save hm1 em2 hR
        obtain ⟨-, rG20, rT20, rF20, rS20, -, -⟩ := id hR2
        have hg2 : U55.1 0 = nI (U55.1 0).toNatClampNeg := rG20.e (by decide)
        have rg2 : (U55.1 0).toNatClampNeg ≤ 16 := rG20.c (by decide)
        have ht2 : U55.1 1 = nI (U55.1 1).toNatClampNeg := rT20.e (by decide)
        have rt2 : (U55.1 1).toNatClampNeg ≤ 4 := rT20.c (by decide)
        have hL2 : RO U55.1 0 G9 L9 := by rw [hU55]; exact RO_save hm1 em2 hL
        have hN8 : ((upd U55.1 2 ((U55.1 2) - 1)) 2).toNatClampNeg ≤ 8 := by rw [upd_eq]; exact pred_le hR2.2.2.2.1 (by decide)
        refine lv_aload_n hx hb dX7_peace_58 rfl (lv_at hl 2 rfl) ?_
        refine va_get (D := (dC, dI)) (ci := 5) (v := .ref q0) (C := RX7) (T := TX7) (N := 12) hx hb htX7 (fun _ h => h) hown hK hP 0 rfl rfl 1 (by decide) (hts _ u_858) (fun _ h9 => h9) rfl dX7_peace_59 ?_
        refine lv_iconst (v := 2) hx hb dX7_peace_62 (by decide) ?_
        refine lv_dup2_11 hx hb dX7_peace_63 rfl rfl ?_
        refine va_iald hx hb hK hP 1 0 rfl rfl (vp_in_nI (n := 2) (by omega) (by decide)) dX7_peace_64 ?_
        refine lv_tope (y := (U55.1 2)) (at_nI (k := 2) (by omega)) ?_
        refine lv_iconst (v := 1) hx hb dX7_peace_65 (by decide) ?_
        refine lv_isub hx hb dX7_peace_66 ?_
        refine va_iast hx hb hK hP hD hS 1 0 rfl rfl (vp_in_nI (n := 2) (by omega) (by decide)) dX7_peace_67 (fun H locs hP hD hS => ?_)
        rw [show (2 : Int32).toNatClampNeg = 2 from nI_clamp (n := 2) (by omega)] at hP hD
        have hP : va_P (dC, dI) vwCl (mW cI o q0 q1 (upd U55.1 2 ((U55.1 2) - 1)) x U55.2 h) H := hP
        have hD : va_D A (mW cI o q0 q1 (upd U55.1 2 ((U55.1 2) - 1)) x U55.2 h) := hD
        refine lv_iload hx hb dX7_peace_68 (lv_at hl 0 rfl) ?_
        refine lv_tope (y := (nI v7_0.toNatClampNeg)) hvp ?_
        refine lv_istore (lv' := [(5, .int (nI v7_0.toNatClampNeg)), (4, .int v7_0), (3, .int (fX7_arePair v a)), (0, .ref o), (1, .int v), (2, .int a)]) hx hb dX7_peace_70 hl (by decide) rfl (fun ls hl => ?_)
        have L72 : ∀ (jj72 kk72 : Nat) (U72_0 : Nat → Int32), kk72 < 2 ^ 31 ∧ jj72 = (((upd U55.1 2 ((U55.1 2) - 1)) 2).toNatClampNeg) - kk72 → fX7_peace f M v a = lq1 fX7_peace_b72 (fX7_peace_r72 U55) jj72 kk72 U72_0 → U72_0 2 = (upd U55.1 2 ((U55.1 2) - 1)) 2 → ∀ (H : Heap) (locs : List Loc), va_P (dC, dI) vwCl (mW cI o q0 q1 U72_0 x U55.2 h) H → va_D A (mW cI o q0 q1 U72_0 x U55.2 h) → va_S A s.heap H locs → ∀ (ls : Array Slot), lv_has ls 6 [(5, .int (nI kk72)), (4, .int v7_0), (3, .int (fX7_arePair v a)), (0, .ref o), (1, .int v), (2, .int a)] → W p l e rmX7_peace s m args below meth c H locs 0 0 Q (F0 m 72 ls []) := by
          intro jj72
          induction jj72 using Nat.strongRecOn with
          | _ jj72 ihkk72 =>
            intro kk72 U72_0 hkkk72 hF hikk72 H locs hP hD hS ls hl
            refine lv_iload hx hb dX7_peace_72 (lv_at hl 0 rfl) ?_
            refine lv_aload_n hx hb dX7_peace_74 rfl (lv_at hl 3 rfl) ?_
            refine va_get (D := (dC, dI)) (ci := 5) (v := .ref q0) (C := RX7) (T := TX7) (N := 12) hx hb htX7 (fun _ h => h) hown hK hP 0 rfl rfl 1 (by decide) (hts _ u_858) (fun _ h9 => h9) rfl dX7_peace_75 ?_
            refine lv_iconst (v := 2) hx hb dX7_peace_78 (by decide) ?_
            refine va_iald hx hb hK hP 1 0 rfl rfl (vp_in_nI (n := 2) (by omega) (by decide)) dX7_peace_79 ?_
            refine lv_tope (y := (U72_0 2)) (at_nI (k := 2) (by omega)) ?_
            refine lv_icmp_ge (tgt := 111) hx hb dX7_peace_80 (by decide) (fun c_80 => ?_) (fun c_80 => ?_)
            · obtain rfl := cn_exit' hkkk72 (by rw [← hikk72]; exact c_80)
              have hF := hF.trans (lq1_z _ _ _ _)
              refine lv_aload_n hx hb dX7_peace_111 rfl (lv_at hl 3 rfl) ?_
              refine va_get (D := (dC, dI)) (ci := 5) (v := .ref q0) (C := RX7) (T := TX7) (N := 12) hx hb htX7 (fun _ h => h) hown hK hP 0 rfl rfl 1 (by decide) (hts _ u_858) (fun _ h9 => h9) rfl dX7_peace_112 ?_
              refine lv_iconst (v := 2) hx hb dX7_peace_115 (by decide) ?_
              refine va_iald hx hb hK hP 1 0 rfl rfl (vp_in_nI (n := 2) (by omega) (by decide)) dX7_peace_116 ?_
              refine lv_tope (y := (U72_0 2)) (at_nI (k := 2) (by omega)) ?_
              rw [hQ]
              exact W.iret (v := (U72_0 2)) hx hb hr (fun t ht hW => ⟨⟨(U72_0 2), (U72_0, U55.2), rfl, hF.symm, toH ht hP⟩, hS.F ht⟩) hS.2.2 dX7_peace_117
            obtain ⟨jj72, rfl⟩ := cn_go' hkkk72 (by rw [← hikk72]; exact c_80)
            have hF := hF.trans (lq1_s _ _ _ _ _)
            obtain ⟨nextkk72, hnextkk72⟩ : ∃ y9, y9 = lq1 fX7_peace_b72 (fX7_peace_r72 U55) jj72 (kk72 + 1) := ⟨_, rfl⟩
            rw [← hnextkk72] at hF
            refine lv_aload_n hx hb dX7_peace_83 rfl (lv_at hl 3 rfl) ?_
            refine va_get (D := (dC, dI)) (ci := 5) (v := .ref q0) (C := RX7) (T := TX7) (N := 12) hx hb htX7 (fun _ h => h) hown hK hP 0 rfl rfl 1 (by decide) (hts _ u_858) (fun _ h9 => h9) rfl dX7_peace_84 ?_
            refine lv_bipush (v := 10) hx hb dX7_peace_87 (by decide) ?_
            refine lv_iload hx hb dX7_peace_89 (lv_at hl 0 rfl) ?_
            refine lv_iadd hx hb dX7_peace_91 ?_
            refine lv_tope (y := (nI (10 + kk72))) (nI_add 10 kk72) ?_
            refine lv_aload_n hx hb dX7_peace_92 rfl (lv_at hl 3 rfl) ?_
            refine va_get (D := (dC, dI)) (ci := 5) (v := .ref q0) (C := RX7) (T := TX7) (N := 12) hx hb htX7 (fun _ h => h) hown hK hP 0 rfl rfl 1 (by decide) (hts _ u_858) (fun _ h9 => h9) rfl dX7_peace_93 ?_
            refine lv_bipush (v := 10) hx hb dX7_peace_96 (by decide) ?_
            refine lv_iload hx hb dX7_peace_98 (lv_at hl 0 rfl) ?_
            refine lv_iadd hx hb dX7_peace_100 ?_
            refine lv_tope (y := (nI (10 + kk72))) (nI_add 10 kk72) ?_
            refine lv_iconst (v := 1) hx hb dX7_peace_101 (by decide) ?_
            refine lv_iadd hx hb dX7_peace_102 ?_
            refine lv_tope (y := (nI ((10 + kk72) + 1))) (nI_add (10 + kk72) 1) ?_
            refine va_iald hx hb hK hP 1 0 rfl rfl (vp_in_nI (n := ((10 + kk72) + 1)) (by omega) (by decide)) dX7_peace_103 ?_
            refine lv_tope (y := (U72_0 ((10 + kk72) + 1))) (at_nI (k := ((10 + kk72) + 1)) (by omega)) ?_
            refine va_iast hx hb hK hP hD hS 1 0 rfl rfl (vp_in_nI (n := (10 + kk72)) (by omega) (by decide)) dX7_peace_104 (fun H locs hP hD hS => ?_)
            rw [show ((nI (10 + kk72)) : Int32).toNatClampNeg = (10 + kk72) from nI_clamp (n := (10 + kk72)) (by omega)] at hP hD
            have hP : va_P (dC, dI) vwCl (mW cI o q0 q1 (upd U72_0 (10 + kk72) (U72_0 ((10 + kk72) + 1))) x U55.2 h) H := hP
            have hD : va_D A (mW cI o q0 q1 (upd U72_0 (10 + kk72) (U72_0 ((10 + kk72) + 1))) x U55.2 h) := hD
            refine lv_iinc (v := (nI (kk72 + 1))) (lv' := [(5, .int (nI (kk72 + 1))), (4, .int v7_0), (3, .int (fX7_arePair v a)), (0, .ref o), (1, .int v), (2, .int a)]) hx hb dX7_peace_105 hl (k := 0) rfl (nI_1 _) (by decide) rfl (fun ls hl => ?_)
            refine lv_goto (tgt := 72) hx hb dX7_peace_108 (by decide) ?_
            have hF : fX7_peace f M v a = nextkk72 (upd U72_0 (10 + kk72) (U72_0 ((10 + kk72) + 1))) := hF
            rw [hnextkk72] at hF
            exact ihkk72 jj72 (Nat.lt_succ_self _) (kk72 + 1) (upd U72_0 (10 + kk72) (U72_0 ((10 + kk72) + 1))) (cn_next' hkkk72) hF ((upd_ne (by omega)).trans hikk72) _ _ hP hD hS ls (lv_sub hl [0, 1, 2, 3, 4, 5] rfl)
        exact L72 _ v7_0.toNatClampNeg (upd U55.1 2 ((U55.1 2) - 1)) ⟨by omega, rfl⟩ hF rfl _ _ hP hD hS ls (lv_sub hl [0, 1, 2, 3, 4, 5] rfl)
      have hF := hF.trans (if_pos c_49)
      refine lv_iconst (v := 0) hx hb dX7_peace_52 (by decide) ?_
      rw [hQ]
      exact W.iret (v := 0) hx hb hr (fun t ht hW => ⟨⟨0, (f, U46), rfl, hF.symm, toH ht hP⟩, hS.F ht⟩) hS.2.2 dX7_peace_53
    have hF : ((if (fX7_arePair v a) = 0 then 1 else (if v7_0 = (-1) then 2 else 0)) : Nat) = (if (fX7_arePair v a) = 0 then 1 else (if v7_0 = (-1) then 2 else 0)) := rfl
    refine lv_if_ne (tgt := 35) hx hb dX7_peace_28 (by decide) (fun c_28 => ?_) (fun c_28 => ?_)
    · have hF := hF.trans (if_neg c_28)
      refine lv_iload hx hb dX7_peace_35 (lv_at hl 0 rfl) ?_
      refine lv_iconst (v := (-1)) hx hb dX7_peace_37 (by decide) ?_
      refine lv_icmp_ne (tgt := 45) hx hb dX7_peace_38 (by decide) (fun c_38 => ?_) (fun c_38 => ?_)
      · have hF := hF.trans (if_neg c_38)
        refine lv_iconst (v := 0) hx hb dX7_peace_45 (by decide) ?_
        exact K28 _ hF.symm _ _ hP hD hS  ls (lv_sub hl [0, 1, 2, 3, 4] rfl)
      have hF := hF.trans (if_pos c_38)
      refine lv_iconst (v := 2) hx hb dX7_peace_41 (by decide) ?_
      refine lv_goto (tgt := 46) hx hb dX7_peace_42 (by decide) ?_
      exact K28 _ hF.symm _ _ hP hD hS  ls (lv_sub hl [0, 1, 2, 3, 4] rfl)
    have hF := hF.trans (if_pos c_28)
    refine lv_iconst (v := 1) hx hb dX7_peace_31 (by decide) ?_
    refine lv_goto (tgt := 46) hx hb dX7_peace_32 (by decide) ?_
    exact K28 _ hF.symm _ _ hP hD hS  ls (lv_sub hl [0, 1, 2, 3, 4] rfl)
  have hF : ((if (fX7_arePair v a) = 0 then (-1) else (fX7_feudPlace f 0 (fX7_feudOf v a))) : Int32) = (if (fX7_arePair v a) = 0 then (-1) else (fX7_feudPlace f 0 (fX7_feudOf v a))) := rfl
  refine lv_if_eq (tgt := 23) hx hb dX7_peace_7 (by decide) (fun c_7 => ?_) (fun c_7 => ?_)
  · have hF := hF.trans (if_pos c_7)
    refine lv_iconst (v := (-1)) hx hb dX7_peace_23 (by decide) ?_
    exact K7 _ hF.symm _ _ hP hD hS  ls (lv_sub hl [0, 1, 2, 3] rfl)
  have hF := hF.trans (if_neg c_7)
  refine lv_aload_n hx hb dX7_peace_10 rfl (lv_at hl 1 rfl) ?_
  refine lv_iconst (v := 0) hx hb dX7_peace_11 (by decide) ?_
  refine lv_iload_n hx hb dX7_peace_12 rfl (lv_at hl 2 rfl) ?_
  refine lv_iload_n hx hb dX7_peace_13 rfl (lv_at hl 3 rfl) ?_
  refine k_calli (W.runS (As := [.int v, .int a]) (rest := [.int 0, .ref o]) ⟨hx, hb, hml, hown, hts0⟩ (mX7_feudOf l dC dI  v a) (va_cwS 2 hts0 (gi_S u_947 u_948 u_7 u_949) rfl rfl rfl (by decide +kernel) ⟨Nat.le_of_ble_eq_true rfl, Nat.le_of_ble_eq_true rfl⟩) (pcR_S (hP.sub (ws' := []) [] rfl) (hK.sub (tys' := []) [] rfl) hn) rfl rfl hl.1 rfl (lv_room (Nat.le_of_ble_eq_true rfl)) dX7_peace_14 ⟨Nat.zero_le _, Nat.zero_le _⟩) ?_
  refine k_calli (W.runV (As := [.int 0, .int (fX7_feudOf v a)]) (rest := []) ⟨hx, hb, hml, hown, hts0⟩ (mX7_feudPlace l dC dI cI o q0 q1 f x M h 0 (fX7_feudOf v a) (by first | omega | assumption)) (cwV 2 hts0 (gi_V u_950 u_952 us_21 u_7 u_953) rfl rfl rfl (by decide +kernel) ⟨Nat.le_of_ble_eq_true rfl, Nat.le_of_ble_eq_true rfl⟩) (pcR_V (ci := 5) (q0 := 0) hP hK hn rfl rfl) rfl rfl hl.1 rfl (lv_room (Nat.le_of_ble_eq_true rfl)) dX7_peace_17 ⟨Nat.zero_le _, Nat.zero_le _⟩) ?_
  refine lv_goto (tgt := 24) hx hb dX7_peace_20 (by decide) ?_
  exact K7 _ hF.symm _ _ hP hD hS  ls (lv_sub hl [0, 1, 2, 3] rfl)
